def y_Md_thrown : MethodName := ⟨"NameMergesModel", "thrown", "()I"⟩
abbrev w_Md_thrown : List Cond := Cond.code y_Md_thrown prog_7_method_2_code 1 (Option.some Jvm.ClassFile.FieldType.int) :: gw
theorem d_Md_thrown_0 : decode prog_7_method_2_code 0 = .ok (.aload_n 0, 1) := by decide +kernel
theorem d_Md_thrown_1 : decode prog_7_method_2_code 1 = .ok (.getfield 77, 3) := by decide +kernel
theorem d_Md_thrown_4 : decode prog_7_method_2_code 4 = .ok (.ireturn, 1) := by decide +kernel
set_option maxHeartbeats 4000000 in
set_option maxRecDepth 100000 in
theorem c_Md_thrown (l : Launch) (D : va_G) (cs : Nat → ClassId) (N0 : Nat) (H : Heap) (x : Nat) (g : Nat → Nat) (i : Nat → Int32) (f : Nat → Nat → Int32) (hsep : md_sep N0 x g) (hI : md_I D cs H x g i f) : Met l y_Md_thrown w_Md_thrown ({ frames := 0, cells := 0, slots := 0, locals := 0 }) (hPre D cs N0 [.ref x] H) (hQi (fun r H' => md_I D cs H' x g i f ∧ r = i 0) (md_A x g)) 0 0 (md_A x g) := by
  refine Met.ofW (cc := prog_7_method_2_code) (maxL := 1) (ret := (Option.some Jvm.ClassFile.FieldType.int)) (by decide) rfl ?_
  intro p e s m args below meth c s₁ B hml hv
  obtain ⟨rfl, rfl, hB⟩ := hv
  have hx := B.exec
  have hb := B.bytes
  have hr := B.returns
  have hts := atoms_spec (ws := w_Md_thrown) B.pre
  have htg : ∀ w ∈ gw, w.before _ s = true := fun w h => hts w (List.mem_cons_of_mem _ h)
  have hown : s.vm.findClass "NameMergesModel" = some m.cls := findClass_of_methodNamed B.named
  have hlocks := B.notSynchronized
  have hK := hB.1
  have hS : va_S (md_A x g) s.heap s.heap [] := va_S.rf
  obtain ⟨H, hH⟩ : ∃ z : Heap, z = s.heap := ⟨_, rfl⟩
  rw [← hH] at hI
  have hS : va_S (md_A x g) s.heap H [] := by rw [hH]; exact va_S.rf
  have hl := lv_entry ([.ref x]) (n := 1) (Nat.le_of_ble_eq_true rfl)
  rw [lg_entry_eq, ← hH]
  generalize (lg_sl ([.ref x]) ++ List.replicate (1 - (lg_sl ([.ref x])).length) Slot.unset).toArray = ls at hl ⊢
  have hl : lv_has ls 1 [(0, .ref x)] := hl
  refine lv_aload_n hx hb d_Md_thrown_0 rfl (lv_at hl 0 rfl) ?_
  refine hx_get (v := .int (i 0)) hx hb htg iMd hown hK hI.1 rfl 0 (by decide) (htg _ (gw_mem (i := 998) (by decide +kernel) rfl)) (fun _ h9 => h9) rfl d_Md_thrown_1 ?_
  exact W.iret (v := (i 0)) hx hb hr (fun t ht hW => ⟨⟨(i 0), H, rfl, ⟨hI, rfl⟩, ht⟩, hS.F ht⟩) hS.2.2 d_Md_thrown_4
def bI (b : Bool) : Int32 := if b = true then 1 else 0
def goV (a b c : Bool) : Int32 := if a = true then (if b = true then (if c = true then 0 else 3) else 2) else 1
def goB (a b c : Bool) : Bool := a && b && c
theorem bI_0 {b : Bool} (h : bI b = 0) : b = false := by cases b <;> first | rfl | exact absurd h (by decide)
theorem bI_1 {b : Bool} (h : ¬ bI b = 0) : b = true := by cases b <;> first | rfl | exact absurd rfl h
theorem bI_z (b : Bool) : narrow .boolean (.int (bI b)) = .int (bI b) := by cases b <;> decide

def y_Md_goes : MethodName := ⟨"NameMergesModel", "goes", "(ZZZ)Z"⟩
abbrev w_Md_goes : List Cond := Cond.code y_Md_goes prog_7_method_3_code 4 (Option.some Jvm.ClassFile.FieldType.boolean) :: gw
theorem d_Md_goes_0 : decode prog_7_method_3_code 0 = .ok (.aload_n 0, 1) := by decide +kernel
theorem d_Md_goes_1 : decode prog_7_method_3_code 1 = .ok (.iload_n 1, 1) := by decide +kernel
theorem d_Md_goes_2 : decode prog_7_method_3_code 2 = .ok (.ifCond .ne 7, 3) := by decide +kernel
theorem d_Md_goes_5 : decode prog_7_method_3_code 5 = .ok (.iconst 1, 1) := by decide +kernel
theorem d_Md_goes_6 : decode prog_7_method_3_code 6 = .ok (.goto 20, 3) := by decide +kernel
theorem d_Md_goes_9 : decode prog_7_method_3_code 9 = .ok (.iload_n 2, 1) := by decide +kernel
theorem d_Md_goes_10 : decode prog_7_method_3_code 10 = .ok (.ifCond .ne 7, 3) := by decide +kernel
theorem d_Md_goes_13 : decode prog_7_method_3_code 13 = .ok (.iconst 2, 1) := by decide +kernel
theorem d_Md_goes_14 : decode prog_7_method_3_code 14 = .ok (.goto 12, 3) := by decide +kernel
theorem d_Md_goes_17 : decode prog_7_method_3_code 17 = .ok (.iload_n 3, 1) := by decide +kernel
theorem d_Md_goes_18 : decode prog_7_method_3_code 18 = .ok (.ifCond .ne 7, 3) := by decide +kernel
theorem d_Md_goes_21 : decode prog_7_method_3_code 21 = .ok (.iconst 3, 1) := by decide +kernel
theorem d_Md_goes_22 : decode prog_7_method_3_code 22 = .ok (.goto 4, 3) := by decide +kernel
theorem d_Md_goes_25 : decode prog_7_method_3_code 25 = .ok (.iconst 0, 1) := by decide +kernel
theorem d_Md_goes_26 : decode prog_7_method_3_code 26 = .ok (.putfield 77, 3) := by decide +kernel
theorem d_Md_goes_29 : decode prog_7_method_3_code 29 = .ok (.aload_n 0, 1) := by decide +kernel
theorem d_Md_goes_30 : decode prog_7_method_3_code 30 = .ok (.getfield 77, 3) := by decide +kernel
theorem d_Md_goes_33 : decode prog_7_method_3_code 33 = .ok (.ifCond .ne 7, 3) := by decide +kernel
theorem d_Md_goes_36 : decode prog_7_method_3_code 36 = .ok (.iconst 1, 1) := by decide +kernel
theorem d_Md_goes_37 : decode prog_7_method_3_code 37 = .ok (.goto 4, 3) := by decide +kernel
theorem d_Md_goes_40 : decode prog_7_method_3_code 40 = .ok (.iconst 0, 1) := by decide +kernel
theorem d_Md_goes_41 : decode prog_7_method_3_code 41 = .ok (.ireturn, 1) := by decide +kernel
set_option maxHeartbeats 4000000 in
set_option maxRecDepth 100000 in
theorem c_Md_goes (l : Launch) (D : va_G) (cs : Nat → ClassId) (N0 : Nat) (H : Heap) (x : Nat) (g : Nat → Nat) (i : Nat → Int32) (f : Nat → Nat → Int32) (b1 b2 b3 : Bool) (hsep : md_sep N0 x g) (hI : md_I D cs H x g i f) : Met l y_Md_goes w_Md_goes ({ frames := 0, cells := 0, slots := 0, locals := 0 }) (hPre D cs N0 [.ref x, .int (bI b1), .int (bI b2), .int (bI b3)] H) (hQi (fun r H' => md_I D cs H' x g (upd i 0 (goV b1 b2 b3)) f ∧ r = bI (goB b1 b2 b3)) (md_A x g)) 0 0 (md_A x g) := by
  refine Met.ofW (cc := prog_7_method_3_code) (maxL := 4) (ret := (Option.some Jvm.ClassFile.FieldType.boolean)) (by decide) rfl ?_
  intro p e s m args below meth c s₁ B hml hv
  obtain ⟨rfl, rfl, hB⟩ := hv
  have hx := B.exec
  have hb := B.bytes
  have hr := B.returns
  have hts := atoms_spec (ws := w_Md_goes) B.pre
  have htg : ∀ w ∈ gw, w.before _ s = true := fun w h => hts w (List.mem_cons_of_mem _ h)
  have hown : s.vm.findClass "NameMergesModel" = some m.cls := findClass_of_methodNamed B.named
  have hlocks := B.notSynchronized
  have hK := hB.1
  have hS : va_S (md_A x g) s.heap s.heap [] := va_S.rf
  obtain ⟨H, hH⟩ : ∃ z : Heap, z = s.heap := ⟨_, rfl⟩
  rw [← hH] at hI
  have hS : va_S (md_A x g) s.heap H [] := by rw [hH]; exact va_S.rf
  have hl := lv_entry ([.ref x, .int (bI b1), .int (bI b2), .int (bI b3)]) (n := 4) (Nat.le_of_ble_eq_true rfl)
  rw [lg_entry_eq, ← hH]
  generalize (lg_sl ([.ref x, .int (bI b1), .int (bI b2), .int (bI b3)]) ++ List.replicate (4 - (lg_sl ([.ref x, .int (bI b1), .int (bI b2), .int (bI b3)])).length) Slot.unset).toArray = ls at hl ⊢
  have hl : lv_has ls 4 [(0, .ref x), (1, .int (bI b1)), (2, .int (bI b2)), (3, .int (bI b3))] := hl
  refine lv_aload_n hx hb d_Md_goes_0 rfl (lv_at hl 0 rfl) ?_
  refine lv_iload_n hx hb d_Md_goes_1 rfl (lv_at hl 1 rfl) ?_
  refine lv_if_ne (x := (bI b1)) (tgt := 9) hx hb d_Md_goes_2 (by decide) (fun c2 => ?_) (fun c2 => ?_)
  · skip
    replace c2 : b1 = true := bI_1 c2
    subst c2
    refine lv_iload_n hx hb d_Md_goes_9 rfl (lv_at hl 2 rfl) ?_
    refine lv_if_ne (x := (bI b2)) (tgt := 17) hx hb d_Md_goes_10 (by decide) (fun c10 => ?_) (fun c10 => ?_)
    · skip
      replace c10 : b2 = true := bI_1 c10
      subst c10
      refine lv_iload_n hx hb d_Md_goes_17 rfl (lv_at hl 3 rfl) ?_
      refine lv_if_ne (x := (bI b3)) (tgt := 25) hx hb d_Md_goes_18 (by decide) (fun c18 => ?_) (fun c18 => ?_)
      · skip
        replace c18 : b3 = true := bI_1 c18
        subst c18
        refine lv_iconst (v := 0) hx hb d_Md_goes_25 (by decide) ?_
        refine hx_put (ty := .int) (v := .int 0) hx hb htg iMd tMd tMd_ok nMd hown hK hI.1 hS (Or.inl rfl) rfl 0 (by decide) (htg _ (gw_mem (i := 998) (by decide +kernel) rfl)) (fun _ h9 => h9) rfl (by decide +kernel) rfl rfl (Nat.le_of_ble_eq_true rfl) d_Md_goes_26 (fun H locs hat hz ho hS => ?_)
        replace hI : md_I D cs H x g (upd i 0 (0)) f := md_I.puti hI hsep hat ho rfl
        refine lv_aload_n hx hb d_Md_goes_29 rfl (lv_at hl 0 rfl) ?_
        refine hx_get (v := .int 0) hx hb htg iMd hown hK hI.1 rfl 0 (by decide) (htg _ (gw_mem (i := 998) (by decide +kernel) rfl)) (fun _ h9 => h9) rfl d_Md_goes_30 ?_
        refine lv_if_ne (x := 0) (tgt := 40) hx hb d_Md_goes_33 (by decide) (fun c33 => ?_) (fun c33 => ?_)
        · exact absurd c33 (by decide)
        · skip
          refine lv_iconst (v := 1) hx hb d_Md_goes_36 (by decide) ?_
          refine lv_goto (tgt := 41) hx hb d_Md_goes_37 (by decide) ?_
          exact W.zret (v := 1) hx hb hr (by decide) (fun t ht hW => ⟨⟨1, H, rfl, ⟨hI, rfl⟩, ht⟩, hS.F ht⟩) hS.2.2 d_Md_goes_41
      · skip
        replace c18 : b3 = false := bI_0 c18
        subst c18
        refine lv_iconst (v := 3) hx hb d_Md_goes_21 (by decide) ?_
        refine lv_goto (tgt := 26) hx hb d_Md_goes_22 (by decide) ?_
        refine hx_put (ty := .int) (v := .int 3) hx hb htg iMd tMd tMd_ok nMd hown hK hI.1 hS (Or.inl rfl) rfl 0 (by decide) (htg _ (gw_mem (i := 998) (by decide +kernel) rfl)) (fun _ h9 => h9) rfl (by decide +kernel) rfl rfl (Nat.le_of_ble_eq_true rfl) d_Md_goes_26 (fun H locs hat hz ho hS => ?_)
        replace hI : md_I D cs H x g (upd i 0 (3)) f := md_I.puti hI hsep hat ho rfl
        refine lv_aload_n hx hb d_Md_goes_29 rfl (lv_at hl 0 rfl) ?_
        refine hx_get (v := .int 3) hx hb htg iMd hown hK hI.1 rfl 0 (by decide) (htg _ (gw_mem (i := 998) (by decide +kernel) rfl)) (fun _ h9 => h9) rfl d_Md_goes_30 ?_
        refine lv_if_ne (x := 3) (tgt := 40) hx hb d_Md_goes_33 (by decide) (fun c33 => ?_) (fun c33 => ?_)
        · skip
          refine lv_iconst (v := 0) hx hb d_Md_goes_40 (by decide) ?_
          exact W.zret (v := 0) hx hb hr (by decide) (fun t ht hW => ⟨⟨0, H, rfl, ⟨hI, rfl⟩, ht⟩, hS.F ht⟩) hS.2.2 d_Md_goes_41
        · exact absurd c33 (by decide)
    · skip
      replace c10 : b2 = false := bI_0 c10
      subst c10
      refine lv_iconst (v := 2) hx hb d_Md_goes_13 (by decide) ?_
      refine lv_goto (tgt := 26) hx hb d_Md_goes_14 (by decide) ?_
      refine hx_put (ty := .int) (v := .int 2) hx hb htg iMd tMd tMd_ok nMd hown hK hI.1 hS (Or.inl rfl) rfl 0 (by decide) (htg _ (gw_mem (i := 998) (by decide +kernel) rfl)) (fun _ h9 => h9) rfl (by decide +kernel) rfl rfl (Nat.le_of_ble_eq_true rfl) d_Md_goes_26 (fun H locs hat hz ho hS => ?_)
      replace hI : md_I D cs H x g (upd i 0 (2)) f := md_I.puti hI hsep hat ho rfl
      refine lv_aload_n hx hb d_Md_goes_29 rfl (lv_at hl 0 rfl) ?_
      refine hx_get (v := .int 2) hx hb htg iMd hown hK hI.1 rfl 0 (by decide) (htg _ (gw_mem (i := 998) (by decide +kernel) rfl)) (fun _ h9 => h9) rfl d_Md_goes_30 ?_
      refine lv_if_ne (x := 2) (tgt := 40) hx hb d_Md_goes_33 (by decide) (fun c33 => ?_) (fun c33 => ?_)
      · skip
        refine lv_iconst (v := 0) hx hb d_Md_goes_40 (by decide) ?_
        exact W.zret (v := 0) hx hb hr (by decide) (fun t ht hW => ⟨⟨0, H, rfl, ⟨hI, rfl⟩, ht⟩, hS.F ht⟩) hS.2.2 d_Md_goes_41
      · exact absurd c33 (by decide)
  · skip
    replace c2 : b1 = false := bI_0 c2
    subst c2
    refine lv_iconst (v := 1) hx hb d_Md_goes_5 (by decide) ?_
    refine lv_goto (tgt := 26) hx hb d_Md_goes_6 (by decide) ?_
    refine hx_put (ty := .int) (v := .int 1) hx hb htg iMd tMd tMd_ok nMd hown hK hI.1 hS (Or.inl rfl) rfl 0 (by decide) (htg _ (gw_mem (i := 998) (by decide +kernel) rfl)) (fun _ h9 => h9) rfl (by decide +kernel) rfl rfl (Nat.le_of_ble_eq_true rfl) d_Md_goes_26 (fun H locs hat hz ho hS => ?_)
    replace hI : md_I D cs H x g (upd i 0 (1)) f := md_I.puti hI hsep hat ho rfl
    refine lv_aload_n hx hb d_Md_goes_29 rfl (lv_at hl 0 rfl) ?_
    refine hx_get (v := .int 1) hx hb htg iMd hown hK hI.1 rfl 0 (by decide) (htg _ (gw_mem (i := 998) (by decide +kernel) rfl)) (fun _ h9 => h9) rfl d_Md_goes_30 ?_
    refine lv_if_ne (x := 1) (tgt := 40) hx hb d_Md_goes_33 (by decide) (fun c33 => ?_) (fun c33 => ?_)
    · skip
      refine lv_iconst (v := 0) hx hb d_Md_goes_40 (by decide) ?_
      exact W.zret (v := 0) hx hb hr (by decide) (fun t ht hW => ⟨⟨0, H, rfl, ⟨hI, rfl⟩, ht⟩, hS.F ht⟩) hS.2.2 d_Md_goes_41
    · exact absurd c33 (by decide)
def isN (n : Nat) (q : Int32) : Bool := !decide (q < 0) && !decide (nI n ≤ q)
def isD (q : Int32) : Bool := !decide (q < 0) && !decide (100000 < q)
def isSt (q : Int32) : Bool := !decide (q < 0) && !decide (4 ≤ q)
def y_Md_isName : MethodName := ⟨"NameMergesModel", "isName", "(I)Z"⟩
abbrev w_Md_isName : List Cond := Cond.code y_Md_isName prog_7_method_4_code 2 (Option.some Jvm.ClassFile.FieldType.boolean) :: gw
theorem d_Md_isName_0 : decode prog_7_method_4_code 0 = .ok (.iload_n 1, 1) := by decide +kernel
theorem d_Md_isName_1 : decode prog_7_method_4_code 1 = .ok (.ifCond .lt 15, 3) := by decide +kernel
theorem d_Md_isName_4 : decode prog_7_method_4_code 4 = .ok (.iload_n 1, 1) := by decide +kernel
theorem d_Md_isName_5 : decode prog_7_method_4_code 5 = .ok (.aload_n 0, 1) := by decide +kernel
theorem d_Md_isName_6 : decode prog_7_method_4_code 6 = .ok (.getfield 81, 3) := by decide +kernel
theorem d_Md_isName_9 : decode prog_7_method_4_code 9 = .ok (.if_icmp .ge 7, 3) := by decide +kernel
theorem d_Md_isName_12 : decode prog_7_method_4_code 12 = .ok (.iconst 1, 1) := by decide +kernel
theorem d_Md_isName_13 : decode prog_7_method_4_code 13 = .ok (.goto 4, 3) := by decide +kernel
theorem d_Md_isName_16 : decode prog_7_method_4_code 16 = .ok (.iconst 0, 1) := by decide +kernel
theorem d_Md_isName_17 : decode prog_7_method_4_code 17 = .ok (.ireturn, 1) := by decide +kernel
set_option maxHeartbeats 4000000 in
set_option maxRecDepth 100000 in
theorem c_Md_isName (l : Launch) (D : va_G) (cs : Nat → ClassId) (N0 : Nat) (H : Heap) (x : Nat) (g : Nat → Nat) (i : Nat → Int32) (f : Nat → Nat → Int32) (q : Int32) (hsep : md_sep N0 x g) (hI : md_I D cs H x g i f) (n : Nat) (hn : i 2 = nI n) : Met l y_Md_isName w_Md_isName ({ frames := 0, cells := 0, slots := 0, locals := 0 }) (hPre D cs N0 [.ref x, .int q] H) (hQi (fun r H' => md_I D cs H' x g i f ∧ r = bI (isN n q)) (md_A x g)) 0 0 (md_A x g) := by
  refine Met.ofW (cc := prog_7_method_4_code) (maxL := 2) (ret := (Option.some Jvm.ClassFile.FieldType.boolean)) (by decide) rfl ?_
  intro p e s m args below meth c s₁ B hml hv
  obtain ⟨rfl, rfl, hB⟩ := hv
  have hx := B.exec
  have hb := B.bytes
  have hr := B.returns
  have hts := atoms_spec (ws := w_Md_isName) B.pre
  have htg : ∀ w ∈ gw, w.before _ s = true := fun w h => hts w (List.mem_cons_of_mem _ h)
  have hown : s.vm.findClass "NameMergesModel" = some m.cls := findClass_of_methodNamed B.named
  have hlocks := B.notSynchronized
  have hK := hB.1
  have hS : va_S (md_A x g) s.heap s.heap [] := va_S.rf
  obtain ⟨H, hH⟩ : ∃ z : Heap, z = s.heap := ⟨_, rfl⟩
  rw [← hH] at hI
  have hS : va_S (md_A x g) s.heap H [] := by rw [hH]; exact va_S.rf
  have hl := lv_entry ([.ref x, .int q]) (n := 2) (Nat.le_of_ble_eq_true rfl)
  rw [lg_entry_eq, ← hH]
  generalize (lg_sl ([.ref x, .int q]) ++ List.replicate (2 - (lg_sl ([.ref x, .int q])).length) Slot.unset).toArray = ls at hl ⊢
  have hl : lv_has ls 2 [(0, .ref x), (1, .int q)] := hl
  refine lv_iload_n hx hb d_Md_isName_0 rfl (lv_at hl 1 rfl) ?_
  refine lv_if_lt (x := q) (tgt := 16) hx hb d_Md_isName_1 (by decide) (fun c1 => ?_) (fun c1 => ?_)
  · skip
    refine lv_iconst (v := 0) hx hb d_Md_isName_16 (by decide) ?_
    exact W.zret (v := 0) hx hb hr (by decide) (fun t ht hW => ⟨⟨0, H, rfl, ⟨hI, by simp [isN, bI, c1]⟩, ht⟩, hS.F ht⟩) hS.2.2 d_Md_isName_17
  · skip
    refine lv_iload_n hx hb d_Md_isName_4 rfl (lv_at hl 1 rfl) ?_
    refine lv_aload_n hx hb d_Md_isName_5 rfl (lv_at hl 0 rfl) ?_
    refine hx_get (v := .int (i 2)) hx hb htg iMd hown hK hI.1 rfl 3 (by decide) (htg _ (gw_mem (i := 1001) (by decide +kernel) rfl)) (fun _ h9 => h9) rfl d_Md_isName_6 ?_
    refine lv_eqi (y := (nI n)) hn ?_
    refine lv_icmp_ge (x := q) (y := (nI n)) (tgt := 16) hx hb d_Md_isName_9 (by decide) (fun c9 => ?_) (fun c9 => ?_)
    · skip
      refine lv_iconst (v := 0) hx hb d_Md_isName_16 (by decide) ?_
      exact W.zret (v := 0) hx hb hr (by decide) (fun t ht hW => ⟨⟨0, H, rfl, ⟨hI, by simp [isN, bI, c1, c9]⟩, ht⟩, hS.F ht⟩) hS.2.2 d_Md_isName_17
    · skip
      refine lv_iconst (v := 1) hx hb d_Md_isName_12 (by decide) ?_
      refine lv_goto (tgt := 17) hx hb d_Md_isName_13 (by decide) ?_
      exact W.zret (v := 1) hx hb hr (by decide) (fun t ht hW => ⟨⟨1, H, rfl, ⟨hI, by simp [isN, bI, c1, c9]⟩, ht⟩, hS.F ht⟩) hS.2.2 d_Md_isName_17
def y_Md_isDay : MethodName := ⟨"NameMergesModel", "isDay", "(I)Z"⟩
abbrev w_Md_isDay : List Cond := Cond.code y_Md_isDay prog_7_method_5_code 1 (Option.some Jvm.ClassFile.FieldType.boolean) :: gw
theorem d_Md_isDay_0 : decode prog_7_method_5_code 0 = .ok (.iload_n 0, 1) := by decide +kernel
theorem d_Md_isDay_1 : decode prog_7_method_5_code 1 = .ok (.ifCond .lt 13, 3) := by decide +kernel
theorem d_Md_isDay_4 : decode prog_7_method_5_code 4 = .ok (.iload_n 0, 1) := by decide +kernel
theorem d_Md_isDay_5 : decode prog_7_method_5_code 5 = .ok (.ldc 84, 2) := by decide +kernel
theorem d_Md_isDay_7 : decode prog_7_method_5_code 7 = .ok (.if_icmp .gt 7, 3) := by decide +kernel
theorem d_Md_isDay_10 : decode prog_7_method_5_code 10 = .ok (.iconst 1, 1) := by decide +kernel
theorem d_Md_isDay_11 : decode prog_7_method_5_code 11 = .ok (.goto 4, 3) := by decide +kernel
theorem d_Md_isDay_14 : decode prog_7_method_5_code 14 = .ok (.iconst 0, 1) := by decide +kernel
theorem d_Md_isDay_15 : decode prog_7_method_5_code 15 = .ok (.ireturn, 1) := by decide +kernel
set_option maxHeartbeats 4000000 in
set_option maxRecDepth 100000 in
theorem c_Md_isDay (l : Launch) (D : va_G) (cs : Nat → ClassId) (N0 : Nat) (H : Heap) (x : Nat) (g : Nat → Nat) (i : Nat → Int32) (f : Nat → Nat → Int32) (q : Int32) (hsep : md_sep N0 x g) (hI : md_I D cs H x g i f) : Met l y_Md_isDay w_Md_isDay ({ frames := 0, cells := 0, slots := 0, locals := 0 }) (hPre D cs N0 [.int q] H) (hQi (fun r H' => md_I D cs H' x g i f ∧ r = bI (isD q)) (md_A x g)) 0 0 (md_A x g) := by
  refine Met.ofW (cc := prog_7_method_5_code) (maxL := 1) (ret := (Option.some Jvm.ClassFile.FieldType.boolean)) (by decide) rfl ?_
  intro p e s m args below meth c s₁ B hml hv
  obtain ⟨rfl, rfl, hB⟩ := hv
  have hx := B.exec
  have hb := B.bytes
  have hr := B.returns
  have hts := atoms_spec (ws := w_Md_isDay) B.pre
  have htg : ∀ w ∈ gw, w.before _ s = true := fun w h => hts w (List.mem_cons_of_mem _ h)
  have hown : s.vm.findClass "NameMergesModel" = some m.cls := findClass_of_methodNamed B.named
  have hlocks := B.notSynchronized
  have hK := hB.1
  have hS : va_S (md_A x g) s.heap s.heap [] := va_S.rf
  obtain ⟨H, hH⟩ : ∃ z : Heap, z = s.heap := ⟨_, rfl⟩
  rw [← hH] at hI
  have hS : va_S (md_A x g) s.heap H [] := by rw [hH]; exact va_S.rf
  have hl := lv_entry ([.int q]) (n := 1) (Nat.le_of_ble_eq_true rfl)
  rw [lg_entry_eq, ← hH]
  generalize (lg_sl ([.int q]) ++ List.replicate (1 - (lg_sl ([.int q])).length) Slot.unset).toArray = ls at hl ⊢
  have hl : lv_has ls 1 [(0, .int q)] := hl
  refine lv_iload_n hx hb d_Md_isDay_0 rfl (lv_at hl 0 rfl) ?_
  refine lv_if_lt (x := q) (tgt := 14) hx hb d_Md_isDay_1 (by decide) (fun c1 => ?_) (fun c1 => ?_)
  · skip
    refine lv_iconst (v := 0) hx hb d_Md_isDay_14 (by decide) ?_
    exact W.zret (v := 0) hx hb hr (by decide) (fun t ht hW => ⟨⟨0, H, rfl, ⟨hI, by simp [isD, bI, c1]⟩, ht⟩, hS.F ht⟩) hS.2.2 d_Md_isDay_15
  · skip
    refine lv_iload_n hx hb d_Md_isDay_4 rfl (lv_at hl 0 rfl) ?_
    refine lv_ldc (v := 100000) hx hb hown (htg _ (gw_mem (i := 1115) (by decide +kernel) rfl)) d_Md_isDay_5 ?_
    refine lv_icmp_gt (x := q) (y := 100000) (tgt := 14) hx hb d_Md_isDay_7 (by decide) (fun c7 => ?_) (fun c7 => ?_)
    · skip
      refine lv_iconst (v := 0) hx hb d_Md_isDay_14 (by decide) ?_
      exact W.zret (v := 0) hx hb hr (by decide) (fun t ht hW => ⟨⟨0, H, rfl, ⟨hI, by simp [isD, bI, c1, c7]⟩, ht⟩, hS.F ht⟩) hS.2.2 d_Md_isDay_15
    · skip
      refine lv_iconst (v := 1) hx hb d_Md_isDay_10 (by decide) ?_
      refine lv_goto (tgt := 15) hx hb d_Md_isDay_11 (by decide) ?_
      exact W.zret (v := 1) hx hb hr (by decide) (fun t ht hW => ⟨⟨1, H, rfl, ⟨hI, by simp [isD, bI, c1, c7]⟩, ht⟩, hS.F ht⟩) hS.2.2 d_Md_isDay_15
def y_Md_isSet : MethodName := ⟨"NameMergesModel", "isSet", "(I)Z"⟩
abbrev w_Md_isSet : List Cond := Cond.code y_Md_isSet prog_7_method_32_code 1 (Option.some Jvm.ClassFile.FieldType.boolean) :: gw
theorem d_Md_isSet_0 : decode prog_7_method_32_code 0 = .ok (.iload_n 0, 1) := by decide +kernel
theorem d_Md_isSet_1 : decode prog_7_method_32_code 1 = .ok (.ifCond .lt 12, 3) := by decide +kernel
theorem d_Md_isSet_4 : decode prog_7_method_32_code 4 = .ok (.iload_n 0, 1) := by decide +kernel
theorem d_Md_isSet_5 : decode prog_7_method_32_code 5 = .ok (.iconst 4, 1) := by decide +kernel
theorem d_Md_isSet_6 : decode prog_7_method_32_code 6 = .ok (.if_icmp .ge 7, 3) := by decide +kernel
theorem d_Md_isSet_9 : decode prog_7_method_32_code 9 = .ok (.iconst 1, 1) := by decide +kernel
theorem d_Md_isSet_10 : decode prog_7_method_32_code 10 = .ok (.goto 4, 3) := by decide +kernel
theorem d_Md_isSet_13 : decode prog_7_method_32_code 13 = .ok (.iconst 0, 1) := by decide +kernel
theorem d_Md_isSet_14 : decode prog_7_method_32_code 14 = .ok (.ireturn, 1) := by decide +kernel
set_option maxHeartbeats 4000000 in
set_option maxRecDepth 100000 in
theorem c_Md_isSet (l : Launch) (D : va_G) (cs : Nat → ClassId) (N0 : Nat) (H : Heap) (x : Nat) (g : Nat → Nat) (i : Nat → Int32) (f : Nat → Nat → Int32) (q : Int32) (hsep : md_sep N0 x g) (hI : md_I D cs H x g i f) : Met l y_Md_isSet w_Md_isSet ({ frames := 0, cells := 0, slots := 0, locals := 0 }) (hPre D cs N0 [.int q] H) (hQi (fun r H' => md_I D cs H' x g i f ∧ r = bI (isSt q)) (md_A x g)) 0 0 (md_A x g) := by
  refine Met.ofW (cc := prog_7_method_32_code) (maxL := 1) (ret := (Option.some Jvm.ClassFile.FieldType.boolean)) (by decide) rfl ?_
  intro p e s m args below meth c s₁ B hml hv
  obtain ⟨rfl, rfl, hB⟩ := hv
  have hx := B.exec
  have hb := B.bytes
  have hr := B.returns
  have hts := atoms_spec (ws := w_Md_isSet) B.pre
  have htg : ∀ w ∈ gw, w.before _ s = true := fun w h => hts w (List.mem_cons_of_mem _ h)
  have hown : s.vm.findClass "NameMergesModel" = some m.cls := findClass_of_methodNamed B.named
  have hlocks := B.notSynchronized
  have hK := hB.1
  have hS : va_S (md_A x g) s.heap s.heap [] := va_S.rf
  obtain ⟨H, hH⟩ : ∃ z : Heap, z = s.heap := ⟨_, rfl⟩
  rw [← hH] at hI
  have hS : va_S (md_A x g) s.heap H [] := by rw [hH]; exact va_S.rf
  have hl := lv_entry ([.int q]) (n := 1) (Nat.le_of_ble_eq_true rfl)
  rw [lg_entry_eq, ← hH]
  generalize (lg_sl ([.int q]) ++ List.replicate (1 - (lg_sl ([.int q])).length) Slot.unset).toArray = ls at hl ⊢
  have hl : lv_has ls 1 [(0, .int q)] := hl
  refine lv_iload_n hx hb d_Md_isSet_0 rfl (lv_at hl 0 rfl) ?_
  refine lv_if_lt (x := q) (tgt := 13) hx hb d_Md_isSet_1 (by decide) (fun c1 => ?_) (fun c1 => ?_)
  · skip
    refine lv_iconst (v := 0) hx hb d_Md_isSet_13 (by decide) ?_
    exact W.zret (v := 0) hx hb hr (by decide) (fun t ht hW => ⟨⟨0, H, rfl, ⟨hI, by simp [isSt, bI, c1]⟩, ht⟩, hS.F ht⟩) hS.2.2 d_Md_isSet_14
  · skip
    refine lv_iload_n hx hb d_Md_isSet_4 rfl (lv_at hl 0 rfl) ?_
    refine lv_iconst (v := 4) hx hb d_Md_isSet_5 (by decide) ?_
    refine lv_icmp_ge (x := q) (y := 4) (tgt := 13) hx hb d_Md_isSet_6 (by decide) (fun c6 => ?_) (fun c6 => ?_)
    · skip
      refine lv_iconst (v := 0) hx hb d_Md_isSet_13 (by decide) ?_
      exact W.zret (v := 0) hx hb hr (by decide) (fun t ht hW => ⟨⟨0, H, rfl, ⟨hI, by simp [isSt, bI, c1, c6]⟩, ht⟩, hS.F ht⟩) hS.2.2 d_Md_isSet_14
    · skip
      refine lv_iconst (v := 1) hx hb d_Md_isSet_9 (by decide) ?_
      refine lv_goto (tgt := 14) hx hb d_Md_isSet_10 (by decide) ?_
      exact W.zret (v := 1) hx hb hr (by decide) (fun t ht hW => ⟨⟨1, H, rfl, ⟨hI, by simp [isSt, bI, c1, c6]⟩, ht⟩, hS.F ht⟩) hS.2.2 d_Md_isSet_14
def isSg (q : Int32) : Bool := !decide (q < 97) && !decide (122 < q)
def y_Md_unit : MethodName := ⟨"NameMergesModel", "unit", "(I)I"⟩
abbrev w_Md_unit : List Cond := Cond.code y_Md_unit prog_7_method_6_code 2 (Option.some Jvm.ClassFile.FieldType.int) :: gw
theorem d_Md_unit_0 : decode prog_7_method_6_code 0 = .ok (.aload_n 0, 1) := by decide +kernel
theorem d_Md_unit_1 : decode prog_7_method_6_code 1 = .ok (.aload_n 0, 1) := by decide +kernel
theorem d_Md_unit_2 : decode prog_7_method_6_code 2 = .ok (.getfield 85, 3) := by decide +kernel
theorem d_Md_unit_5 : decode prog_7_method_6_code 5 = .ok (.bipush 12, 2) := by decide +kernel
theorem d_Md_unit_7 : decode prog_7_method_6_code 7 = .ok (.if_icmp .ge 7, 3) := by decide +kernel
theorem d_Md_unit_10 : decode prog_7_method_6_code 10 = .ok (.iconst 1, 1) := by decide +kernel
theorem d_Md_unit_11 : decode prog_7_method_6_code 11 = .ok (.goto 4, 3) := by decide +kernel
theorem d_Md_unit_14 : decode prog_7_method_6_code 14 = .ok (.iconst 0, 1) := by decide +kernel
theorem d_Md_unit_15 : decode prog_7_method_6_code 15 = .ok (.iload_n 1, 1) := by decide +kernel
theorem d_Md_unit_16 : decode prog_7_method_6_code 16 = .ok (.bipush 97, 2) := by decide +kernel
theorem d_Md_unit_18 : decode prog_7_method_6_code 18 = .ok (.if_icmp .lt 13, 3) := by decide +kernel
theorem d_Md_unit_21 : decode prog_7_method_6_code 21 = .ok (.iload_n 1, 1) := by decide +kernel
theorem d_Md_unit_22 : decode prog_7_method_6_code 22 = .ok (.bipush 122, 2) := by decide +kernel
theorem d_Md_unit_24 : decode prog_7_method_6_code 24 = .ok (.if_icmp .gt 7, 3) := by decide +kernel
theorem d_Md_unit_27 : decode prog_7_method_6_code 27 = .ok (.iconst 1, 1) := by decide +kernel
theorem d_Md_unit_28 : decode prog_7_method_6_code 28 = .ok (.goto 4, 3) := by decide +kernel
theorem d_Md_unit_31 : decode prog_7_method_6_code 31 = .ok (.iconst 0, 1) := by decide +kernel
theorem d_Md_unit_32 : decode prog_7_method_6_code 32 = .ok (.iconst 1, 1) := by decide +kernel
theorem d_Md_unit_33 : decode prog_7_method_6_code 33 = .ok (.invokevirtual 88, 3) := by decide +kernel
theorem d_Md_unit_36 : decode prog_7_method_6_code 36 = .ok (.ifCond .ne 5, 3) := by decide +kernel
theorem d_Md_unit_39 : decode prog_7_method_6_code 39 = .ok (.iconst 0, 1) := by decide +kernel
theorem d_Md_unit_40 : decode prog_7_method_6_code 40 = .ok (.ireturn, 1) := by decide +kernel
theorem d_Md_unit_41 : decode prog_7_method_6_code 41 = .ok (.aload_n 0, 1) := by decide +kernel
theorem d_Md_unit_42 : decode prog_7_method_6_code 42 = .ok (.getfield 7, 3) := by decide +kernel
theorem d_Md_unit_45 : decode prog_7_method_6_code 45 = .ok (.aload_n 0, 1) := by decide +kernel
theorem d_Md_unit_46 : decode prog_7_method_6_code 46 = .ok (.getfield 85, 3) := by decide +kernel
theorem d_Md_unit_49 : decode prog_7_method_6_code 49 = .ok (.iload_n 1, 1) := by decide +kernel
theorem d_Md_unit_50 : decode prog_7_method_6_code 50 = .ok (.iastore, 1) := by decide +kernel
theorem d_Md_unit_51 : decode prog_7_method_6_code 51 = .ok (.aload_n 0, 1) := by decide +kernel
theorem d_Md_unit_52 : decode prog_7_method_6_code 52 = .ok (.dup, 1) := by decide +kernel
theorem d_Md_unit_53 : decode prog_7_method_6_code 53 = .ok (.getfield 85, 3) := by decide +kernel
theorem d_Md_unit_56 : decode prog_7_method_6_code 56 = .ok (.iconst 1, 1) := by decide +kernel
theorem d_Md_unit_57 : decode prog_7_method_6_code 57 = .ok (.iadd, 1) := by decide +kernel
theorem d_Md_unit_58 : decode prog_7_method_6_code 58 = .ok (.putfield 85, 3) := by decide +kernel
theorem d_Md_unit_61 : decode prog_7_method_6_code 61 = .ok (.aload_n 0, 1) := by decide +kernel
theorem d_Md_unit_62 : decode prog_7_method_6_code 62 = .ok (.getfield 85, 3) := by decide +kernel
theorem d_Md_unit_65 : decode prog_7_method_6_code 65 = .ok (.ireturn, 1) := by decide +kernel
set_option maxHeartbeats 4000000 in
set_option maxRecDepth 100000 in
theorem c_Md_unit (l : Launch) (D : va_G) (cs : Nat → ClassId) (N0 : Nat) (H : Heap) (x : Nat) (g : Nat → Nat) (i : Nat → Int32) (f : Nat → Nat → Int32) (q : Int32) (pn : Nat) (hsep : md_sep N0 x g) (hI : md_I D cs H x g i f) (hpn : i 1 = nI pn) (hp12 : pn ≤ 12) : Met l y_Md_unit w_Md_unit ({ frames := 1, cells := 0, slots := 0, locals := 23 }) (hPre D cs N0 [.ref x, .int q] H) (hQi (fun r H' => if goB (decide (pn < 12)) (isSg q) true = true then (md_I D cs H' x g (upd (upd i 0 (goV (decide (pn < 12)) (isSg q) true)) 1 (nI (pn + 1))) (updA f 0 pn q) ∧ r = nI (pn + 1)) else (md_I D cs H' x g (upd i 0 (goV (decide (pn < 12)) (isSg q) true)) f ∧ r = 0)) (md_A x g)) 0 0 (md_A x g) := by
  refine Met.ofW (cc := prog_7_method_6_code) (maxL := 2) (ret := (Option.some Jvm.ClassFile.FieldType.int)) (by decide) rfl ?_
  intro p e s m args below meth c s₁ B hml hv
  obtain ⟨rfl, rfl, hB⟩ := hv
  have hx := B.exec
  have hb := B.bytes
  have hr := B.returns
  have hts := atoms_spec (ws := w_Md_unit) B.pre
  have htg : ∀ w ∈ gw, w.before _ s = true := fun w h => hts w (List.mem_cons_of_mem _ h)
  have hown : s.vm.findClass "NameMergesModel" = some m.cls := findClass_of_methodNamed B.named
  have hlocks := B.notSynchronized
  have hK := hB.1
  have hS : va_S (md_A x g) s.heap s.heap [] := va_S.rf
  obtain ⟨H, hH⟩ : ∃ z : Heap, z = s.heap := ⟨_, rfl⟩
  rw [← hH] at hI
  have hS : va_S (md_A x g) s.heap H [] := by rw [hH]; exact va_S.rf
  have hl := lv_entry ([.ref x, .int q]) (n := 2) (Nat.le_of_ble_eq_true rfl)
  rw [lg_entry_eq, ← hH]
  generalize (lg_sl ([.ref x, .int q]) ++ List.replicate (2 - (lg_sl ([.ref x, .int q])).length) Slot.unset).toArray = ls at hl ⊢
  have hl : lv_has ls 2 [(0, .ref x), (1, .int q)] := hl
  refine lv_aload_n hx hb d_Md_unit_0 rfl (lv_at hl 0 rfl) ?_
  refine lv_aload_n hx hb d_Md_unit_1 rfl (lv_at hl 0 rfl) ?_
  refine hx_get (v := .int (i 1)) hx hb htg iMd hown hK hI.1 rfl 1 (by decide) (htg _ (gw_mem (i := 999) (by decide +kernel) rfl)) (fun _ h9 => h9) rfl d_Md_unit_2 ?_
  refine lv_eqi (y := (nI pn)) hpn ?_
  refine lv_bipush (v := 12) hx hb d_Md_unit_5 (by decide) ?_
  refine lv_icmp_ge (x := (nI pn)) (y := 12) (tgt := 14) hx hb d_Md_unit_7 (by decide) (fun c7 => ?_) (fun c7 => ?_)
  · skip
    replace c7 : 12 ≤ pn := (nI_leI (a := 12) (b := pn) (by omega) (by omega)).mp c7
    refine lv_iconst (v := 0) hx hb d_Md_unit_14 (by decide) ?_
    refine lv_iload_n hx hb d_Md_unit_15 rfl (lv_at hl 1 rfl) ?_
    refine lv_bipush (v := 97) hx hb d_Md_unit_16 (by decide) ?_
    refine lv_icmp_lt (x := q) (y := 97) (tgt := 31) hx hb d_Md_unit_18 (by decide) (fun c18 => ?_) (fun c18 => ?_)
    · skip
      refine lv_iconst (v := 0) hx hb d_Md_unit_31 (by decide) ?_
      refine lv_iconst (v := 1) hx hb d_Md_unit_32 (by decide) ?_
      refine h_calli (va_runV (As := [.int 0, .int 0, .int 1]) (rest := []) ⟨hx, hb, hml, hown, htg⟩ (c_Md_goes l D cs N0 H x g i f false false true hsep hI) (cwV 3 htg (gw_V (gw_mem (i := 1092) (by decide +kernel) rfl) (gw_mem (i := 1094) (by decide +kernel) rfl) (gw_mem (i := 18) (by decide +kernel) rfl) (gw_mem (i := 38) (by decide +kernel) rfl) (gw_mem (i := 1095) (by decide +kernel) rfl)) rfl rfl rfl (by decide +kernel) ⟨Nat.le_of_ble_eq_true rfl, Nat.le_of_ble_eq_true rfl⟩) ⟨hPre.blind, hx_recv hK (ci := 0) rfl hI.1, hPre.at hB hS hsep.A⟩ rfl rfl hl.1 rfl (lv_room (Nat.le_of_ble_eq_true rfl)) d_Md_unit_33 ⟨Nat.zero_le _, Nat.zero_le _⟩) hS (fun _ h => h) (fun r33 H locs hp hz hk hS => ?_)
      obtain ⟨hI, er33⟩ := hp
      replace hI : md_I D cs H x g (upd i 0 1) f := hI
      refine lv_eqi (y := 0) er33 ?_
      refine lv_if_ne (x := 0) (tgt := 41) hx hb d_Md_unit_36 (by decide) (fun c36 => ?_) (fun c36 => ?_)
      · exact absurd c36 (by decide)
      · skip
        refine lv_iconst (v := 0) hx hb d_Md_unit_39 (by decide) ?_
        exact W.iret (v := 0) hx hb hr (fun t ht hW => ⟨⟨0, H, rfl, by dsimp only; have e0 : (decide (pn < 12)) = false := (by first | (simp [isSg, c7, c18]; done) | (simp [isSg, c7, c18]; omega) | omega | simp_all [isSg]); have e1 : (isSg q) = false := (by first | (simp [isSg, c7, c18]; done) | (simp [isSg, c7, c18]; omega) | omega | simp_all [isSg]); rw [e0, e1]; rw [if_neg (show ¬ goB false false true = true by simp [goB])]; exact ⟨hI, rfl⟩, ht⟩, hS.F ht⟩) hS.2.2 d_Md_unit_40
    · skip
      refine lv_iload_n hx hb d_Md_unit_21 rfl (lv_at hl 1 rfl) ?_
      refine lv_bipush (v := 122) hx hb d_Md_unit_22 (by decide) ?_
      refine lv_icmp_gt (x := q) (y := 122) (tgt := 31) hx hb d_Md_unit_24 (by decide) (fun c24 => ?_) (fun c24 => ?_)
      · skip
        refine lv_iconst (v := 0) hx hb d_Md_unit_31 (by decide) ?_
        refine lv_iconst (v := 1) hx hb d_Md_unit_32 (by decide) ?_
        refine h_calli (va_runV (As := [.int 0, .int 0, .int 1]) (rest := []) ⟨hx, hb, hml, hown, htg⟩ (c_Md_goes l D cs N0 H x g i f false false true hsep hI) (cwV 3 htg (gw_V (gw_mem (i := 1092) (by decide +kernel) rfl) (gw_mem (i := 1094) (by decide +kernel) rfl) (gw_mem (i := 18) (by decide +kernel) rfl) (gw_mem (i := 38) (by decide +kernel) rfl) (gw_mem (i := 1095) (by decide +kernel) rfl)) rfl rfl rfl (by decide +kernel) ⟨Nat.le_of_ble_eq_true rfl, Nat.le_of_ble_eq_true rfl⟩) ⟨hPre.blind, hx_recv hK (ci := 0) rfl hI.1, hPre.at hB hS hsep.A⟩ rfl rfl hl.1 rfl (lv_room (Nat.le_of_ble_eq_true rfl)) d_Md_unit_33 ⟨Nat.zero_le _, Nat.zero_le _⟩) hS (fun _ h => h) (fun r33 H locs hp hz hk hS => ?_)
        obtain ⟨hI, er33⟩ := hp
        replace hI : md_I D cs H x g (upd i 0 1) f := hI
        refine lv_eqi (y := 0) er33 ?_
        refine lv_if_ne (x := 0) (tgt := 41) hx hb d_Md_unit_36 (by decide) (fun c36 => ?_) (fun c36 => ?_)
        · exact absurd c36 (by decide)
        · skip
          refine lv_iconst (v := 0) hx hb d_Md_unit_39 (by decide) ?_
          exact W.iret (v := 0) hx hb hr (fun t ht hW => ⟨⟨0, H, rfl, by dsimp only; have e0 : (decide (pn < 12)) = false := (by first | (simp [isSg, c7, c18, c24]; done) | (simp [isSg, c7, c18, c24]; omega) | omega | simp_all [isSg]); have e1 : (isSg q) = false := (by first | (simp [isSg, c7, c18, c24]; done) | (simp [isSg, c7, c18, c24]; omega) | omega | simp_all [isSg]); rw [e0, e1]; rw [if_neg (show ¬ goB false false true = true by simp [goB])]; exact ⟨hI, rfl⟩, ht⟩, hS.F ht⟩) hS.2.2 d_Md_unit_40
      · skip
        refine lv_iconst (v := 1) hx hb d_Md_unit_27 (by decide) ?_
        refine lv_goto (tgt := 32) hx hb d_Md_unit_28 (by decide) ?_
        refine lv_iconst (v := 1) hx hb d_Md_unit_32 (by decide) ?_
        refine h_calli (va_runV (As := [.int 0, .int 1, .int 1]) (rest := []) ⟨hx, hb, hml, hown, htg⟩ (c_Md_goes l D cs N0 H x g i f false true true hsep hI) (cwV 3 htg (gw_V (gw_mem (i := 1092) (by decide +kernel) rfl) (gw_mem (i := 1094) (by decide +kernel) rfl) (gw_mem (i := 18) (by decide +kernel) rfl) (gw_mem (i := 38) (by decide +kernel) rfl) (gw_mem (i := 1095) (by decide +kernel) rfl)) rfl rfl rfl (by decide +kernel) ⟨Nat.le_of_ble_eq_true rfl, Nat.le_of_ble_eq_true rfl⟩) ⟨hPre.blind, hx_recv hK (ci := 0) rfl hI.1, hPre.at hB hS hsep.A⟩ rfl rfl hl.1 rfl (lv_room (Nat.le_of_ble_eq_true rfl)) d_Md_unit_33 ⟨Nat.zero_le _, Nat.zero_le _⟩) hS (fun _ h => h) (fun r33 H locs hp hz hk hS => ?_)
        obtain ⟨hI, er33⟩ := hp
        replace hI : md_I D cs H x g (upd i 0 1) f := hI
        refine lv_eqi (y := 0) er33 ?_
        refine lv_if_ne (x := 0) (tgt := 41) hx hb d_Md_unit_36 (by decide) (fun c36 => ?_) (fun c36 => ?_)
        · exact absurd c36 (by decide)
        · skip
          refine lv_iconst (v := 0) hx hb d_Md_unit_39 (by decide) ?_
          exact W.iret (v := 0) hx hb hr (fun t ht hW => ⟨⟨0, H, rfl, by dsimp only; have e0 : (decide (pn < 12)) = false := (by first | (simp [isSg, c7, c18, c24]; done) | (simp [isSg, c7, c18, c24]; omega) | omega | simp_all [isSg]); have e1 : (isSg q) = true := (by first | (simp [isSg, c7, c18, c24]; done) | (simp [isSg, c7, c18, c24]; omega) | omega | simp_all [isSg]); rw [e0, e1]; rw [if_neg (show ¬ goB false true true = true by simp [goB])]; exact ⟨hI, rfl⟩, ht⟩, hS.F ht⟩) hS.2.2 d_Md_unit_40
  · skip
    replace c7 : ¬ (12 ≤ pn) := fun z9 => c7 ((nI_leI (a := 12) (b := pn) (by omega) (by omega)).mpr z9)
    refine lv_iconst (v := 1) hx hb d_Md_unit_10 (by decide) ?_
    refine lv_goto (tgt := 15) hx hb d_Md_unit_11 (by decide) ?_
    refine lv_iload_n hx hb d_Md_unit_15 rfl (lv_at hl 1 rfl) ?_
    refine lv_bipush (v := 97) hx hb d_Md_unit_16 (by decide) ?_
    refine lv_icmp_lt (x := q) (y := 97) (tgt := 31) hx hb d_Md_unit_18 (by decide) (fun c18 => ?_) (fun c18 => ?_)
    · skip
      refine lv_iconst (v := 0) hx hb d_Md_unit_31 (by decide) ?_
      refine lv_iconst (v := 1) hx hb d_Md_unit_32 (by decide) ?_
      refine h_calli (va_runV (As := [.int 1, .int 0, .int 1]) (rest := []) ⟨hx, hb, hml, hown, htg⟩ (c_Md_goes l D cs N0 H x g i f true false true hsep hI) (cwV 3 htg (gw_V (gw_mem (i := 1092) (by decide +kernel) rfl) (gw_mem (i := 1094) (by decide +kernel) rfl) (gw_mem (i := 18) (by decide +kernel) rfl) (gw_mem (i := 38) (by decide +kernel) rfl) (gw_mem (i := 1095) (by decide +kernel) rfl)) rfl rfl rfl (by decide +kernel) ⟨Nat.le_of_ble_eq_true rfl, Nat.le_of_ble_eq_true rfl⟩) ⟨hPre.blind, hx_recv hK (ci := 0) rfl hI.1, hPre.at hB hS hsep.A⟩ rfl rfl hl.1 rfl (lv_room (Nat.le_of_ble_eq_true rfl)) d_Md_unit_33 ⟨Nat.zero_le _, Nat.zero_le _⟩) hS (fun _ h => h) (fun r33 H locs hp hz hk hS => ?_)
      obtain ⟨hI, er33⟩ := hp
      replace hI : md_I D cs H x g (upd i 0 2) f := hI
      refine lv_eqi (y := 0) er33 ?_
      refine lv_if_ne (x := 0) (tgt := 41) hx hb d_Md_unit_36 (by decide) (fun c36 => ?_) (fun c36 => ?_)
      · exact absurd c36 (by decide)
      · skip
        refine lv_iconst (v := 0) hx hb d_Md_unit_39 (by decide) ?_
        exact W.iret (v := 0) hx hb hr (fun t ht hW => ⟨⟨0, H, rfl, by dsimp only; have e0 : (decide (pn < 12)) = true := (by first | (simp [isSg, c7, c18]; done) | (simp [isSg, c7, c18]; omega) | omega | simp_all [isSg]); have e1 : (isSg q) = false := (by first | (simp [isSg, c7, c18]; done) | (simp [isSg, c7, c18]; omega) | omega | simp_all [isSg]); rw [e0, e1]; rw [if_neg (show ¬ goB true false true = true by simp [goB])]; exact ⟨hI, rfl⟩, ht⟩, hS.F ht⟩) hS.2.2 d_Md_unit_40
    · skip
      refine lv_iload_n hx hb d_Md_unit_21 rfl (lv_at hl 1 rfl) ?_
      refine lv_bipush (v := 122) hx hb d_Md_unit_22 (by decide) ?_
      refine lv_icmp_gt (x := q) (y := 122) (tgt := 31) hx hb d_Md_unit_24 (by decide) (fun c24 => ?_) (fun c24 => ?_)
      · skip
        refine lv_iconst (v := 0) hx hb d_Md_unit_31 (by decide) ?_
        refine lv_iconst (v := 1) hx hb d_Md_unit_32 (by decide) ?_
        refine h_calli (va_runV (As := [.int 1, .int 0, .int 1]) (rest := []) ⟨hx, hb, hml, hown, htg⟩ (c_Md_goes l D cs N0 H x g i f true false true hsep hI) (cwV 3 htg (gw_V (gw_mem (i := 1092) (by decide +kernel) rfl) (gw_mem (i := 1094) (by decide +kernel) rfl) (gw_mem (i := 18) (by decide +kernel) rfl) (gw_mem (i := 38) (by decide +kernel) rfl) (gw_mem (i := 1095) (by decide +kernel) rfl)) rfl rfl rfl (by decide +kernel) ⟨Nat.le_of_ble_eq_true rfl, Nat.le_of_ble_eq_true rfl⟩) ⟨hPre.blind, hx_recv hK (ci := 0) rfl hI.1, hPre.at hB hS hsep.A⟩ rfl rfl hl.1 rfl (lv_room (Nat.le_of_ble_eq_true rfl)) d_Md_unit_33 ⟨Nat.zero_le _, Nat.zero_le _⟩) hS (fun _ h => h) (fun r33 H locs hp hz hk hS => ?_)
        obtain ⟨hI, er33⟩ := hp
        replace hI : md_I D cs H x g (upd i 0 2) f := hI
        refine lv_eqi (y := 0) er33 ?_
        refine lv_if_ne (x := 0) (tgt := 41) hx hb d_Md_unit_36 (by decide) (fun c36 => ?_) (fun c36 => ?_)
        · exact absurd c36 (by decide)
        · skip
          refine lv_iconst (v := 0) hx hb d_Md_unit_39 (by decide) ?_
          exact W.iret (v := 0) hx hb hr (fun t ht hW => ⟨⟨0, H, rfl, by dsimp only; have e0 : (decide (pn < 12)) = true := (by first | (simp [isSg, c7, c18, c24]; done) | (simp [isSg, c7, c18, c24]; omega) | omega | simp_all [isSg]); have e1 : (isSg q) = false := (by first | (simp [isSg, c7, c18, c24]; done) | (simp [isSg, c7, c18, c24]; omega) | omega | simp_all [isSg]); rw [e0, e1]; rw [if_neg (show ¬ goB true false true = true by simp [goB])]; exact ⟨hI, rfl⟩, ht⟩, hS.F ht⟩) hS.2.2 d_Md_unit_40
      · skip
        refine lv_iconst (v := 1) hx hb d_Md_unit_27 (by decide) ?_
        refine lv_goto (tgt := 32) hx hb d_Md_unit_28 (by decide) ?_
        refine lv_iconst (v := 1) hx hb d_Md_unit_32 (by decide) ?_
        refine h_calli (va_runV (As := [.int 1, .int 1, .int 1]) (rest := []) ⟨hx, hb, hml, hown, htg⟩ (c_Md_goes l D cs N0 H x g i f true true true hsep hI) (cwV 3 htg (gw_V (gw_mem (i := 1092) (by decide +kernel) rfl) (gw_mem (i := 1094) (by decide +kernel) rfl) (gw_mem (i := 18) (by decide +kernel) rfl) (gw_mem (i := 38) (by decide +kernel) rfl) (gw_mem (i := 1095) (by decide +kernel) rfl)) rfl rfl rfl (by decide +kernel) ⟨Nat.le_of_ble_eq_true rfl, Nat.le_of_ble_eq_true rfl⟩) ⟨hPre.blind, hx_recv hK (ci := 0) rfl hI.1, hPre.at hB hS hsep.A⟩ rfl rfl hl.1 rfl (lv_room (Nat.le_of_ble_eq_true rfl)) d_Md_unit_33 ⟨Nat.zero_le _, Nat.zero_le _⟩) hS (fun _ h => h) (fun r33 H locs hp hz hk hS => ?_)
        obtain ⟨hI, er33⟩ := hp
        replace hI : md_I D cs H x g (upd i 0 0) f := hI
        refine lv_eqi (y := 1) er33 ?_
        refine lv_if_ne (x := 1) (tgt := 41) hx hb d_Md_unit_36 (by decide) (fun c36 => ?_) (fun c36 => ?_)
        · skip
          refine lv_aload_n hx hb d_Md_unit_41 rfl (lv_at hl 0 rfl) ?_
          refine hx_get (v := .ref (g 0)) hx hb htg iMd hown hK hI.1 rfl 2 (by decide) (htg _ (gw_mem (i := 1000) (by decide +kernel) rfl)) (fun _ h9 => h9) rfl d_Md_unit_42 ?_
          refine lv_aload_n hx hb d_Md_unit_45 rfl (lv_at hl 0 rfl) ?_
          refine hx_get (v := .int (i 1)) hx hb htg iMd hown hK hI.1 rfl 1 (by decide) (htg _ (gw_mem (i := 999) (by decide +kernel) rfl)) (fun _ h9 => h9) rfl d_Md_unit_46 ?_
          refine lv_eqi (y := (nI pn)) hpn ?_
          refine lv_iload_n hx hb d_Md_unit_49 rfl (lv_at hl 1 rfl) ?_
          refine hx_iast hx hb hK hS (Or.inr ⟨0, by decide, rfl⟩) 0 (hI.2 0 (by decide)) rfl (show vp_in (nI pn) 12 from vp_in_nI (n := pn) (by omega) (by decide)) d_Md_unit_50 (fun H locs hat hz ho hS => ?_)
          replace hI : md_I D cs H x g (upd i 0 0) (updA f 0 pn (q)) := md_I.puta hI hsep (by decide) (by rw [show ((nI pn) : Int32).toNatClampNeg = pn from nI_clamp (n := pn) (by omega)] at hat; exact hat) ho
          refine lv_aload_n hx hb d_Md_unit_51 rfl (lv_at hl 0 rfl) ?_
          refine lv_dup hx hb d_Md_unit_52 rfl ?_
          refine hx_get (v := .int (i 1)) hx hb htg iMd hown hK hI.1 rfl 1 (by decide) (htg _ (gw_mem (i := 999) (by decide +kernel) rfl)) (fun _ h9 => h9) rfl d_Md_unit_53 ?_
          refine lv_eqi (y := (nI pn)) hpn ?_
          refine lv_iconst (v := 1) hx hb d_Md_unit_56 (by decide) ?_
          refine lv_iadd (x := (nI pn)) (y := 1) hx hb d_Md_unit_57 ?_
          refine lv_eqi (y := (nI (pn + 1))) (nI_add pn 1) ?_
          refine hx_put (ty := .int) (v := .int (nI (pn + 1))) hx hb htg iMd tMd tMd_ok nMd hown hK hI.1 hS (Or.inl rfl) rfl 1 (by decide) (htg _ (gw_mem (i := 999) (by decide +kernel) rfl)) (fun _ h9 => h9) rfl (by decide +kernel) rfl rfl (Nat.le_of_ble_eq_true rfl) d_Md_unit_58 (fun H locs hat hz ho hS => ?_)
          replace hI : md_I D cs H x g (upd (upd i 0 0) 1 ((nI (pn + 1)))) (updA f 0 pn (q)) := md_I.puti hI hsep hat ho rfl
          refine lv_aload_n hx hb d_Md_unit_61 rfl (lv_at hl 0 rfl) ?_
          refine hx_get (v := .int (nI (pn + 1))) hx hb htg iMd hown hK hI.1 rfl 1 (by decide) (htg _ (gw_mem (i := 999) (by decide +kernel) rfl)) (fun _ h9 => h9) rfl d_Md_unit_62 ?_
          exact W.iret (v := (nI (pn + 1))) hx hb hr (fun t ht hW => ⟨⟨(nI (pn + 1)), H, rfl, by dsimp only; have e0 : (decide (pn < 12)) = true := (by first | (simp [isSg, c7, c18, c24]; done) | (simp [isSg, c7, c18, c24]; omega) | omega | simp_all [isSg]); have e1 : (isSg q) = true := (by first | (simp [isSg, c7, c18, c24]; done) | (simp [isSg, c7, c18, c24]; omega) | omega | simp_all [isSg]); rw [e0, e1]; rw [if_pos (show goB true true true = true from rfl)]; exact ⟨hI, rfl⟩, ht⟩, hS.F ht⟩) hS.2.2 d_Md_unit_65
        · exact absurd c36 (by decide)
def y_Md_clear : MethodName := ⟨"NameMergesModel", "clear", "()I"⟩
abbrev w_Md_clear : List Cond := Cond.code y_Md_clear prog_7_method_7_code 2 (Option.some Jvm.ClassFile.FieldType.int) :: gw
theorem d_Md_clear_0 : decode prog_7_method_7_code 0 = .ok (.aload_n 0, 1) := by decide +kernel
theorem d_Md_clear_1 : decode prog_7_method_7_code 1 = .ok (.iconst 0, 1) := by decide +kernel
theorem d_Md_clear_2 : decode prog_7_method_7_code 2 = .ok (.putfield 77, 3) := by decide +kernel
theorem d_Md_clear_5 : decode prog_7_method_7_code 5 = .ok (.aload_n 0, 1) := by decide +kernel
theorem d_Md_clear_6 : decode prog_7_method_7_code 6 = .ok (.getfield 85, 3) := by decide +kernel
theorem d_Md_clear_9 : decode prog_7_method_7_code 9 = .ok (.istore_n 1, 1) := by decide +kernel
theorem d_Md_clear_10 : decode prog_7_method_7_code 10 = .ok (.aload_n 0, 1) := by decide +kernel
theorem d_Md_clear_11 : decode prog_7_method_7_code 11 = .ok (.iconst 0, 1) := by decide +kernel
theorem d_Md_clear_12 : decode prog_7_method_7_code 12 = .ok (.putfield 85, 3) := by decide +kernel
theorem d_Md_clear_15 : decode prog_7_method_7_code 15 = .ok (.iload_n 1, 1) := by decide +kernel
theorem d_Md_clear_16 : decode prog_7_method_7_code 16 = .ok (.ireturn, 1) := by decide +kernel
set_option maxHeartbeats 4000000 in
set_option maxRecDepth 100000 in
theorem c_Md_clear (l : Launch) (D : va_G) (cs : Nat → ClassId) (N0 : Nat) (H : Heap) (x : Nat) (g : Nat → Nat) (i : Nat → Int32) (f : Nat → Nat → Int32) (hsep : md_sep N0 x g) (hI : md_I D cs H x g i f) : Met l y_Md_clear w_Md_clear ({ frames := 0, cells := 0, slots := 0, locals := 0 }) (hPre D cs N0 [.ref x] H) (hQi (fun r H' => md_I D cs H' x g (upd (upd i 0 0) 1 0) f ∧ r = i 1) (md_A x g)) 0 0 (md_A x g) := by
  refine Met.ofW (cc := prog_7_method_7_code) (maxL := 2) (ret := (Option.some Jvm.ClassFile.FieldType.int)) (by decide) rfl ?_
  intro p e s m args below meth c s₁ B hml hv
  obtain ⟨rfl, rfl, hB⟩ := hv
  have hx := B.exec
  have hb := B.bytes
  have hr := B.returns
  have hts := atoms_spec (ws := w_Md_clear) B.pre
  have htg : ∀ w ∈ gw, w.before _ s = true := fun w h => hts w (List.mem_cons_of_mem _ h)
  have hown : s.vm.findClass "NameMergesModel" = some m.cls := findClass_of_methodNamed B.named
  have hlocks := B.notSynchronized
  have hK := hB.1
  have hS : va_S (md_A x g) s.heap s.heap [] := va_S.rf
  obtain ⟨H, hH⟩ : ∃ z : Heap, z = s.heap := ⟨_, rfl⟩
  rw [← hH] at hI
  have hS : va_S (md_A x g) s.heap H [] := by rw [hH]; exact va_S.rf
  have hl := lv_entry ([.ref x]) (n := 2) (Nat.le_of_ble_eq_true rfl)
  rw [lg_entry_eq, ← hH]
  generalize (lg_sl ([.ref x]) ++ List.replicate (2 - (lg_sl ([.ref x])).length) Slot.unset).toArray = ls at hl ⊢
  have hl : lv_has ls 2 [(0, .ref x)] := hl
  refine lv_aload_n hx hb d_Md_clear_0 rfl (lv_at hl 0 rfl) ?_
  refine lv_iconst (v := 0) hx hb d_Md_clear_1 (by decide) ?_
  refine hx_put (ty := .int) (v := .int 0) hx hb htg iMd tMd tMd_ok nMd hown hK hI.1 hS (Or.inl rfl) rfl 0 (by decide) (htg _ (gw_mem (i := 998) (by decide +kernel) rfl)) (fun _ h9 => h9) rfl (by decide +kernel) rfl rfl (Nat.le_of_ble_eq_true rfl) d_Md_clear_2 (fun H locs hat hz ho hS => ?_)
  replace hI : md_I D cs H x g (upd i 0 (0)) f := md_I.puti hI hsep hat ho rfl
  refine lv_aload_n hx hb d_Md_clear_5 rfl (lv_at hl 0 rfl) ?_
  refine hx_get (v := .int (i 1)) hx hb htg iMd hown hK hI.1 rfl 1 (by decide) (htg _ (gw_mem (i := 999) (by decide +kernel) rfl)) (fun _ h9 => h9) rfl d_Md_clear_6 ?_
  refine lv_istore_n (lv' := [(1, .int (i 1)), (0, .ref x)]) hx hb d_Md_clear_9 rfl hl (by decide) rfl (fun ls hl => ?_)
  refine lv_aload_n hx hb d_Md_clear_10 rfl (lv_at hl 1 rfl) ?_
  refine lv_iconst (v := 0) hx hb d_Md_clear_11 (by decide) ?_
  refine hx_put (ty := .int) (v := .int 0) hx hb htg iMd tMd tMd_ok nMd hown hK hI.1 hS (Or.inl rfl) rfl 1 (by decide) (htg _ (gw_mem (i := 999) (by decide +kernel) rfl)) (fun _ h9 => h9) rfl (by decide +kernel) rfl rfl (Nat.le_of_ble_eq_true rfl) d_Md_clear_12 (fun H locs hat hz ho hS => ?_)
  replace hI : md_I D cs H x g (upd (upd i 0 (0)) 1 (0)) f := md_I.puti hI hsep hat ho rfl
  refine lv_iload_n hx hb d_Md_clear_15 rfl (lv_at hl 0 rfl) ?_
  exact W.iret (v := (i 1)) hx hb hr (fun t ht hW => ⟨⟨(i 1), H, rfl, ⟨hI, rfl⟩, ht⟩, hS.F ht⟩) hS.2.2 d_Md_clear_16
def y_Md_name : MethodName := ⟨"NameMergesModel", "name", "()I"⟩
abbrev w_Md_name : List Cond := Cond.code y_Md_name prog_7_method_8_code 1 (Option.some Jvm.ClassFile.FieldType.int) :: gw
theorem d_Md_name_0 : decode prog_7_method_8_code 0 = .ok (.aload_n 0, 1) := by decide +kernel
theorem d_Md_name_1 : decode prog_7_method_8_code 1 = .ok (.aload_n 0, 1) := by decide +kernel
theorem d_Md_name_2 : decode prog_7_method_8_code 2 = .ok (.getfield 81, 3) := by decide +kernel
theorem d_Md_name_5 : decode prog_7_method_8_code 5 = .ok (.bipush 24, 2) := by decide +kernel
theorem d_Md_name_7 : decode prog_7_method_8_code 7 = .ok (.if_icmp .ge 7, 3) := by decide +kernel
theorem d_Md_name_10 : decode prog_7_method_8_code 10 = .ok (.iconst 1, 1) := by decide +kernel
theorem d_Md_name_11 : decode prog_7_method_8_code 11 = .ok (.goto 4, 3) := by decide +kernel
theorem d_Md_name_14 : decode prog_7_method_8_code 14 = .ok (.iconst 0, 1) := by decide +kernel
theorem d_Md_name_15 : decode prog_7_method_8_code 15 = .ok (.iconst 1, 1) := by decide +kernel
theorem d_Md_name_16 : decode prog_7_method_8_code 16 = .ok (.iconst 1, 1) := by decide +kernel
theorem d_Md_name_17 : decode prog_7_method_8_code 17 = .ok (.invokevirtual 88, 3) := by decide +kernel
theorem d_Md_name_20 : decode prog_7_method_8_code 20 = .ok (.ifCond .ne 5, 3) := by decide +kernel
theorem d_Md_name_23 : decode prog_7_method_8_code 23 = .ok (.iconst 0, 1) := by decide +kernel
theorem d_Md_name_24 : decode prog_7_method_8_code 24 = .ok (.ireturn, 1) := by decide +kernel
theorem d_Md_name_25 : decode prog_7_method_8_code 25 = .ok (.aload_n 0, 1) := by decide +kernel
theorem d_Md_name_26 : decode prog_7_method_8_code 26 = .ok (.dup, 1) := by decide +kernel
theorem d_Md_name_27 : decode prog_7_method_8_code 27 = .ok (.getfield 81, 3) := by decide +kernel
theorem d_Md_name_30 : decode prog_7_method_8_code 30 = .ok (.iconst 1, 1) := by decide +kernel
theorem d_Md_name_31 : decode prog_7_method_8_code 31 = .ok (.iadd, 1) := by decide +kernel
theorem d_Md_name_32 : decode prog_7_method_8_code 32 = .ok (.putfield 81, 3) := by decide +kernel
theorem d_Md_name_35 : decode prog_7_method_8_code 35 = .ok (.aload_n 0, 1) := by decide +kernel
theorem d_Md_name_36 : decode prog_7_method_8_code 36 = .ok (.getfield 81, 3) := by decide +kernel
theorem d_Md_name_39 : decode prog_7_method_8_code 39 = .ok (.iconst 1, 1) := by decide +kernel
theorem d_Md_name_40 : decode prog_7_method_8_code 40 = .ok (.isub, 1) := by decide +kernel
theorem d_Md_name_41 : decode prog_7_method_8_code 41 = .ok (.ireturn, 1) := by decide +kernel
set_option maxHeartbeats 4000000 in
set_option maxRecDepth 100000 in
theorem c_Md_name (l : Launch) (D : va_G) (cs : Nat → ClassId) (N0 : Nat) (H : Heap) (x : Nat) (g : Nat → Nat) (i : Nat → Int32) (f : Nat → Nat → Int32) (n : Nat) (hsep : md_sep N0 x g) (hI : md_I D cs H x g i f) (hn : i 2 = nI n) (hn24 : n ≤ 24) : Met l y_Md_name w_Md_name ({ frames := 1, cells := 0, slots := 0, locals := 23 }) (hPre D cs N0 [.ref x] H) (hQi (fun r H' => if goB (decide (n < 24)) true true = true then (md_I D cs H' x g (upd (upd i 0 (goV (decide (n < 24)) true true)) 2 (nI (n + 1))) f ∧ r = nI n) else (md_I D cs H' x g (upd i 0 (goV (decide (n < 24)) true true)) f ∧ r = 0)) (md_A x g)) 0 0 (md_A x g) := by
  refine Met.ofW (cc := prog_7_method_8_code) (maxL := 1) (ret := (Option.some Jvm.ClassFile.FieldType.int)) (by decide) rfl ?_
  intro p e s m args below meth c s₁ B hml hv
  obtain ⟨rfl, rfl, hB⟩ := hv
  have hx := B.exec
  have hb := B.bytes
  have hr := B.returns
  have hts := atoms_spec (ws := w_Md_name) B.pre
  have htg : ∀ w ∈ gw, w.before _ s = true := fun w h => hts w (List.mem_cons_of_mem _ h)
  have hown : s.vm.findClass "NameMergesModel" = some m.cls := findClass_of_methodNamed B.named
  have hlocks := B.notSynchronized
  have hK := hB.1
  have hS : va_S (md_A x g) s.heap s.heap [] := va_S.rf
  obtain ⟨H, hH⟩ : ∃ z : Heap, z = s.heap := ⟨_, rfl⟩
  rw [← hH] at hI
  have hS : va_S (md_A x g) s.heap H [] := by rw [hH]; exact va_S.rf
  have hl := lv_entry ([.ref x]) (n := 1) (Nat.le_of_ble_eq_true rfl)
  rw [lg_entry_eq, ← hH]
  generalize (lg_sl ([.ref x]) ++ List.replicate (1 - (lg_sl ([.ref x])).length) Slot.unset).toArray = ls at hl ⊢
  have hl : lv_has ls 1 [(0, .ref x)] := hl
  refine lv_aload_n hx hb d_Md_name_0 rfl (lv_at hl 0 rfl) ?_
  refine lv_aload_n hx hb d_Md_name_1 rfl (lv_at hl 0 rfl) ?_
  refine hx_get (v := .int (i 2)) hx hb htg iMd hown hK hI.1 rfl 3 (by decide) (htg _ (gw_mem (i := 1001) (by decide +kernel) rfl)) (fun _ h9 => h9) rfl d_Md_name_2 ?_
  refine lv_eqi (y := (nI n)) hn ?_
  refine lv_bipush (v := 24) hx hb d_Md_name_5 (by decide) ?_
  refine lv_icmp_ge (x := (nI n)) (y := 24) (tgt := 14) hx hb d_Md_name_7 (by decide) (fun c7 => ?_) (fun c7 => ?_)
  · skip
    replace c7 : 24 ≤ n := (nI_leI (a := 24) (b := n) (by omega) (by omega)).mp c7
    refine lv_iconst (v := 0) hx hb d_Md_name_14 (by decide) ?_
    refine lv_iconst (v := 1) hx hb d_Md_name_15 (by decide) ?_
    refine lv_iconst (v := 1) hx hb d_Md_name_16 (by decide) ?_
    refine h_calli (va_runV (As := [.int 0, .int 1, .int 1]) (rest := []) ⟨hx, hb, hml, hown, htg⟩ (c_Md_goes l D cs N0 H x g i f false true true hsep hI) (cwV 3 htg (gw_V (gw_mem (i := 1092) (by decide +kernel) rfl) (gw_mem (i := 1094) (by decide +kernel) rfl) (gw_mem (i := 18) (by decide +kernel) rfl) (gw_mem (i := 38) (by decide +kernel) rfl) (gw_mem (i := 1095) (by decide +kernel) rfl)) rfl rfl rfl (by decide +kernel) ⟨Nat.le_of_ble_eq_true rfl, Nat.le_of_ble_eq_true rfl⟩) ⟨hPre.blind, hx_recv hK (ci := 0) rfl hI.1, hPre.at hB hS hsep.A⟩ rfl rfl hl.1 rfl (lv_room (Nat.le_of_ble_eq_true rfl)) d_Md_name_17 ⟨Nat.zero_le _, Nat.zero_le _⟩) hS (fun _ h => h) (fun r17 H locs hp hz hk hS => ?_)
    obtain ⟨hI, er17⟩ := hp
    replace hI : md_I D cs H x g (upd i 0 1) f := hI
    refine lv_eqi (y := 0) er17 ?_
    refine lv_if_ne (x := 0) (tgt := 25) hx hb d_Md_name_20 (by decide) (fun c20 => ?_) (fun c20 => ?_)
    · exact absurd c20 (by decide)
    · skip
      refine lv_iconst (v := 0) hx hb d_Md_name_23 (by decide) ?_
      exact W.iret (v := 0) hx hb hr (fun t ht hW => ⟨⟨0, H, rfl, by dsimp only; have e0 : (decide (n < 24)) = false := (by first | (simp [c7]; done) | (simp [c7]; omega) | omega | simp_all); rw [e0]; rw [if_neg (show ¬ goB false true true = true by simp [goB])]; exact ⟨hI, rfl⟩, ht⟩, hS.F ht⟩) hS.2.2 d_Md_name_24
  · skip
    replace c7 : ¬ (24 ≤ n) := fun z9 => c7 ((nI_leI (a := 24) (b := n) (by omega) (by omega)).mpr z9)
    refine lv_iconst (v := 1) hx hb d_Md_name_10 (by decide) ?_
    refine lv_goto (tgt := 15) hx hb d_Md_name_11 (by decide) ?_
    refine lv_iconst (v := 1) hx hb d_Md_name_15 (by decide) ?_
    refine lv_iconst (v := 1) hx hb d_Md_name_16 (by decide) ?_
    refine h_calli (va_runV (As := [.int 1, .int 1, .int 1]) (rest := []) ⟨hx, hb, hml, hown, htg⟩ (c_Md_goes l D cs N0 H x g i f true true true hsep hI) (cwV 3 htg (gw_V (gw_mem (i := 1092) (by decide +kernel) rfl) (gw_mem (i := 1094) (by decide +kernel) rfl) (gw_mem (i := 18) (by decide +kernel) rfl) (gw_mem (i := 38) (by decide +kernel) rfl) (gw_mem (i := 1095) (by decide +kernel) rfl)) rfl rfl rfl (by decide +kernel) ⟨Nat.le_of_ble_eq_true rfl, Nat.le_of_ble_eq_true rfl⟩) ⟨hPre.blind, hx_recv hK (ci := 0) rfl hI.1, hPre.at hB hS hsep.A⟩ rfl rfl hl.1 rfl (lv_room (Nat.le_of_ble_eq_true rfl)) d_Md_name_17 ⟨Nat.zero_le _, Nat.zero_le _⟩) hS (fun _ h => h) (fun r17 H locs hp hz hk hS => ?_)
    obtain ⟨hI, er17⟩ := hp
    replace hI : md_I D cs H x g (upd i 0 0) f := hI
    refine lv_eqi (y := 1) er17 ?_
    refine lv_if_ne (x := 1) (tgt := 25) hx hb d_Md_name_20 (by decide) (fun c20 => ?_) (fun c20 => ?_)
    · skip
      refine lv_aload_n hx hb d_Md_name_25 rfl (lv_at hl 0 rfl) ?_
      refine lv_dup hx hb d_Md_name_26 rfl ?_
      refine hx_get (v := .int (i 2)) hx hb htg iMd hown hK hI.1 rfl 3 (by decide) (htg _ (gw_mem (i := 1001) (by decide +kernel) rfl)) (fun _ h9 => h9) rfl d_Md_name_27 ?_
      refine lv_eqi (y := (nI n)) hn ?_
      refine lv_iconst (v := 1) hx hb d_Md_name_30 (by decide) ?_
      refine lv_iadd (x := (nI n)) (y := 1) hx hb d_Md_name_31 ?_
      refine lv_eqi (y := (nI (n + 1))) (nI_add n 1) ?_
      refine hx_put (ty := .int) (v := .int (nI (n + 1))) hx hb htg iMd tMd tMd_ok nMd hown hK hI.1 hS (Or.inl rfl) rfl 3 (by decide) (htg _ (gw_mem (i := 1001) (by decide +kernel) rfl)) (fun _ h9 => h9) rfl (by decide +kernel) rfl rfl (Nat.le_of_ble_eq_true rfl) d_Md_name_32 (fun H locs hat hz ho hS => ?_)
      replace hI : md_I D cs H x g (upd (upd i 0 0) 2 ((nI (n + 1)))) f := md_I.puti hI hsep hat ho rfl
      refine lv_aload_n hx hb d_Md_name_35 rfl (lv_at hl 0 rfl) ?_
      refine hx_get (v := .int (nI (n + 1))) hx hb htg iMd hown hK hI.1 rfl 3 (by decide) (htg _ (gw_mem (i := 1001) (by decide +kernel) rfl)) (fun _ h9 => h9) rfl d_Md_name_36 ?_
      refine lv_iconst (v := 1) hx hb d_Md_name_39 (by decide) ?_
      refine lv_isub (x := (nI (n + 1))) (y := 1) hx hb d_Md_name_40 ?_
      refine lv_eqi (y := (nI n)) (pk_sub (a := n + 1) (b := 1) (by omega)) ?_
      exact W.iret (v := (nI n)) hx hb hr (fun t ht hW => ⟨⟨(nI n), H, rfl, by dsimp only; have e0 : (decide (n < 24)) = true := (by first | (simp [c7]; done) | (simp [c7]; omega) | omega | simp_all); rw [e0]; rw [if_pos (show goB true true true = true from rfl)]; exact ⟨hI, rfl⟩, ht⟩, hS.F ht⟩) hS.2.2 d_Md_name_41
    · exact absurd c20 (by decide)
