def allTo (P : Nat → Bool) : Nat → Bool
  | 0 => true
  | n + 1 => allTo P n && P n
def anyTo (P : Nat → Bool) : Nat → Bool
  | 0 => false
  | n + 1 => anyTo P n || P n
theorem all_stop {b : Bool} {P : Nat → Bool} {k n : Nat} (h : (b && allTo P k) = false) (hk : k ≤ n) : (b && allTo P n) = false := by
  induction n with
  | zero => rw [show k = 0 by omega] at h; exact h
  | succ n ih =>
    by_cases e : k = n + 1
    · rw [← e]; exact h
    · have := ih (by omega)
      show (b && (allTo P n && P n)) = false
      rw [← Bool.and_assoc, this]; rfl
def padP (f : Nat → Nat → Int32) (v : Nat) : Nat → Bool := fun j => decide (f 3 (12 * v + j) = f 0 j)
def isPadB (f : Nat → Nat → Int32) (pn v : Nat) : Bool := (!decide (pn ≤ 0) && decide (f 2 v = nI pn)) && allTo (padP f v) pn
def hasP (f : Nat → Nat → Int32) (pn a : Nat) (dy : Int32) : Nat → Bool := fun j => !decide (dy < f 5 (4 * a + j)) && !decide (f 6 (4 * a + j) < dy) && isPadB f pn (4 * a + j)
def begP (f : Nat → Nat → Int32) (a b : Nat) (j : Nat) : Nat → Bool := fun k => decide (f 3 (12 * (4 * a + j)) = f 3 (12 * (4 * b + k)))
def begB (f : Nat → Nat → Int32) (mn : Nat → Nat) (a b : Nat) : Bool := anyTo (fun j => anyTo (begP f a b j) (mn b)) (mn a)
def y_Md_outside : MethodName := ⟨"NameMergesModel", "outside", "(III)Z"⟩
abbrev w_Md_outside : List Cond := Cond.code y_Md_outside prog_7_method_33_code 5 (Option.some Jvm.ClassFile.FieldType.boolean) :: gw
theorem d_Md_outside_0 : decode prog_7_method_33_code 0 = .ok (.aload_n 0, 1) := by decide +kernel
theorem d_Md_outside_1 : decode prog_7_method_33_code 1 = .ok (.aload_n 0, 1) := by decide +kernel
theorem d_Md_outside_2 : decode prog_7_method_33_code 2 = .ok (.iload_n 1, 1) := by decide +kernel
theorem d_Md_outside_3 : decode prog_7_method_33_code 3 = .ok (.invokevirtual 92, 3) := by decide +kernel
theorem d_Md_outside_6 : decode prog_7_method_33_code 6 = .ok (.ifCond .eq 14, 3) := by decide +kernel
theorem d_Md_outside_9 : decode prog_7_method_33_code 9 = .ok (.iload_n 2, 1) := by decide +kernel
theorem d_Md_outside_10 : decode prog_7_method_33_code 10 = .ok (.invokestatic 136, 3) := by decide +kernel
theorem d_Md_outside_13 : decode prog_7_method_33_code 13 = .ok (.ifCond .eq 7, 3) := by decide +kernel
theorem d_Md_outside_16 : decode prog_7_method_33_code 16 = .ok (.iconst 1, 1) := by decide +kernel
theorem d_Md_outside_17 : decode prog_7_method_33_code 17 = .ok (.goto 4, 3) := by decide +kernel
theorem d_Md_outside_20 : decode prog_7_method_33_code 20 = .ok (.iconst 0, 1) := by decide +kernel
theorem d_Md_outside_21 : decode prog_7_method_33_code 21 = .ok (.iload_n 3, 1) := by decide +kernel
theorem d_Md_outside_22 : decode prog_7_method_33_code 22 = .ok (.iconst 1, 1) := by decide +kernel
theorem d_Md_outside_23 : decode prog_7_method_33_code 23 = .ok (.if_icmp .lt 13, 3) := by decide +kernel
theorem d_Md_outside_26 : decode prog_7_method_33_code 26 = .ok (.iload_n 3, 1) := by decide +kernel
theorem d_Md_outside_27 : decode prog_7_method_33_code 27 = .ok (.ldc 139, 2) := by decide +kernel
theorem d_Md_outside_29 : decode prog_7_method_33_code 29 = .ok (.if_icmp .gt 7, 3) := by decide +kernel
theorem d_Md_outside_32 : decode prog_7_method_33_code 32 = .ok (.iconst 1, 1) := by decide +kernel
theorem d_Md_outside_33 : decode prog_7_method_33_code 33 = .ok (.goto 4, 3) := by decide +kernel
theorem d_Md_outside_36 : decode prog_7_method_33_code 36 = .ok (.iconst 0, 1) := by decide +kernel
theorem d_Md_outside_37 : decode prog_7_method_33_code 37 = .ok (.iconst 1, 1) := by decide +kernel
theorem d_Md_outside_38 : decode prog_7_method_33_code 38 = .ok (.invokevirtual 88, 3) := by decide +kernel
theorem d_Md_outside_41 : decode prog_7_method_33_code 41 = .ok (.ifCond .ne 5, 3) := by decide +kernel
theorem d_Md_outside_44 : decode prog_7_method_33_code 44 = .ok (.iconst 0, 1) := by decide +kernel
theorem d_Md_outside_45 : decode prog_7_method_33_code 45 = .ok (.ireturn, 1) := by decide +kernel
theorem d_Md_outside_46 : decode prog_7_method_33_code 46 = .ok (.aload_n 0, 1) := by decide +kernel
theorem d_Md_outside_47 : decode prog_7_method_33_code 47 = .ok (.iload_n 2, 1) := by decide +kernel
theorem d_Md_outside_48 : decode prog_7_method_33_code 48 = .ok (.iload_n 3, 1) := by decide +kernel
theorem d_Md_outside_49 : decode prog_7_method_33_code 49 = .ok (.invokevirtual 140, 3) := by decide +kernel
theorem d_Md_outside_52 : decode prog_7_method_33_code 52 = .ok (.istore 4, 2) := by decide +kernel
theorem d_Md_outside_54 : decode prog_7_method_33_code 54 = .ok (.iload 4, 2) := by decide +kernel
theorem d_Md_outside_56 : decode prog_7_method_33_code 56 = .ok (.iconst (-1), 1) := by decide +kernel
theorem d_Md_outside_57 : decode prog_7_method_33_code 57 = .ok (.if_icmp .eq 11, 3) := by decide +kernel
theorem d_Md_outside_60 : decode prog_7_method_33_code 60 = .ok (.iload 4, 2) := by decide +kernel
theorem d_Md_outside_62 : decode prog_7_method_33_code 62 = .ok (.iload_n 1, 1) := by decide +kernel
theorem d_Md_outside_63 : decode prog_7_method_33_code 63 = .ok (.if_icmp .eq 5, 3) := by decide +kernel
theorem d_Md_outside_66 : decode prog_7_method_33_code 66 = .ok (.iconst 0, 1) := by decide +kernel
theorem d_Md_outside_67 : decode prog_7_method_33_code 67 = .ok (.ireturn, 1) := by decide +kernel
theorem d_Md_outside_68 : decode prog_7_method_33_code 68 = .ok (.aload_n 0, 1) := by decide +kernel
theorem d_Md_outside_69 : decode prog_7_method_33_code 69 = .ok (.getfield 47, 3) := by decide +kernel
theorem d_Md_outside_72 : decode prog_7_method_33_code 72 = .ok (.iconst 4, 1) := by decide +kernel
theorem d_Md_outside_73 : decode prog_7_method_33_code 73 = .ok (.iload_n 1, 1) := by decide +kernel
theorem d_Md_outside_74 : decode prog_7_method_33_code 74 = .ok (.imul, 1) := by decide +kernel
theorem d_Md_outside_75 : decode prog_7_method_33_code 75 = .ok (.iload_n 2, 1) := by decide +kernel
theorem d_Md_outside_76 : decode prog_7_method_33_code 76 = .ok (.iadd, 1) := by decide +kernel
theorem d_Md_outside_77 : decode prog_7_method_33_code 77 = .ok (.iload_n 3, 1) := by decide +kernel
theorem d_Md_outside_78 : decode prog_7_method_33_code 78 = .ok (.iastore, 1) := by decide +kernel
theorem d_Md_outside_79 : decode prog_7_method_33_code 79 = .ok (.iconst 1, 1) := by decide +kernel
theorem d_Md_outside_80 : decode prog_7_method_33_code 80 = .ok (.ireturn, 1) := by decide +kernel
set_option maxHeartbeats 4000000 in
set_option maxRecDepth 100000 in
theorem c_Md_outside (l : Launch) (D : va_G) (cs : Nat → ClassId) (N0 : Nat) (H : Heap) (x : Nat) (g : Nat → Nat) (i : Nat → Int32) (f : Nat → Nat → Int32) (q st nu : Int32) (hsep : md_sep N0 x g) (hI : md_I D cs H x g i f) (n : Nat) (hn : i 2 = nI n) (hn24 : n ≤ 24) : Met l y_Md_outside w_Md_outside ({ frames := 1, cells := 0, slots := 0, locals := 23 }) (hPre D cs N0 [.ref x, .int q, .int st, .int nu] H) (hQi (fun r H' => if goB (isN n q && isSt st) (!decide (nu < 1) && !decide (999999 < nu)) true = true then (if (!decide (fstFrom (ownP f (tn st) nu) 0 n = -1) && !decide (fstFrom (ownP f (tn st) nu) 0 n = q)) = true then (md_I D cs H' x g (upd i 0 (goV (isN n q && isSt st) (!decide (nu < 1) && !decide (999999 < nu)) true)) f ∧ r = 0) else (md_I D cs H' x g (upd i 0 (goV (isN n q && isSt st) (!decide (nu < 1) && !decide (999999 < nu)) true)) (updA f 12 (4 * tn q + tn st) nu) ∧ r = 1)) else (md_I D cs H' x g (upd i 0 (goV (isN n q && isSt st) (!decide (nu < 1) && !decide (999999 < nu)) true)) f ∧ r = 0)) (md_A x g)) 0 0 (md_A x g) := by
  refine Met.ofW (cc := prog_7_method_33_code) (maxL := 5) (ret := (Option.some Jvm.ClassFile.FieldType.boolean)) (by decide) rfl ?_
  intro p e s m args below meth c s₁ B hml hv
  obtain ⟨rfl, rfl, hB⟩ := hv
  have hx := B.exec
  have hb := B.bytes
  have hr := B.returns
  have hts := atoms_spec (ws := w_Md_outside) B.pre
  have htg : ∀ w ∈ gw, w.before _ s = true := fun w h => hts w (List.mem_cons_of_mem _ h)
  have hown : s.vm.findClass "NameMergesModel" = some m.cls := findClass_of_methodNamed B.named
  have hlocks := B.notSynchronized
  have hK := hB.1
  have hS : va_S (md_A x g) s.heap s.heap [] := va_S.rf
  obtain ⟨H, hH⟩ : ∃ z : Heap, z = s.heap := ⟨_, rfl⟩
  rw [← hH] at hI
  have hS : va_S (md_A x g) s.heap H [] := by rw [hH]; exact va_S.rf
  have hl := lv_entry ([.ref x, .int q, .int st, .int nu]) (n := 5) (Nat.le_of_ble_eq_true rfl)
  rw [lg_entry_eq, ← hH]
  generalize (lg_sl ([.ref x, .int q, .int st, .int nu]) ++ List.replicate (5 - (lg_sl ([.ref x, .int q, .int st, .int nu])).length) Slot.unset).toArray = ls at hl ⊢
  have hl : lv_has ls 5 [(0, .ref x), (1, .int q), (2, .int st), (3, .int nu)] := hl
  refine lv_aload_n hx hb d_Md_outside_0 rfl (lv_at hl 0 rfl) ?_
  refine lv_aload_n hx hb d_Md_outside_1 rfl (lv_at hl 0 rfl) ?_
  refine lv_iload_n hx hb d_Md_outside_2 rfl (lv_at hl 1 rfl) ?_
  refine h_calli (va_runV (As := [.int q]) (rest := [.ref x]) ⟨hx, hb, hml, hown, htg⟩ (c_Md_isName l D cs N0 H x g i f q hsep hI n hn) (cwV 1 htg (gw_V (gw_mem (i := 1108) (by decide +kernel) rfl) (gw_mem (i := 1110) (by decide +kernel) rfl) (gw_mem (i := 19) (by decide +kernel) rfl) (gw_mem (i := 38) (by decide +kernel) rfl) (gw_mem (i := 1111) (by decide +kernel) rfl)) rfl rfl rfl (by decide +kernel) ⟨Nat.le_of_ble_eq_true rfl, Nat.le_of_ble_eq_true rfl⟩) ⟨hPre.blind, hx_recv hK (ci := 0) rfl hI.1, hPre.at hB hS hsep.A⟩ rfl rfl hl.1 rfl (lv_room (Nat.le_of_ble_eq_true rfl)) d_Md_outside_3 ⟨Nat.zero_le _, Nat.zero_le _⟩) hS (fun _ h => h) (fun r3 H locs hp hz hk hS => ?_)
  obtain ⟨hI, er3⟩ := hp
  refine lv_eqi (y := (bI (isN n q))) er3 ?_
  refine lv_if_eq (x := (bI (isN n q))) (tgt := 20) hx hb d_Md_outside_6 (by decide) (fun c6 => ?_) (fun c6 => ?_)
  · skip
    replace c6 : (isN n q) = false := bI_0 c6
    refine lv_iconst (v := 0) hx hb d_Md_outside_20 (by decide) ?_
    refine lv_iload_n hx hb d_Md_outside_21 rfl (lv_at hl 3 rfl) ?_
    refine lv_iconst (v := 1) hx hb d_Md_outside_22 (by decide) ?_
    refine lv_icmp_lt (x := nu) (y := 1) (tgt := 36) hx hb d_Md_outside_23 (by decide) (fun c23 => ?_) (fun c23 => ?_)
    · skip
      refine lv_iconst (v := 0) hx hb d_Md_outside_36 (by decide) ?_
      refine lv_iconst (v := 1) hx hb d_Md_outside_37 (by decide) ?_
      refine h_calli (va_runV (As := [.int 0, .int 0, .int 1]) (rest := []) ⟨hx, hb, hml, hown, htg⟩ (c_Md_goes l D cs N0 H x g i f false false true hsep hI) (cwV 3 htg (gw_V (gw_mem (i := 1092) (by decide +kernel) rfl) (gw_mem (i := 1094) (by decide +kernel) rfl) (gw_mem (i := 18) (by decide +kernel) rfl) (gw_mem (i := 38) (by decide +kernel) rfl) (gw_mem (i := 1095) (by decide +kernel) rfl)) rfl rfl rfl (by decide +kernel) ⟨Nat.le_of_ble_eq_true rfl, Nat.le_of_ble_eq_true rfl⟩) ⟨hPre.blind, hx_recv hK (ci := 0) rfl hI.1, hPre.at hB hS hsep.A⟩ rfl rfl hl.1 rfl (lv_room (Nat.le_of_ble_eq_true rfl)) d_Md_outside_38 ⟨Nat.zero_le _, Nat.zero_le _⟩) hS (fun _ h => h) (fun r38 H locs hp hz hk hS => ?_)
      obtain ⟨hI, er38⟩ := hp
      replace hI : md_I D cs H x g (upd i 0 1) f := hI
      refine lv_eqi (y := 0) er38 ?_
      refine lv_if_ne (x := 0) (tgt := 46) hx hb d_Md_outside_41 (by decide) (fun c41 => ?_) (fun c41 => ?_)
      · exact absurd c41 (by decide)
      · skip
        refine lv_iconst (v := 0) hx hb d_Md_outside_44 (by decide) ?_
        exact W.zret (v := 0) hx hb hr (by decide) (fun t ht hW => ⟨⟨0, H, rfl, by dsimp only; have e0 : (isN n q && isSt st) = false := (by first | (simp [c6, c23]; done) | (simp [c6, c23]; omega) | omega | simp_all); have e1 : (!decide (nu < 1) && !decide (999999 < nu)) = false := (by first | (simp [c6, c23]; done) | (simp [c6, c23]; omega) | omega | simp_all); rw [e0, e1]; rw [if_neg (show ¬ goB false false true = true by simp [goB])]; exact ⟨hI, rfl⟩, ht⟩, hS.F ht⟩) hS.2.2 d_Md_outside_45
    · skip
      refine lv_iload_n hx hb d_Md_outside_26 rfl (lv_at hl 3 rfl) ?_
      refine lv_ldc (v := 999999) hx hb hown (htg _ (gw_mem (i := 1207) (by decide +kernel) rfl)) d_Md_outside_27 ?_
      refine lv_icmp_gt (x := nu) (y := 999999) (tgt := 36) hx hb d_Md_outside_29 (by decide) (fun c29 => ?_) (fun c29 => ?_)
      · skip
        refine lv_iconst (v := 0) hx hb d_Md_outside_36 (by decide) ?_
        refine lv_iconst (v := 1) hx hb d_Md_outside_37 (by decide) ?_
        refine h_calli (va_runV (As := [.int 0, .int 0, .int 1]) (rest := []) ⟨hx, hb, hml, hown, htg⟩ (c_Md_goes l D cs N0 H x g i f false false true hsep hI) (cwV 3 htg (gw_V (gw_mem (i := 1092) (by decide +kernel) rfl) (gw_mem (i := 1094) (by decide +kernel) rfl) (gw_mem (i := 18) (by decide +kernel) rfl) (gw_mem (i := 38) (by decide +kernel) rfl) (gw_mem (i := 1095) (by decide +kernel) rfl)) rfl rfl rfl (by decide +kernel) ⟨Nat.le_of_ble_eq_true rfl, Nat.le_of_ble_eq_true rfl⟩) ⟨hPre.blind, hx_recv hK (ci := 0) rfl hI.1, hPre.at hB hS hsep.A⟩ rfl rfl hl.1 rfl (lv_room (Nat.le_of_ble_eq_true rfl)) d_Md_outside_38 ⟨Nat.zero_le _, Nat.zero_le _⟩) hS (fun _ h => h) (fun r38 H locs hp hz hk hS => ?_)
        obtain ⟨hI, er38⟩ := hp
        replace hI : md_I D cs H x g (upd i 0 1) f := hI
        refine lv_eqi (y := 0) er38 ?_
        refine lv_if_ne (x := 0) (tgt := 46) hx hb d_Md_outside_41 (by decide) (fun c41 => ?_) (fun c41 => ?_)
        · exact absurd c41 (by decide)
        · skip
          refine lv_iconst (v := 0) hx hb d_Md_outside_44 (by decide) ?_
          exact W.zret (v := 0) hx hb hr (by decide) (fun t ht hW => ⟨⟨0, H, rfl, by dsimp only; have e0 : (isN n q && isSt st) = false := (by first | (simp [c6, c23, c29]; done) | (simp [c6, c23, c29]; omega) | omega | simp_all); have e1 : (!decide (nu < 1) && !decide (999999 < nu)) = false := (by first | (simp [c6, c23, c29]; done) | (simp [c6, c23, c29]; omega) | omega | simp_all); rw [e0, e1]; rw [if_neg (show ¬ goB false false true = true by simp [goB])]; exact ⟨hI, rfl⟩, ht⟩, hS.F ht⟩) hS.2.2 d_Md_outside_45
      · skip
        refine lv_iconst (v := 1) hx hb d_Md_outside_32 (by decide) ?_
        refine lv_goto (tgt := 37) hx hb d_Md_outside_33 (by decide) ?_
        refine lv_iconst (v := 1) hx hb d_Md_outside_37 (by decide) ?_
        refine h_calli (va_runV (As := [.int 0, .int 1, .int 1]) (rest := []) ⟨hx, hb, hml, hown, htg⟩ (c_Md_goes l D cs N0 H x g i f false true true hsep hI) (cwV 3 htg (gw_V (gw_mem (i := 1092) (by decide +kernel) rfl) (gw_mem (i := 1094) (by decide +kernel) rfl) (gw_mem (i := 18) (by decide +kernel) rfl) (gw_mem (i := 38) (by decide +kernel) rfl) (gw_mem (i := 1095) (by decide +kernel) rfl)) rfl rfl rfl (by decide +kernel) ⟨Nat.le_of_ble_eq_true rfl, Nat.le_of_ble_eq_true rfl⟩) ⟨hPre.blind, hx_recv hK (ci := 0) rfl hI.1, hPre.at hB hS hsep.A⟩ rfl rfl hl.1 rfl (lv_room (Nat.le_of_ble_eq_true rfl)) d_Md_outside_38 ⟨Nat.zero_le _, Nat.zero_le _⟩) hS (fun _ h => h) (fun r38 H locs hp hz hk hS => ?_)
        obtain ⟨hI, er38⟩ := hp
        replace hI : md_I D cs H x g (upd i 0 1) f := hI
        refine lv_eqi (y := 0) er38 ?_
        refine lv_if_ne (x := 0) (tgt := 46) hx hb d_Md_outside_41 (by decide) (fun c41 => ?_) (fun c41 => ?_)
        · exact absurd c41 (by decide)
        · skip
          refine lv_iconst (v := 0) hx hb d_Md_outside_44 (by decide) ?_
          exact W.zret (v := 0) hx hb hr (by decide) (fun t ht hW => ⟨⟨0, H, rfl, by dsimp only; have e0 : (isN n q && isSt st) = false := (by first | (simp [c6, c23, c29]; done) | (simp [c6, c23, c29]; omega) | omega | simp_all); have e1 : (!decide (nu < 1) && !decide (999999 < nu)) = true := (by first | (simp [c6, c23, c29]; done) | (simp [c6, c23, c29]; omega) | omega | simp_all); rw [e0, e1]; rw [if_neg (show ¬ goB false true true = true by simp [goB])]; exact ⟨hI, rfl⟩, ht⟩, hS.F ht⟩) hS.2.2 d_Md_outside_45
  · skip
    replace c6 : (isN n q) = true := bI_1 c6
    refine lv_iload_n hx hb d_Md_outside_9 rfl (lv_at hl 2 rfl) ?_
    refine h_calli (va_runS (As := [.int st]) (rest := [.ref x]) ⟨hx, hb, hml, hown, htg⟩ (c_Md_isSet l D cs N0 H x g i f st hsep hI) (cwS 1 htg (gw_S (gw_mem (i := 1204) (by decide +kernel) rfl) (gw_mem (i := 1205) (by decide +kernel) rfl) (gw_mem (i := 38) (by decide +kernel) rfl) (gw_mem (i := 1206) (by decide +kernel) rfl)) rfl rfl rfl (by decide +kernel) ⟨Nat.le_of_ble_eq_true rfl, Nat.le_of_ble_eq_true rfl⟩) ⟨hPre.blind, hPre.at hB hS hsep.A⟩ rfl rfl hl.1 rfl (lv_room (Nat.le_of_ble_eq_true rfl)) d_Md_outside_10 ⟨Nat.zero_le _, Nat.zero_le _⟩) hS (fun _ h => h) (fun r10 H locs hp hz hk hS => ?_)
    obtain ⟨hI, er10⟩ := hp
    refine lv_eqi (y := (bI (isSt st))) er10 ?_
    refine lv_if_eq (x := (bI (isSt st))) (tgt := 20) hx hb d_Md_outside_13 (by decide) (fun c13 => ?_) (fun c13 => ?_)
    · skip
      replace c13 : (isSt st) = false := bI_0 c13
      refine lv_iconst (v := 0) hx hb d_Md_outside_20 (by decide) ?_
      refine lv_iload_n hx hb d_Md_outside_21 rfl (lv_at hl 3 rfl) ?_
      refine lv_iconst (v := 1) hx hb d_Md_outside_22 (by decide) ?_
      refine lv_icmp_lt (x := nu) (y := 1) (tgt := 36) hx hb d_Md_outside_23 (by decide) (fun c23 => ?_) (fun c23 => ?_)
      · skip
        refine lv_iconst (v := 0) hx hb d_Md_outside_36 (by decide) ?_
        refine lv_iconst (v := 1) hx hb d_Md_outside_37 (by decide) ?_
        refine h_calli (va_runV (As := [.int 0, .int 0, .int 1]) (rest := []) ⟨hx, hb, hml, hown, htg⟩ (c_Md_goes l D cs N0 H x g i f false false true hsep hI) (cwV 3 htg (gw_V (gw_mem (i := 1092) (by decide +kernel) rfl) (gw_mem (i := 1094) (by decide +kernel) rfl) (gw_mem (i := 18) (by decide +kernel) rfl) (gw_mem (i := 38) (by decide +kernel) rfl) (gw_mem (i := 1095) (by decide +kernel) rfl)) rfl rfl rfl (by decide +kernel) ⟨Nat.le_of_ble_eq_true rfl, Nat.le_of_ble_eq_true rfl⟩) ⟨hPre.blind, hx_recv hK (ci := 0) rfl hI.1, hPre.at hB hS hsep.A⟩ rfl rfl hl.1 rfl (lv_room (Nat.le_of_ble_eq_true rfl)) d_Md_outside_38 ⟨Nat.zero_le _, Nat.zero_le _⟩) hS (fun _ h => h) (fun r38 H locs hp hz hk hS => ?_)
        obtain ⟨hI, er38⟩ := hp
        replace hI : md_I D cs H x g (upd i 0 1) f := hI
        refine lv_eqi (y := 0) er38 ?_
        refine lv_if_ne (x := 0) (tgt := 46) hx hb d_Md_outside_41 (by decide) (fun c41 => ?_) (fun c41 => ?_)
        · exact absurd c41 (by decide)
        · skip
          refine lv_iconst (v := 0) hx hb d_Md_outside_44 (by decide) ?_
          exact W.zret (v := 0) hx hb hr (by decide) (fun t ht hW => ⟨⟨0, H, rfl, by dsimp only; have e0 : (isN n q && isSt st) = false := (by first | (simp [c6, c13, c23]; done) | (simp [c6, c13, c23]; omega) | omega | simp_all); have e1 : (!decide (nu < 1) && !decide (999999 < nu)) = false := (by first | (simp [c6, c13, c23]; done) | (simp [c6, c13, c23]; omega) | omega | simp_all); rw [e0, e1]; rw [if_neg (show ¬ goB false false true = true by simp [goB])]; exact ⟨hI, rfl⟩, ht⟩, hS.F ht⟩) hS.2.2 d_Md_outside_45
      · skip
        refine lv_iload_n hx hb d_Md_outside_26 rfl (lv_at hl 3 rfl) ?_
        refine lv_ldc (v := 999999) hx hb hown (htg _ (gw_mem (i := 1207) (by decide +kernel) rfl)) d_Md_outside_27 ?_
        refine lv_icmp_gt (x := nu) (y := 999999) (tgt := 36) hx hb d_Md_outside_29 (by decide) (fun c29 => ?_) (fun c29 => ?_)
        · skip
          refine lv_iconst (v := 0) hx hb d_Md_outside_36 (by decide) ?_
          refine lv_iconst (v := 1) hx hb d_Md_outside_37 (by decide) ?_
          refine h_calli (va_runV (As := [.int 0, .int 0, .int 1]) (rest := []) ⟨hx, hb, hml, hown, htg⟩ (c_Md_goes l D cs N0 H x g i f false false true hsep hI) (cwV 3 htg (gw_V (gw_mem (i := 1092) (by decide +kernel) rfl) (gw_mem (i := 1094) (by decide +kernel) rfl) (gw_mem (i := 18) (by decide +kernel) rfl) (gw_mem (i := 38) (by decide +kernel) rfl) (gw_mem (i := 1095) (by decide +kernel) rfl)) rfl rfl rfl (by decide +kernel) ⟨Nat.le_of_ble_eq_true rfl, Nat.le_of_ble_eq_true rfl⟩) ⟨hPre.blind, hx_recv hK (ci := 0) rfl hI.1, hPre.at hB hS hsep.A⟩ rfl rfl hl.1 rfl (lv_room (Nat.le_of_ble_eq_true rfl)) d_Md_outside_38 ⟨Nat.zero_le _, Nat.zero_le _⟩) hS (fun _ h => h) (fun r38 H locs hp hz hk hS => ?_)
          obtain ⟨hI, er38⟩ := hp
          replace hI : md_I D cs H x g (upd i 0 1) f := hI
          refine lv_eqi (y := 0) er38 ?_
          refine lv_if_ne (x := 0) (tgt := 46) hx hb d_Md_outside_41 (by decide) (fun c41 => ?_) (fun c41 => ?_)
          · exact absurd c41 (by decide)
          · skip
            refine lv_iconst (v := 0) hx hb d_Md_outside_44 (by decide) ?_
            exact W.zret (v := 0) hx hb hr (by decide) (fun t ht hW => ⟨⟨0, H, rfl, by dsimp only; have e0 : (isN n q && isSt st) = false := (by first | (simp [c6, c13, c23, c29]; done) | (simp [c6, c13, c23, c29]; omega) | omega | simp_all); have e1 : (!decide (nu < 1) && !decide (999999 < nu)) = false := (by first | (simp [c6, c13, c23, c29]; done) | (simp [c6, c13, c23, c29]; omega) | omega | simp_all); rw [e0, e1]; rw [if_neg (show ¬ goB false false true = true by simp [goB])]; exact ⟨hI, rfl⟩, ht⟩, hS.F ht⟩) hS.2.2 d_Md_outside_45
        · skip
          refine lv_iconst (v := 1) hx hb d_Md_outside_32 (by decide) ?_
          refine lv_goto (tgt := 37) hx hb d_Md_outside_33 (by decide) ?_
          refine lv_iconst (v := 1) hx hb d_Md_outside_37 (by decide) ?_
          refine h_calli (va_runV (As := [.int 0, .int 1, .int 1]) (rest := []) ⟨hx, hb, hml, hown, htg⟩ (c_Md_goes l D cs N0 H x g i f false true true hsep hI) (cwV 3 htg (gw_V (gw_mem (i := 1092) (by decide +kernel) rfl) (gw_mem (i := 1094) (by decide +kernel) rfl) (gw_mem (i := 18) (by decide +kernel) rfl) (gw_mem (i := 38) (by decide +kernel) rfl) (gw_mem (i := 1095) (by decide +kernel) rfl)) rfl rfl rfl (by decide +kernel) ⟨Nat.le_of_ble_eq_true rfl, Nat.le_of_ble_eq_true rfl⟩) ⟨hPre.blind, hx_recv hK (ci := 0) rfl hI.1, hPre.at hB hS hsep.A⟩ rfl rfl hl.1 rfl (lv_room (Nat.le_of_ble_eq_true rfl)) d_Md_outside_38 ⟨Nat.zero_le _, Nat.zero_le _⟩) hS (fun _ h => h) (fun r38 H locs hp hz hk hS => ?_)
          obtain ⟨hI, er38⟩ := hp
          replace hI : md_I D cs H x g (upd i 0 1) f := hI
          refine lv_eqi (y := 0) er38 ?_
          refine lv_if_ne (x := 0) (tgt := 46) hx hb d_Md_outside_41 (by decide) (fun c41 => ?_) (fun c41 => ?_)
          · exact absurd c41 (by decide)
          · skip
            refine lv_iconst (v := 0) hx hb d_Md_outside_44 (by decide) ?_
            exact W.zret (v := 0) hx hb hr (by decide) (fun t ht hW => ⟨⟨0, H, rfl, by dsimp only; have e0 : (isN n q && isSt st) = false := (by first | (simp [c6, c13, c23, c29]; done) | (simp [c6, c13, c23, c29]; omega) | omega | simp_all); have e1 : (!decide (nu < 1) && !decide (999999 < nu)) = true := (by first | (simp [c6, c13, c23, c29]; done) | (simp [c6, c13, c23, c29]; omega) | omega | simp_all); rw [e0, e1]; rw [if_neg (show ¬ goB false true true = true by simp [goB])]; exact ⟨hI, rfl⟩, ht⟩, hS.F ht⟩) hS.2.2 d_Md_outside_45
    · skip
      replace c13 : (isSt st) = true := bI_1 c13
      refine lv_iconst (v := 1) hx hb d_Md_outside_16 (by decide) ?_
      refine lv_goto (tgt := 21) hx hb d_Md_outside_17 (by decide) ?_
      refine lv_iload_n hx hb d_Md_outside_21 rfl (lv_at hl 3 rfl) ?_
      refine lv_iconst (v := 1) hx hb d_Md_outside_22 (by decide) ?_
      refine lv_icmp_lt (x := nu) (y := 1) (tgt := 36) hx hb d_Md_outside_23 (by decide) (fun c23 => ?_) (fun c23 => ?_)
      · skip
        refine lv_iconst (v := 0) hx hb d_Md_outside_36 (by decide) ?_
        refine lv_iconst (v := 1) hx hb d_Md_outside_37 (by decide) ?_
        refine h_calli (va_runV (As := [.int 1, .int 0, .int 1]) (rest := []) ⟨hx, hb, hml, hown, htg⟩ (c_Md_goes l D cs N0 H x g i f true false true hsep hI) (cwV 3 htg (gw_V (gw_mem (i := 1092) (by decide +kernel) rfl) (gw_mem (i := 1094) (by decide +kernel) rfl) (gw_mem (i := 18) (by decide +kernel) rfl) (gw_mem (i := 38) (by decide +kernel) rfl) (gw_mem (i := 1095) (by decide +kernel) rfl)) rfl rfl rfl (by decide +kernel) ⟨Nat.le_of_ble_eq_true rfl, Nat.le_of_ble_eq_true rfl⟩) ⟨hPre.blind, hx_recv hK (ci := 0) rfl hI.1, hPre.at hB hS hsep.A⟩ rfl rfl hl.1 rfl (lv_room (Nat.le_of_ble_eq_true rfl)) d_Md_outside_38 ⟨Nat.zero_le _, Nat.zero_le _⟩) hS (fun _ h => h) (fun r38 H locs hp hz hk hS => ?_)
        obtain ⟨hI, er38⟩ := hp
        replace hI : md_I D cs H x g (upd i 0 2) f := hI
        refine lv_eqi (y := 0) er38 ?_
        refine lv_if_ne (x := 0) (tgt := 46) hx hb d_Md_outside_41 (by decide) (fun c41 => ?_) (fun c41 => ?_)
        · exact absurd c41 (by decide)
        · skip
          refine lv_iconst (v := 0) hx hb d_Md_outside_44 (by decide) ?_
          exact W.zret (v := 0) hx hb hr (by decide) (fun t ht hW => ⟨⟨0, H, rfl, by dsimp only; have e0 : (isN n q && isSt st) = true := (by first | (simp [c6, c13, c23]; done) | (simp [c6, c13, c23]; omega) | omega | simp_all); have e1 : (!decide (nu < 1) && !decide (999999 < nu)) = false := (by first | (simp [c6, c13, c23]; done) | (simp [c6, c13, c23]; omega) | omega | simp_all); rw [e0, e1]; rw [if_neg (show ¬ goB true false true = true by simp [goB])]; exact ⟨hI, rfl⟩, ht⟩, hS.F ht⟩) hS.2.2 d_Md_outside_45
      · skip
        refine lv_iload_n hx hb d_Md_outside_26 rfl (lv_at hl 3 rfl) ?_
        refine lv_ldc (v := 999999) hx hb hown (htg _ (gw_mem (i := 1207) (by decide +kernel) rfl)) d_Md_outside_27 ?_
        refine lv_icmp_gt (x := nu) (y := 999999) (tgt := 36) hx hb d_Md_outside_29 (by decide) (fun c29 => ?_) (fun c29 => ?_)
        · skip
          refine lv_iconst (v := 0) hx hb d_Md_outside_36 (by decide) ?_
          refine lv_iconst (v := 1) hx hb d_Md_outside_37 (by decide) ?_
          refine h_calli (va_runV (As := [.int 1, .int 0, .int 1]) (rest := []) ⟨hx, hb, hml, hown, htg⟩ (c_Md_goes l D cs N0 H x g i f true false true hsep hI) (cwV 3 htg (gw_V (gw_mem (i := 1092) (by decide +kernel) rfl) (gw_mem (i := 1094) (by decide +kernel) rfl) (gw_mem (i := 18) (by decide +kernel) rfl) (gw_mem (i := 38) (by decide +kernel) rfl) (gw_mem (i := 1095) (by decide +kernel) rfl)) rfl rfl rfl (by decide +kernel) ⟨Nat.le_of_ble_eq_true rfl, Nat.le_of_ble_eq_true rfl⟩) ⟨hPre.blind, hx_recv hK (ci := 0) rfl hI.1, hPre.at hB hS hsep.A⟩ rfl rfl hl.1 rfl (lv_room (Nat.le_of_ble_eq_true rfl)) d_Md_outside_38 ⟨Nat.zero_le _, Nat.zero_le _⟩) hS (fun _ h => h) (fun r38 H locs hp hz hk hS => ?_)
          obtain ⟨hI, er38⟩ := hp
          replace hI : md_I D cs H x g (upd i 0 2) f := hI
          refine lv_eqi (y := 0) er38 ?_
          refine lv_if_ne (x := 0) (tgt := 46) hx hb d_Md_outside_41 (by decide) (fun c41 => ?_) (fun c41 => ?_)
          · exact absurd c41 (by decide)
          · skip
            refine lv_iconst (v := 0) hx hb d_Md_outside_44 (by decide) ?_
            exact W.zret (v := 0) hx hb hr (by decide) (fun t ht hW => ⟨⟨0, H, rfl, by dsimp only; have e0 : (isN n q && isSt st) = true := (by first | (simp [c6, c13, c23, c29]; done) | (simp [c6, c13, c23, c29]; omega) | omega | simp_all); have e1 : (!decide (nu < 1) && !decide (999999 < nu)) = false := (by first | (simp [c6, c13, c23, c29]; done) | (simp [c6, c13, c23, c29]; omega) | omega | simp_all); rw [e0, e1]; rw [if_neg (show ¬ goB true false true = true by simp [goB])]; exact ⟨hI, rfl⟩, ht⟩, hS.F ht⟩) hS.2.2 d_Md_outside_45
        · skip
          refine lv_iconst (v := 1) hx hb d_Md_outside_32 (by decide) ?_
          refine lv_goto (tgt := 37) hx hb d_Md_outside_33 (by decide) ?_
          refine lv_iconst (v := 1) hx hb d_Md_outside_37 (by decide) ?_
          refine h_calli (va_runV (As := [.int 1, .int 1, .int 1]) (rest := []) ⟨hx, hb, hml, hown, htg⟩ (c_Md_goes l D cs N0 H x g i f true true true hsep hI) (cwV 3 htg (gw_V (gw_mem (i := 1092) (by decide +kernel) rfl) (gw_mem (i := 1094) (by decide +kernel) rfl) (gw_mem (i := 18) (by decide +kernel) rfl) (gw_mem (i := 38) (by decide +kernel) rfl) (gw_mem (i := 1095) (by decide +kernel) rfl)) rfl rfl rfl (by decide +kernel) ⟨Nat.le_of_ble_eq_true rfl, Nat.le_of_ble_eq_true rfl⟩) ⟨hPre.blind, hx_recv hK (ci := 0) rfl hI.1, hPre.at hB hS hsep.A⟩ rfl rfl hl.1 rfl (lv_room (Nat.le_of_ble_eq_true rfl)) d_Md_outside_38 ⟨Nat.zero_le _, Nat.zero_le _⟩) hS (fun _ h => h) (fun r38 H locs hp hz hk hS => ?_)
          obtain ⟨hI, er38⟩ := hp
          replace hI : md_I D cs H x g (upd i 0 0) f := hI
          refine lv_eqi (y := 1) er38 ?_
          refine lv_if_ne (x := 1) (tgt := 46) hx hb d_Md_outside_41 (by decide) (fun c41 => ?_) (fun c41 => ?_)
          · skip
            obtain ⟨ha, ea⟩ := isN_n c6 (by omega)
            obtain ⟨hst, es⟩ := isSt_n c13
            refine lv_aload_n hx hb d_Md_outside_46 rfl (lv_at hl 0 rfl) ?_
            refine lv_iload_n hx hb d_Md_outside_47 rfl (lv_at hl 2 rfl) ?_
            refine lv_eqi (y := (nI (tn st))) es ?_
            refine lv_iload_n hx hb d_Md_outside_48 rfl (lv_at hl 3 rfl) ?_
            refine h_calli (va_runV (As := [.int (nI (tn st)), .int nu]) (rest := []) ⟨hx, hb, hml, hown, htg⟩ (c_Md_owner l D cs N0 H x g ((upd i 0 0)) f (tn st) nu hsep hI n hn hn24 hst) (cwV 2 htg (gw_V (gw_mem (i := 1208) (by decide +kernel) rfl) (gw_mem (i := 1210) (by decide +kernel) rfl) (gw_mem (i := 28) (by decide +kernel) rfl) (gw_mem (i := 38) (by decide +kernel) rfl) (gw_mem (i := 1211) (by decide +kernel) rfl)) rfl rfl rfl (by decide +kernel) ⟨Nat.le_of_ble_eq_true rfl, Nat.le_of_ble_eq_true rfl⟩) ⟨hPre.blind, hx_recv hK (ci := 0) rfl hI.1, hPre.at hB hS hsep.A⟩ rfl rfl hl.1 rfl (lv_room (Nat.le_of_ble_eq_true rfl)) d_Md_outside_49 ⟨Nat.zero_le _, Nat.zero_le _⟩) hS (fun _ h => h) (fun r49 H locs hp hz hk hS => ?_)
            obtain ⟨hI, er49⟩ := hp
            refine lv_eqi (y := fstFrom (ownP f (tn st) nu) 0 n) er49 ?_
            refine lv_istore (lv' := [(4, .int (fstFrom (ownP f (tn st) nu) 0 n)), (0, .ref x), (1, .int q), (2, .int st), (3, .int nu)]) hx hb d_Md_outside_52 hl (by decide) rfl (fun ls hl => ?_)
            refine lv_iload hx hb d_Md_outside_54 (lv_at hl 0 rfl) ?_
            refine lv_iconst (v := (-1)) hx hb d_Md_outside_56 (by decide) ?_
            refine lv_icmp_eq (x := (fstFrom (ownP f (tn st) nu) 0 n)) (y := (-1)) (tgt := 68) hx hb d_Md_outside_57 (by decide) (fun c57 => ?_) (fun c57 => ?_)
            · skip
              refine lv_aload_n hx hb d_Md_outside_68 rfl (lv_at hl 1 rfl) ?_
              refine hx_get (v := .ref (g 12)) hx hb htg iMd hown hK hI.1 rfl 15 (by decide) (htg _ (gw_mem (i := 1013) (by decide +kernel) rfl)) (fun _ h9 => h9) rfl d_Md_outside_69 ?_
              refine lv_iconst (v := 4) hx hb d_Md_outside_72 (by decide) ?_
              refine lv_iload_n hx hb d_Md_outside_73 rfl (lv_at hl 2 rfl) ?_
              refine lv_eqi (y := (nI (tn q))) ea ?_
              refine lv_imul (x := 4) (y := (nI (tn q))) hx hb d_Md_outside_74 ?_
              refine lv_eqi (y := (nI (4 * (tn q)))) (pk_mul 4 (tn q)) ?_
              refine lv_iload_n hx hb d_Md_outside_75 rfl (lv_at hl 3 rfl) ?_
              refine lv_eqi (y := (nI (tn st))) es ?_
              refine lv_iadd (x := (nI (4 * (tn q)))) (y := (nI (tn st))) hx hb d_Md_outside_76 ?_
              refine lv_eqi (y := (nI (4 * (tn q) + tn st))) (nI_add (4 * (tn q)) (tn st)) ?_
              refine lv_iload_n hx hb d_Md_outside_77 rfl (lv_at hl 4 rfl) ?_
              refine hx_iast hx hb hK hS (Or.inr ⟨12, by decide, rfl⟩) 0 (hI.2 12 (by decide)) rfl (show vp_in (nI (4 * (tn q) + tn st)) 96 from vp_in_nI (n := 4 * (tn q) + tn st) (by omega) (by decide)) d_Md_outside_78 (fun H locs hat hz ho hS => ?_)
              replace hI : md_I D cs H x g (upd i 0 0) (updA f 12 (4 * (tn q) + tn st) (nu)) := md_I.puta hI hsep (by decide) (by rw [show ((nI (4 * (tn q) + tn st)) : Int32).toNatClampNeg = 4 * (tn q) + tn st from nI_clamp (n := 4 * (tn q) + tn st) (by omega)] at hat; exact hat) ho
              refine lv_iconst (v := 1) hx hb d_Md_outside_79 (by decide) ?_
              exact W.zret (v := 1) hx hb hr (by decide) (fun t ht hW => ⟨⟨1, H, rfl, by dsimp only; have e0 : (isN n q && isSt st) = true := (by first | (simp [c6, c13, c23, c29, c57]; done) | (simp [c6, c13, c23, c29, c57]; omega) | omega | simp_all); have e1 : (!decide (nu < 1) && !decide (999999 < nu)) = true := (by first | (simp [c6, c13, c23, c29, c57]; done) | (simp [c6, c13, c23, c29, c57]; omega) | omega | simp_all); rw [e0, e1]; rw [if_pos (show goB true true true = true from rfl)]; exact (by first | (rw [if_pos (by simp [c57, c63])]; exact ⟨hI, rfl⟩) | (rw [if_neg (by simp [c57])]; exact ⟨hI, rfl⟩)), ht⟩, hS.F ht⟩) hS.2.2 d_Md_outside_80
            · skip
              refine lv_iload hx hb d_Md_outside_60 (lv_at hl 0 rfl) ?_
              refine lv_iload_n hx hb d_Md_outside_62 rfl (lv_at hl 2 rfl) ?_
              refine lv_icmp_eq (x := (fstFrom (ownP f (tn st) nu) 0 n)) (y := q) (tgt := 68) hx hb d_Md_outside_63 (by decide) (fun c63 => ?_) (fun c63 => ?_)
              · skip
                refine lv_aload_n hx hb d_Md_outside_68 rfl (lv_at hl 1 rfl) ?_
                refine hx_get (v := .ref (g 12)) hx hb htg iMd hown hK hI.1 rfl 15 (by decide) (htg _ (gw_mem (i := 1013) (by decide +kernel) rfl)) (fun _ h9 => h9) rfl d_Md_outside_69 ?_
                refine lv_iconst (v := 4) hx hb d_Md_outside_72 (by decide) ?_
                refine lv_iload_n hx hb d_Md_outside_73 rfl (lv_at hl 2 rfl) ?_
                refine lv_eqi (y := (nI (tn q))) ea ?_
                refine lv_imul (x := 4) (y := (nI (tn q))) hx hb d_Md_outside_74 ?_
                refine lv_eqi (y := (nI (4 * (tn q)))) (pk_mul 4 (tn q)) ?_
                refine lv_iload_n hx hb d_Md_outside_75 rfl (lv_at hl 3 rfl) ?_
                refine lv_eqi (y := (nI (tn st))) es ?_
                refine lv_iadd (x := (nI (4 * (tn q)))) (y := (nI (tn st))) hx hb d_Md_outside_76 ?_
                refine lv_eqi (y := (nI (4 * (tn q) + tn st))) (nI_add (4 * (tn q)) (tn st)) ?_
                refine lv_iload_n hx hb d_Md_outside_77 rfl (lv_at hl 4 rfl) ?_
                refine hx_iast hx hb hK hS (Or.inr ⟨12, by decide, rfl⟩) 0 (hI.2 12 (by decide)) rfl (show vp_in (nI (4 * (tn q) + tn st)) 96 from vp_in_nI (n := 4 * (tn q) + tn st) (by omega) (by decide)) d_Md_outside_78 (fun H locs hat hz ho hS => ?_)
                replace hI : md_I D cs H x g (upd i 0 0) (updA f 12 (4 * (tn q) + tn st) (nu)) := md_I.puta hI hsep (by decide) (by rw [show ((nI (4 * (tn q) + tn st)) : Int32).toNatClampNeg = 4 * (tn q) + tn st from nI_clamp (n := 4 * (tn q) + tn st) (by omega)] at hat; exact hat) ho
                refine lv_iconst (v := 1) hx hb d_Md_outside_79 (by decide) ?_
                exact W.zret (v := 1) hx hb hr (by decide) (fun t ht hW => ⟨⟨1, H, rfl, by dsimp only; have e0 : (isN n q && isSt st) = true := (by first | (simp [c6, c13, c23, c29, c57, c63]; done) | (simp [c6, c13, c23, c29, c57, c63]; omega) | omega | simp_all); have e1 : (!decide (nu < 1) && !decide (999999 < nu)) = true := (by first | (simp [c6, c13, c23, c29, c57, c63]; done) | (simp [c6, c13, c23, c29, c57, c63]; omega) | omega | simp_all); rw [e0, e1]; rw [if_pos (show goB true true true = true from rfl)]; exact (by first | (rw [if_pos (by simp [c57, c63])]; exact ⟨hI, rfl⟩) | (rw [if_neg (by simp [c57, c63])]; exact ⟨hI, rfl⟩)), ht⟩, hS.F ht⟩) hS.2.2 d_Md_outside_80
              · skip
                refine lv_iconst (v := 0) hx hb d_Md_outside_66 (by decide) ?_
                exact W.zret (v := 0) hx hb hr (by decide) (fun t ht hW => ⟨⟨0, H, rfl, by dsimp only; have e0 : (isN n q && isSt st) = true := (by first | (simp [c6, c13, c23, c29, c57, c63]; done) | (simp [c6, c13, c23, c29, c57, c63]; omega) | omega | simp_all); have e1 : (!decide (nu < 1) && !decide (999999 < nu)) = true := (by first | (simp [c6, c13, c23, c29, c57, c63]; done) | (simp [c6, c13, c23, c29, c57, c63]; omega) | omega | simp_all); rw [e0, e1]; rw [if_pos (show goB true true true = true from rfl)]; exact (by first | (rw [if_pos (by simp [c57, c63])]; exact ⟨hI, rfl⟩) | (rw [if_neg (by simp [c57, c63])]; exact ⟨hI, rfl⟩)), ht⟩, hS.F ht⟩) hS.2.2 d_Md_outside_67
          · exact absurd c41 (by decide)
def y_Md_whose : MethodName := ⟨"NameMergesModel", "whose", "(II)I"⟩
abbrev w_Md_whose : List Cond := Cond.code y_Md_whose prog_7_method_34_code 3 (Option.some Jvm.ClassFile.FieldType.int) :: gw
theorem d_Md_whose_0 : decode prog_7_method_34_code 0 = .ok (.aload_n 0, 1) := by decide +kernel
theorem d_Md_whose_1 : decode prog_7_method_34_code 1 = .ok (.iload_n 1, 1) := by decide +kernel
theorem d_Md_whose_2 : decode prog_7_method_34_code 2 = .ok (.invokestatic 136, 3) := by decide +kernel
theorem d_Md_whose_5 : decode prog_7_method_34_code 5 = .ok (.iconst 1, 1) := by decide +kernel
theorem d_Md_whose_6 : decode prog_7_method_34_code 6 = .ok (.iconst 1, 1) := by decide +kernel
theorem d_Md_whose_7 : decode prog_7_method_34_code 7 = .ok (.invokevirtual 88, 3) := by decide +kernel
theorem d_Md_whose_10 : decode prog_7_method_34_code 10 = .ok (.ifCond .eq 12, 3) := by decide +kernel
theorem d_Md_whose_13 : decode prog_7_method_34_code 13 = .ok (.aload_n 0, 1) := by decide +kernel
theorem d_Md_whose_14 : decode prog_7_method_34_code 14 = .ok (.iload_n 1, 1) := by decide +kernel
theorem d_Md_whose_15 : decode prog_7_method_34_code 15 = .ok (.iload_n 2, 1) := by decide +kernel
theorem d_Md_whose_16 : decode prog_7_method_34_code 16 = .ok (.invokevirtual 140, 3) := by decide +kernel
theorem d_Md_whose_19 : decode prog_7_method_34_code 19 = .ok (.goto 4, 3) := by decide +kernel
theorem d_Md_whose_22 : decode prog_7_method_34_code 22 = .ok (.iconst 0, 1) := by decide +kernel
theorem d_Md_whose_23 : decode prog_7_method_34_code 23 = .ok (.ireturn, 1) := by decide +kernel
set_option maxHeartbeats 4000000 in
set_option maxRecDepth 100000 in
theorem c_Md_whose (l : Launch) (D : va_G) (cs : Nat → ClassId) (N0 : Nat) (H : Heap) (x : Nat) (g : Nat → Nat) (i : Nat → Int32) (f : Nat → Nat → Int32) (st nu : Int32) (hsep : md_sep N0 x g) (hI : md_I D cs H x g i f) (n : Nat) (hn : i 2 = nI n) (hn24 : n ≤ 24) : Met l y_Md_whose w_Md_whose ({ frames := 1, cells := 0, slots := 0, locals := 23 }) (hPre D cs N0 [.ref x, .int st, .int nu] H) (hQi (fun r H' => if goB (isSt st) true true = true then (md_I D cs H' x g (upd i 0 (goV (isSt st) true true)) f ∧ r = fstFrom (ownP f (tn st) nu) 0 n) else (md_I D cs H' x g (upd i 0 (goV (isSt st) true true)) f ∧ r = 0)) (md_A x g)) 0 0 (md_A x g) := by
  refine Met.ofW (cc := prog_7_method_34_code) (maxL := 3) (ret := (Option.some Jvm.ClassFile.FieldType.int)) (by decide) rfl ?_
  intro p e s m args below meth c s₁ B hml hv
  obtain ⟨rfl, rfl, hB⟩ := hv
  have hx := B.exec
  have hb := B.bytes
  have hr := B.returns
  have hts := atoms_spec (ws := w_Md_whose) B.pre
  have htg : ∀ w ∈ gw, w.before _ s = true := fun w h => hts w (List.mem_cons_of_mem _ h)
  have hown : s.vm.findClass "NameMergesModel" = some m.cls := findClass_of_methodNamed B.named
  have hlocks := B.notSynchronized
  have hK := hB.1
  have hS : va_S (md_A x g) s.heap s.heap [] := va_S.rf
  obtain ⟨H, hH⟩ : ∃ z : Heap, z = s.heap := ⟨_, rfl⟩
  rw [← hH] at hI
  have hS : va_S (md_A x g) s.heap H [] := by rw [hH]; exact va_S.rf
  have hl := lv_entry ([.ref x, .int st, .int nu]) (n := 3) (Nat.le_of_ble_eq_true rfl)
  rw [lg_entry_eq, ← hH]
  generalize (lg_sl ([.ref x, .int st, .int nu]) ++ List.replicate (3 - (lg_sl ([.ref x, .int st, .int nu])).length) Slot.unset).toArray = ls at hl ⊢
  have hl : lv_has ls 3 [(0, .ref x), (1, .int st), (2, .int nu)] := hl
  refine lv_aload_n hx hb d_Md_whose_0 rfl (lv_at hl 0 rfl) ?_
  refine lv_iload_n hx hb d_Md_whose_1 rfl (lv_at hl 1 rfl) ?_
  refine h_calli (va_runS (As := [.int st]) (rest := [.ref x]) ⟨hx, hb, hml, hown, htg⟩ (c_Md_isSet l D cs N0 H x g i f st hsep hI) (cwS 1 htg (gw_S (gw_mem (i := 1204) (by decide +kernel) rfl) (gw_mem (i := 1205) (by decide +kernel) rfl) (gw_mem (i := 38) (by decide +kernel) rfl) (gw_mem (i := 1206) (by decide +kernel) rfl)) rfl rfl rfl (by decide +kernel) ⟨Nat.le_of_ble_eq_true rfl, Nat.le_of_ble_eq_true rfl⟩) ⟨hPre.blind, hPre.at hB hS hsep.A⟩ rfl rfl hl.1 rfl (lv_room (Nat.le_of_ble_eq_true rfl)) d_Md_whose_2 ⟨Nat.zero_le _, Nat.zero_le _⟩) hS (fun _ h => h) (fun r2 H locs hp hz hk hS => ?_)
  obtain ⟨hI, er2⟩ := hp
  refine lv_eqi (y := (bI (isSt st))) er2 ?_
  refine lv_iconst (v := 1) hx hb d_Md_whose_5 (by decide) ?_
  refine lv_iconst (v := 1) hx hb d_Md_whose_6 (by decide) ?_
  refine h_calli (va_runV (As := [.int (bI (isSt st)), .int 1, .int 1]) (rest := []) ⟨hx, hb, hml, hown, htg⟩ (c_Md_goes l D cs N0 H x g i f (isSt st) true true hsep hI) (cwV 3 htg (gw_V (gw_mem (i := 1092) (by decide +kernel) rfl) (gw_mem (i := 1094) (by decide +kernel) rfl) (gw_mem (i := 18) (by decide +kernel) rfl) (gw_mem (i := 38) (by decide +kernel) rfl) (gw_mem (i := 1095) (by decide +kernel) rfl)) rfl rfl rfl (by decide +kernel) ⟨Nat.le_of_ble_eq_true rfl, Nat.le_of_ble_eq_true rfl⟩) ⟨hPre.blind, hx_recv hK (ci := 0) rfl hI.1, hPre.at hB hS hsep.A⟩ rfl rfl hl.1 rfl (lv_room (Nat.le_of_ble_eq_true rfl)) d_Md_whose_7 ⟨Nat.zero_le _, Nat.zero_le _⟩) hS (fun _ h => h) (fun r7 H locs hp hz hk hS => ?_)
  obtain ⟨hI, er7⟩ := hp
  refine lv_eqi (y := (bI (goB (isSt st) true true))) er7 ?_
  refine lv_if_eq (x := (bI (goB (isSt st) true true))) (tgt := 22) hx hb d_Md_whose_10 (by decide) (fun c10 => ?_) (fun c10 => ?_)
  · skip
    replace c10 : (goB (isSt st) true true) = false := bI_0 c10
    refine lv_iconst (v := 0) hx hb d_Md_whose_22 (by decide) ?_
    exact W.iret (v := 0) hx hb hr (fun t ht hW => ⟨⟨0, H, rfl, by dsimp only; rw [if_neg (show ¬ goB (isSt st) true true = true by rw [c10]; decide)]; exact ⟨hI, rfl⟩, ht⟩, hS.F ht⟩) hS.2.2 d_Md_whose_23
  · skip
    replace c10 : (goB (isSt st) true true) = true := bI_1 c10
    have hq : isSt st = true := by simpa [goB] using c10
    obtain ⟨hst, es⟩ := isSt_n hq
    refine lv_aload_n hx hb d_Md_whose_13 rfl (lv_at hl 0 rfl) ?_
    refine lv_iload_n hx hb d_Md_whose_14 rfl (lv_at hl 1 rfl) ?_
    refine lv_eqi (y := (nI (tn st))) es ?_
    refine lv_iload_n hx hb d_Md_whose_15 rfl (lv_at hl 2 rfl) ?_
    refine h_calli (va_runV (As := [.int (nI (tn st)), .int nu]) (rest := []) ⟨hx, hb, hml, hown, htg⟩ (c_Md_owner l D cs N0 H x g ((upd i 0 (goV (isSt st) true true))) f (tn st) nu hsep hI n hn hn24 hst) (cwV 2 htg (gw_V (gw_mem (i := 1208) (by decide +kernel) rfl) (gw_mem (i := 1210) (by decide +kernel) rfl) (gw_mem (i := 28) (by decide +kernel) rfl) (gw_mem (i := 38) (by decide +kernel) rfl) (gw_mem (i := 1211) (by decide +kernel) rfl)) rfl rfl rfl (by decide +kernel) ⟨Nat.le_of_ble_eq_true rfl, Nat.le_of_ble_eq_true rfl⟩) ⟨hPre.blind, hx_recv hK (ci := 0) rfl hI.1, hPre.at hB hS hsep.A⟩ rfl rfl hl.1 rfl (lv_room (Nat.le_of_ble_eq_true rfl)) d_Md_whose_16 ⟨Nat.zero_le _, Nat.zero_le _⟩) hS (fun _ h => h) (fun r16 H locs hp hz hk hS => ?_)
    obtain ⟨hI, er16⟩ := hp
    refine lv_eqi (y := fstFrom (ownP f (tn st) nu) 0 n) er16 ?_
    refine lv_goto (tgt := 23) hx hb d_Md_whose_19 (by decide) ?_
    exact W.iret (v := (fstFrom (ownP f (tn st) nu) 0 n)) hx hb hr (fun t ht hW => ⟨⟨(fstFrom (ownP f (tn st) nu) 0 n), H, rfl, by dsimp only; rw [if_pos c10]; exact ⟨hI, rfl⟩, ht⟩, hS.F ht⟩) hS.2.2 d_Md_whose_23
def y_Md_isPad : MethodName := ⟨"NameMergesModel", "isPad", "(I)Z"⟩
abbrev w_Md_isPad : List Cond := Cond.code y_Md_isPad prog_7_method_27_code 4 (Option.some Jvm.ClassFile.FieldType.boolean) :: gw
theorem d_Md_isPad_0 : decode prog_7_method_27_code 0 = .ok (.aload_n 0, 1) := by decide +kernel
theorem d_Md_isPad_1 : decode prog_7_method_27_code 1 = .ok (.getfield 85, 3) := by decide +kernel
theorem d_Md_isPad_4 : decode prog_7_method_27_code 4 = .ok (.ifCond .le 20, 3) := by decide +kernel
theorem d_Md_isPad_7 : decode prog_7_method_27_code 7 = .ok (.aload_n 0, 1) := by decide +kernel
theorem d_Md_isPad_8 : decode prog_7_method_27_code 8 = .ok (.getfield 16, 3) := by decide +kernel
theorem d_Md_isPad_11 : decode prog_7_method_27_code 11 = .ok (.iload_n 1, 1) := by decide +kernel
theorem d_Md_isPad_12 : decode prog_7_method_27_code 12 = .ok (.iaload, 1) := by decide +kernel
theorem d_Md_isPad_13 : decode prog_7_method_27_code 13 = .ok (.aload_n 0, 1) := by decide +kernel
theorem d_Md_isPad_14 : decode prog_7_method_27_code 14 = .ok (.getfield 85, 3) := by decide +kernel
theorem d_Md_isPad_17 : decode prog_7_method_27_code 17 = .ok (.if_icmp .ne 7, 3) := by decide +kernel
theorem d_Md_isPad_20 : decode prog_7_method_27_code 20 = .ok (.iconst 1, 1) := by decide +kernel
theorem d_Md_isPad_21 : decode prog_7_method_27_code 21 = .ok (.goto 4, 3) := by decide +kernel
theorem d_Md_isPad_24 : decode prog_7_method_27_code 24 = .ok (.iconst 0, 1) := by decide +kernel
theorem d_Md_isPad_25 : decode prog_7_method_27_code 25 = .ok (.istore_n 2, 1) := by decide +kernel
theorem d_Md_isPad_26 : decode prog_7_method_27_code 26 = .ok (.iconst 0, 1) := by decide +kernel
theorem d_Md_isPad_27 : decode prog_7_method_27_code 27 = .ok (.istore_n 3, 1) := by decide +kernel
theorem d_Md_isPad_28 : decode prog_7_method_27_code 28 = .ok (.iload_n 3, 1) := by decide +kernel
theorem d_Md_isPad_29 : decode prog_7_method_27_code 29 = .ok (.aload_n 0, 1) := by decide +kernel
theorem d_Md_isPad_30 : decode prog_7_method_27_code 30 = .ok (.getfield 85, 3) := by decide +kernel
theorem d_Md_isPad_33 : decode prog_7_method_27_code 33 = .ok (.if_icmp .ge 39, 3) := by decide +kernel
theorem d_Md_isPad_36 : decode prog_7_method_27_code 36 = .ok (.iload_n 2, 1) := by decide +kernel
theorem d_Md_isPad_37 : decode prog_7_method_27_code 37 = .ok (.ifCond .eq 35, 3) := by decide +kernel
theorem d_Md_isPad_40 : decode prog_7_method_27_code 40 = .ok (.aload_n 0, 1) := by decide +kernel
theorem d_Md_isPad_41 : decode prog_7_method_27_code 41 = .ok (.getfield 19, 3) := by decide +kernel
theorem d_Md_isPad_44 : decode prog_7_method_27_code 44 = .ok (.bipush 12, 2) := by decide +kernel
theorem d_Md_isPad_46 : decode prog_7_method_27_code 46 = .ok (.iload_n 1, 1) := by decide +kernel
theorem d_Md_isPad_47 : decode prog_7_method_27_code 47 = .ok (.imul, 1) := by decide +kernel
theorem d_Md_isPad_48 : decode prog_7_method_27_code 48 = .ok (.iload_n 3, 1) := by decide +kernel
theorem d_Md_isPad_49 : decode prog_7_method_27_code 49 = .ok (.iadd, 1) := by decide +kernel
theorem d_Md_isPad_50 : decode prog_7_method_27_code 50 = .ok (.iaload, 1) := by decide +kernel
theorem d_Md_isPad_51 : decode prog_7_method_27_code 51 = .ok (.aload_n 0, 1) := by decide +kernel
theorem d_Md_isPad_52 : decode prog_7_method_27_code 52 = .ok (.getfield 7, 3) := by decide +kernel
theorem d_Md_isPad_55 : decode prog_7_method_27_code 55 = .ok (.iload_n 3, 1) := by decide +kernel
theorem d_Md_isPad_56 : decode prog_7_method_27_code 56 = .ok (.iaload, 1) := by decide +kernel
theorem d_Md_isPad_57 : decode prog_7_method_27_code 57 = .ok (.if_icmp .ne 7, 3) := by decide +kernel
theorem d_Md_isPad_60 : decode prog_7_method_27_code 60 = .ok (.iconst 1, 1) := by decide +kernel
theorem d_Md_isPad_61 : decode prog_7_method_27_code 61 = .ok (.goto 4, 3) := by decide +kernel
theorem d_Md_isPad_64 : decode prog_7_method_27_code 64 = .ok (.iconst 0, 1) := by decide +kernel
theorem d_Md_isPad_65 : decode prog_7_method_27_code 65 = .ok (.istore_n 2, 1) := by decide +kernel
theorem d_Md_isPad_66 : decode prog_7_method_27_code 66 = .ok (.iinc 3 1, 3) := by decide +kernel
theorem d_Md_isPad_69 : decode prog_7_method_27_code 69 = .ok (.goto (-41), 3) := by decide +kernel
theorem d_Md_isPad_72 : decode prog_7_method_27_code 72 = .ok (.iload_n 2, 1) := by decide +kernel
theorem d_Md_isPad_73 : decode prog_7_method_27_code 73 = .ok (.ireturn, 1) := by decide +kernel
set_option maxHeartbeats 4000000 in
set_option maxRecDepth 100000 in
theorem c_Md_isPad (l : Launch) (D : va_G) (cs : Nat → ClassId) (N0 : Nat) (H : Heap) (x : Nat) (g : Nat → Nat) (i : Nat → Int32) (f : Nat → Nat → Int32) (v : Nat) (hsep : md_sep N0 x g) (hI : md_I D cs H x g i f) (pn : Nat) (hpn : i 1 = nI pn) (hp12 : pn ≤ 12) (hv : v < 96) : Met l y_Md_isPad w_Md_isPad ({ frames := 0, cells := 0, slots := 0, locals := 0 }) (hPre D cs N0 [.ref x, .int (nI v)] H) (hQi (fun r H' => md_I D cs H' x g i f ∧ r = bI (isPadB f pn v)) (md_A x g)) 0 0 (md_A x g) := by
  refine Met.ofW (cc := prog_7_method_27_code) (maxL := 4) (ret := (Option.some Jvm.ClassFile.FieldType.boolean)) (by decide) rfl ?_
  intro p e s m args below meth c s₁ B hml hv
  obtain ⟨rfl, rfl, hB⟩ := hv
  have hx := B.exec
  have hb := B.bytes
  have hr := B.returns
  have hts := atoms_spec (ws := w_Md_isPad) B.pre
  have htg : ∀ w ∈ gw, w.before _ s = true := fun w h => hts w (List.mem_cons_of_mem _ h)
  have hown : s.vm.findClass "NameMergesModel" = some m.cls := findClass_of_methodNamed B.named
  have hlocks := B.notSynchronized
  have hK := hB.1
  have hS : va_S (md_A x g) s.heap s.heap [] := va_S.rf
  obtain ⟨H, hH⟩ : ∃ z : Heap, z = s.heap := ⟨_, rfl⟩
  rw [← hH] at hI
  have hS : va_S (md_A x g) s.heap H [] := by rw [hH]; exact va_S.rf
  have hl := lv_entry ([.ref x, .int (nI v)]) (n := 4) (Nat.le_of_ble_eq_true rfl)
  rw [lg_entry_eq, ← hH]
  generalize (lg_sl ([.ref x, .int (nI v)]) ++ List.replicate (4 - (lg_sl ([.ref x, .int (nI v)])).length) Slot.unset).toArray = ls at hl ⊢
  have hl : lv_has ls 4 [(0, .ref x), (1, .int (nI v))] := hl
  have join25 : ∀ (b : Bool), ((!decide (pn ≤ 0) && decide (f 2 v = nI pn)) = b) → ∀ (locs : List Loc), va_S (md_A x g) s.heap H locs → ∀ (ls : Array Slot), lv_has ls 4 [(0, .ref x), (1, .int (nI v))] → W p l e (headSpec w_Md_isPad ({ frames := 0, cells := 0, slots := 0, locals := 0 })).room s m ([.ref x, .int (nI v)] : List Value).toArray below meth c H locs 0 0 (MQ below (hQi (fun r H' => md_I D cs H' x g i f ∧ r = bI (isPadB f pn v)) (md_A x g)) ([.ref x, .int (nI v)] : List Value).toArray s 0 0 (md_A x g)) (F0 m 25 ls [.int (bI b)]) := by
    intro b hb0 locs hS ls hl
    refine lv_istore_n (lv' := [(2, .int (bI b)), (0, .ref x), (1, .int (nI v))]) hx hb d_Md_isPad_25 rfl hl (by decide) rfl (fun ls hl => ?_)
    refine lv_iconst (v := 0) hx hb d_Md_isPad_26 (by decide) ?_
    refine lv_istore_n (lv' := [(3, .int 0), (2, .int (bI b)), (0, .ref x), (1, .int (nI v))]) hx hb d_Md_isPad_27 rfl hl (by decide) rfl (fun ls hl => ?_)
    have loop28 : ∀ (fuel : Nat) (b : Bool) (k : Nat), pn - k < fuel → (k ≤ pn) → (((!decide (pn ≤ 0) && decide (f 2 v = nI pn)) && allTo (padP f v) k) = b) → ∀ (locs : List Loc), va_S (md_A x g) s.heap H locs → ∀ (ls : Array Slot), lv_has ls 4 [(0, .ref x), (1, .int (nI v)), (2, .int (bI b)), (3, .int (nI k))] → W p l e (headSpec w_Md_isPad ({ frames := 0, cells := 0, slots := 0, locals := 0 })).room s m ([.ref x, .int (nI v)] : List Value).toArray below meth c H locs 0 0 (MQ below (hQi (fun r H' => md_I D cs H' x g i f ∧ r = bI (isPadB f pn v)) (md_A x g)) ([.ref x, .int (nI v)] : List Value).toArray s 0 0 (md_A x g)) (F0 m 28 ls []) := by
      intro fuel28
      induction fuel28 with
      | zero => intro b k hn; exact absurd hn (Nat.not_lt_zero _)
      | succ fuel28 ih28 =>
        intro b k hn28 hk hq9 locs hS ls hl
        refine lv_iload_n hx hb d_Md_isPad_28 rfl (lv_at hl 3 rfl) ?_
        refine lv_aload_n hx hb d_Md_isPad_29 rfl (lv_at hl 0 rfl) ?_
        refine hx_get (v := .int (i 1)) hx hb htg iMd hown hK hI.1 rfl 1 (by decide) (htg _ (gw_mem (i := 999) (by decide +kernel) rfl)) (fun _ h9 => h9) rfl d_Md_isPad_30 ?_
        refine lv_eqi (y := (nI pn)) hpn ?_
        refine lv_icmp_ge (x := (nI k)) (y := (nI pn)) (tgt := 72) hx hb d_Md_isPad_33 (by decide) (fun c33 => ?_) (fun c33 => ?_)
        · skip
          replace c33 : pn ≤ k := (nI_leI (a := pn) (b := k) (by omega) (by omega)).mp c33
          refine lv_iload_n hx hb d_Md_isPad_72 rfl (lv_at hl 2 rfl) ?_
          exact W.zret (v := (bI b)) hx hb hr (bI_z _) (fun t ht hW => ⟨⟨(bI b), H, rfl, ⟨hI, by have e9 : k = pn := (by omega); subst e9; rw [isPadB, hq9]⟩, ht⟩, hS.F ht⟩) hS.2.2 d_Md_isPad_73
        · skip
          replace c33 : ¬ (pn ≤ k) := fun z9 => c33 ((nI_leI (a := pn) (b := k) (by omega) (by omega)).mpr z9)
          refine lv_iload_n hx hb d_Md_isPad_36 rfl (lv_at hl 2 rfl) ?_
          refine lv_if_eq (x := (bI b)) (tgt := 72) hx hb d_Md_isPad_37 (by decide) (fun c37 => ?_) (fun c37 => ?_)
          · skip
            replace c37 : b = false := bI_0 c37
            refine lv_iload_n hx hb d_Md_isPad_72 rfl (lv_at hl 2 rfl) ?_
            exact W.zret (v := (bI b)) hx hb hr (bI_z _) (fun t ht hW => ⟨⟨(bI b), H, rfl, ⟨hI, by rw [isPadB, all_stop (hq9.trans c37) hk, c37]⟩, ht⟩, hS.F ht⟩) hS.2.2 d_Md_isPad_73
          · skip
            replace c37 : b = true := bI_1 c37
            refine lv_aload_n hx hb d_Md_isPad_40 rfl (lv_at hl 0 rfl) ?_
            refine hx_get (v := .ref (g 3)) hx hb htg iMd hown hK hI.1 rfl 6 (by decide) (htg _ (gw_mem (i := 1004) (by decide +kernel) rfl)) (fun _ h9 => h9) rfl d_Md_isPad_41 ?_
            refine lv_bipush (v := 12) hx hb d_Md_isPad_44 (by decide) ?_
            refine lv_iload_n hx hb d_Md_isPad_46 rfl (lv_at hl 1 rfl) ?_
            refine lv_imul (x := 12) (y := (nI v)) hx hb d_Md_isPad_47 ?_
            refine lv_eqi (y := (nI (12 * v))) (pk_mul 12 v) ?_
            refine lv_iload_n hx hb d_Md_isPad_48 rfl (lv_at hl 3 rfl) ?_
            refine lv_iadd (x := (nI (12 * v))) (y := (nI k)) hx hb d_Md_isPad_49 ?_
            refine lv_eqi (y := (nI (12 * v + k))) (nI_add (12 * v) k) ?_
            refine hx_iald hx hb hK 0 (hI.2 3 (by decide)) rfl (show vp_in (nI (12 * v + k)) 1152 from vp_in_nI (n := 12 * v + k) (by omega) (by decide)) d_Md_isPad_50 ?_
            refine lv_eqi (y := (f 3 (12 * v + k))) (show f 3 (nI (12 * v + k)).toNatClampNeg = _ by rw [nI_clamp (by omega)]) ?_
            refine lv_aload_n hx hb d_Md_isPad_51 rfl (lv_at hl 0 rfl) ?_
            refine hx_get (v := .ref (g 0)) hx hb htg iMd hown hK hI.1 rfl 2 (by decide) (htg _ (gw_mem (i := 1000) (by decide +kernel) rfl)) (fun _ h9 => h9) rfl d_Md_isPad_52 ?_
            refine lv_iload_n hx hb d_Md_isPad_55 rfl (lv_at hl 3 rfl) ?_
            refine hx_iald hx hb hK 0 (hI.2 0 (by decide)) rfl (show vp_in (nI k) 12 from vp_in_nI (n := k) (by omega) (by decide)) d_Md_isPad_56 ?_
            refine lv_eqi (y := (f 0 k)) (show f 0 (nI k).toNatClampNeg = _ by rw [nI_clamp (by omega)]) ?_
            refine lv_icmp_ne (x := (f 3 (12 * v + k))) (y := (f 0 k)) (tgt := 64) hx hb d_Md_isPad_57 (by decide) (fun c57 => ?_) (fun c57 => ?_)
            · skip
              refine lv_iconst (v := 0) hx hb d_Md_isPad_64 (by decide) ?_
              refine lv_istore_n (lv' := [(2, .int 0), (0, .ref x), (1, .int (nI v)), (3, .int (nI k))]) hx hb d_Md_isPad_65 rfl hl (by decide) rfl (fun ls hl => ?_)
              refine lv_iinc (v := (nI (k + 1))) (lv' := [(3, .int (nI (k + 1))), (2, .int 0), (0, .ref x), (1, .int (nI v))]) hx hb d_Md_isPad_66 hl (k := 3) rfl (nI_1 k) (by decide) rfl (fun ls hl => ?_)
              refine lv_goto (tgt := 28) hx hb d_Md_isPad_69 (by decide) ?_
              exact ih28  false (k + 1) (by omega) (by omega) (by rw [allTo, ← Bool.and_assoc, hq9, c37]; simp [padP, c57]) _ hS ls (lv_sub hl [2, 3, 1, 0] rfl)
            · skip
              refine lv_iconst (v := 1) hx hb d_Md_isPad_60 (by decide) ?_
              refine lv_goto (tgt := 65) hx hb d_Md_isPad_61 (by decide) ?_
              refine lv_istore_n (lv' := [(2, .int 1), (0, .ref x), (1, .int (nI v)), (3, .int (nI k))]) hx hb d_Md_isPad_65 rfl hl (by decide) rfl (fun ls hl => ?_)
              refine lv_iinc (v := (nI (k + 1))) (lv' := [(3, .int (nI (k + 1))), (2, .int 1), (0, .ref x), (1, .int (nI v))]) hx hb d_Md_isPad_66 hl (k := 3) rfl (nI_1 k) (by decide) rfl (fun ls hl => ?_)
              refine lv_goto (tgt := 28) hx hb d_Md_isPad_69 (by decide) ?_
              exact ih28  true (k + 1) (by omega) (by omega) (by rw [allTo, ← Bool.and_assoc, hq9, c37]; simp [padP, c57]) _ hS ls (lv_sub hl [2, 3, 1, 0] rfl)
    exact loop28 ((pn - 0) + 1) b 0 (Nat.lt_succ_self _) (Nat.zero_le _) (by rw [hb0]; simp [allTo]) _ hS ls (lv_sub hl [2, 3, 1, 0] rfl)
  refine lv_aload_n hx hb d_Md_isPad_0 rfl (lv_at hl 0 rfl) ?_
  refine hx_get (v := .int (i 1)) hx hb htg iMd hown hK hI.1 rfl 1 (by decide) (htg _ (gw_mem (i := 999) (by decide +kernel) rfl)) (fun _ h9 => h9) rfl d_Md_isPad_1 ?_
  refine lv_eqi (y := (nI pn)) hpn ?_
  refine lv_if_le (x := (nI pn)) (tgt := 24) hx hb d_Md_isPad_4 (by decide) (fun c4 => ?_) (fun c4 => ?_)
  · skip
    replace c4 : pn ≤ 0 := (nI_leI (a := pn) (b := 0) (by omega) (by omega)).mp c4
    refine lv_iconst (v := 0) hx hb d_Md_isPad_24 (by decide) ?_
    exact join25  false  (by simp [c4]) _ hS ls (lv_sub hl [0, 1] rfl)
  · skip
    replace c4 : ¬ (pn ≤ 0) := fun z9 => c4 ((nI_leI (a := pn) (b := 0) (by omega) (by omega)).mpr z9)
    refine lv_aload_n hx hb d_Md_isPad_7 rfl (lv_at hl 0 rfl) ?_
    refine hx_get (v := .ref (g 2)) hx hb htg iMd hown hK hI.1 rfl 5 (by decide) (htg _ (gw_mem (i := 1003) (by decide +kernel) rfl)) (fun _ h9 => h9) rfl d_Md_isPad_8 ?_
    refine lv_iload_n hx hb d_Md_isPad_11 rfl (lv_at hl 1 rfl) ?_
    refine hx_iald hx hb hK 0 (hI.2 2 (by decide)) rfl (show vp_in (nI v) 96 from vp_in_nI (n := v) (by omega) (by decide)) d_Md_isPad_12 ?_
    refine lv_eqi (y := (f 2 v)) (show f 2 (nI v).toNatClampNeg = _ by rw [nI_clamp (by omega)]) ?_
    refine lv_aload_n hx hb d_Md_isPad_13 rfl (lv_at hl 0 rfl) ?_
    refine hx_get (v := .int (i 1)) hx hb htg iMd hown hK hI.1 rfl 1 (by decide) (htg _ (gw_mem (i := 999) (by decide +kernel) rfl)) (fun _ h9 => h9) rfl d_Md_isPad_14 ?_
    refine lv_eqi (y := (nI pn)) hpn ?_
    refine lv_icmp_ne (x := (f 2 v)) (y := (nI pn)) (tgt := 24) hx hb d_Md_isPad_17 (by decide) (fun c17 => ?_) (fun c17 => ?_)
    · skip
      refine lv_iconst (v := 0) hx hb d_Md_isPad_24 (by decide) ?_
      exact join25  false  (by simp [c4, c17]) _ hS ls (lv_sub hl [0, 1] rfl)
    · skip
      refine lv_iconst (v := 1) hx hb d_Md_isPad_20 (by decide) ?_
      refine lv_goto (tgt := 25) hx hb d_Md_isPad_21 (by decide) ?_
      exact join25  true  (by simp [c4, c17]) _ hS ls (lv_sub hl [0, 1] rfl)
def y_Md_hasPad : MethodName := ⟨"NameMergesModel", "hasPad", "(II)Z"⟩
abbrev w_Md_hasPad : List Cond := Cond.code y_Md_hasPad prog_7_method_28_code 5 (Option.some Jvm.ClassFile.FieldType.boolean) :: gw
theorem d_Md_hasPad_0 : decode prog_7_method_28_code 0 = .ok (.iconst 0, 1) := by decide +kernel
theorem d_Md_hasPad_1 : decode prog_7_method_28_code 1 = .ok (.istore_n 3, 1) := by decide +kernel
theorem d_Md_hasPad_2 : decode prog_7_method_28_code 2 = .ok (.iconst 4, 1) := by decide +kernel
theorem d_Md_hasPad_3 : decode prog_7_method_28_code 3 = .ok (.iload_n 1, 1) := by decide +kernel
theorem d_Md_hasPad_4 : decode prog_7_method_28_code 4 = .ok (.imul, 1) := by decide +kernel
theorem d_Md_hasPad_5 : decode prog_7_method_28_code 5 = .ok (.istore 4, 2) := by decide +kernel
theorem d_Md_hasPad_7 : decode prog_7_method_28_code 7 = .ok (.iload 4, 2) := by decide +kernel
theorem d_Md_hasPad_9 : decode prog_7_method_28_code 9 = .ok (.iconst 4, 1) := by decide +kernel
theorem d_Md_hasPad_10 : decode prog_7_method_28_code 10 = .ok (.iload_n 1, 1) := by decide +kernel
theorem d_Md_hasPad_11 : decode prog_7_method_28_code 11 = .ok (.imul, 1) := by decide +kernel
theorem d_Md_hasPad_12 : decode prog_7_method_28_code 12 = .ok (.aload_n 0, 1) := by decide +kernel
theorem d_Md_hasPad_13 : decode prog_7_method_28_code 13 = .ok (.getfield 13, 3) := by decide +kernel
theorem d_Md_hasPad_16 : decode prog_7_method_28_code 16 = .ok (.iload_n 1, 1) := by decide +kernel
theorem d_Md_hasPad_17 : decode prog_7_method_28_code 17 = .ok (.iaload, 1) := by decide +kernel
theorem d_Md_hasPad_18 : decode prog_7_method_28_code 18 = .ok (.iadd, 1) := by decide +kernel
theorem d_Md_hasPad_19 : decode prog_7_method_28_code 19 = .ok (.if_icmp .ge 50, 3) := by decide +kernel
theorem d_Md_hasPad_22 : decode prog_7_method_28_code 22 = .ok (.iload_n 3, 1) := by decide +kernel
theorem d_Md_hasPad_23 : decode prog_7_method_28_code 23 = .ok (.ifCond .ne 34, 3) := by decide +kernel
theorem d_Md_hasPad_26 : decode prog_7_method_28_code 26 = .ok (.aload_n 0, 1) := by decide +kernel
theorem d_Md_hasPad_27 : decode prog_7_method_28_code 27 = .ok (.getfield 25, 3) := by decide +kernel
theorem d_Md_hasPad_30 : decode prog_7_method_28_code 30 = .ok (.iload 4, 2) := by decide +kernel
theorem d_Md_hasPad_32 : decode prog_7_method_28_code 32 = .ok (.iaload, 1) := by decide +kernel
theorem d_Md_hasPad_33 : decode prog_7_method_28_code 33 = .ok (.iload_n 2, 1) := by decide +kernel
theorem d_Md_hasPad_34 : decode prog_7_method_28_code 34 = .ok (.if_icmp .gt 27, 3) := by decide +kernel
theorem d_Md_hasPad_37 : decode prog_7_method_28_code 37 = .ok (.iload_n 2, 1) := by decide +kernel
theorem d_Md_hasPad_38 : decode prog_7_method_28_code 38 = .ok (.aload_n 0, 1) := by decide +kernel
theorem d_Md_hasPad_39 : decode prog_7_method_28_code 39 = .ok (.getfield 28, 3) := by decide +kernel
theorem d_Md_hasPad_42 : decode prog_7_method_28_code 42 = .ok (.iload 4, 2) := by decide +kernel
theorem d_Md_hasPad_44 : decode prog_7_method_28_code 44 = .ok (.iaload, 1) := by decide +kernel
theorem d_Md_hasPad_45 : decode prog_7_method_28_code 45 = .ok (.if_icmp .gt 16, 3) := by decide +kernel
theorem d_Md_hasPad_48 : decode prog_7_method_28_code 48 = .ok (.aload_n 0, 1) := by decide +kernel
theorem d_Md_hasPad_49 : decode prog_7_method_28_code 49 = .ok (.iload 4, 2) := by decide +kernel
theorem d_Md_hasPad_51 : decode prog_7_method_28_code 51 = .ok (.invokevirtual 127, 3) := by decide +kernel
theorem d_Md_hasPad_54 : decode prog_7_method_28_code 54 = .ok (.ifCond .eq 7, 3) := by decide +kernel
theorem d_Md_hasPad_57 : decode prog_7_method_28_code 57 = .ok (.iconst 1, 1) := by decide +kernel
theorem d_Md_hasPad_58 : decode prog_7_method_28_code 58 = .ok (.goto 4, 3) := by decide +kernel
theorem d_Md_hasPad_61 : decode prog_7_method_28_code 61 = .ok (.iconst 0, 1) := by decide +kernel
theorem d_Md_hasPad_62 : decode prog_7_method_28_code 62 = .ok (.istore_n 3, 1) := by decide +kernel
theorem d_Md_hasPad_63 : decode prog_7_method_28_code 63 = .ok (.iinc 4 1, 3) := by decide +kernel
theorem d_Md_hasPad_66 : decode prog_7_method_28_code 66 = .ok (.goto (-59), 3) := by decide +kernel
theorem d_Md_hasPad_69 : decode prog_7_method_28_code 69 = .ok (.iload_n 3, 1) := by decide +kernel
theorem d_Md_hasPad_70 : decode prog_7_method_28_code 70 = .ok (.ireturn, 1) := by decide +kernel
set_option maxHeartbeats 4000000 in
set_option maxRecDepth 100000 in
theorem c_Md_hasPad (l : Launch) (D : va_G) (cs : Nat → ClassId) (N0 : Nat) (H : Heap) (x : Nat) (g : Nat → Nat) (i : Nat → Int32) (f : Nat → Nat → Int32) (a : Nat) (dy : Int32) (hsep : md_sep N0 x g) (hI : md_I D cs H x g i f) (pn : Nat) (hpn : i 1 = nI pn) (hp12 : pn ≤ 12) (mn : Nat → Nat) (hm : ∀ a, a < 24 → f 1 a = nI (mn a) ∧ mn a ≤ 4) (ha : a < 24) : Met l y_Md_hasPad w_Md_hasPad ({ frames := 1, cells := 0, slots := 0, locals := 23 }) (hPre D cs N0 [.ref x, .int (nI a), .int dy] H) (hQi (fun r H' => md_I D cs H' x g i f ∧ r = bI (anyTo (hasP f pn a dy) (mn a))) (md_A x g)) 0 0 (md_A x g) := by
  refine Met.ofW (cc := prog_7_method_28_code) (maxL := 5) (ret := (Option.some Jvm.ClassFile.FieldType.boolean)) (by decide) rfl ?_
  intro p e s m args below meth c s₁ B hml hv
  obtain ⟨rfl, rfl, hB⟩ := hv
  have hx := B.exec
  have hb := B.bytes
  have hr := B.returns
  have hts := atoms_spec (ws := w_Md_hasPad) B.pre
  have htg : ∀ w ∈ gw, w.before _ s = true := fun w h => hts w (List.mem_cons_of_mem _ h)
  have hown : s.vm.findClass "NameMergesModel" = some m.cls := findClass_of_methodNamed B.named
  have hlocks := B.notSynchronized
  have hK := hB.1
  have hS : va_S (md_A x g) s.heap s.heap [] := va_S.rf
  obtain ⟨H, hH⟩ : ∃ z : Heap, z = s.heap := ⟨_, rfl⟩
  rw [← hH] at hI
  have hS : va_S (md_A x g) s.heap H [] := by rw [hH]; exact va_S.rf
  have hl := lv_entry ([.ref x, .int (nI a), .int dy]) (n := 5) (Nat.le_of_ble_eq_true rfl)
  rw [lg_entry_eq, ← hH]
  generalize (lg_sl ([.ref x, .int (nI a), .int dy]) ++ List.replicate (5 - (lg_sl ([.ref x, .int (nI a), .int dy])).length) Slot.unset).toArray = ls at hl ⊢
  have hl : lv_has ls 5 [(0, .ref x), (1, .int (nI a)), (2, .int dy)] := hl
  have hma := (hm a ha).2
  refine lv_iconst (v := 0) hx hb d_Md_hasPad_0 (by decide) ?_
  refine lv_istore_n (lv' := [(3, .int 0), (0, .ref x), (1, .int (nI a)), (2, .int dy)]) hx hb d_Md_hasPad_1 rfl hl (by decide) rfl (fun ls hl => ?_)
  refine lv_iconst (v := 4) hx hb d_Md_hasPad_2 (by decide) ?_
  refine lv_iload_n hx hb d_Md_hasPad_3 rfl (lv_at hl 2 rfl) ?_
  refine lv_imul (x := 4) (y := (nI a)) hx hb d_Md_hasPad_4 ?_
  refine lv_eqi (y := (nI (4 * a))) (pk_mul 4 a) ?_
  refine lv_istore (lv' := [(4, .int (nI (4 * a))), (3, .int 0), (0, .ref x), (1, .int (nI a)), (2, .int dy)]) hx hb d_Md_hasPad_5 hl (by decide) rfl (fun ls hl => ?_)
  have loop7 : ∀ (fuel : Nat) (b : Bool) (j : Nat), mn a - j < fuel → (j ≤ mn a) → (anyTo (hasP f pn a dy) j = b) → ∀ (H : Heap) (locs : List Loc), md_I D cs H x g i f → va_S (md_A x g) s.heap H locs → ∀ (ls : Array Slot), lv_has ls 5 [(0, .ref x), (1, .int (nI a)), (2, .int dy), (3, .int (bI b)), (4, .int (nI (4 * a + j)))] → W p l e (headSpec w_Md_hasPad ({ frames := 1, cells := 0, slots := 0, locals := 23 })).room s m ([.ref x, .int (nI a), .int dy] : List Value).toArray below meth c H locs 0 0 (MQ below (hQi (fun r H' => md_I D cs H' x g i f ∧ r = bI (anyTo (hasP f pn a dy) (mn a))) (md_A x g)) ([.ref x, .int (nI a), .int dy] : List Value).toArray s 0 0 (md_A x g)) (F0 m 7 ls []) := by
    intro fuel7
    induction fuel7 with
    | zero => intro b j hn; exact absurd hn (Nat.not_lt_zero _)
    | succ fuel7 ih7 =>
      intro b j hn7 hj hq9 H locs hI hS ls hl
      refine lv_iload hx hb d_Md_hasPad_7 (lv_at hl 4 rfl) ?_
      refine lv_iconst (v := 4) hx hb d_Md_hasPad_9 (by decide) ?_
      refine lv_iload_n hx hb d_Md_hasPad_10 rfl (lv_at hl 1 rfl) ?_
      refine lv_imul (x := 4) (y := (nI a)) hx hb d_Md_hasPad_11 ?_
      refine lv_eqi (y := (nI (4 * a))) (pk_mul 4 a) ?_
      refine lv_aload_n hx hb d_Md_hasPad_12 rfl (lv_at hl 0 rfl) ?_
      refine hx_get (v := .ref (g 1)) hx hb htg iMd hown hK hI.1 rfl 4 (by decide) (htg _ (gw_mem (i := 1002) (by decide +kernel) rfl)) (fun _ h9 => h9) rfl d_Md_hasPad_13 ?_
      refine lv_iload_n hx hb d_Md_hasPad_16 rfl (lv_at hl 1 rfl) ?_
      refine hx_iald hx hb hK 0 (hI.2 1 (by decide)) rfl (show vp_in (nI a) 24 from vp_in_nI (n := a) (by omega) (by decide)) d_Md_hasPad_17 ?_
      refine lv_eqi (y := (f 1 a)) (show f 1 (nI a).toNatClampNeg = _ by rw [nI_clamp (by omega)]) ?_
      refine lv_eqi (y := (nI (mn a))) (hm a ha).1 ?_
      have hma := (hm a ha).2
      refine lv_iadd (x := (nI (4 * a))) (y := (nI (mn a))) hx hb d_Md_hasPad_18 ?_
      refine lv_eqi (y := (nI (4 * a + mn a))) (nI_add (4 * a) (mn a)) ?_
      refine lv_icmp_ge (x := (nI (4 * a + j))) (y := (nI (4 * a + mn a))) (tgt := 69) hx hb d_Md_hasPad_19 (by decide) (fun c19 => ?_) (fun c19 => ?_)
      · skip
        replace c19 : (4 * a + mn a) ≤ (4 * a + j) := (nI_leI (a := (4 * a + mn a)) (b := (4 * a + j)) (by omega) (by omega)).mp c19
        refine lv_iload_n hx hb d_Md_hasPad_69 rfl (lv_at hl 3 rfl) ?_
        exact W.zret (v := (bI b)) hx hb hr (bI_z _) (fun t ht hW => ⟨⟨(bI b), H, rfl, ⟨hI, by have e9 : j = mn a := (by omega); subst e9; rw [hq9]⟩, ht⟩, hS.F ht⟩) hS.2.2 d_Md_hasPad_70
      · skip
        replace c19 : ¬ ((4 * a + mn a) ≤ (4 * a + j)) := fun z9 => c19 ((nI_leI (a := (4 * a + mn a)) (b := (4 * a + j)) (by omega) (by omega)).mpr z9)
        refine lv_iload_n hx hb d_Md_hasPad_22 rfl (lv_at hl 3 rfl) ?_
        refine lv_if_ne (x := (bI b)) (tgt := 57) hx hb d_Md_hasPad_23 (by decide) (fun c23 => ?_) (fun c23 => ?_)
        · skip
          replace c23 : b = true := bI_1 c23
          refine lv_iconst (v := 1) hx hb d_Md_hasPad_57 (by decide) ?_
          refine lv_goto (tgt := 62) hx hb d_Md_hasPad_58 (by decide) ?_
          refine lv_istore_n (lv' := [(3, .int 1), (0, .ref x), (1, .int (nI a)), (2, .int dy), (4, .int (nI (4 * a + j)))]) hx hb d_Md_hasPad_62 rfl hl (by decide) rfl (fun ls hl => ?_)
          refine lv_iinc (v := (nI (4 * a + j + 1))) (lv' := [(4, .int (nI (4 * a + j + 1))), (3, .int 1), (0, .ref x), (1, .int (nI a)), (2, .int dy)]) hx hb d_Md_hasPad_63 hl (k := 4) rfl (nI_1 (4 * a + j)) (by decide) rfl (fun ls hl => ?_)
          refine lv_goto (tgt := 7) hx hb d_Md_hasPad_66 (by decide) ?_
          exact ih7  true (j + 1) (by omega) (by omega) (by rw [anyTo, hq9]; simp [hasP, c23]) _ _ hI hS ls (lv_sub hl [2, 3, 4, 1, 0] rfl)
        · skip
          replace c23 : b = false := bI_0 c23
          refine lv_aload_n hx hb d_Md_hasPad_26 rfl (lv_at hl 0 rfl) ?_
          refine hx_get (v := .ref (g 5)) hx hb htg iMd hown hK hI.1 rfl 8 (by decide) (htg _ (gw_mem (i := 1006) (by decide +kernel) rfl)) (fun _ h9 => h9) rfl d_Md_hasPad_27 ?_
          refine lv_iload hx hb d_Md_hasPad_30 (lv_at hl 4 rfl) ?_
          refine hx_iald hx hb hK 0 (hI.2 5 (by decide)) rfl (show vp_in (nI (4 * a + j)) 96 from vp_in_nI (n := 4 * a + j) (by omega) (by decide)) d_Md_hasPad_32 ?_
          refine lv_eqi (y := (f 5 (4 * a + j))) (show f 5 (nI (4 * a + j)).toNatClampNeg = _ by rw [nI_clamp (by omega)]) ?_
          refine lv_iload_n hx hb d_Md_hasPad_33 rfl (lv_at hl 2 rfl) ?_
          refine lv_icmp_gt (x := (f 5 (4 * a + j))) (y := dy) (tgt := 61) hx hb d_Md_hasPad_34 (by decide) (fun c34 => ?_) (fun c34 => ?_)
          · skip
            refine lv_iconst (v := 0) hx hb d_Md_hasPad_61 (by decide) ?_
            refine lv_istore_n (lv' := [(3, .int 0), (0, .ref x), (1, .int (nI a)), (2, .int dy), (4, .int (nI (4 * a + j)))]) hx hb d_Md_hasPad_62 rfl hl (by decide) rfl (fun ls hl => ?_)
            refine lv_iinc (v := (nI (4 * a + j + 1))) (lv' := [(4, .int (nI (4 * a + j + 1))), (3, .int 0), (0, .ref x), (1, .int (nI a)), (2, .int dy)]) hx hb d_Md_hasPad_63 hl (k := 4) rfl (nI_1 (4 * a + j)) (by decide) rfl (fun ls hl => ?_)
            refine lv_goto (tgt := 7) hx hb d_Md_hasPad_66 (by decide) ?_
            exact ih7  false (j + 1) (by omega) (by omega) (by rw [anyTo, hq9]; simp [hasP, c23, c34]) _ _ hI hS ls (lv_sub hl [2, 3, 4, 1, 0] rfl)
          · skip
            refine lv_iload_n hx hb d_Md_hasPad_37 rfl (lv_at hl 2 rfl) ?_
            refine lv_aload_n hx hb d_Md_hasPad_38 rfl (lv_at hl 0 rfl) ?_
            refine hx_get (v := .ref (g 6)) hx hb htg iMd hown hK hI.1 rfl 9 (by decide) (htg _ (gw_mem (i := 1007) (by decide +kernel) rfl)) (fun _ h9 => h9) rfl d_Md_hasPad_39 ?_
            refine lv_iload hx hb d_Md_hasPad_42 (lv_at hl 4 rfl) ?_
            refine hx_iald hx hb hK 0 (hI.2 6 (by decide)) rfl (show vp_in (nI (4 * a + j)) 96 from vp_in_nI (n := 4 * a + j) (by omega) (by decide)) d_Md_hasPad_44 ?_
            refine lv_eqi (y := (f 6 (4 * a + j))) (show f 6 (nI (4 * a + j)).toNatClampNeg = _ by rw [nI_clamp (by omega)]) ?_
            refine lv_icmp_gt (x := dy) (y := (f 6 (4 * a + j))) (tgt := 61) hx hb d_Md_hasPad_45 (by decide) (fun c45 => ?_) (fun c45 => ?_)
            · skip
              refine lv_iconst (v := 0) hx hb d_Md_hasPad_61 (by decide) ?_
              refine lv_istore_n (lv' := [(3, .int 0), (0, .ref x), (1, .int (nI a)), (2, .int dy), (4, .int (nI (4 * a + j)))]) hx hb d_Md_hasPad_62 rfl hl (by decide) rfl (fun ls hl => ?_)
              refine lv_iinc (v := (nI (4 * a + j + 1))) (lv' := [(4, .int (nI (4 * a + j + 1))), (3, .int 0), (0, .ref x), (1, .int (nI a)), (2, .int dy)]) hx hb d_Md_hasPad_63 hl (k := 4) rfl (nI_1 (4 * a + j)) (by decide) rfl (fun ls hl => ?_)
              refine lv_goto (tgt := 7) hx hb d_Md_hasPad_66 (by decide) ?_
              exact ih7  false (j + 1) (by omega) (by omega) (by rw [anyTo, hq9]; simp [hasP, c23, c34, c45]) _ _ hI hS ls (lv_sub hl [2, 3, 4, 1, 0] rfl)
            · skip
              refine lv_aload_n hx hb d_Md_hasPad_48 rfl (lv_at hl 0 rfl) ?_
              refine lv_iload hx hb d_Md_hasPad_49 (lv_at hl 4 rfl) ?_
              refine h_calli (va_runV (As := [.int (nI (4 * a + j))]) (rest := []) ⟨hx, hb, hml, hown, htg⟩ (c_Md_isPad l D cs N0 H x g i f (4 * a + j) hsep hI pn hpn hp12 (by omega)) (cwV 1 htg (gw_V (gw_mem (i := 1192) (by decide +kernel) rfl) (gw_mem (i := 1194) (by decide +kernel) rfl) (gw_mem (i := 27) (by decide +kernel) rfl) (gw_mem (i := 38) (by decide +kernel) rfl) (gw_mem (i := 1195) (by decide +kernel) rfl)) rfl rfl rfl (by decide +kernel) ⟨Nat.le_of_ble_eq_true rfl, Nat.le_of_ble_eq_true rfl⟩) ⟨hPre.blind, hx_recv hK (ci := 0) rfl hI.1, hPre.at hB hS hsep.A⟩ rfl rfl hl.1 rfl (lv_room (Nat.le_of_ble_eq_true rfl)) d_Md_hasPad_51 ⟨Nat.zero_le _, Nat.zero_le _⟩) hS (fun _ h => h) (fun r51 H locs hp hz hk hS => ?_)
              obtain ⟨hI, er51⟩ := hp
              refine lv_eqi (y := bI (isPadB f pn (4 * a + j))) er51 ?_
              refine lv_if_eq (x := (bI (isPadB f pn (4 * a + j)))) (tgt := 61) hx hb d_Md_hasPad_54 (by decide) (fun c54 => ?_) (fun c54 => ?_)
              · skip
                replace c54 : (isPadB f pn (4 * a + j)) = false := bI_0 c54
                refine lv_iconst (v := 0) hx hb d_Md_hasPad_61 (by decide) ?_
                refine lv_istore_n (lv' := [(3, .int 0), (0, .ref x), (1, .int (nI a)), (2, .int dy), (4, .int (nI (4 * a + j)))]) hx hb d_Md_hasPad_62 rfl hl (by decide) rfl (fun ls hl => ?_)
                refine lv_iinc (v := (nI (4 * a + j + 1))) (lv' := [(4, .int (nI (4 * a + j + 1))), (3, .int 0), (0, .ref x), (1, .int (nI a)), (2, .int dy)]) hx hb d_Md_hasPad_63 hl (k := 4) rfl (nI_1 (4 * a + j)) (by decide) rfl (fun ls hl => ?_)
                refine lv_goto (tgt := 7) hx hb d_Md_hasPad_66 (by decide) ?_
                exact ih7  false (j + 1) (by omega) (by omega) (by rw [anyTo, hq9]; simp [hasP, c23, c34, c45, c54]) _ _ hI hS ls (lv_sub hl [2, 3, 4, 1, 0] rfl)
              · skip
                replace c54 : (isPadB f pn (4 * a + j)) = true := bI_1 c54
                refine lv_iconst (v := 1) hx hb d_Md_hasPad_57 (by decide) ?_
                refine lv_goto (tgt := 62) hx hb d_Md_hasPad_58 (by decide) ?_
                refine lv_istore_n (lv' := [(3, .int 1), (0, .ref x), (1, .int (nI a)), (2, .int dy), (4, .int (nI (4 * a + j)))]) hx hb d_Md_hasPad_62 rfl hl (by decide) rfl (fun ls hl => ?_)
                refine lv_iinc (v := (nI (4 * a + j + 1))) (lv' := [(4, .int (nI (4 * a + j + 1))), (3, .int 1), (0, .ref x), (1, .int (nI a)), (2, .int dy)]) hx hb d_Md_hasPad_63 hl (k := 4) rfl (nI_1 (4 * a + j)) (by decide) rfl (fun ls hl => ?_)
                refine lv_goto (tgt := 7) hx hb d_Md_hasPad_66 (by decide) ?_
                exact ih7  true (j + 1) (by omega) (by omega) (by rw [anyTo, hq9]; simp [hasP, c23, c34, c45, c54]) _ _ hI hS ls (lv_sub hl [2, 3, 4, 1, 0] rfl)
  exact loop7 ((mn a - 0) + 1) false 0 (Nat.lt_succ_self _) (Nat.zero_le _) rfl _ _ hI hS ls (lv_sub hl [2, 3, 4, 1, 0] rfl)
def y_Md_begin : MethodName := ⟨"NameMergesModel", "begin", "(II)Z"⟩
abbrev w_Md_begin : List Cond := Cond.code y_Md_begin prog_7_method_17_code 6 (Option.some Jvm.ClassFile.FieldType.boolean) :: gw
theorem d_Md_begin_0 : decode prog_7_method_17_code 0 = .ok (.iconst 0, 1) := by decide +kernel
theorem d_Md_begin_1 : decode prog_7_method_17_code 1 = .ok (.istore_n 3, 1) := by decide +kernel
theorem d_Md_begin_2 : decode prog_7_method_17_code 2 = .ok (.iconst 4, 1) := by decide +kernel
theorem d_Md_begin_3 : decode prog_7_method_17_code 3 = .ok (.iload_n 1, 1) := by decide +kernel
theorem d_Md_begin_4 : decode prog_7_method_17_code 4 = .ok (.imul, 1) := by decide +kernel
theorem d_Md_begin_5 : decode prog_7_method_17_code 5 = .ok (.istore 4, 2) := by decide +kernel
theorem d_Md_begin_7 : decode prog_7_method_17_code 7 = .ok (.iload 4, 2) := by decide +kernel
theorem d_Md_begin_9 : decode prog_7_method_17_code 9 = .ok (.iconst 4, 1) := by decide +kernel
theorem d_Md_begin_10 : decode prog_7_method_17_code 10 = .ok (.iload_n 1, 1) := by decide +kernel
theorem d_Md_begin_11 : decode prog_7_method_17_code 11 = .ok (.imul, 1) := by decide +kernel
theorem d_Md_begin_12 : decode prog_7_method_17_code 12 = .ok (.aload_n 0, 1) := by decide +kernel
theorem d_Md_begin_13 : decode prog_7_method_17_code 13 = .ok (.getfield 13, 3) := by decide +kernel
theorem d_Md_begin_16 : decode prog_7_method_17_code 16 = .ok (.iload_n 1, 1) := by decide +kernel
theorem d_Md_begin_17 : decode prog_7_method_17_code 17 = .ok (.iaload, 1) := by decide +kernel
theorem d_Md_begin_18 : decode prog_7_method_17_code 18 = .ok (.iadd, 1) := by decide +kernel
theorem d_Md_begin_19 : decode prog_7_method_17_code 19 = .ok (.if_icmp .ge 68, 3) := by decide +kernel
theorem d_Md_begin_22 : decode prog_7_method_17_code 22 = .ok (.iconst 4, 1) := by decide +kernel
theorem d_Md_begin_23 : decode prog_7_method_17_code 23 = .ok (.iload_n 2, 1) := by decide +kernel
theorem d_Md_begin_24 : decode prog_7_method_17_code 24 = .ok (.imul, 1) := by decide +kernel
theorem d_Md_begin_25 : decode prog_7_method_17_code 25 = .ok (.istore 5, 2) := by decide +kernel
theorem d_Md_begin_27 : decode prog_7_method_17_code 27 = .ok (.iload 5, 2) := by decide +kernel
theorem d_Md_begin_29 : decode prog_7_method_17_code 29 = .ok (.iconst 4, 1) := by decide +kernel
theorem d_Md_begin_30 : decode prog_7_method_17_code 30 = .ok (.iload_n 2, 1) := by decide +kernel
theorem d_Md_begin_31 : decode prog_7_method_17_code 31 = .ok (.imul, 1) := by decide +kernel
theorem d_Md_begin_32 : decode prog_7_method_17_code 32 = .ok (.aload_n 0, 1) := by decide +kernel
theorem d_Md_begin_33 : decode prog_7_method_17_code 33 = .ok (.getfield 13, 3) := by decide +kernel
theorem d_Md_begin_36 : decode prog_7_method_17_code 36 = .ok (.iload_n 2, 1) := by decide +kernel
theorem d_Md_begin_37 : decode prog_7_method_17_code 37 = .ok (.iaload, 1) := by decide +kernel
theorem d_Md_begin_38 : decode prog_7_method_17_code 38 = .ok (.iadd, 1) := by decide +kernel
theorem d_Md_begin_39 : decode prog_7_method_17_code 39 = .ok (.if_icmp .ge 42, 3) := by decide +kernel
theorem d_Md_begin_42 : decode prog_7_method_17_code 42 = .ok (.iload_n 3, 1) := by decide +kernel
theorem d_Md_begin_43 : decode prog_7_method_17_code 43 = .ok (.ifCond .ne 26, 3) := by decide +kernel
theorem d_Md_begin_46 : decode prog_7_method_17_code 46 = .ok (.aload_n 0, 1) := by decide +kernel
theorem d_Md_begin_47 : decode prog_7_method_17_code 47 = .ok (.getfield 19, 3) := by decide +kernel
theorem d_Md_begin_50 : decode prog_7_method_17_code 50 = .ok (.bipush 12, 2) := by decide +kernel
theorem d_Md_begin_52 : decode prog_7_method_17_code 52 = .ok (.iload 4, 2) := by decide +kernel
theorem d_Md_begin_54 : decode prog_7_method_17_code 54 = .ok (.imul, 1) := by decide +kernel
theorem d_Md_begin_55 : decode prog_7_method_17_code 55 = .ok (.iaload, 1) := by decide +kernel
theorem d_Md_begin_56 : decode prog_7_method_17_code 56 = .ok (.aload_n 0, 1) := by decide +kernel
theorem d_Md_begin_57 : decode prog_7_method_17_code 57 = .ok (.getfield 19, 3) := by decide +kernel
theorem d_Md_begin_60 : decode prog_7_method_17_code 60 = .ok (.bipush 12, 2) := by decide +kernel
theorem d_Md_begin_62 : decode prog_7_method_17_code 62 = .ok (.iload 5, 2) := by decide +kernel
theorem d_Md_begin_64 : decode prog_7_method_17_code 64 = .ok (.imul, 1) := by decide +kernel
theorem d_Md_begin_65 : decode prog_7_method_17_code 65 = .ok (.iaload, 1) := by decide +kernel
theorem d_Md_begin_66 : decode prog_7_method_17_code 66 = .ok (.if_icmp .ne 7, 3) := by decide +kernel
theorem d_Md_begin_69 : decode prog_7_method_17_code 69 = .ok (.iconst 1, 1) := by decide +kernel
theorem d_Md_begin_70 : decode prog_7_method_17_code 70 = .ok (.goto 4, 3) := by decide +kernel
theorem d_Md_begin_73 : decode prog_7_method_17_code 73 = .ok (.iconst 0, 1) := by decide +kernel
theorem d_Md_begin_74 : decode prog_7_method_17_code 74 = .ok (.istore_n 3, 1) := by decide +kernel
theorem d_Md_begin_75 : decode prog_7_method_17_code 75 = .ok (.iinc 5 1, 3) := by decide +kernel
theorem d_Md_begin_78 : decode prog_7_method_17_code 78 = .ok (.goto (-51), 3) := by decide +kernel
theorem d_Md_begin_81 : decode prog_7_method_17_code 81 = .ok (.iinc 4 1, 3) := by decide +kernel
theorem d_Md_begin_84 : decode prog_7_method_17_code 84 = .ok (.goto (-77), 3) := by decide +kernel
theorem d_Md_begin_87 : decode prog_7_method_17_code 87 = .ok (.iload_n 3, 1) := by decide +kernel
theorem d_Md_begin_88 : decode prog_7_method_17_code 88 = .ok (.ireturn, 1) := by decide +kernel
set_option maxHeartbeats 4000000 in
set_option maxRecDepth 100000 in
theorem c_Md_begin (l : Launch) (D : va_G) (cs : Nat → ClassId) (N0 : Nat) (H : Heap) (x : Nat) (g : Nat → Nat) (i : Nat → Int32) (f : Nat → Nat → Int32) (a b : Nat) (hsep : md_sep N0 x g) (hI : md_I D cs H x g i f) (mn : Nat → Nat) (hm : ∀ a, a < 24 → f 1 a = nI (mn a) ∧ mn a ≤ 4) (ha : a < 24) (hb1 : b < 24) : Met l y_Md_begin w_Md_begin ({ frames := 0, cells := 0, slots := 0, locals := 0 }) (hPre D cs N0 [.ref x, .int (nI a), .int (nI b)] H) (hQi (fun r H' => md_I D cs H' x g i f ∧ r = bI (begB f mn a b)) (md_A x g)) 0 0 (md_A x g) := by
  refine Met.ofW (cc := prog_7_method_17_code) (maxL := 6) (ret := (Option.some Jvm.ClassFile.FieldType.boolean)) (by decide) rfl ?_
  intro p e s m args below meth c s₁ B hml hv
  obtain ⟨rfl, rfl, hB⟩ := hv
  have hx := B.exec
  have hb := B.bytes
  have hr := B.returns
  have hts := atoms_spec (ws := w_Md_begin) B.pre
  have htg : ∀ w ∈ gw, w.before _ s = true := fun w h => hts w (List.mem_cons_of_mem _ h)
  have hown : s.vm.findClass "NameMergesModel" = some m.cls := findClass_of_methodNamed B.named
  have hlocks := B.notSynchronized
  have hK := hB.1
  have hS : va_S (md_A x g) s.heap s.heap [] := va_S.rf
  obtain ⟨H, hH⟩ : ∃ z : Heap, z = s.heap := ⟨_, rfl⟩
  rw [← hH] at hI
  have hS : va_S (md_A x g) s.heap H [] := by rw [hH]; exact va_S.rf
  have hl := lv_entry ([.ref x, .int (nI a), .int (nI b)]) (n := 6) (Nat.le_of_ble_eq_true rfl)
  rw [lg_entry_eq, ← hH]
  generalize (lg_sl ([.ref x, .int (nI a), .int (nI b)]) ++ List.replicate (6 - (lg_sl ([.ref x, .int (nI a), .int (nI b)])).length) Slot.unset).toArray = ls at hl ⊢
  have hl : lv_has ls 6 [(0, .ref x), (1, .int (nI a)), (2, .int (nI b))] := hl
  have hma := (hm a ha).2
  have hmb := (hm b hb1).2
  refine lv_iconst (v := 0) hx hb d_Md_begin_0 (by decide) ?_
  refine lv_istore_n (lv' := [(3, .int 0), (0, .ref x), (1, .int (nI a)), (2, .int (nI b))]) hx hb d_Md_begin_1 rfl hl (by decide) rfl (fun ls hl => ?_)
  refine lv_iconst (v := 4) hx hb d_Md_begin_2 (by decide) ?_
  refine lv_iload_n hx hb d_Md_begin_3 rfl (lv_at hl 2 rfl) ?_
  refine lv_imul (x := 4) (y := (nI a)) hx hb d_Md_begin_4 ?_
  refine lv_eqi (y := (nI (4 * a))) (pk_mul 4 a) ?_
  refine lv_istore (lv' := [(4, .int (nI (4 * a))), (3, .int 0), (0, .ref x), (1, .int (nI a)), (2, .int (nI b))]) hx hb d_Md_begin_5 hl (by decide) rfl (fun ls hl => ?_)
  have loop7 : ∀ (fuel : Nat) (z : Bool) (j : Nat), mn a - j < fuel → (j ≤ mn a) → (anyTo (fun j => anyTo (begP f a b j) (mn b)) j = z) → ∀ (locs : List Loc), va_S (md_A x g) s.heap H locs → ∀ (ls : Array Slot), lv_has ls 6 [(0, .ref x), (1, .int (nI a)), (2, .int (nI b)), (3, .int (bI z)), (4, .int (nI (4 * a + j)))] → W p l e (headSpec w_Md_begin ({ frames := 0, cells := 0, slots := 0, locals := 0 })).room s m ([.ref x, .int (nI a), .int (nI b)] : List Value).toArray below meth c H locs 0 0 (MQ below (hQi (fun r H' => md_I D cs H' x g i f ∧ r = bI (begB f mn a b)) (md_A x g)) ([.ref x, .int (nI a), .int (nI b)] : List Value).toArray s 0 0 (md_A x g)) (F0 m 7 ls []) := by
    intro fuel7
    induction fuel7 with
    | zero => intro z j hn; exact absurd hn (Nat.not_lt_zero _)
    | succ fuel7 ih7 =>
      intro z j hn7 hj hz9 locs hS ls hl
      refine lv_iload hx hb d_Md_begin_7 (lv_at hl 4 rfl) ?_
      refine lv_iconst (v := 4) hx hb d_Md_begin_9 (by decide) ?_
      refine lv_iload_n hx hb d_Md_begin_10 rfl (lv_at hl 1 rfl) ?_
      refine lv_imul (x := 4) (y := (nI a)) hx hb d_Md_begin_11 ?_
      refine lv_eqi (y := (nI (4 * a))) (pk_mul 4 a) ?_
      refine lv_aload_n hx hb d_Md_begin_12 rfl (lv_at hl 0 rfl) ?_
      refine hx_get (v := .ref (g 1)) hx hb htg iMd hown hK hI.1 rfl 4 (by decide) (htg _ (gw_mem (i := 1002) (by decide +kernel) rfl)) (fun _ h9 => h9) rfl d_Md_begin_13 ?_
      refine lv_iload_n hx hb d_Md_begin_16 rfl (lv_at hl 1 rfl) ?_
      refine hx_iald hx hb hK 0 (hI.2 1 (by decide)) rfl (show vp_in (nI a) 24 from vp_in_nI (n := a) (by omega) (by decide)) d_Md_begin_17 ?_
      refine lv_eqi (y := (f 1 a)) (show f 1 (nI a).toNatClampNeg = _ by rw [nI_clamp (by omega)]) ?_
      refine lv_eqi (y := (nI (mn a))) (hm a ha).1 ?_
      refine lv_iadd (x := (nI (4 * a))) (y := (nI (mn a))) hx hb d_Md_begin_18 ?_
      refine lv_eqi (y := (nI (4 * a + mn a))) (nI_add (4 * a) (mn a)) ?_
      refine lv_icmp_ge (x := (nI (4 * a + j))) (y := (nI (4 * a + mn a))) (tgt := 87) hx hb d_Md_begin_19 (by decide) (fun c19 => ?_) (fun c19 => ?_)
      · skip
        replace c19 : (4 * a + mn a) ≤ (4 * a + j) := (nI_leI (a := (4 * a + mn a)) (b := (4 * a + j)) (by omega) (by omega)).mp c19
        refine lv_iload_n hx hb d_Md_begin_87 rfl (lv_at hl 3 rfl) ?_
        exact W.zret (v := (bI z)) hx hb hr (bI_z _) (fun t ht hW => ⟨⟨(bI z), H, rfl, ⟨hI, by have e9 : j = mn a := (by omega); subst e9; rw [begB, hz9]⟩, ht⟩, hS.F ht⟩) hS.2.2 d_Md_begin_88
      · skip
        replace c19 : ¬ ((4 * a + mn a) ≤ (4 * a + j)) := fun z9 => c19 ((nI_leI (a := (4 * a + mn a)) (b := (4 * a + j)) (by omega) (by omega)).mpr z9)
        refine lv_iconst (v := 4) hx hb d_Md_begin_22 (by decide) ?_
        refine lv_iload_n hx hb d_Md_begin_23 rfl (lv_at hl 2 rfl) ?_
        refine lv_imul (x := 4) (y := (nI b)) hx hb d_Md_begin_24 ?_
        refine lv_eqi (y := (nI (4 * b))) (pk_mul 4 b) ?_
        refine lv_istore (lv' := [(5, .int (nI (4 * b))), (0, .ref x), (1, .int (nI a)), (2, .int (nI b)), (3, .int (bI z)), (4, .int (nI (4 * a + j)))]) hx hb d_Md_begin_25 hl (by decide) rfl (fun ls hl => ?_)
        have loop27 : ∀ (fuel : Nat) (y : Bool) (k : Nat), mn b - k < fuel → (k ≤ mn b) → ((z || anyTo (begP f a b j) k) = y) → ∀ (locs : List Loc), va_S (md_A x g) s.heap H locs → ∀ (ls : Array Slot), lv_has ls 6 [(0, .ref x), (1, .int (nI a)), (2, .int (nI b)), (3, .int (bI y)), (4, .int (nI (4 * a + j))), (5, .int (nI (4 * b + k)))] → W p l e (headSpec w_Md_begin ({ frames := 0, cells := 0, slots := 0, locals := 0 })).room s m ([.ref x, .int (nI a), .int (nI b)] : List Value).toArray below meth c H locs 0 0 (MQ below (hQi (fun r H' => md_I D cs H' x g i f ∧ r = bI (begB f mn a b)) (md_A x g)) ([.ref x, .int (nI a), .int (nI b)] : List Value).toArray s 0 0 (md_A x g)) (F0 m 27 ls []) := by
          intro fuel27
          induction fuel27 with
          | zero => intro y k hn; exact absurd hn (Nat.not_lt_zero _)
          | succ fuel27 ih27 =>
            intro y k hn27 hk hy locs hS ls hl
            refine lv_iload hx hb d_Md_begin_27 (lv_at hl 5 rfl) ?_
            refine lv_iconst (v := 4) hx hb d_Md_begin_29 (by decide) ?_
            refine lv_iload_n hx hb d_Md_begin_30 rfl (lv_at hl 2 rfl) ?_
            refine lv_imul (x := 4) (y := (nI b)) hx hb d_Md_begin_31 ?_
            refine lv_eqi (y := (nI (4 * b))) (pk_mul 4 b) ?_
            refine lv_aload_n hx hb d_Md_begin_32 rfl (lv_at hl 0 rfl) ?_
            refine hx_get (v := .ref (g 1)) hx hb htg iMd hown hK hI.1 rfl 4 (by decide) (htg _ (gw_mem (i := 1002) (by decide +kernel) rfl)) (fun _ h9 => h9) rfl d_Md_begin_33 ?_
            refine lv_iload_n hx hb d_Md_begin_36 rfl (lv_at hl 2 rfl) ?_
            refine hx_iald hx hb hK 0 (hI.2 1 (by decide)) rfl (show vp_in (nI b) 24 from vp_in_nI (n := b) (by omega) (by decide)) d_Md_begin_37 ?_
            refine lv_eqi (y := (f 1 b)) (show f 1 (nI b).toNatClampNeg = _ by rw [nI_clamp (by omega)]) ?_
            refine lv_eqi (y := (nI (mn b))) (hm b hb1).1 ?_
            refine lv_iadd (x := (nI (4 * b))) (y := (nI (mn b))) hx hb d_Md_begin_38 ?_
            refine lv_eqi (y := (nI (4 * b + mn b))) (nI_add (4 * b) (mn b)) ?_
            refine lv_icmp_ge (x := (nI (4 * b + k))) (y := (nI (4 * b + mn b))) (tgt := 81) hx hb d_Md_begin_39 (by decide) (fun c39 => ?_) (fun c39 => ?_)
            · skip
              replace c39 : (4 * b + mn b) ≤ (4 * b + k) := (nI_leI (a := (4 * b + mn b)) (b := (4 * b + k)) (by omega) (by omega)).mp c39
              refine lv_iinc (v := (nI (4 * a + j + 1))) (lv' := [(4, .int (nI (4 * a + j + 1))), (0, .ref x), (1, .int (nI a)), (2, .int (nI b)), (3, .int (bI y)), (5, .int (nI (4 * b + k)))]) hx hb d_Md_begin_81 hl (k := 4) rfl (nI_1 (4 * a + j)) (by decide) rfl (fun ls hl => ?_)
              refine lv_goto (tgt := 7) hx hb d_Md_begin_84 (by decide) ?_
              exact ih7  y (j + 1) (by omega) (by omega) (by rw [anyTo, hz9]; have e9 : k = mn b := (by omega); subst e9; exact hy) _ hS ls (lv_sub hl [1, 2, 3, 4, 0] rfl)
            · skip
              replace c39 : ¬ ((4 * b + mn b) ≤ (4 * b + k)) := fun z9 => c39 ((nI_leI (a := (4 * b + mn b)) (b := (4 * b + k)) (by omega) (by omega)).mpr z9)
              refine lv_iload_n hx hb d_Md_begin_42 rfl (lv_at hl 3 rfl) ?_
              refine lv_if_ne (x := (bI y)) (tgt := 69) hx hb d_Md_begin_43 (by decide) (fun c43 => ?_) (fun c43 => ?_)
              · skip
                replace c43 : y = true := bI_1 c43
                refine lv_iconst (v := 1) hx hb d_Md_begin_69 (by decide) ?_
                refine lv_goto (tgt := 74) hx hb d_Md_begin_70 (by decide) ?_
                refine lv_istore_n (lv' := [(3, .int 1), (0, .ref x), (1, .int (nI a)), (2, .int (nI b)), (4, .int (nI (4 * a + j))), (5, .int (nI (4 * b + k)))]) hx hb d_Md_begin_74 rfl hl (by decide) rfl (fun ls hl => ?_)
                refine lv_iinc (v := (nI (4 * b + k + 1))) (lv' := [(5, .int (nI (4 * b + k + 1))), (3, .int 1), (0, .ref x), (1, .int (nI a)), (2, .int (nI b)), (4, .int (nI (4 * a + j)))]) hx hb d_Md_begin_75 hl (k := 5) rfl (nI_1 (4 * b + k)) (by decide) rfl (fun ls hl => ?_)
                refine lv_goto (tgt := 27) hx hb d_Md_begin_78 (by decide) ?_
                exact ih27  true (k + 1) (by omega) (by omega) (by rw [anyTo, ← Bool.or_assoc, hy]; simp [begP, c43]) _ hS ls (lv_sub hl [2, 3, 4, 1, 5, 0] rfl)
              · skip
                replace c43 : y = false := bI_0 c43
                refine lv_aload_n hx hb d_Md_begin_46 rfl (lv_at hl 0 rfl) ?_
                refine hx_get (v := .ref (g 3)) hx hb htg iMd hown hK hI.1 rfl 6 (by decide) (htg _ (gw_mem (i := 1004) (by decide +kernel) rfl)) (fun _ h9 => h9) rfl d_Md_begin_47 ?_
                refine lv_bipush (v := 12) hx hb d_Md_begin_50 (by decide) ?_
                refine lv_iload hx hb d_Md_begin_52 (lv_at hl 4 rfl) ?_
                refine lv_imul (x := 12) (y := (nI (4 * a + j))) hx hb d_Md_begin_54 ?_
                refine lv_eqi (y := (nI (12 * (4 * a + j)))) (pk_mul 12 (4 * a + j)) ?_
                refine hx_iald hx hb hK 0 (hI.2 3 (by decide)) rfl (show vp_in (nI (12 * (4 * a + j))) 1152 from vp_in_nI (n := 12 * (4 * a + j)) (by omega) (by decide)) d_Md_begin_55 ?_
                refine lv_eqi (y := (f 3 (12 * (4 * a + j)))) (show f 3 (nI (12 * (4 * a + j))).toNatClampNeg = _ by rw [nI_clamp (by omega)]) ?_
                refine lv_aload_n hx hb d_Md_begin_56 rfl (lv_at hl 0 rfl) ?_
                refine hx_get (v := .ref (g 3)) hx hb htg iMd hown hK hI.1 rfl 6 (by decide) (htg _ (gw_mem (i := 1004) (by decide +kernel) rfl)) (fun _ h9 => h9) rfl d_Md_begin_57 ?_
                refine lv_bipush (v := 12) hx hb d_Md_begin_60 (by decide) ?_
                refine lv_iload hx hb d_Md_begin_62 (lv_at hl 5 rfl) ?_
                refine lv_imul (x := 12) (y := (nI (4 * b + k))) hx hb d_Md_begin_64 ?_
                refine lv_eqi (y := (nI (12 * (4 * b + k)))) (pk_mul 12 (4 * b + k)) ?_
                refine hx_iald hx hb hK 0 (hI.2 3 (by decide)) rfl (show vp_in (nI (12 * (4 * b + k))) 1152 from vp_in_nI (n := 12 * (4 * b + k)) (by omega) (by decide)) d_Md_begin_65 ?_
                refine lv_eqi (y := (f 3 (12 * (4 * b + k)))) (show f 3 (nI (12 * (4 * b + k))).toNatClampNeg = _ by rw [nI_clamp (by omega)]) ?_
                refine lv_icmp_ne (x := (f 3 (12 * (4 * a + j)))) (y := (f 3 (12 * (4 * b + k)))) (tgt := 73) hx hb d_Md_begin_66 (by decide) (fun c66 => ?_) (fun c66 => ?_)
                · skip
                  refine lv_iconst (v := 0) hx hb d_Md_begin_73 (by decide) ?_
                  refine lv_istore_n (lv' := [(3, .int 0), (0, .ref x), (1, .int (nI a)), (2, .int (nI b)), (4, .int (nI (4 * a + j))), (5, .int (nI (4 * b + k)))]) hx hb d_Md_begin_74 rfl hl (by decide) rfl (fun ls hl => ?_)
                  refine lv_iinc (v := (nI (4 * b + k + 1))) (lv' := [(5, .int (nI (4 * b + k + 1))), (3, .int 0), (0, .ref x), (1, .int (nI a)), (2, .int (nI b)), (4, .int (nI (4 * a + j)))]) hx hb d_Md_begin_75 hl (k := 5) rfl (nI_1 (4 * b + k)) (by decide) rfl (fun ls hl => ?_)
                  refine lv_goto (tgt := 27) hx hb d_Md_begin_78 (by decide) ?_
                  exact ih27  false (k + 1) (by omega) (by omega) (by rw [anyTo, ← Bool.or_assoc, hy]; simp [begP, c43, c66]) _ hS ls (lv_sub hl [2, 3, 4, 1, 5, 0] rfl)
                · skip
                  refine lv_iconst (v := 1) hx hb d_Md_begin_69 (by decide) ?_
                  refine lv_goto (tgt := 74) hx hb d_Md_begin_70 (by decide) ?_
                  refine lv_istore_n (lv' := [(3, .int 1), (0, .ref x), (1, .int (nI a)), (2, .int (nI b)), (4, .int (nI (4 * a + j))), (5, .int (nI (4 * b + k)))]) hx hb d_Md_begin_74 rfl hl (by decide) rfl (fun ls hl => ?_)
                  refine lv_iinc (v := (nI (4 * b + k + 1))) (lv' := [(5, .int (nI (4 * b + k + 1))), (3, .int 1), (0, .ref x), (1, .int (nI a)), (2, .int (nI b)), (4, .int (nI (4 * a + j)))]) hx hb d_Md_begin_75 hl (k := 5) rfl (nI_1 (4 * b + k)) (by decide) rfl (fun ls hl => ?_)
                  refine lv_goto (tgt := 27) hx hb d_Md_begin_78 (by decide) ?_
                  exact ih27  true (k + 1) (by omega) (by omega) (by rw [anyTo, ← Bool.or_assoc, hy]; simp [begP, c43, c66]) _ hS ls (lv_sub hl [2, 3, 4, 1, 5, 0] rfl)
        exact loop27 ((mn b - 0) + 1) z 0 (Nat.lt_succ_self _) (Nat.zero_le _) (by simp [anyTo]) _ hS ls (lv_sub hl [1, 2, 3, 4, 5, 0] rfl)
  exact loop7 ((mn a - 0) + 1) false 0 (Nat.lt_succ_self _) (Nat.zero_le _) rfl _ hS ls (lv_sub hl [2, 3, 4, 1, 0] rfl)
