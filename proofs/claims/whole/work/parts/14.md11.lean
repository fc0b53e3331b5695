def flI (Q : Nat → Bool) (m : Nat) (A : Nat → Int32) (c : Nat) : Prop := c = (selL Q m).length ∧ ∀ k p, (selL Q m)[k]? = some p → A k = nI p
theorem flI.miss {Q : Nat → Bool} {m c : Nat} {A : Nat → Int32} (h : flI Q m A c) (hq : Q m = false) : flI Q (m + 1) A c := by
  unfold flI; rw [sel_miss hq]; exact h
theorem flI.hit {Q : Nat → Bool} {m c : Nat} {A : Nat → Int32} (h : flI Q m A c) (hq : Q m = true) : flI Q (m + 1) (upd A c (nI m)) (c + 1) := by
  unfold flI
  rw [sel_hit hq]
  refine ⟨by rw [List.length_append, ← h.1]; rfl, fun k p hk => ?_⟩
  by_cases e : k < (selL Q m).length
  · rw [List.getElem?_append_left e] at hk
    rw [upd_ne (by rw [h.1]; omega)]
    exact h.2 k p hk
  · rw [List.getElem?_append_right (by omega)] at hk
    have e2 : k - (selL Q m).length < 1 := (List.getElem?_eq_some_iff.mp hk).1
    have e3 : k = c := by rw [h.1]; omega
    rw [show k - (selL Q m).length = 0 by omega] at hk
    cases hk
    subst e3
    rw [upd_self]
theorem flI.le {Q : Nat → Bool} {m c : Nat} {A : Nat → Int32} (h : flI Q m A c) : c ≤ m := by
  rw [h.1]
  have := List.length_filter_le Q (List.range m)
  rw [List.length_range] at this
  exact this
noncomputable def fdP (f : Nat → Nat → Int32) (mn mo mt : Nat → Nat) (mg pn : Nat) (dy : Int32) (m : Nat) : Nat → Bool := fun k => oneB mo mt (holdB f dy) mg k m && anyTo (hasP f pn k dy) (mn k)
noncomputable def fdQ (f : Nat → Nat → Int32) (mn mo mt : Nat → Nat) (mg pn n : Nat) (dy : Int32) : Nat → Bool := fun m => anyTo (fdP f mn mo mt mg pn dy m) n
theorem hasP_congr {F f : Nat → Nat → Int32} {pn a : Nat} {dy : Int32} (h : ∀ q, q ≠ 17 → q ≠ 20 → F q = f q) : hasP F pn a dy = hasP f pn a dy := by
  funext j
  unfold hasP isPadB
  have e : ∀ v, padP F v = padP f v := fun v => by funext k; unfold padP; rw [h 3 (by decide) (by decide), h 0 (by decide) (by decide)]
  rw [h 5 (by decide) (by decide), h 6 (by decide) (by decide), h 2 (by decide) (by decide), e]
def y_Md_find : MethodName := ⟨"NameMergesModel", "find", "(I)I"⟩
abbrev w_Md_find : List Cond := Cond.code y_Md_find prog_7_method_29_code 5 (Option.some Jvm.ClassFile.FieldType.int) :: gw
theorem d_Md_find_0 : decode prog_7_method_29_code 0 = .ok (.aload_n 0, 1) := by decide +kernel
theorem d_Md_find_1 : decode prog_7_method_29_code 1 = .ok (.iload_n 1, 1) := by decide +kernel
theorem d_Md_find_2 : decode prog_7_method_29_code 2 = .ok (.invokestatic 96, 3) := by decide +kernel
theorem d_Md_find_5 : decode prog_7_method_29_code 5 = .ok (.iconst 1, 1) := by decide +kernel
theorem d_Md_find_6 : decode prog_7_method_29_code 6 = .ok (.iconst 1, 1) := by decide +kernel
theorem d_Md_find_7 : decode prog_7_method_29_code 7 = .ok (.invokevirtual 88, 3) := by decide +kernel
theorem d_Md_find_10 : decode prog_7_method_29_code 10 = .ok (.ifCond .ne 5, 3) := by decide +kernel
theorem d_Md_find_13 : decode prog_7_method_29_code 13 = .ok (.iconst 0, 1) := by decide +kernel
theorem d_Md_find_14 : decode prog_7_method_29_code 14 = .ok (.ireturn, 1) := by decide +kernel
theorem d_Md_find_15 : decode prog_7_method_29_code 15 = .ok (.aload_n 0, 1) := by decide +kernel
theorem d_Md_find_16 : decode prog_7_method_29_code 16 = .ok (.iload_n 1, 1) := by decide +kernel
theorem d_Md_find_17 : decode prog_7_method_29_code 17 = .ok (.invokevirtual 109, 3) := by decide +kernel
theorem d_Md_find_20 : decode prog_7_method_29_code 20 = .ok (.aload_n 0, 1) := by decide +kernel
theorem d_Md_find_21 : decode prog_7_method_29_code 21 = .ok (.iconst 0, 1) := by decide +kernel
theorem d_Md_find_22 : decode prog_7_method_29_code 22 = .ok (.putfield 130, 3) := by decide +kernel
theorem d_Md_find_25 : decode prog_7_method_29_code 25 = .ok (.iconst 0, 1) := by decide +kernel
theorem d_Md_find_26 : decode prog_7_method_29_code 26 = .ok (.istore_n 2, 1) := by decide +kernel
theorem d_Md_find_27 : decode prog_7_method_29_code 27 = .ok (.iload_n 2, 1) := by decide +kernel
theorem d_Md_find_28 : decode prog_7_method_29_code 28 = .ok (.aload_n 0, 1) := by decide +kernel
theorem d_Md_find_29 : decode prog_7_method_29_code 29 = .ok (.getfield 81, 3) := by decide +kernel
theorem d_Md_find_32 : decode prog_7_method_29_code 32 = .ok (.if_icmp .ge 89, 3) := by decide +kernel
theorem d_Md_find_35 : decode prog_7_method_29_code 35 = .ok (.iconst 0, 1) := by decide +kernel
theorem d_Md_find_36 : decode prog_7_method_29_code 36 = .ok (.istore_n 3, 1) := by decide +kernel
theorem d_Md_find_37 : decode prog_7_method_29_code 37 = .ok (.iconst 0, 1) := by decide +kernel
theorem d_Md_find_38 : decode prog_7_method_29_code 38 = .ok (.istore 4, 2) := by decide +kernel
theorem d_Md_find_40 : decode prog_7_method_29_code 40 = .ok (.iload 4, 2) := by decide +kernel
theorem d_Md_find_42 : decode prog_7_method_29_code 42 = .ok (.aload_n 0, 1) := by decide +kernel
theorem d_Md_find_43 : decode prog_7_method_29_code 43 = .ok (.getfield 81, 3) := by decide +kernel
theorem d_Md_find_46 : decode prog_7_method_29_code 46 = .ok (.if_icmp .ge 45, 3) := by decide +kernel
theorem d_Md_find_49 : decode prog_7_method_29_code 49 = .ok (.iload_n 3, 1) := by decide +kernel
theorem d_Md_find_50 : decode prog_7_method_29_code 50 = .ok (.ifCond .ne 29, 3) := by decide +kernel
theorem d_Md_find_53 : decode prog_7_method_29_code 53 = .ok (.aload_n 0, 1) := by decide +kernel
theorem d_Md_find_54 : decode prog_7_method_29_code 54 = .ok (.getfield 62, 3) := by decide +kernel
theorem d_Md_find_57 : decode prog_7_method_29_code 57 = .ok (.iload 4, 2) := by decide +kernel
theorem d_Md_find_59 : decode prog_7_method_29_code 59 = .ok (.iaload, 1) := by decide +kernel
theorem d_Md_find_60 : decode prog_7_method_29_code 60 = .ok (.aload_n 0, 1) := by decide +kernel
theorem d_Md_find_61 : decode prog_7_method_29_code 61 = .ok (.getfield 62, 3) := by decide +kernel
theorem d_Md_find_64 : decode prog_7_method_29_code 64 = .ok (.iload_n 2, 1) := by decide +kernel
theorem d_Md_find_65 : decode prog_7_method_29_code 65 = .ok (.iaload, 1) := by decide +kernel
theorem d_Md_find_66 : decode prog_7_method_29_code 66 = .ok (.if_icmp .ne 17, 3) := by decide +kernel
theorem d_Md_find_69 : decode prog_7_method_29_code 69 = .ok (.aload_n 0, 1) := by decide +kernel
theorem d_Md_find_70 : decode prog_7_method_29_code 70 = .ok (.iload 4, 2) := by decide +kernel
theorem d_Md_find_72 : decode prog_7_method_29_code 72 = .ok (.iload_n 1, 1) := by decide +kernel
theorem d_Md_find_73 : decode prog_7_method_29_code 73 = .ok (.invokevirtual 133, 3) := by decide +kernel
theorem d_Md_find_76 : decode prog_7_method_29_code 76 = .ok (.ifCond .eq 7, 3) := by decide +kernel
theorem d_Md_find_79 : decode prog_7_method_29_code 79 = .ok (.iconst 1, 1) := by decide +kernel
theorem d_Md_find_80 : decode prog_7_method_29_code 80 = .ok (.goto 4, 3) := by decide +kernel
theorem d_Md_find_83 : decode prog_7_method_29_code 83 = .ok (.iconst 0, 1) := by decide +kernel
theorem d_Md_find_84 : decode prog_7_method_29_code 84 = .ok (.istore_n 3, 1) := by decide +kernel
theorem d_Md_find_85 : decode prog_7_method_29_code 85 = .ok (.iinc 4 1, 3) := by decide +kernel
theorem d_Md_find_88 : decode prog_7_method_29_code 88 = .ok (.goto (-48), 3) := by decide +kernel
theorem d_Md_find_91 : decode prog_7_method_29_code 91 = .ok (.iload_n 3, 1) := by decide +kernel
theorem d_Md_find_92 : decode prog_7_method_29_code 92 = .ok (.ifCond .eq 23, 3) := by decide +kernel
theorem d_Md_find_95 : decode prog_7_method_29_code 95 = .ok (.aload_n 0, 1) := by decide +kernel
theorem d_Md_find_96 : decode prog_7_method_29_code 96 = .ok (.getfield 71, 3) := by decide +kernel
theorem d_Md_find_99 : decode prog_7_method_29_code 99 = .ok (.aload_n 0, 1) := by decide +kernel
theorem d_Md_find_100 : decode prog_7_method_29_code 100 = .ok (.getfield 130, 3) := by decide +kernel
theorem d_Md_find_103 : decode prog_7_method_29_code 103 = .ok (.iload_n 2, 1) := by decide +kernel
theorem d_Md_find_104 : decode prog_7_method_29_code 104 = .ok (.iastore, 1) := by decide +kernel
theorem d_Md_find_105 : decode prog_7_method_29_code 105 = .ok (.aload_n 0, 1) := by decide +kernel
theorem d_Md_find_106 : decode prog_7_method_29_code 106 = .ok (.dup, 1) := by decide +kernel
theorem d_Md_find_107 : decode prog_7_method_29_code 107 = .ok (.getfield 130, 3) := by decide +kernel
theorem d_Md_find_110 : decode prog_7_method_29_code 110 = .ok (.iconst 1, 1) := by decide +kernel
theorem d_Md_find_111 : decode prog_7_method_29_code 111 = .ok (.iadd, 1) := by decide +kernel
theorem d_Md_find_112 : decode prog_7_method_29_code 112 = .ok (.putfield 130, 3) := by decide +kernel
theorem d_Md_find_115 : decode prog_7_method_29_code 115 = .ok (.iinc 2 1, 3) := by decide +kernel
theorem d_Md_find_118 : decode prog_7_method_29_code 118 = .ok (.goto (-91), 3) := by decide +kernel
theorem d_Md_find_121 : decode prog_7_method_29_code 121 = .ok (.aload_n 0, 1) := by decide +kernel
theorem d_Md_find_122 : decode prog_7_method_29_code 122 = .ok (.getfield 130, 3) := by decide +kernel
theorem d_Md_find_125 : decode prog_7_method_29_code 125 = .ok (.ireturn, 1) := by decide +kernel
set_option maxHeartbeats 4000000 in
set_option maxRecDepth 100000 in
theorem c_Md_find (l : Launch) (D : va_G) (cs : Nat → ClassId) (N0 : Nat) (H : Heap) (x : Nat) (g : Nat → Nat) (i : Nat → Int32) (f : Nat → Nat → Int32) (dy : Int32) (hsep : md_sep N0 x g) (hI : md_I D cs H x g i f) (n : Nat) (hn : i 2 = nI n) (hn24 : n ≤ 24) (pn : Nat) (hpn : i 1 = nI pn) (hp12 : pn ≤ 12) (mn : Nat → Nat) (hm : ∀ a, a < 24 → f 1 a = nI (mn a) ∧ mn a ≤ 4) (mg : Nat) (hmg : i 3 = nI mg) (hmg60 : mg ≤ 60) (mo mt : Nat → Nat) (hone : ∀ k, k < mg → f 13 k = nI (mo k) ∧ mo k < 24) (hoth : ∀ k, k < mg → f 14 k = nI (mt k) ∧ mt k < 24) : Met l y_Md_find w_Md_find ({ frames := 2, cells := 0, slots := 0, locals := 47 }) (hPre D cs N0 [.ref x, .int dy] H) (hQi (fun r H' => if goB (isD dy) true true = true then (∃ (c9 : Nat) (F9 : Nat → Nat → Int32), md_I D cs H' x g (upd (upd i 0 (goV (isD dy) true true)) 5 (nI c9)) F9 ∧ r = nI c9 ∧ flI (fdQ f mn mo mt mg pn n dy) n (F9 20) c9 ∧ ∀ q, q ≠ 17 → q ≠ 20 → F9 q = f q) else (md_I D cs H' x g (upd i 0 (goV (isD dy) true true)) f ∧ r = 0)) (md_A x g)) 0 0 (md_A x g) := by
  refine Met.ofW (cc := prog_7_method_29_code) (maxL := 5) (ret := (Option.some Jvm.ClassFile.FieldType.int)) (by decide) rfl ?_
  intro p e s m args below meth c s₁ B hml hv
  obtain ⟨rfl, rfl, hB⟩ := hv
  have hx := B.exec
  have hb := B.bytes
  have hr := B.returns
  have hts := atoms_spec (ws := w_Md_find) B.pre
  have htg : ∀ w ∈ gw, w.before _ s = true := fun w h => hts w (List.mem_cons_of_mem _ h)
  have hown : s.vm.findClass "NameMergesModel" = some m.cls := findClass_of_methodNamed B.named
  have hlocks := B.notSynchronized
  have hK := hB.1
  have hS : va_S (md_A x g) s.heap s.heap [] := va_S.rf
  obtain ⟨H, hH⟩ : ∃ z : Heap, z = s.heap := ⟨_, rfl⟩
  rw [← hH] at hI
  have hS : va_S (md_A x g) s.heap H [] := by rw [hH]; exact va_S.rf
  have hl := lv_entry ([.ref x, .int dy]) (n := 5) (Nat.le_of_ble_eq_true rfl)
  rw [lg_entry_eq, ← hH]
  generalize (lg_sl ([.ref x, .int dy]) ++ List.replicate (5 - (lg_sl ([.ref x, .int dy])).length) Slot.unset).toArray = ls at hl ⊢
  have hl : lv_has ls 5 [(0, .ref x), (1, .int dy)] := hl
  refine lv_aload_n hx hb d_Md_find_0 rfl (lv_at hl 0 rfl) ?_
  refine lv_iload_n hx hb d_Md_find_1 rfl (lv_at hl 1 rfl) ?_
  refine h_calli (va_runS (As := [.int dy]) (rest := [.ref x]) ⟨hx, hb, hml, hown, htg⟩ (c_Md_isDay l D cs N0 H x g i f dy hsep hI) (cwS 1 htg (gw_S (gw_mem (i := 1112) (by decide +kernel) rfl) (gw_mem (i := 1113) (by decide +kernel) rfl) (gw_mem (i := 38) (by decide +kernel) rfl) (gw_mem (i := 1114) (by decide +kernel) rfl)) rfl rfl rfl (by decide +kernel) ⟨Nat.le_of_ble_eq_true rfl, Nat.le_of_ble_eq_true rfl⟩) ⟨hPre.blind, hPre.at hB hS hsep.A⟩ rfl rfl hl.1 rfl (lv_room (Nat.le_of_ble_eq_true rfl)) d_Md_find_2 ⟨Nat.zero_le _, Nat.zero_le _⟩) hS (fun _ h => h) (fun r2 H locs hp hz hk hS => ?_)
  obtain ⟨hI, er2⟩ := hp
  refine lv_eqi (y := (bI (isD dy))) er2 ?_
  refine lv_iconst (v := 1) hx hb d_Md_find_5 (by decide) ?_
  refine lv_iconst (v := 1) hx hb d_Md_find_6 (by decide) ?_
  refine h_calli (va_runV (As := [.int (bI (isD dy)), .int 1, .int 1]) (rest := []) ⟨hx, hb, hml, hown, htg⟩ (c_Md_goes l D cs N0 H x g i f (isD dy) true true hsep hI) (cwV 3 htg (gw_V (gw_mem (i := 1092) (by decide +kernel) rfl) (gw_mem (i := 1094) (by decide +kernel) rfl) (gw_mem (i := 18) (by decide +kernel) rfl) (gw_mem (i := 38) (by decide +kernel) rfl) (gw_mem (i := 1095) (by decide +kernel) rfl)) rfl rfl rfl (by decide +kernel) ⟨Nat.le_of_ble_eq_true rfl, Nat.le_of_ble_eq_true rfl⟩) ⟨hPre.blind, hx_recv hK (ci := 0) rfl hI.1, hPre.at hB hS hsep.A⟩ rfl rfl hl.1 rfl (lv_room (Nat.le_of_ble_eq_true rfl)) d_Md_find_7 ⟨Nat.zero_le _, Nat.zero_le _⟩) hS (fun _ h => h) (fun r7 H locs hp hz hk hS => ?_)
  obtain ⟨hI, er7⟩ := hp
  refine lv_eqi (y := (bI (goB (isD dy) true true))) er7 ?_
  refine lv_if_ne (x := (bI (goB (isD dy) true true))) (tgt := 15) hx hb d_Md_find_10 (by decide) (fun c10 => ?_) (fun c10 => ?_)
  · skip
    replace c10 : (goB (isD dy) true true) = true := bI_1 c10
    refine lv_aload_n hx hb d_Md_find_15 rfl (lv_at hl 0 rfl) ?_
    refine lv_iload_n hx hb d_Md_find_16 rfl (lv_at hl 1 rfl) ?_
    refine h_callv (va_runV (As := [.int dy]) (rest := []) ⟨hx, hb, hml, hown, htg⟩ (c_Md_join l D cs N0 H x g ((upd i 0 (goV (isD dy) true true))) f dy hsep hI mg hmg hmg60 mo mt hone hoth) (cwV 1 htg (gw_V (gw_mem (i := 1136) (by decide +kernel) rfl) (gw_mem (i := 1138) (by decide +kernel) rfl) (gw_mem (i := 22) (by decide +kernel) rfl) (gw_mem (i := 38) (by decide +kernel) rfl) (gw_mem (i := 1139) (by decide +kernel) rfl)) rfl rfl rfl (by decide +kernel) ⟨Nat.le_of_ble_eq_true rfl, Nat.le_of_ble_eq_true rfl⟩) ⟨hPre.blind, hx_recv hK (ci := 0) rfl hI.1, hPre.at hB hS hsep.A⟩ rfl rfl hl.1 rfl (lv_room (Nat.le_of_ble_eq_true rfl)) d_Md_find_17 ⟨Nat.zero_le _, Nat.zero_le _⟩) hS (fun _ h => h) (fun  H locs hp hz hk hS => ?_)
    obtain ⟨G, gl, hI, hGgl, hCgl⟩ := hp
    refine lv_aload_n hx hb d_Md_find_20 rfl (lv_at hl 0 rfl) ?_
    refine lv_iconst (v := 0) hx hb d_Md_find_21 (by decide) ?_
    refine hx_put (ty := .int) (v := .int 0) hx hb htg iMd tMd tMd_ok nMd hown hK hI.1 hS (Or.inl rfl) rfl 25 (by decide) (htg _ (gw_mem (i := 1023) (by decide +kernel) rfl)) (fun _ h9 => h9) rfl (by decide +kernel) rfl rfl (Nat.le_of_ble_eq_true rfl) d_Md_find_22 (fun H locs hat hz ho hS => ?_)
    replace hI : md_I D cs H x g (upd (upd i 0 (goV (isD dy) true true)) 5 (0)) (setA f 17 G) := md_I.puti hI hsep hat ho rfl
    refine lv_iconst (v := 0) hx hb d_Md_find_25 (by decide) ?_
    refine lv_istore_n (lv' := [(2, .int 0), (0, .ref x), (1, .int dy)]) hx hb d_Md_find_26 rfl hl (by decide) rfl (fun ls hl => ?_)
    have loop27 : ∀ (fuel : Nat) (F2 : Nat → Nat → Int32) (c9 : Nat) (m9 : Nat), n - m9 < fuel → (m9 ≤ n) → (∀ q, q ≠ 17 → q ≠ 20 → F2 q = f q) → (F2 17 = G) → (flI (fdQ f mn mo mt mg pn n dy) m9 (F2 20) c9) → ∀ (H : Heap) (locs : List Loc), md_I D cs H x g (upd (upd i 0 (goV (isD dy) true true)) 5 (nI c9)) F2 → va_S (md_A x g) s.heap H locs → ∀ (ls : Array Slot), lv_has ls 5 [(0, .ref x), (1, .int dy), (2, .int (nI m9))] → W p l e (headSpec w_Md_find ({ frames := 2, cells := 0, slots := 0, locals := 47 })).room s m ([.ref x, .int dy] : List Value).toArray below meth c H locs 0 0 (MQ below (hQi (fun r H' => if goB (isD dy) true true = true then (∃ (c9 : Nat) (F9 : Nat → Nat → Int32), md_I D cs H' x g (upd (upd i 0 (goV (isD dy) true true)) 5 (nI c9)) F9 ∧ r = nI c9 ∧ flI (fdQ f mn mo mt mg pn n dy) n (F9 20) c9 ∧ ∀ q, q ≠ 17 → q ≠ 20 → F9 q = f q) else (md_I D cs H' x g (upd i 0 (goV (isD dy) true true)) f ∧ r = 0)) (md_A x g)) ([.ref x, .int dy] : List Value).toArray s 0 0 (md_A x g)) (F0 m 27 ls []) := by
      intro fuel27
      induction fuel27 with
      | zero => intro F2 c9 m9 hn; exact absurd hn (Nat.not_lt_zero _)
      | succ fuel27 ih27 =>
        intro F2 c9 m9 hn27 hm9 hF2 hG2 hL2 H locs hI hS ls hl
        refine lv_iload_n hx hb d_Md_find_27 rfl (lv_at hl 2 rfl) ?_
        refine lv_aload_n hx hb d_Md_find_28 rfl (lv_at hl 0 rfl) ?_
        refine hx_get (v := .int ((upd (upd i 0 (goV (isD dy) true true)) 5 (nI c9)) 2)) hx hb htg iMd hown hK hI.1 rfl 3 (by decide) (htg _ (gw_mem (i := 1001) (by decide +kernel) rfl)) (fun _ h9 => h9) rfl d_Md_find_29 ?_
        refine lv_eqi (y := (nI n)) hn ?_
        refine lv_icmp_ge (x := (nI m9)) (y := (nI n)) (tgt := 121) hx hb d_Md_find_32 (by decide) (fun c32 => ?_) (fun c32 => ?_)
        · skip
          replace c32 : n ≤ m9 := (nI_leI (a := n) (b := m9) (by omega) (by omega)).mp c32
          refine lv_aload_n hx hb d_Md_find_121 rfl (lv_at hl 0 rfl) ?_
          refine hx_get (v := .int (nI c9)) hx hb htg iMd hown hK hI.1 rfl 25 (by decide) (htg _ (gw_mem (i := 1023) (by decide +kernel) rfl)) (fun _ h9 => h9) rfl d_Md_find_122 ?_
          exact W.iret (v := (nI c9)) hx hb hr (fun t ht hW => ⟨⟨(nI c9), H, rfl, by dsimp only; rw [if_pos c10]; exact ⟨c9, F2, hI, rfl, (by have e9 : m9 = n := (by omega); subst e9; exact hL2), hF2⟩, ht⟩, hS.F ht⟩) hS.2.2 d_Md_find_125
        · skip
          replace c32 : ¬ (n ≤ m9) := fun z9 => c32 ((nI_leI (a := n) (b := m9) (by omega) (by omega)).mpr z9)
          have hgm := (hGgl m9 (by omega)).2.1
          have hc9 := hL2.le
          refine lv_iconst (v := 0) hx hb d_Md_find_35 (by decide) ?_
          refine lv_istore_n (lv' := [(3, .int 0), (0, .ref x), (1, .int dy), (2, .int (nI m9))]) hx hb d_Md_find_36 rfl hl (by decide) rfl (fun ls hl => ?_)
          refine lv_iconst (v := 0) hx hb d_Md_find_37 (by decide) ?_
          refine lv_istore (lv' := [(4, .int 0), (3, .int 0), (0, .ref x), (1, .int dy), (2, .int (nI m9))]) hx hb d_Md_find_38 hl (by decide) rfl (fun ls hl => ?_)
          have loop40 : ∀ (fuel : Nat) (z : Bool) (k : Nat), n - k < fuel → (k ≤ n) → (anyTo (fdP f mn mo mt mg pn dy m9) k = z) → ∀ (H : Heap) (locs : List Loc), md_I D cs H x g (upd (upd i 0 (goV (isD dy) true true)) 5 (nI c9)) F2 → va_S (md_A x g) s.heap H locs → ∀ (ls : Array Slot), lv_has ls 5 [(0, .ref x), (1, .int dy), (2, .int (nI m9)), (3, .int (bI z)), (4, .int (nI k))] → W p l e (headSpec w_Md_find ({ frames := 2, cells := 0, slots := 0, locals := 47 })).room s m ([.ref x, .int dy] : List Value).toArray below meth c H locs 0 0 (MQ below (hQi (fun r H' => if goB (isD dy) true true = true then (∃ (c9 : Nat) (F9 : Nat → Nat → Int32), md_I D cs H' x g (upd (upd i 0 (goV (isD dy) true true)) 5 (nI c9)) F9 ∧ r = nI c9 ∧ flI (fdQ f mn mo mt mg pn n dy) n (F9 20) c9 ∧ ∀ q, q ≠ 17 → q ≠ 20 → F9 q = f q) else (md_I D cs H' x g (upd i 0 (goV (isD dy) true true)) f ∧ r = 0)) (md_A x g)) ([.ref x, .int dy] : List Value).toArray s 0 0 (md_A x g)) (F0 m 40 ls []) := by
            intro fuel40
            induction fuel40 with
            | zero => intro z k hn; exact absurd hn (Nat.not_lt_zero _)
            | succ fuel40 ih40 =>
              intro z k hn40 hk hz9 H locs hI hS ls hl
              refine lv_iload hx hb d_Md_find_40 (lv_at hl 4 rfl) ?_
              refine lv_aload_n hx hb d_Md_find_42 rfl (lv_at hl 0 rfl) ?_
              refine hx_get (v := .int ((upd (upd i 0 (goV (isD dy) true true)) 5 (nI c9)) 2)) hx hb htg iMd hown hK hI.1 rfl 3 (by decide) (htg _ (gw_mem (i := 1001) (by decide +kernel) rfl)) (fun _ h9 => h9) rfl d_Md_find_43 ?_
              refine lv_eqi (y := (nI n)) hn ?_
              refine lv_icmp_ge (x := (nI k)) (y := (nI n)) (tgt := 91) hx hb d_Md_find_46 (by decide) (fun c46 => ?_) (fun c46 => ?_)
              · skip
                replace c46 : n ≤ k := (nI_leI (a := n) (b := k) (by omega) (by omega)).mp c46
                refine lv_iload_n hx hb d_Md_find_91 rfl (lv_at hl 3 rfl) ?_
                refine lv_if_eq (x := (bI z)) (tgt := 115) hx hb d_Md_find_92 (by decide) (fun c92 => ?_) (fun c92 => ?_)
                · skip
                  replace c92 : z = false := bI_0 c92
                  refine lv_iinc (v := (nI (m9 + 1))) (lv' := [(2, .int (nI (m9 + 1))), (0, .ref x), (1, .int dy), (3, .int (bI z)), (4, .int (nI k))]) hx hb d_Md_find_115 hl (k := 2) rfl (nI_1 m9) (by decide) rfl (fun ls hl => ?_)
                  refine lv_goto (tgt := 27) hx hb d_Md_find_118 (by decide) ?_
                  exact ih27  _ c9 (m9 + 1) (by omega) (by omega) hF2 hG2 (hL2.miss (by have e9 : k = n := (by omega); subst e9; unfold fdQ; rw [hz9]; exact c92)) _ _ hI hS ls (lv_sub hl [1, 2, 0] rfl)
                · skip
                  replace c92 : z = true := bI_1 c92
                  refine lv_aload_n hx hb d_Md_find_95 rfl (lv_at hl 0 rfl) ?_
                  refine hx_get (v := .ref (g 20)) hx hb htg iMd hown hK hI.1 rfl 26 (by decide) (htg _ (gw_mem (i := 1024) (by decide +kernel) rfl)) (fun _ h9 => h9) rfl d_Md_find_96 ?_
                  refine lv_aload_n hx hb d_Md_find_99 rfl (lv_at hl 0 rfl) ?_
                  refine hx_get (v := .int (nI c9)) hx hb htg iMd hown hK hI.1 rfl 25 (by decide) (htg _ (gw_mem (i := 1023) (by decide +kernel) rfl)) (fun _ h9 => h9) rfl d_Md_find_100 ?_
                  refine lv_iload_n hx hb d_Md_find_103 rfl (lv_at hl 2 rfl) ?_
                  refine hx_iast hx hb hK hS (Or.inr ⟨20, by decide, rfl⟩) 0 (hI.2 20 (by decide)) rfl (show vp_in (nI c9) 24 from vp_in_nI (n := c9) (by omega) (by decide)) d_Md_find_104 (fun H locs hat hz ho hS => ?_)
                  replace hI : md_I D cs H x g (upd (upd i 0 (goV (isD dy) true true)) 5 (nI c9)) (updA F2 20 c9 ((nI m9))) := md_I.puta hI hsep (by decide) (by rw [show ((nI c9) : Int32).toNatClampNeg = c9 from nI_clamp (n := c9) (by omega)] at hat; exact hat) ho
                  refine lv_aload_n hx hb d_Md_find_105 rfl (lv_at hl 0 rfl) ?_
                  refine lv_dup hx hb d_Md_find_106 rfl ?_
                  refine hx_get (v := .int (nI c9)) hx hb htg iMd hown hK hI.1 rfl 25 (by decide) (htg _ (gw_mem (i := 1023) (by decide +kernel) rfl)) (fun _ h9 => h9) rfl d_Md_find_107 ?_
                  refine lv_iconst (v := 1) hx hb d_Md_find_110 (by decide) ?_
                  refine lv_iadd (x := (nI c9)) (y := 1) hx hb d_Md_find_111 ?_
                  refine lv_eqi (y := (nI (c9 + 1))) (nI_add c9 1) ?_
                  refine hx_put (ty := .int) (v := .int (nI (c9 + 1))) hx hb htg iMd tMd tMd_ok nMd hown hK hI.1 hS (Or.inl rfl) rfl 25 (by decide) (htg _ (gw_mem (i := 1023) (by decide +kernel) rfl)) (fun _ h9 => h9) rfl (by decide +kernel) rfl rfl (Nat.le_of_ble_eq_true rfl) d_Md_find_112 (fun H locs hat hz ho hS => ?_)
                  replace hI : md_I D cs H x g (upd (upd (upd i 0 (goV (isD dy) true true)) 5 (nI c9)) 5 ((nI (c9 + 1)))) (updA F2 20 c9 ((nI m9))) := md_I.puti hI hsep hat ho rfl
                  refine lv_iinc (v := (nI (m9 + 1))) (lv' := [(2, .int (nI (m9 + 1))), (0, .ref x), (1, .int dy), (3, .int (bI z)), (4, .int (nI k))]) hx hb d_Md_find_115 hl (k := 2) rfl (nI_1 m9) (by decide) rfl (fun ls hl => ?_)
                  refine lv_goto (tgt := 27) hx hb d_Md_find_118 (by decide) ?_
                  rw [upd_upd] at hI
                  exact ih27  _ (c9 + 1) (m9 + 1) (by omega) (by omega) (fun q h1 h2 => (updA_ne h2).trans (hF2 q h1 h2)) ((updA_ne (by decide)).trans hG2) (by rw [updA_self]; exact hL2.hit (by have e9 : k = n := (by omega); subst e9; unfold fdQ; rw [hz9]; exact c92)) _ _ hI hS ls (lv_sub hl [1, 2, 0] rfl)
              · skip
                replace c46 : ¬ (n ≤ k) := fun z9 => c46 ((nI_leI (a := n) (b := k) (by omega) (by omega)).mpr z9)
                have hgk := (hGgl k (by omega)).2.1
                refine lv_iload_n hx hb d_Md_find_49 rfl (lv_at hl 3 rfl) ?_
                refine lv_if_ne (x := (bI z)) (tgt := 79) hx hb d_Md_find_50 (by decide) (fun c50 => ?_) (fun c50 => ?_)
                · skip
                  replace c50 : z = true := bI_1 c50
                  refine lv_iconst (v := 1) hx hb d_Md_find_79 (by decide) ?_
                  refine lv_goto (tgt := 84) hx hb d_Md_find_80 (by decide) ?_
                  refine lv_istore_n (lv' := [(3, .int 1), (0, .ref x), (1, .int dy), (2, .int (nI m9)), (4, .int (nI k))]) hx hb d_Md_find_84 rfl hl (by decide) rfl (fun ls hl => ?_)
                  refine lv_iinc (v := (nI (k + 1))) (lv' := [(4, .int (nI (k + 1))), (3, .int 1), (0, .ref x), (1, .int dy), (2, .int (nI m9))]) hx hb d_Md_find_85 hl (k := 4) rfl (nI_1 k) (by decide) rfl (fun ls hl => ?_)
                  refine lv_goto (tgt := 40) hx hb d_Md_find_88 (by decide) ?_
                  exact ih40  true (k + 1) (by omega) (by omega) (by rw [anyTo, hz9, c50]; rfl) _ _ hI hS ls (lv_sub hl [2, 3, 4, 1, 0] rfl)
                · skip
                  replace c50 : z = false := bI_0 c50
                  refine lv_aload_n hx hb d_Md_find_53 rfl (lv_at hl 0 rfl) ?_
                  refine hx_get (v := .ref (g 17)) hx hb htg iMd hown hK hI.1 rfl 21 (by decide) (htg _ (gw_mem (i := 1019) (by decide +kernel) rfl)) (fun _ h9 => h9) rfl d_Md_find_54 ?_
                  refine lv_iload hx hb d_Md_find_57 (lv_at hl 4 rfl) ?_
                  refine hx_iald hx hb hK 0 (hI.2 17 (by decide)) rfl (show vp_in (nI k) 24 from vp_in_nI (n := k) (by omega) (by decide)) d_Md_find_59 ?_
                  refine lv_eqi (y := (F2 17 k)) (show F2 17 (nI k).toNatClampNeg = _ by rw [nI_clamp (by omega)]) ?_
                  refine lv_eqi (y := (nI (gl k))) (by rw [hG2]; exact (hGgl k (by omega)).1) ?_
                  refine lv_aload_n hx hb d_Md_find_60 rfl (lv_at hl 0 rfl) ?_
                  refine hx_get (v := .ref (g 17)) hx hb htg iMd hown hK hI.1 rfl 21 (by decide) (htg _ (gw_mem (i := 1019) (by decide +kernel) rfl)) (fun _ h9 => h9) rfl d_Md_find_61 ?_
                  refine lv_iload_n hx hb d_Md_find_64 rfl (lv_at hl 2 rfl) ?_
                  refine hx_iald hx hb hK 0 (hI.2 17 (by decide)) rfl (show vp_in (nI m9) 24 from vp_in_nI (n := m9) (by omega) (by decide)) d_Md_find_65 ?_
                  refine lv_eqi (y := (F2 17 m9)) (show F2 17 (nI m9).toNatClampNeg = _ by rw [nI_clamp (by omega)]) ?_
                  refine lv_eqi (y := (nI (gl m9))) (by rw [hG2]; exact (hGgl m9 (by omega)).1) ?_
                  refine lv_icmp_ne (x := (nI (gl k))) (y := (nI (gl m9))) (tgt := 83) hx hb d_Md_find_66 (by decide) (fun c66 => ?_) (fun c66 => ?_)
                  · skip
                    replace c66 : ¬ ((gl k) = (gl m9)) := fun z9 => c66 ((nI_eq (a := (gl k)) (b := (gl m9)) (by omega) (by omega)).mpr z9)
                    refine lv_iconst (v := 0) hx hb d_Md_find_83 (by decide) ?_
                    refine lv_istore_n (lv' := [(3, .int 0), (0, .ref x), (1, .int dy), (2, .int (nI m9)), (4, .int (nI k))]) hx hb d_Md_find_84 rfl hl (by decide) rfl (fun ls hl => ?_)
                    refine lv_iinc (v := (nI (k + 1))) (lv' := [(4, .int (nI (k + 1))), (3, .int 0), (0, .ref x), (1, .int dy), (2, .int (nI m9))]) hx hb d_Md_find_85 hl (k := 4) rfl (nI_1 k) (by decide) rfl (fun ls hl => ?_)
                    refine lv_goto (tgt := 40) hx hb d_Md_find_88 (by decide) ?_
                    exact ih40  false (k + 1) (by omega) (by omega) (by rw [anyTo, hz9, c50]; unfold fdP; rw [oneB_f hGgl hCgl (by omega) (by omega) c66]; simp) _ _ hI hS ls (lv_sub hl [2, 3, 4, 1, 0] rfl)
                  · skip
                    replace c66 : (gl k) = (gl m9) := (nI_eq (a := (gl k)) (b := (gl m9)) (by omega) (by omega)).mp c66
                    refine lv_aload_n hx hb d_Md_find_69 rfl (lv_at hl 0 rfl) ?_
                    refine lv_iload hx hb d_Md_find_70 (lv_at hl 4 rfl) ?_
                    refine lv_iload_n hx hb d_Md_find_72 rfl (lv_at hl 1 rfl) ?_
                    refine h_calli (va_runV (As := [.int (nI k), .int dy]) (rest := []) ⟨hx, hb, hml, hown, htg⟩ (c_Md_hasPad l D cs N0 H x g ((upd (upd i 0 (goV (isD dy) true true)) 5 (nI c9))) F2 k dy hsep hI pn hpn hp12 mn (fun a ha => by rw [hF2 1 (by decide) (by decide)]; exact hm a ha) (by omega)) (cwV 2 htg (gw_V (gw_mem (i := 1188) (by decide +kernel) rfl) (gw_mem (i := 1190) (by decide +kernel) rfl) (gw_mem (i := 26) (by decide +kernel) rfl) (gw_mem (i := 38) (by decide +kernel) rfl) (gw_mem (i := 1191) (by decide +kernel) rfl)) rfl rfl rfl (by decide +kernel) ⟨Nat.le_of_ble_eq_true rfl, Nat.le_of_ble_eq_true rfl⟩) ⟨hPre.blind, hx_recv hK (ci := 0) rfl hI.1, hPre.at hB hS hsep.A⟩ rfl rfl hl.1 rfl (lv_room (Nat.le_of_ble_eq_true rfl)) d_Md_find_73 ⟨Nat.zero_le _, Nat.zero_le _⟩) hS (fun _ h => h) (fun r73 H locs hp hz hk hS => ?_)
                    obtain ⟨hI, er73⟩ := hp
                    refine lv_eqi (y := (bI (anyTo (hasP f pn k dy) (mn k)))) (er73.trans (by rw [hasP_congr hF2])) ?_
                    refine lv_if_eq (x := (bI (anyTo (hasP f pn k dy) (mn k)))) (tgt := 83) hx hb d_Md_find_76 (by decide) (fun c76 => ?_) (fun c76 => ?_)
                    · skip
                      replace c76 : (anyTo (hasP f pn k dy) (mn k)) = false := bI_0 c76
                      refine lv_iconst (v := 0) hx hb d_Md_find_83 (by decide) ?_
                      refine lv_istore_n (lv' := [(3, .int 0), (0, .ref x), (1, .int dy), (2, .int (nI m9)), (4, .int (nI k))]) hx hb d_Md_find_84 rfl hl (by decide) rfl (fun ls hl => ?_)
                      refine lv_iinc (v := (nI (k + 1))) (lv' := [(4, .int (nI (k + 1))), (3, .int 0), (0, .ref x), (1, .int dy), (2, .int (nI m9))]) hx hb d_Md_find_85 hl (k := 4) rfl (nI_1 k) (by decide) rfl (fun ls hl => ?_)
                      refine lv_goto (tgt := 40) hx hb d_Md_find_88 (by decide) ?_
                      exact ih40  false (k + 1) (by omega) (by omega) (by rw [anyTo, hz9, c50]; unfold fdP; rw [oneB_t hGgl hCgl (by omega) (by omega) c66, c76]; simp) _ _ hI hS ls (lv_sub hl [2, 3, 4, 1, 0] rfl)
                    · skip
                      replace c76 : (anyTo (hasP f pn k dy) (mn k)) = true := bI_1 c76
                      refine lv_iconst (v := 1) hx hb d_Md_find_79 (by decide) ?_
                      refine lv_goto (tgt := 84) hx hb d_Md_find_80 (by decide) ?_
                      refine lv_istore_n (lv' := [(3, .int 1), (0, .ref x), (1, .int dy), (2, .int (nI m9)), (4, .int (nI k))]) hx hb d_Md_find_84 rfl hl (by decide) rfl (fun ls hl => ?_)
                      refine lv_iinc (v := (nI (k + 1))) (lv' := [(4, .int (nI (k + 1))), (3, .int 1), (0, .ref x), (1, .int dy), (2, .int (nI m9))]) hx hb d_Md_find_85 hl (k := 4) rfl (nI_1 k) (by decide) rfl (fun ls hl => ?_)
                      refine lv_goto (tgt := 40) hx hb d_Md_find_88 (by decide) ?_
                      exact ih40  true (k + 1) (by omega) (by omega) (by rw [anyTo, hz9, c50]; unfold fdP; rw [oneB_t hGgl hCgl (by omega) (by omega) c66, c76]; simp) _ _ hI hS ls (lv_sub hl [2, 3, 4, 1, 0] rfl)
          exact loop40 ((n - 0) + 1) false 0 (Nat.lt_succ_self _) (Nat.zero_le _) rfl _ _ hI hS ls (lv_sub hl [2, 3, 4, 1, 0] rfl)
    exact loop27 ((n - 0) + 1) _ 0 0 (Nat.lt_succ_self _) (Nat.zero_le _) (fun q h1 h2 => setA_ne h1) (setA_self _ _ _) (⟨rfl, fun k p hk => by simp [selL] at hk⟩) _ _ hI hS ls (lv_sub hl [1, 2, 0] rfl)
  · skip
    replace c10 : (goB (isD dy) true true) = false := bI_0 c10
    refine lv_iconst (v := 0) hx hb d_Md_find_13 (by decide) ?_
    exact W.iret (v := 0) hx hb hr (fun t ht hW => ⟨⟨0, H, rfl, by dsimp only; rw [if_neg (show ¬ goB (isD dy) true true = true by rw [c10]; decide)]; exact ⟨hI, rfl⟩, ht⟩, hS.F ht⟩) hS.2.2 d_Md_find_14
