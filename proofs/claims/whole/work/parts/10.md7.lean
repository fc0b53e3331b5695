def partP (f : Nat → Nat → Int32) (qa qb dy : Int32) : Nat → Bool := fun k => ((decide (f 13 k = qa) && decide (f 14 k = qb)) || (decide (f 13 k = qb) && decide (f 14 k = qa))) && decide (f 16 k = -1) && !decide (dy ≤ f 15 k)
def lcsR (t : Nat → Int32) (pv : Nat → Nat) (c : Int32) : Nat → Nat
  | 0 => 0
  | j + 1 => if c = t j then pv j + 1 else if lcsR t pv c j < pv (j + 1) then pv (j + 1) else lcsR t pv c j
def lcs (s t : Nat → Int32) : Nat → Nat → Nat
  | 0 => fun _ => 0
  | i + 1 => lcsR t (lcs s t i) (s i)
theorem lcs_0 (s t : Nat → Int32) (a : Nat) : lcs s t a 0 = 0 := by cases a <;> rfl
theorem lcs_step {s t : Nat → Int32} {a b : Nat} (ha : 0 < a) (hb : 0 < b) : lcs s t a b = if s (a - 1) = t (b - 1) then lcs s t (a - 1) (b - 1) + 1 else if lcs s t a (b - 1) < lcs s t (a - 1) b then lcs s t (a - 1) b else lcs s t a (b - 1) := by
  cases a with
  | zero => omega
  | succ a => cases b with
    | zero => omega
    | succ b => rfl
theorem lcs_le (s t : Nat → Int32) : ∀ a b, lcs s t a b ≤ b := by
  intro a
  induction a with
  | zero => intro b; exact Nat.zero_le _
  | succ a ih =>
    intro b
    induction b with
    | zero => exact Nat.le_refl 0
    | succ b ih2 =>
      rw [lcs_step (by omega) (by omega)]
      show (if s a = t b then lcs s t a b + 1 else if lcs s t (a + 1) b < lcs s t a (b + 1) then lcs s t a (b + 1) else lcs s t (a + 1) b) ≤ b + 1
      have h1 := ih b
      have h2 := ih (b + 1)
      split
      · omega
      · split <;> omega
theorem row_put {F : Nat → Int32} {L : Nat → Nat → Nat} {a b lw : Nat} {v : Int32} (hw : lw ≤ 12) (hb : b ≤ lw) (hv : v = nI (L a b)) (h1 : ∀ p c, p < a → c ≤ lw → F (13 * p + c) = nI (L p c)) (h2 : ∀ c, c < b → F (13 * a + c) = nI (L a c)) :
    (∀ p c, p < a → c ≤ lw → upd F (13 * a + b) v (13 * p + c) = nI (L p c)) ∧ (∀ c, c < b + 1 → upd F (13 * a + b) v (13 * a + c) = nI (L a c)) := by
  refine ⟨fun p c hp hc => ?_, fun c hc => ?_⟩
  · rw [upd_ne (by omega)]; exact h1 p c hp hc
  · by_cases e : c = b
    · subst e; rw [upd_self]; exact hv
    · rw [upd_ne (by omega)]; exact h2 c (by omega)
abbrev tx9 (f : Nat → Nat → Int32) (v : Nat) : Nat → Int32 := fun j => f 3 (12 * v + j)
def lcsV (f : Nat → Nat → Int32) (ln : Nat → Nat) (v w : Nat) : Nat := lcs (tx9 f v) (tx9 f w) (ln v) (ln w)
theorem lcsV_le {f : Nat → Nat → Int32} {ln : Nat → Nat} {v w : Nat} (h : ln w ≤ 12) : lcsV f ln v w ≤ 12 := Nat.le_trans (lcs_le _ _ _ _) h
def y_Md_part : MethodName := ⟨"NameMergesModel", "part", "(III)Z"⟩
abbrev w_Md_part : List Cond := Cond.code y_Md_part prog_7_method_22_code 6 (Option.some Jvm.ClassFile.FieldType.boolean) :: gw
theorem d_Md_part_0 : decode prog_7_method_22_code 0 = .ok (.aload_n 0, 1) := by decide +kernel
theorem d_Md_part_1 : decode prog_7_method_22_code 1 = .ok (.aload_n 0, 1) := by decide +kernel
theorem d_Md_part_2 : decode prog_7_method_22_code 2 = .ok (.iload_n 1, 1) := by decide +kernel
theorem d_Md_part_3 : decode prog_7_method_22_code 3 = .ok (.invokevirtual 92, 3) := by decide +kernel
theorem d_Md_part_6 : decode prog_7_method_22_code 6 = .ok (.ifCond .eq 15, 3) := by decide +kernel
theorem d_Md_part_9 : decode prog_7_method_22_code 9 = .ok (.aload_n 0, 1) := by decide +kernel
theorem d_Md_part_10 : decode prog_7_method_22_code 10 = .ok (.iload_n 2, 1) := by decide +kernel
theorem d_Md_part_11 : decode prog_7_method_22_code 11 = .ok (.invokevirtual 92, 3) := by decide +kernel
theorem d_Md_part_14 : decode prog_7_method_22_code 14 = .ok (.ifCond .eq 7, 3) := by decide +kernel
theorem d_Md_part_17 : decode prog_7_method_22_code 17 = .ok (.iconst 1, 1) := by decide +kernel
theorem d_Md_part_18 : decode prog_7_method_22_code 18 = .ok (.goto 4, 3) := by decide +kernel
theorem d_Md_part_21 : decode prog_7_method_22_code 21 = .ok (.iconst 0, 1) := by decide +kernel
theorem d_Md_part_22 : decode prog_7_method_22_code 22 = .ok (.iload_n 3, 1) := by decide +kernel
theorem d_Md_part_23 : decode prog_7_method_22_code 23 = .ok (.invokestatic 96, 3) := by decide +kernel
theorem d_Md_part_26 : decode prog_7_method_22_code 26 = .ok (.iconst 1, 1) := by decide +kernel
theorem d_Md_part_27 : decode prog_7_method_22_code 27 = .ok (.invokevirtual 88, 3) := by decide +kernel
theorem d_Md_part_30 : decode prog_7_method_22_code 30 = .ok (.ifCond .ne 5, 3) := by decide +kernel
theorem d_Md_part_33 : decode prog_7_method_22_code 33 = .ok (.iconst 0, 1) := by decide +kernel
theorem d_Md_part_34 : decode prog_7_method_22_code 34 = .ok (.ireturn, 1) := by decide +kernel
theorem d_Md_part_35 : decode prog_7_method_22_code 35 = .ok (.iconst 0, 1) := by decide +kernel
theorem d_Md_part_36 : decode prog_7_method_22_code 36 = .ok (.istore 4, 2) := by decide +kernel
theorem d_Md_part_38 : decode prog_7_method_22_code 38 = .ok (.iload 4, 2) := by decide +kernel
theorem d_Md_part_40 : decode prog_7_method_22_code 40 = .ok (.aload_n 0, 1) := by decide +kernel
theorem d_Md_part_41 : decode prog_7_method_22_code 41 = .ok (.getfield 106, 3) := by decide +kernel
theorem d_Md_part_44 : decode prog_7_method_22_code 44 = .ok (.if_icmp .ge 97, 3) := by decide +kernel
theorem d_Md_part_47 : decode prog_7_method_22_code 47 = .ok (.aload_n 0, 1) := by decide +kernel
theorem d_Md_part_48 : decode prog_7_method_22_code 48 = .ok (.getfield 50, 3) := by decide +kernel
theorem d_Md_part_51 : decode prog_7_method_22_code 51 = .ok (.iload 4, 2) := by decide +kernel
theorem d_Md_part_53 : decode prog_7_method_22_code 53 = .ok (.iaload, 1) := by decide +kernel
theorem d_Md_part_54 : decode prog_7_method_22_code 54 = .ok (.iload_n 1, 1) := by decide +kernel
theorem d_Md_part_55 : decode prog_7_method_22_code 55 = .ok (.if_icmp .ne 14, 3) := by decide +kernel
theorem d_Md_part_58 : decode prog_7_method_22_code 58 = .ok (.aload_n 0, 1) := by decide +kernel
theorem d_Md_part_59 : decode prog_7_method_22_code 59 = .ok (.getfield 53, 3) := by decide +kernel
theorem d_Md_part_62 : decode prog_7_method_22_code 62 = .ok (.iload 4, 2) := by decide +kernel
theorem d_Md_part_64 : decode prog_7_method_22_code 64 = .ok (.iaload, 1) := by decide +kernel
theorem d_Md_part_65 : decode prog_7_method_22_code 65 = .ok (.iload_n 2, 1) := by decide +kernel
theorem d_Md_part_66 : decode prog_7_method_22_code 66 = .ok (.if_icmp .eq 25, 3) := by decide +kernel
theorem d_Md_part_69 : decode prog_7_method_22_code 69 = .ok (.aload_n 0, 1) := by decide +kernel
theorem d_Md_part_70 : decode prog_7_method_22_code 70 = .ok (.getfield 50, 3) := by decide +kernel
theorem d_Md_part_73 : decode prog_7_method_22_code 73 = .ok (.iload 4, 2) := by decide +kernel
theorem d_Md_part_75 : decode prog_7_method_22_code 75 = .ok (.iaload, 1) := by decide +kernel
theorem d_Md_part_76 : decode prog_7_method_22_code 76 = .ok (.iload_n 2, 1) := by decide +kernel
theorem d_Md_part_77 : decode prog_7_method_22_code 77 = .ok (.if_icmp .ne 18, 3) := by decide +kernel
theorem d_Md_part_80 : decode prog_7_method_22_code 80 = .ok (.aload_n 0, 1) := by decide +kernel
theorem d_Md_part_81 : decode prog_7_method_22_code 81 = .ok (.getfield 53, 3) := by decide +kernel
theorem d_Md_part_84 : decode prog_7_method_22_code 84 = .ok (.iload 4, 2) := by decide +kernel
theorem d_Md_part_86 : decode prog_7_method_22_code 86 = .ok (.iaload, 1) := by decide +kernel
theorem d_Md_part_87 : decode prog_7_method_22_code 87 = .ok (.iload_n 1, 1) := by decide +kernel
theorem d_Md_part_88 : decode prog_7_method_22_code 88 = .ok (.if_icmp .ne 7, 3) := by decide +kernel
theorem d_Md_part_91 : decode prog_7_method_22_code 91 = .ok (.iconst 1, 1) := by decide +kernel
theorem d_Md_part_92 : decode prog_7_method_22_code 92 = .ok (.goto 4, 3) := by decide +kernel
theorem d_Md_part_95 : decode prog_7_method_22_code 95 = .ok (.iconst 0, 1) := by decide +kernel
theorem d_Md_part_96 : decode prog_7_method_22_code 96 = .ok (.istore 5, 2) := by decide +kernel
theorem d_Md_part_98 : decode prog_7_method_22_code 98 = .ok (.iload 5, 2) := by decide +kernel
theorem d_Md_part_100 : decode prog_7_method_22_code 100 = .ok (.ifCond .eq 35, 3) := by decide +kernel
theorem d_Md_part_103 : decode prog_7_method_22_code 103 = .ok (.aload_n 0, 1) := by decide +kernel
theorem d_Md_part_104 : decode prog_7_method_22_code 104 = .ok (.getfield 59, 3) := by decide +kernel
theorem d_Md_part_107 : decode prog_7_method_22_code 107 = .ok (.iload 4, 2) := by decide +kernel
theorem d_Md_part_109 : decode prog_7_method_22_code 109 = .ok (.iaload, 1) := by decide +kernel
theorem d_Md_part_110 : decode prog_7_method_22_code 110 = .ok (.iconst (-1), 1) := by decide +kernel
theorem d_Md_part_111 : decode prog_7_method_22_code 111 = .ok (.if_icmp .ne 24, 3) := by decide +kernel
theorem d_Md_part_114 : decode prog_7_method_22_code 114 = .ok (.aload_n 0, 1) := by decide +kernel
theorem d_Md_part_115 : decode prog_7_method_22_code 115 = .ok (.getfield 56, 3) := by decide +kernel
theorem d_Md_part_118 : decode prog_7_method_22_code 118 = .ok (.iload 4, 2) := by decide +kernel
theorem d_Md_part_120 : decode prog_7_method_22_code 120 = .ok (.iaload, 1) := by decide +kernel
theorem d_Md_part_121 : decode prog_7_method_22_code 121 = .ok (.iload_n 3, 1) := by decide +kernel
theorem d_Md_part_122 : decode prog_7_method_22_code 122 = .ok (.if_icmp .ge 13, 3) := by decide +kernel
theorem d_Md_part_125 : decode prog_7_method_22_code 125 = .ok (.aload_n 0, 1) := by decide +kernel
theorem d_Md_part_126 : decode prog_7_method_22_code 126 = .ok (.getfield 59, 3) := by decide +kernel
theorem d_Md_part_129 : decode prog_7_method_22_code 129 = .ok (.iload 4, 2) := by decide +kernel
theorem d_Md_part_131 : decode prog_7_method_22_code 131 = .ok (.iload_n 3, 1) := by decide +kernel
theorem d_Md_part_132 : decode prog_7_method_22_code 132 = .ok (.iastore, 1) := by decide +kernel
theorem d_Md_part_133 : decode prog_7_method_22_code 133 = .ok (.iconst 1, 1) := by decide +kernel
theorem d_Md_part_134 : decode prog_7_method_22_code 134 = .ok (.ireturn, 1) := by decide +kernel
theorem d_Md_part_135 : decode prog_7_method_22_code 135 = .ok (.iinc 4 1, 3) := by decide +kernel
theorem d_Md_part_138 : decode prog_7_method_22_code 138 = .ok (.goto (-100), 3) := by decide +kernel
theorem d_Md_part_141 : decode prog_7_method_22_code 141 = .ok (.iconst 0, 1) := by decide +kernel
theorem d_Md_part_142 : decode prog_7_method_22_code 142 = .ok (.ireturn, 1) := by decide +kernel
set_option maxHeartbeats 4000000 in
set_option maxRecDepth 100000 in
theorem c_Md_part (l : Launch) (D : va_G) (cs : Nat → ClassId) (N0 : Nat) (H : Heap) (x : Nat) (g : Nat → Nat) (i : Nat → Int32) (f : Nat → Nat → Int32) (qa qb dy : Int32) (hsep : md_sep N0 x g) (hI : md_I D cs H x g i f) (n : Nat) (hn : i 2 = nI n) (hn24 : n ≤ 24) (mg : Nat) (hmg : i 3 = nI mg) (hmg60 : mg ≤ 60) (mo mt : Nat → Nat) (hone : ∀ k, k < mg → f 13 k = nI (mo k) ∧ mo k < 24) (hoth : ∀ k, k < mg → f 14 k = nI (mt k) ∧ mt k < 24) : Met l y_Md_part w_Md_part ({ frames := 1, cells := 0, slots := 0, locals := 23 }) (hPre D cs N0 [.ref x, .int qa, .int qb, .int dy] H) (hQi (fun r H' => if goB (isN n qa && isN n qb) (isD dy) true = true then (if fstFrom (partP f qa qb dy) 0 mg = -1 then (md_I D cs H' x g (upd i 0 (goV (isN n qa && isN n qb) (isD dy) true)) f ∧ r = 0) else (md_I D cs H' x g (upd i 0 (goV (isN n qa && isN n qb) (isD dy) true)) (updA f 16 (tn (fstFrom (partP f qa qb dy) 0 mg)) dy) ∧ r = 1)) else (md_I D cs H' x g (upd i 0 (goV (isN n qa && isN n qb) (isD dy) true)) f ∧ r = 0)) (md_A x g)) 0 0 (md_A x g) := by
  refine Met.ofW (cc := prog_7_method_22_code) (maxL := 6) (ret := (Option.some Jvm.ClassFile.FieldType.boolean)) (by decide) rfl ?_
  intro p e s m args below meth c s₁ B hml hv
  obtain ⟨rfl, rfl, hB⟩ := hv
  have hx := B.exec
  have hb := B.bytes
  have hr := B.returns
  have hts := atoms_spec (ws := w_Md_part) B.pre
  have htg : ∀ w ∈ gw, w.before _ s = true := fun w h => hts w (List.mem_cons_of_mem _ h)
  have hown : s.vm.findClass "NameMergesModel" = some m.cls := findClass_of_methodNamed B.named
  have hlocks := B.notSynchronized
  have hK := hB.1
  have hS : va_S (md_A x g) s.heap s.heap [] := va_S.rf
  obtain ⟨H, hH⟩ : ∃ z : Heap, z = s.heap := ⟨_, rfl⟩
  rw [← hH] at hI
  have hS : va_S (md_A x g) s.heap H [] := by rw [hH]; exact va_S.rf
  have hl := lv_entry ([.ref x, .int qa, .int qb, .int dy]) (n := 6) (Nat.le_of_ble_eq_true rfl)
  rw [lg_entry_eq, ← hH]
  generalize (lg_sl ([.ref x, .int qa, .int qb, .int dy]) ++ List.replicate (6 - (lg_sl ([.ref x, .int qa, .int qb, .int dy])).length) Slot.unset).toArray = ls at hl ⊢
  have hl : lv_has ls 6 [(0, .ref x), (1, .int qa), (2, .int qb), (3, .int dy)] := hl
  refine lv_aload_n hx hb d_Md_part_0 rfl (lv_at hl 0 rfl) ?_
  refine lv_aload_n hx hb d_Md_part_1 rfl (lv_at hl 0 rfl) ?_
  refine lv_iload_n hx hb d_Md_part_2 rfl (lv_at hl 1 rfl) ?_
  refine h_calli (va_runV (As := [.int qa]) (rest := [.ref x]) ⟨hx, hb, hml, hown, htg⟩ (c_Md_isName l D cs N0 H x g i f qa hsep hI n hn) (cwV 1 htg (gw_V (gw_mem (i := 1108) (by decide +kernel) rfl) (gw_mem (i := 1110) (by decide +kernel) rfl) (gw_mem (i := 19) (by decide +kernel) rfl) (gw_mem (i := 38) (by decide +kernel) rfl) (gw_mem (i := 1111) (by decide +kernel) rfl)) rfl rfl rfl (by decide +kernel) ⟨Nat.le_of_ble_eq_true rfl, Nat.le_of_ble_eq_true rfl⟩) ⟨hPre.blind, hx_recv hK (ci := 0) rfl hI.1, hPre.at hB hS hsep.A⟩ rfl rfl hl.1 rfl (lv_room (Nat.le_of_ble_eq_true rfl)) d_Md_part_3 ⟨Nat.zero_le _, Nat.zero_le _⟩) hS (fun _ h => h) (fun r3 H locs hp hz hk hS => ?_)
  obtain ⟨hI, er3⟩ := hp
  refine lv_eqi (y := (bI (isN n qa))) er3 ?_
  refine lv_if_eq (x := (bI (isN n qa))) (tgt := 21) hx hb d_Md_part_6 (by decide) (fun c6 => ?_) (fun c6 => ?_)
  · skip
    replace c6 : (isN n qa) = false := bI_0 c6
    refine lv_iconst (v := 0) hx hb d_Md_part_21 (by decide) ?_
    refine lv_iload_n hx hb d_Md_part_22 rfl (lv_at hl 3 rfl) ?_
    refine h_calli (va_runS (As := [.int dy]) (rest := [.int 0, .ref x]) ⟨hx, hb, hml, hown, htg⟩ (c_Md_isDay l D cs N0 H x g i f dy hsep hI) (cwS 1 htg (gw_S (gw_mem (i := 1112) (by decide +kernel) rfl) (gw_mem (i := 1113) (by decide +kernel) rfl) (gw_mem (i := 38) (by decide +kernel) rfl) (gw_mem (i := 1114) (by decide +kernel) rfl)) rfl rfl rfl (by decide +kernel) ⟨Nat.le_of_ble_eq_true rfl, Nat.le_of_ble_eq_true rfl⟩) ⟨hPre.blind, hPre.at hB hS hsep.A⟩ rfl rfl hl.1 rfl (lv_room (Nat.le_of_ble_eq_true rfl)) d_Md_part_23 ⟨Nat.zero_le _, Nat.zero_le _⟩) hS (fun _ h => h) (fun r23 H locs hp hz hk hS => ?_)
    obtain ⟨hI, er23⟩ := hp
    refine lv_eqi (y := (bI (isD dy))) er23 ?_
    refine lv_iconst (v := 1) hx hb d_Md_part_26 (by decide) ?_
    refine h_calli (va_runV (As := [.int 0, .int (bI (isD dy)), .int 1]) (rest := []) ⟨hx, hb, hml, hown, htg⟩ (c_Md_goes l D cs N0 H x g i f false (isD dy) true hsep hI) (cwV 3 htg (gw_V (gw_mem (i := 1092) (by decide +kernel) rfl) (gw_mem (i := 1094) (by decide +kernel) rfl) (gw_mem (i := 18) (by decide +kernel) rfl) (gw_mem (i := 38) (by decide +kernel) rfl) (gw_mem (i := 1095) (by decide +kernel) rfl)) rfl rfl rfl (by decide +kernel) ⟨Nat.le_of_ble_eq_true rfl, Nat.le_of_ble_eq_true rfl⟩) ⟨hPre.blind, hx_recv hK (ci := 0) rfl hI.1, hPre.at hB hS hsep.A⟩ rfl rfl hl.1 rfl (lv_room (Nat.le_of_ble_eq_true rfl)) d_Md_part_27 ⟨Nat.zero_le _, Nat.zero_le _⟩) hS (fun _ h => h) (fun r27 H locs hp hz hk hS => ?_)
    obtain ⟨hI, er27⟩ := hp
    refine lv_eqi (y := 0) (er27.trans (by simp [goB, bI])) ?_
    refine lv_if_ne (x := 0) (tgt := 35) hx hb d_Md_part_30 (by decide) (fun c30 => ?_) (fun c30 => ?_)
    · exact absurd c30 (by decide)
    · skip
      refine lv_iconst (v := 0) hx hb d_Md_part_33 (by decide) ?_
      exact W.zret (v := 0) hx hb hr (by decide) (fun t ht hW => ⟨⟨0, H, rfl, by dsimp only; have e0 : (isN n qa && isN n qb) = false := (by first | (simp [c6]; done) | (simp [c6]; omega) | omega | simp_all); rw [e0]; rw [if_neg (show ¬ goB false (isD dy) true = true by simp [goB])]; exact ⟨hI, rfl⟩, ht⟩, hS.F ht⟩) hS.2.2 d_Md_part_34
  · skip
    replace c6 : (isN n qa) = true := bI_1 c6
    refine lv_aload_n hx hb d_Md_part_9 rfl (lv_at hl 0 rfl) ?_
    refine lv_iload_n hx hb d_Md_part_10 rfl (lv_at hl 2 rfl) ?_
    refine h_calli (va_runV (As := [.int qb]) (rest := [.ref x]) ⟨hx, hb, hml, hown, htg⟩ (c_Md_isName l D cs N0 H x g i f qb hsep hI n hn) (cwV 1 htg (gw_V (gw_mem (i := 1108) (by decide +kernel) rfl) (gw_mem (i := 1110) (by decide +kernel) rfl) (gw_mem (i := 19) (by decide +kernel) rfl) (gw_mem (i := 38) (by decide +kernel) rfl) (gw_mem (i := 1111) (by decide +kernel) rfl)) rfl rfl rfl (by decide +kernel) ⟨Nat.le_of_ble_eq_true rfl, Nat.le_of_ble_eq_true rfl⟩) ⟨hPre.blind, hx_recv hK (ci := 0) rfl hI.1, hPre.at hB hS hsep.A⟩ rfl rfl hl.1 rfl (lv_room (Nat.le_of_ble_eq_true rfl)) d_Md_part_11 ⟨Nat.zero_le _, Nat.zero_le _⟩) hS (fun _ h => h) (fun r11 H locs hp hz hk hS => ?_)
    obtain ⟨hI, er11⟩ := hp
    refine lv_eqi (y := (bI (isN n qb))) er11 ?_
    refine lv_if_eq (x := (bI (isN n qb))) (tgt := 21) hx hb d_Md_part_14 (by decide) (fun c14 => ?_) (fun c14 => ?_)
    · skip
      replace c14 : (isN n qb) = false := bI_0 c14
      refine lv_iconst (v := 0) hx hb d_Md_part_21 (by decide) ?_
      refine lv_iload_n hx hb d_Md_part_22 rfl (lv_at hl 3 rfl) ?_
      refine h_calli (va_runS (As := [.int dy]) (rest := [.int 0, .ref x]) ⟨hx, hb, hml, hown, htg⟩ (c_Md_isDay l D cs N0 H x g i f dy hsep hI) (cwS 1 htg (gw_S (gw_mem (i := 1112) (by decide +kernel) rfl) (gw_mem (i := 1113) (by decide +kernel) rfl) (gw_mem (i := 38) (by decide +kernel) rfl) (gw_mem (i := 1114) (by decide +kernel) rfl)) rfl rfl rfl (by decide +kernel) ⟨Nat.le_of_ble_eq_true rfl, Nat.le_of_ble_eq_true rfl⟩) ⟨hPre.blind, hPre.at hB hS hsep.A⟩ rfl rfl hl.1 rfl (lv_room (Nat.le_of_ble_eq_true rfl)) d_Md_part_23 ⟨Nat.zero_le _, Nat.zero_le _⟩) hS (fun _ h => h) (fun r23 H locs hp hz hk hS => ?_)
      obtain ⟨hI, er23⟩ := hp
      refine lv_eqi (y := (bI (isD dy))) er23 ?_
      refine lv_iconst (v := 1) hx hb d_Md_part_26 (by decide) ?_
      refine h_calli (va_runV (As := [.int 0, .int (bI (isD dy)), .int 1]) (rest := []) ⟨hx, hb, hml, hown, htg⟩ (c_Md_goes l D cs N0 H x g i f false (isD dy) true hsep hI) (cwV 3 htg (gw_V (gw_mem (i := 1092) (by decide +kernel) rfl) (gw_mem (i := 1094) (by decide +kernel) rfl) (gw_mem (i := 18) (by decide +kernel) rfl) (gw_mem (i := 38) (by decide +kernel) rfl) (gw_mem (i := 1095) (by decide +kernel) rfl)) rfl rfl rfl (by decide +kernel) ⟨Nat.le_of_ble_eq_true rfl, Nat.le_of_ble_eq_true rfl⟩) ⟨hPre.blind, hx_recv hK (ci := 0) rfl hI.1, hPre.at hB hS hsep.A⟩ rfl rfl hl.1 rfl (lv_room (Nat.le_of_ble_eq_true rfl)) d_Md_part_27 ⟨Nat.zero_le _, Nat.zero_le _⟩) hS (fun _ h => h) (fun r27 H locs hp hz hk hS => ?_)
      obtain ⟨hI, er27⟩ := hp
      refine lv_eqi (y := 0) (er27.trans (by simp [goB, bI])) ?_
      refine lv_if_ne (x := 0) (tgt := 35) hx hb d_Md_part_30 (by decide) (fun c30 => ?_) (fun c30 => ?_)
      · exact absurd c30 (by decide)
      · skip
        refine lv_iconst (v := 0) hx hb d_Md_part_33 (by decide) ?_
        exact W.zret (v := 0) hx hb hr (by decide) (fun t ht hW => ⟨⟨0, H, rfl, by dsimp only; have e0 : (isN n qa && isN n qb) = false := (by first | (simp [c6, c14]; done) | (simp [c6, c14]; omega) | omega | simp_all); rw [e0]; rw [if_neg (show ¬ goB false (isD dy) true = true by simp [goB])]; exact ⟨hI, rfl⟩, ht⟩, hS.F ht⟩) hS.2.2 d_Md_part_34
    · skip
      replace c14 : (isN n qb) = true := bI_1 c14
      refine lv_iconst (v := 1) hx hb d_Md_part_17 (by decide) ?_
      refine lv_goto (tgt := 22) hx hb d_Md_part_18 (by decide) ?_
      refine lv_iload_n hx hb d_Md_part_22 rfl (lv_at hl 3 rfl) ?_
      refine h_calli (va_runS (As := [.int dy]) (rest := [.int 1, .ref x]) ⟨hx, hb, hml, hown, htg⟩ (c_Md_isDay l D cs N0 H x g i f dy hsep hI) (cwS 1 htg (gw_S (gw_mem (i := 1112) (by decide +kernel) rfl) (gw_mem (i := 1113) (by decide +kernel) rfl) (gw_mem (i := 38) (by decide +kernel) rfl) (gw_mem (i := 1114) (by decide +kernel) rfl)) rfl rfl rfl (by decide +kernel) ⟨Nat.le_of_ble_eq_true rfl, Nat.le_of_ble_eq_true rfl⟩) ⟨hPre.blind, hPre.at hB hS hsep.A⟩ rfl rfl hl.1 rfl (lv_room (Nat.le_of_ble_eq_true rfl)) d_Md_part_23 ⟨Nat.zero_le _, Nat.zero_le _⟩) hS (fun _ h => h) (fun r23 H locs hp hz hk hS => ?_)
      obtain ⟨hI, er23⟩ := hp
      refine lv_eqi (y := (bI (isD dy))) er23 ?_
      refine lv_iconst (v := 1) hx hb d_Md_part_26 (by decide) ?_
      refine h_calli (va_runV (As := [.int 1, .int (bI (isD dy)), .int 1]) (rest := []) ⟨hx, hb, hml, hown, htg⟩ (c_Md_goes l D cs N0 H x g i f true (isD dy) true hsep hI) (cwV 3 htg (gw_V (gw_mem (i := 1092) (by decide +kernel) rfl) (gw_mem (i := 1094) (by decide +kernel) rfl) (gw_mem (i := 18) (by decide +kernel) rfl) (gw_mem (i := 38) (by decide +kernel) rfl) (gw_mem (i := 1095) (by decide +kernel) rfl)) rfl rfl rfl (by decide +kernel) ⟨Nat.le_of_ble_eq_true rfl, Nat.le_of_ble_eq_true rfl⟩) ⟨hPre.blind, hx_recv hK (ci := 0) rfl hI.1, hPre.at hB hS hsep.A⟩ rfl rfl hl.1 rfl (lv_room (Nat.le_of_ble_eq_true rfl)) d_Md_part_27 ⟨Nat.zero_le _, Nat.zero_le _⟩) hS (fun _ h => h) (fun r27 H locs hp hz hk hS => ?_)
      obtain ⟨hI, er27⟩ := hp
      refine lv_eqi (y := (bI (goB true (isD dy) true))) er27 ?_
      refine lv_if_ne (x := (bI (goB true (isD dy) true))) (tgt := 35) hx hb d_Md_part_30 (by decide) (fun c30 => ?_) (fun c30 => ?_)
      · skip
        replace c30 : (goB true (isD dy) true) = true := bI_1 c30
        refine lv_iconst (v := 0) hx hb d_Md_part_35 (by decide) ?_
        refine lv_istore (lv' := [(4, .int 0), (0, .ref x), (1, .int qa), (2, .int qb), (3, .int dy)]) hx hb d_Md_part_36 hl (by decide) rfl (fun ls hl => ?_)
        have loop38 : ∀ (fuel : Nat) (k : Nat), mg - k < fuel → (k ≤ mg) → (fstFrom (partP f qa qb dy) 0 mg = fstFrom (partP f qa qb dy) k (mg - k)) → ∀ (locs : List Loc), va_S (md_A x g) s.heap H locs → ∀ (ls : Array Slot), lv_has ls 6 [(0, .ref x), (1, .int qa), (2, .int qb), (3, .int dy), (4, .int (nI k))] → W p l e (headSpec w_Md_part ({ frames := 1, cells := 0, slots := 0, locals := 23 })).room s m ([.ref x, .int qa, .int qb, .int dy] : List Value).toArray below meth c H locs 0 0 (MQ below (hQi (fun r H' => if goB (isN n qa && isN n qb) (isD dy) true = true then (if fstFrom (partP f qa qb dy) 0 mg = -1 then (md_I D cs H' x g (upd i 0 (goV (isN n qa && isN n qb) (isD dy) true)) f ∧ r = 0) else (md_I D cs H' x g (upd i 0 (goV (isN n qa && isN n qb) (isD dy) true)) (updA f 16 (tn (fstFrom (partP f qa qb dy) 0 mg)) dy) ∧ r = 1)) else (md_I D cs H' x g (upd i 0 (goV (isN n qa && isN n qb) (isD dy) true)) f ∧ r = 0)) (md_A x g)) ([.ref x, .int qa, .int qb, .int dy] : List Value).toArray s 0 0 (md_A x g)) (F0 m 38 ls []) := by
          intro fuel38
          induction fuel38 with
          | zero => intro k hn; exact absurd hn (Nat.not_lt_zero _)
          | succ fuel38 ih38 =>
            intro k hn38 hk hf9 locs hS ls hl
            refine lv_iload hx hb d_Md_part_38 (lv_at hl 4 rfl) ?_
            refine lv_aload_n hx hb d_Md_part_40 rfl (lv_at hl 0 rfl) ?_
            refine hx_get (v := .int (i 3)) hx hb htg iMd hown hK hI.1 rfl 16 (by decide) (htg _ (gw_mem (i := 1014) (by decide +kernel) rfl)) (fun _ h9 => h9) rfl d_Md_part_41 ?_
            refine lv_eqi (y := (nI mg)) hmg ?_
            refine lv_icmp_ge (x := (nI k)) (y := (nI mg)) (tgt := 141) hx hb d_Md_part_44 (by decide) (fun c44 => ?_) (fun c44 => ?_)
            · skip
              replace c44 : mg ≤ k := (nI_leI (a := mg) (b := k) (by omega) (by omega)).mp c44
              refine lv_iconst (v := 0) hx hb d_Md_part_141 (by decide) ?_
              exact W.zret (v := 0) hx hb hr (by decide) (fun t ht hW => ⟨⟨0, H, rfl, by dsimp only; have e0 : (isN n qa && isN n qb) = true := (by first | (simp [c6, c14, c30, c44]; done) | (simp [c6, c14, c30, c44]; omega) | omega | simp_all); rw [e0]; rw [if_pos c30]; exact (by have e9 := hf9.trans (fst_end (by omega)); rw [if_pos e9]; exact ⟨hI, rfl⟩), ht⟩, hS.F ht⟩) hS.2.2 d_Md_part_142
            · skip
              replace c44 : ¬ (mg ≤ k) := fun z9 => c44 ((nI_leI (a := mg) (b := k) (by omega) (by omega)).mpr z9)
              refine lv_aload_n hx hb d_Md_part_47 rfl (lv_at hl 0 rfl) ?_
              refine hx_get (v := .ref (g 13)) hx hb htg iMd hown hK hI.1 rfl 17 (by decide) (htg _ (gw_mem (i := 1015) (by decide +kernel) rfl)) (fun _ h9 => h9) rfl d_Md_part_48 ?_
              refine lv_iload hx hb d_Md_part_51 (lv_at hl 4 rfl) ?_
              refine hx_iald hx hb hK 0 (hI.2 13 (by decide)) rfl (show vp_in (nI k) 60 from vp_in_nI (n := k) (by omega) (by decide)) d_Md_part_53 ?_
              refine lv_eqi (y := (f 13 k)) (show f 13 (nI k).toNatClampNeg = _ by rw [nI_clamp (by omega)]) ?_
              refine lv_iload_n hx hb d_Md_part_54 rfl (lv_at hl 1 rfl) ?_
              refine lv_icmp_ne (x := (f 13 k)) (y := qa) (tgt := 69) hx hb d_Md_part_55 (by decide) (fun c55 => ?_) (fun c55 => ?_)
              · skip
                refine lv_aload_n hx hb d_Md_part_69 rfl (lv_at hl 0 rfl) ?_
                refine hx_get (v := .ref (g 13)) hx hb htg iMd hown hK hI.1 rfl 17 (by decide) (htg _ (gw_mem (i := 1015) (by decide +kernel) rfl)) (fun _ h9 => h9) rfl d_Md_part_70 ?_
                refine lv_iload hx hb d_Md_part_73 (lv_at hl 4 rfl) ?_
                refine hx_iald hx hb hK 0 (hI.2 13 (by decide)) rfl (show vp_in (nI k) 60 from vp_in_nI (n := k) (by omega) (by decide)) d_Md_part_75 ?_
                refine lv_eqi (y := (f 13 k)) (show f 13 (nI k).toNatClampNeg = _ by rw [nI_clamp (by omega)]) ?_
                refine lv_iload_n hx hb d_Md_part_76 rfl (lv_at hl 2 rfl) ?_
                refine lv_icmp_ne (x := (f 13 k)) (y := qb) (tgt := 95) hx hb d_Md_part_77 (by decide) (fun c77 => ?_) (fun c77 => ?_)
                · skip
                  refine lv_iconst (v := 0) hx hb d_Md_part_95 (by decide) ?_
                  refine lv_istore (lv' := [(5, .int 0), (0, .ref x), (1, .int qa), (2, .int qb), (3, .int dy), (4, .int (nI k))]) hx hb d_Md_part_96 hl (by decide) rfl (fun ls hl => ?_)
                  refine lv_iload hx hb d_Md_part_98 (lv_at hl 0 rfl) ?_
                  refine lv_if_eq (x := 0) (tgt := 135) hx hb d_Md_part_100 (by decide) (fun c100 => ?_) (fun c100 => ?_)
                  · skip
                    refine lv_iinc (v := (nI (k + 1))) (lv' := [(4, .int (nI (k + 1))), (5, .int 0), (0, .ref x), (1, .int qa), (2, .int qb), (3, .int dy)]) hx hb d_Md_part_135 hl (k := 5) rfl (nI_1 k) (by decide) rfl (fun ls hl => ?_)
                    refine lv_goto (tgt := 38) hx hb d_Md_part_138 (by decide) ?_
                    exact ih38  (k + 1) (by omega) (by omega) (hf9.trans (fst_miss (by omega) (by unfold partP; simp only [decide_eq_false c55, decide_eq_false c77]; simp))) _ hS ls (lv_sub hl [2, 3, 4, 5, 0] rfl)
                  · exact absurd c100 (by decide)
                · skip
                  refine lv_aload_n hx hb d_Md_part_80 rfl (lv_at hl 0 rfl) ?_
                  refine hx_get (v := .ref (g 14)) hx hb htg iMd hown hK hI.1 rfl 18 (by decide) (htg _ (gw_mem (i := 1016) (by decide +kernel) rfl)) (fun _ h9 => h9) rfl d_Md_part_81 ?_
                  refine lv_iload hx hb d_Md_part_84 (lv_at hl 4 rfl) ?_
                  refine hx_iald hx hb hK 0 (hI.2 14 (by decide)) rfl (show vp_in (nI k) 60 from vp_in_nI (n := k) (by omega) (by decide)) d_Md_part_86 ?_
                  refine lv_eqi (y := (f 14 k)) (show f 14 (nI k).toNatClampNeg = _ by rw [nI_clamp (by omega)]) ?_
                  refine lv_iload_n hx hb d_Md_part_87 rfl (lv_at hl 1 rfl) ?_
                  refine lv_icmp_ne (x := (f 14 k)) (y := qa) (tgt := 95) hx hb d_Md_part_88 (by decide) (fun c88 => ?_) (fun c88 => ?_)
                  · skip
                    refine lv_iconst (v := 0) hx hb d_Md_part_95 (by decide) ?_
                    refine lv_istore (lv' := [(5, .int 0), (0, .ref x), (1, .int qa), (2, .int qb), (3, .int dy), (4, .int (nI k))]) hx hb d_Md_part_96 hl (by decide) rfl (fun ls hl => ?_)
                    refine lv_iload hx hb d_Md_part_98 (lv_at hl 0 rfl) ?_
                    refine lv_if_eq (x := 0) (tgt := 135) hx hb d_Md_part_100 (by decide) (fun c100 => ?_) (fun c100 => ?_)
                    · skip
                      refine lv_iinc (v := (nI (k + 1))) (lv' := [(4, .int (nI (k + 1))), (5, .int 0), (0, .ref x), (1, .int qa), (2, .int qb), (3, .int dy)]) hx hb d_Md_part_135 hl (k := 5) rfl (nI_1 k) (by decide) rfl (fun ls hl => ?_)
                      refine lv_goto (tgt := 38) hx hb d_Md_part_138 (by decide) ?_
                      exact ih38  (k + 1) (by omega) (by omega) (hf9.trans (fst_miss (by omega) (by unfold partP; simp only [decide_eq_false c55, decide_eq_true c77, decide_eq_false c88]; simp))) _ hS ls (lv_sub hl [2, 3, 4, 5, 0] rfl)
                    · exact absurd c100 (by decide)
                  · skip
                    refine lv_iconst (v := 1) hx hb d_Md_part_91 (by decide) ?_
                    refine lv_goto (tgt := 96) hx hb d_Md_part_92 (by decide) ?_
                    refine lv_istore (lv' := [(5, .int 1), (0, .ref x), (1, .int qa), (2, .int qb), (3, .int dy), (4, .int (nI k))]) hx hb d_Md_part_96 hl (by decide) rfl (fun ls hl => ?_)
                    refine lv_iload hx hb d_Md_part_98 (lv_at hl 0 rfl) ?_
                    refine lv_if_eq (x := 1) (tgt := 135) hx hb d_Md_part_100 (by decide) (fun c100 => ?_) (fun c100 => ?_)
                    · exact absurd c100 (by decide)
                    · skip
                      refine lv_aload_n hx hb d_Md_part_103 rfl (lv_at hl 1 rfl) ?_
                      refine hx_get (v := .ref (g 16)) hx hb htg iMd hown hK hI.1 rfl 20 (by decide) (htg _ (gw_mem (i := 1018) (by decide +kernel) rfl)) (fun _ h9 => h9) rfl d_Md_part_104 ?_
                      refine lv_iload hx hb d_Md_part_107 (lv_at hl 5 rfl) ?_
                      refine hx_iald hx hb hK 0 (hI.2 16 (by decide)) rfl (show vp_in (nI k) 60 from vp_in_nI (n := k) (by omega) (by decide)) d_Md_part_109 ?_
                      refine lv_eqi (y := (f 16 k)) (show f 16 (nI k).toNatClampNeg = _ by rw [nI_clamp (by omega)]) ?_
                      refine lv_iconst (v := (-1)) hx hb d_Md_part_110 (by decide) ?_
                      refine lv_icmp_ne (x := (f 16 k)) (y := (-1)) (tgt := 135) hx hb d_Md_part_111 (by decide) (fun c111 => ?_) (fun c111 => ?_)
                      · skip
                        refine lv_iinc (v := (nI (k + 1))) (lv' := [(4, .int (nI (k + 1))), (5, .int 1), (0, .ref x), (1, .int qa), (2, .int qb), (3, .int dy)]) hx hb d_Md_part_135 hl (k := 5) rfl (nI_1 k) (by decide) rfl (fun ls hl => ?_)
                        refine lv_goto (tgt := 38) hx hb d_Md_part_138 (by decide) ?_
                        exact ih38  (k + 1) (by omega) (by omega) (hf9.trans (fst_miss (by omega) (by unfold partP; simp only [decide_eq_false c55, decide_eq_true c77, decide_eq_true c88, decide_eq_false c111]; simp))) _ hS ls (lv_sub hl [2, 3, 4, 5, 0] rfl)
                      · skip
                        refine lv_aload_n hx hb d_Md_part_114 rfl (lv_at hl 1 rfl) ?_
                        refine hx_get (v := .ref (g 15)) hx hb htg iMd hown hK hI.1 rfl 19 (by decide) (htg _ (gw_mem (i := 1017) (by decide +kernel) rfl)) (fun _ h9 => h9) rfl d_Md_part_115 ?_
                        refine lv_iload hx hb d_Md_part_118 (lv_at hl 5 rfl) ?_
                        refine hx_iald hx hb hK 0 (hI.2 15 (by decide)) rfl (show vp_in (nI k) 60 from vp_in_nI (n := k) (by omega) (by decide)) d_Md_part_120 ?_
                        refine lv_eqi (y := (f 15 k)) (show f 15 (nI k).toNatClampNeg = _ by rw [nI_clamp (by omega)]) ?_
                        refine lv_iload_n hx hb d_Md_part_121 rfl (lv_at hl 4 rfl) ?_
                        refine lv_icmp_ge (x := (f 15 k)) (y := dy) (tgt := 135) hx hb d_Md_part_122 (by decide) (fun c122 => ?_) (fun c122 => ?_)
                        · skip
                          refine lv_iinc (v := (nI (k + 1))) (lv' := [(4, .int (nI (k + 1))), (5, .int 1), (0, .ref x), (1, .int qa), (2, .int qb), (3, .int dy)]) hx hb d_Md_part_135 hl (k := 5) rfl (nI_1 k) (by decide) rfl (fun ls hl => ?_)
                          refine lv_goto (tgt := 38) hx hb d_Md_part_138 (by decide) ?_
                          exact ih38  (k + 1) (by omega) (by omega) (hf9.trans (fst_miss (by omega) (by unfold partP; simp only [decide_eq_false c55, decide_eq_true c77, decide_eq_true c88, decide_eq_true c111, decide_eq_true c122]; simp))) _ hS ls (lv_sub hl [2, 3, 4, 5, 0] rfl)
                        · skip
                          refine lv_aload_n hx hb d_Md_part_125 rfl (lv_at hl 1 rfl) ?_
                          refine hx_get (v := .ref (g 16)) hx hb htg iMd hown hK hI.1 rfl 20 (by decide) (htg _ (gw_mem (i := 1018) (by decide +kernel) rfl)) (fun _ h9 => h9) rfl d_Md_part_126 ?_
                          refine lv_iload hx hb d_Md_part_129 (lv_at hl 5 rfl) ?_
                          refine lv_iload_n hx hb d_Md_part_131 rfl (lv_at hl 4 rfl) ?_
                          refine hx_iast hx hb hK hS (Or.inr ⟨16, by decide, rfl⟩) 0 (hI.2 16 (by decide)) rfl (show vp_in (nI k) 60 from vp_in_nI (n := k) (by omega) (by decide)) d_Md_part_132 (fun H locs hat hz ho hS => ?_)
                          replace hI : md_I D cs H x g (upd i 0 (goV true (isD dy) true)) (updA f 16 k (dy)) := md_I.puta hI hsep (by decide) (by rw [show ((nI k) : Int32).toNatClampNeg = k from nI_clamp (n := k) (by omega)] at hat; exact hat) ho
                          refine lv_iconst (v := 1) hx hb d_Md_part_133 (by decide) ?_
                          exact W.zret (v := 1) hx hb hr (by decide) (fun t ht hW => ⟨⟨1, H, rfl, by dsimp only; have e0 : (isN n qa && isN n qb) = true := (by first | (simp [c6, c14, c30, c44, c55, c77, c88, c111, c122]; done) | (simp [c6, c14, c30, c44, c55, c77, c88, c111, c122]; omega) | omega | simp_all); rw [e0]; rw [if_pos c30]; exact (by have e9 := hf9.trans (fst_hit (by omega) (by unfold partP; simp only [decide_eq_false c55, decide_eq_true c77, decide_eq_true c88, decide_eq_true c111, decide_eq_false c122]; simp)); rw [if_neg (by rw [e9]; exact fun z9 => absurd (nI_pos' (n := k) (by omega)) (by rw [z9]; decide)), e9, show tn (nI k) = k from nI_clamp (by omega)]; exact ⟨hI, rfl⟩), ht⟩, hS.F ht⟩) hS.2.2 d_Md_part_134
              · skip
                refine lv_aload_n hx hb d_Md_part_58 rfl (lv_at hl 0 rfl) ?_
                refine hx_get (v := .ref (g 14)) hx hb htg iMd hown hK hI.1 rfl 18 (by decide) (htg _ (gw_mem (i := 1016) (by decide +kernel) rfl)) (fun _ h9 => h9) rfl d_Md_part_59 ?_
                refine lv_iload hx hb d_Md_part_62 (lv_at hl 4 rfl) ?_
                refine hx_iald hx hb hK 0 (hI.2 14 (by decide)) rfl (show vp_in (nI k) 60 from vp_in_nI (n := k) (by omega) (by decide)) d_Md_part_64 ?_
                refine lv_eqi (y := (f 14 k)) (show f 14 (nI k).toNatClampNeg = _ by rw [nI_clamp (by omega)]) ?_
                refine lv_iload_n hx hb d_Md_part_65 rfl (lv_at hl 2 rfl) ?_
                refine lv_icmp_eq (x := (f 14 k)) (y := qb) (tgt := 91) hx hb d_Md_part_66 (by decide) (fun c66 => ?_) (fun c66 => ?_)
                · skip
                  refine lv_iconst (v := 1) hx hb d_Md_part_91 (by decide) ?_
                  refine lv_goto (tgt := 96) hx hb d_Md_part_92 (by decide) ?_
                  refine lv_istore (lv' := [(5, .int 1), (0, .ref x), (1, .int qa), (2, .int qb), (3, .int dy), (4, .int (nI k))]) hx hb d_Md_part_96 hl (by decide) rfl (fun ls hl => ?_)
                  refine lv_iload hx hb d_Md_part_98 (lv_at hl 0 rfl) ?_
                  refine lv_if_eq (x := 1) (tgt := 135) hx hb d_Md_part_100 (by decide) (fun c100 => ?_) (fun c100 => ?_)
                  · exact absurd c100 (by decide)
                  · skip
                    refine lv_aload_n hx hb d_Md_part_103 rfl (lv_at hl 1 rfl) ?_
                    refine hx_get (v := .ref (g 16)) hx hb htg iMd hown hK hI.1 rfl 20 (by decide) (htg _ (gw_mem (i := 1018) (by decide +kernel) rfl)) (fun _ h9 => h9) rfl d_Md_part_104 ?_
                    refine lv_iload hx hb d_Md_part_107 (lv_at hl 5 rfl) ?_
                    refine hx_iald hx hb hK 0 (hI.2 16 (by decide)) rfl (show vp_in (nI k) 60 from vp_in_nI (n := k) (by omega) (by decide)) d_Md_part_109 ?_
                    refine lv_eqi (y := (f 16 k)) (show f 16 (nI k).toNatClampNeg = _ by rw [nI_clamp (by omega)]) ?_
                    refine lv_iconst (v := (-1)) hx hb d_Md_part_110 (by decide) ?_
                    refine lv_icmp_ne (x := (f 16 k)) (y := (-1)) (tgt := 135) hx hb d_Md_part_111 (by decide) (fun c111 => ?_) (fun c111 => ?_)
                    · skip
                      refine lv_iinc (v := (nI (k + 1))) (lv' := [(4, .int (nI (k + 1))), (5, .int 1), (0, .ref x), (1, .int qa), (2, .int qb), (3, .int dy)]) hx hb d_Md_part_135 hl (k := 5) rfl (nI_1 k) (by decide) rfl (fun ls hl => ?_)
                      refine lv_goto (tgt := 38) hx hb d_Md_part_138 (by decide) ?_
                      exact ih38  (k + 1) (by omega) (by omega) (hf9.trans (fst_miss (by omega) (by unfold partP; simp only [decide_eq_true c55, decide_eq_true c66, decide_eq_false c111]; simp))) _ hS ls (lv_sub hl [2, 3, 4, 5, 0] rfl)
                    · skip
                      refine lv_aload_n hx hb d_Md_part_114 rfl (lv_at hl 1 rfl) ?_
                      refine hx_get (v := .ref (g 15)) hx hb htg iMd hown hK hI.1 rfl 19 (by decide) (htg _ (gw_mem (i := 1017) (by decide +kernel) rfl)) (fun _ h9 => h9) rfl d_Md_part_115 ?_
                      refine lv_iload hx hb d_Md_part_118 (lv_at hl 5 rfl) ?_
                      refine hx_iald hx hb hK 0 (hI.2 15 (by decide)) rfl (show vp_in (nI k) 60 from vp_in_nI (n := k) (by omega) (by decide)) d_Md_part_120 ?_
                      refine lv_eqi (y := (f 15 k)) (show f 15 (nI k).toNatClampNeg = _ by rw [nI_clamp (by omega)]) ?_
                      refine lv_iload_n hx hb d_Md_part_121 rfl (lv_at hl 4 rfl) ?_
                      refine lv_icmp_ge (x := (f 15 k)) (y := dy) (tgt := 135) hx hb d_Md_part_122 (by decide) (fun c122 => ?_) (fun c122 => ?_)
                      · skip
                        refine lv_iinc (v := (nI (k + 1))) (lv' := [(4, .int (nI (k + 1))), (5, .int 1), (0, .ref x), (1, .int qa), (2, .int qb), (3, .int dy)]) hx hb d_Md_part_135 hl (k := 5) rfl (nI_1 k) (by decide) rfl (fun ls hl => ?_)
                        refine lv_goto (tgt := 38) hx hb d_Md_part_138 (by decide) ?_
                        exact ih38  (k + 1) (by omega) (by omega) (hf9.trans (fst_miss (by omega) (by unfold partP; simp only [decide_eq_true c55, decide_eq_true c66, decide_eq_true c111, decide_eq_true c122]; simp))) _ hS ls (lv_sub hl [2, 3, 4, 5, 0] rfl)
                      · skip
                        refine lv_aload_n hx hb d_Md_part_125 rfl (lv_at hl 1 rfl) ?_
                        refine hx_get (v := .ref (g 16)) hx hb htg iMd hown hK hI.1 rfl 20 (by decide) (htg _ (gw_mem (i := 1018) (by decide +kernel) rfl)) (fun _ h9 => h9) rfl d_Md_part_126 ?_
                        refine lv_iload hx hb d_Md_part_129 (lv_at hl 5 rfl) ?_
                        refine lv_iload_n hx hb d_Md_part_131 rfl (lv_at hl 4 rfl) ?_
                        refine hx_iast hx hb hK hS (Or.inr ⟨16, by decide, rfl⟩) 0 (hI.2 16 (by decide)) rfl (show vp_in (nI k) 60 from vp_in_nI (n := k) (by omega) (by decide)) d_Md_part_132 (fun H locs hat hz ho hS => ?_)
                        replace hI : md_I D cs H x g (upd i 0 (goV true (isD dy) true)) (updA f 16 k (dy)) := md_I.puta hI hsep (by decide) (by rw [show ((nI k) : Int32).toNatClampNeg = k from nI_clamp (n := k) (by omega)] at hat; exact hat) ho
                        refine lv_iconst (v := 1) hx hb d_Md_part_133 (by decide) ?_
                        exact W.zret (v := 1) hx hb hr (by decide) (fun t ht hW => ⟨⟨1, H, rfl, by dsimp only; have e0 : (isN n qa && isN n qb) = true := (by first | (simp [c6, c14, c30, c44, c55, c66, c111, c122]; done) | (simp [c6, c14, c30, c44, c55, c66, c111, c122]; omega) | omega | simp_all); rw [e0]; rw [if_pos c30]; exact (by have e9 := hf9.trans (fst_hit (by omega) (by unfold partP; simp only [decide_eq_true c55, decide_eq_true c66, decide_eq_true c111, decide_eq_false c122]; simp)); rw [if_neg (by rw [e9]; exact fun z9 => absurd (nI_pos' (n := k) (by omega)) (by rw [z9]; decide)), e9, show tn (nI k) = k from nI_clamp (by omega)]; exact ⟨hI, rfl⟩), ht⟩, hS.F ht⟩) hS.2.2 d_Md_part_134
                · skip
                  refine lv_aload_n hx hb d_Md_part_69 rfl (lv_at hl 0 rfl) ?_
                  refine hx_get (v := .ref (g 13)) hx hb htg iMd hown hK hI.1 rfl 17 (by decide) (htg _ (gw_mem (i := 1015) (by decide +kernel) rfl)) (fun _ h9 => h9) rfl d_Md_part_70 ?_
                  refine lv_iload hx hb d_Md_part_73 (lv_at hl 4 rfl) ?_
                  refine hx_iald hx hb hK 0 (hI.2 13 (by decide)) rfl (show vp_in (nI k) 60 from vp_in_nI (n := k) (by omega) (by decide)) d_Md_part_75 ?_
                  refine lv_eqi (y := (f 13 k)) (show f 13 (nI k).toNatClampNeg = _ by rw [nI_clamp (by omega)]) ?_
                  refine lv_iload_n hx hb d_Md_part_76 rfl (lv_at hl 2 rfl) ?_
                  refine lv_icmp_ne (x := (f 13 k)) (y := qb) (tgt := 95) hx hb d_Md_part_77 (by decide) (fun c77 => ?_) (fun c77 => ?_)
                  · skip
                    refine lv_iconst (v := 0) hx hb d_Md_part_95 (by decide) ?_
                    refine lv_istore (lv' := [(5, .int 0), (0, .ref x), (1, .int qa), (2, .int qb), (3, .int dy), (4, .int (nI k))]) hx hb d_Md_part_96 hl (by decide) rfl (fun ls hl => ?_)
                    refine lv_iload hx hb d_Md_part_98 (lv_at hl 0 rfl) ?_
                    refine lv_if_eq (x := 0) (tgt := 135) hx hb d_Md_part_100 (by decide) (fun c100 => ?_) (fun c100 => ?_)
                    · skip
                      refine lv_iinc (v := (nI (k + 1))) (lv' := [(4, .int (nI (k + 1))), (5, .int 0), (0, .ref x), (1, .int qa), (2, .int qb), (3, .int dy)]) hx hb d_Md_part_135 hl (k := 5) rfl (nI_1 k) (by decide) rfl (fun ls hl => ?_)
                      refine lv_goto (tgt := 38) hx hb d_Md_part_138 (by decide) ?_
                      exact ih38  (k + 1) (by omega) (by omega) (hf9.trans (fst_miss (by omega) (by unfold partP; simp only [decide_eq_true c55, decide_eq_false c66, decide_eq_false c77]; simp))) _ hS ls (lv_sub hl [2, 3, 4, 5, 0] rfl)
                    · exact absurd c100 (by decide)
                  · skip
                    refine lv_aload_n hx hb d_Md_part_80 rfl (lv_at hl 0 rfl) ?_
                    refine hx_get (v := .ref (g 14)) hx hb htg iMd hown hK hI.1 rfl 18 (by decide) (htg _ (gw_mem (i := 1016) (by decide +kernel) rfl)) (fun _ h9 => h9) rfl d_Md_part_81 ?_
                    refine lv_iload hx hb d_Md_part_84 (lv_at hl 4 rfl) ?_
                    refine hx_iald hx hb hK 0 (hI.2 14 (by decide)) rfl (show vp_in (nI k) 60 from vp_in_nI (n := k) (by omega) (by decide)) d_Md_part_86 ?_
                    refine lv_eqi (y := (f 14 k)) (show f 14 (nI k).toNatClampNeg = _ by rw [nI_clamp (by omega)]) ?_
                    refine lv_iload_n hx hb d_Md_part_87 rfl (lv_at hl 1 rfl) ?_
                    refine lv_icmp_ne (x := (f 14 k)) (y := qa) (tgt := 95) hx hb d_Md_part_88 (by decide) (fun c88 => ?_) (fun c88 => ?_)
                    · skip
                      refine lv_iconst (v := 0) hx hb d_Md_part_95 (by decide) ?_
                      refine lv_istore (lv' := [(5, .int 0), (0, .ref x), (1, .int qa), (2, .int qb), (3, .int dy), (4, .int (nI k))]) hx hb d_Md_part_96 hl (by decide) rfl (fun ls hl => ?_)
                      refine lv_iload hx hb d_Md_part_98 (lv_at hl 0 rfl) ?_
                      refine lv_if_eq (x := 0) (tgt := 135) hx hb d_Md_part_100 (by decide) (fun c100 => ?_) (fun c100 => ?_)
                      · skip
                        refine lv_iinc (v := (nI (k + 1))) (lv' := [(4, .int (nI (k + 1))), (5, .int 0), (0, .ref x), (1, .int qa), (2, .int qb), (3, .int dy)]) hx hb d_Md_part_135 hl (k := 5) rfl (nI_1 k) (by decide) rfl (fun ls hl => ?_)
                        refine lv_goto (tgt := 38) hx hb d_Md_part_138 (by decide) ?_
                        exact ih38  (k + 1) (by omega) (by omega) (hf9.trans (fst_miss (by omega) (by unfold partP; simp only [decide_eq_true c55, decide_eq_false c66, decide_eq_true c77, decide_eq_false c88]; simp))) _ hS ls (lv_sub hl [2, 3, 4, 5, 0] rfl)
                      · exact absurd c100 (by decide)
                    · skip
                      refine lv_iconst (v := 1) hx hb d_Md_part_91 (by decide) ?_
                      refine lv_goto (tgt := 96) hx hb d_Md_part_92 (by decide) ?_
                      refine lv_istore (lv' := [(5, .int 1), (0, .ref x), (1, .int qa), (2, .int qb), (3, .int dy), (4, .int (nI k))]) hx hb d_Md_part_96 hl (by decide) rfl (fun ls hl => ?_)
                      refine lv_iload hx hb d_Md_part_98 (lv_at hl 0 rfl) ?_
                      refine lv_if_eq (x := 1) (tgt := 135) hx hb d_Md_part_100 (by decide) (fun c100 => ?_) (fun c100 => ?_)
                      · exact absurd c100 (by decide)
                      · skip
                        refine lv_aload_n hx hb d_Md_part_103 rfl (lv_at hl 1 rfl) ?_
                        refine hx_get (v := .ref (g 16)) hx hb htg iMd hown hK hI.1 rfl 20 (by decide) (htg _ (gw_mem (i := 1018) (by decide +kernel) rfl)) (fun _ h9 => h9) rfl d_Md_part_104 ?_
                        refine lv_iload hx hb d_Md_part_107 (lv_at hl 5 rfl) ?_
                        refine hx_iald hx hb hK 0 (hI.2 16 (by decide)) rfl (show vp_in (nI k) 60 from vp_in_nI (n := k) (by omega) (by decide)) d_Md_part_109 ?_
                        refine lv_eqi (y := (f 16 k)) (show f 16 (nI k).toNatClampNeg = _ by rw [nI_clamp (by omega)]) ?_
                        refine lv_iconst (v := (-1)) hx hb d_Md_part_110 (by decide) ?_
                        refine lv_icmp_ne (x := (f 16 k)) (y := (-1)) (tgt := 135) hx hb d_Md_part_111 (by decide) (fun c111 => ?_) (fun c111 => ?_)
                        · skip
                          refine lv_iinc (v := (nI (k + 1))) (lv' := [(4, .int (nI (k + 1))), (5, .int 1), (0, .ref x), (1, .int qa), (2, .int qb), (3, .int dy)]) hx hb d_Md_part_135 hl (k := 5) rfl (nI_1 k) (by decide) rfl (fun ls hl => ?_)
                          refine lv_goto (tgt := 38) hx hb d_Md_part_138 (by decide) ?_
                          exact ih38  (k + 1) (by omega) (by omega) (hf9.trans (fst_miss (by omega) (by unfold partP; simp only [decide_eq_true c55, decide_eq_false c66, decide_eq_true c77, decide_eq_true c88, decide_eq_false c111]; simp))) _ hS ls (lv_sub hl [2, 3, 4, 5, 0] rfl)
                        · skip
                          refine lv_aload_n hx hb d_Md_part_114 rfl (lv_at hl 1 rfl) ?_
                          refine hx_get (v := .ref (g 15)) hx hb htg iMd hown hK hI.1 rfl 19 (by decide) (htg _ (gw_mem (i := 1017) (by decide +kernel) rfl)) (fun _ h9 => h9) rfl d_Md_part_115 ?_
                          refine lv_iload hx hb d_Md_part_118 (lv_at hl 5 rfl) ?_
                          refine hx_iald hx hb hK 0 (hI.2 15 (by decide)) rfl (show vp_in (nI k) 60 from vp_in_nI (n := k) (by omega) (by decide)) d_Md_part_120 ?_
                          refine lv_eqi (y := (f 15 k)) (show f 15 (nI k).toNatClampNeg = _ by rw [nI_clamp (by omega)]) ?_
                          refine lv_iload_n hx hb d_Md_part_121 rfl (lv_at hl 4 rfl) ?_
                          refine lv_icmp_ge (x := (f 15 k)) (y := dy) (tgt := 135) hx hb d_Md_part_122 (by decide) (fun c122 => ?_) (fun c122 => ?_)
                          · skip
                            refine lv_iinc (v := (nI (k + 1))) (lv' := [(4, .int (nI (k + 1))), (5, .int 1), (0, .ref x), (1, .int qa), (2, .int qb), (3, .int dy)]) hx hb d_Md_part_135 hl (k := 5) rfl (nI_1 k) (by decide) rfl (fun ls hl => ?_)
                            refine lv_goto (tgt := 38) hx hb d_Md_part_138 (by decide) ?_
                            exact ih38  (k + 1) (by omega) (by omega) (hf9.trans (fst_miss (by omega) (by unfold partP; simp only [decide_eq_true c55, decide_eq_false c66, decide_eq_true c77, decide_eq_true c88, decide_eq_true c111, decide_eq_true c122]; simp))) _ hS ls (lv_sub hl [2, 3, 4, 5, 0] rfl)
                          · skip
                            refine lv_aload_n hx hb d_Md_part_125 rfl (lv_at hl 1 rfl) ?_
                            refine hx_get (v := .ref (g 16)) hx hb htg iMd hown hK hI.1 rfl 20 (by decide) (htg _ (gw_mem (i := 1018) (by decide +kernel) rfl)) (fun _ h9 => h9) rfl d_Md_part_126 ?_
                            refine lv_iload hx hb d_Md_part_129 (lv_at hl 5 rfl) ?_
                            refine lv_iload_n hx hb d_Md_part_131 rfl (lv_at hl 4 rfl) ?_
                            refine hx_iast hx hb hK hS (Or.inr ⟨16, by decide, rfl⟩) 0 (hI.2 16 (by decide)) rfl (show vp_in (nI k) 60 from vp_in_nI (n := k) (by omega) (by decide)) d_Md_part_132 (fun H locs hat hz ho hS => ?_)
                            replace hI : md_I D cs H x g (upd i 0 (goV true (isD dy) true)) (updA f 16 k (dy)) := md_I.puta hI hsep (by decide) (by rw [show ((nI k) : Int32).toNatClampNeg = k from nI_clamp (n := k) (by omega)] at hat; exact hat) ho
                            refine lv_iconst (v := 1) hx hb d_Md_part_133 (by decide) ?_
                            exact W.zret (v := 1) hx hb hr (by decide) (fun t ht hW => ⟨⟨1, H, rfl, by dsimp only; have e0 : (isN n qa && isN n qb) = true := (by first | (simp [c6, c14, c30, c44, c55, c66, c77, c88, c111, c122]; done) | (simp [c6, c14, c30, c44, c55, c66, c77, c88, c111, c122]; omega) | omega | simp_all); rw [e0]; rw [if_pos c30]; exact (by have e9 := hf9.trans (fst_hit (by omega) (by unfold partP; simp only [decide_eq_true c55, decide_eq_false c66, decide_eq_true c77, decide_eq_true c88, decide_eq_true c111, decide_eq_false c122]; simp)); rw [if_neg (by rw [e9]; exact fun z9 => absurd (nI_pos' (n := k) (by omega)) (by rw [z9]; decide)), e9, show tn (nI k) = k from nI_clamp (by omega)]; exact ⟨hI, rfl⟩), ht⟩, hS.F ht⟩) hS.2.2 d_Md_part_134
        exact loop38 ((mg - 0) + 1) 0 (Nat.lt_succ_self _) (Nat.zero_le _) rfl _ hS ls (lv_sub hl [1, 2, 3, 4, 0] rfl)
      · skip
        replace c30 : (goB true (isD dy) true) = false := bI_0 c30
        refine lv_iconst (v := 0) hx hb d_Md_part_33 (by decide) ?_
        exact W.zret (v := 0) hx hb hr (by decide) (fun t ht hW => ⟨⟨0, H, rfl, by dsimp only; have e0 : (isN n qa && isN n qb) = true := (by first | (simp [c6, c14, c30]; done) | (simp [c6, c14, c30]; omega) | omega | simp_all); rw [e0]; rw [if_neg (show ¬ goB true (isD dy) true = true by rw [c30]; decide)]; exact ⟨hI, rfl⟩, ht⟩, hS.F ht⟩) hS.2.2 d_Md_part_34
def y_Md_common : MethodName := ⟨"NameMergesModel", "common", "(II)I"⟩
abbrev w_Md_common : List Cond := Cond.code y_Md_common prog_7_method_11_code 6 (Option.some Jvm.ClassFile.FieldType.int) :: gw
theorem d_Md_common_0 : decode prog_7_method_11_code 0 = .ok (.iconst 0, 1) := by decide +kernel
theorem d_Md_common_1 : decode prog_7_method_11_code 1 = .ok (.istore_n 3, 1) := by decide +kernel
theorem d_Md_common_2 : decode prog_7_method_11_code 2 = .ok (.iload_n 3, 1) := by decide +kernel
theorem d_Md_common_3 : decode prog_7_method_11_code 3 = .ok (.aload_n 0, 1) := by decide +kernel
theorem d_Md_common_4 : decode prog_7_method_11_code 4 = .ok (.getfield 16, 3) := by decide +kernel
theorem d_Md_common_7 : decode prog_7_method_11_code 7 = .ok (.iload_n 1, 1) := by decide +kernel
theorem d_Md_common_8 : decode prog_7_method_11_code 8 = .ok (.iaload, 1) := by decide +kernel
theorem d_Md_common_9 : decode prog_7_method_11_code 9 = .ok (.if_icmp .gt 161, 3) := by decide +kernel
theorem d_Md_common_12 : decode prog_7_method_11_code 12 = .ok (.iconst 0, 1) := by decide +kernel
theorem d_Md_common_13 : decode prog_7_method_11_code 13 = .ok (.istore 4, 2) := by decide +kernel
theorem d_Md_common_15 : decode prog_7_method_11_code 15 = .ok (.iload 4, 2) := by decide +kernel
theorem d_Md_common_17 : decode prog_7_method_11_code 17 = .ok (.aload_n 0, 1) := by decide +kernel
theorem d_Md_common_18 : decode prog_7_method_11_code 18 = .ok (.getfield 16, 3) := by decide +kernel
theorem d_Md_common_21 : decode prog_7_method_11_code 21 = .ok (.iload_n 2, 1) := by decide +kernel
theorem d_Md_common_22 : decode prog_7_method_11_code 22 = .ok (.iaload, 1) := by decide +kernel
theorem d_Md_common_23 : decode prog_7_method_11_code 23 = .ok (.if_icmp .gt 141, 3) := by decide +kernel
theorem d_Md_common_26 : decode prog_7_method_11_code 26 = .ok (.bipush 13, 2) := by decide +kernel
theorem d_Md_common_28 : decode prog_7_method_11_code 28 = .ok (.iload_n 3, 1) := by decide +kernel
theorem d_Md_common_29 : decode prog_7_method_11_code 29 = .ok (.imul, 1) := by decide +kernel
theorem d_Md_common_30 : decode prog_7_method_11_code 30 = .ok (.iload 4, 2) := by decide +kernel
theorem d_Md_common_32 : decode prog_7_method_11_code 32 = .ok (.iadd, 1) := by decide +kernel
theorem d_Md_common_33 : decode prog_7_method_11_code 33 = .ok (.istore 5, 2) := by decide +kernel
theorem d_Md_common_35 : decode prog_7_method_11_code 35 = .ok (.iload_n 3, 1) := by decide +kernel
theorem d_Md_common_36 : decode prog_7_method_11_code 36 = .ok (.ifCond .eq 8, 3) := by decide +kernel
theorem d_Md_common_39 : decode prog_7_method_11_code 39 = .ok (.iload 4, 2) := by decide +kernel
theorem d_Md_common_41 : decode prog_7_method_11_code 41 = .ok (.ifCond .ne 14, 3) := by decide +kernel
theorem d_Md_common_44 : decode prog_7_method_11_code 44 = .ok (.aload_n 0, 1) := by decide +kernel
theorem d_Md_common_45 : decode prog_7_method_11_code 45 = .ok (.getfield 74, 3) := by decide +kernel
theorem d_Md_common_48 : decode prog_7_method_11_code 48 = .ok (.iload 5, 2) := by decide +kernel
theorem d_Md_common_50 : decode prog_7_method_11_code 50 = .ok (.iconst 0, 1) := by decide +kernel
theorem d_Md_common_51 : decode prog_7_method_11_code 51 = .ok (.iastore, 1) := by decide +kernel
theorem d_Md_common_52 : decode prog_7_method_11_code 52 = .ok (.goto 106, 3) := by decide +kernel
theorem d_Md_common_55 : decode prog_7_method_11_code 55 = .ok (.aload_n 0, 1) := by decide +kernel
theorem d_Md_common_56 : decode prog_7_method_11_code 56 = .ok (.getfield 19, 3) := by decide +kernel
theorem d_Md_common_59 : decode prog_7_method_11_code 59 = .ok (.bipush 12, 2) := by decide +kernel
theorem d_Md_common_61 : decode prog_7_method_11_code 61 = .ok (.iload_n 1, 1) := by decide +kernel
theorem d_Md_common_62 : decode prog_7_method_11_code 62 = .ok (.imul, 1) := by decide +kernel
theorem d_Md_common_63 : decode prog_7_method_11_code 63 = .ok (.iload_n 3, 1) := by decide +kernel
theorem d_Md_common_64 : decode prog_7_method_11_code 64 = .ok (.iadd, 1) := by decide +kernel
theorem d_Md_common_65 : decode prog_7_method_11_code 65 = .ok (.iconst 1, 1) := by decide +kernel
theorem d_Md_common_66 : decode prog_7_method_11_code 66 = .ok (.isub, 1) := by decide +kernel
theorem d_Md_common_67 : decode prog_7_method_11_code 67 = .ok (.iaload, 1) := by decide +kernel
theorem d_Md_common_68 : decode prog_7_method_11_code 68 = .ok (.aload_n 0, 1) := by decide +kernel
theorem d_Md_common_69 : decode prog_7_method_11_code 69 = .ok (.getfield 19, 3) := by decide +kernel
theorem d_Md_common_72 : decode prog_7_method_11_code 72 = .ok (.bipush 12, 2) := by decide +kernel
theorem d_Md_common_74 : decode prog_7_method_11_code 74 = .ok (.iload_n 2, 1) := by decide +kernel
theorem d_Md_common_75 : decode prog_7_method_11_code 75 = .ok (.imul, 1) := by decide +kernel
theorem d_Md_common_76 : decode prog_7_method_11_code 76 = .ok (.iload 4, 2) := by decide +kernel
theorem d_Md_common_78 : decode prog_7_method_11_code 78 = .ok (.iadd, 1) := by decide +kernel
theorem d_Md_common_79 : decode prog_7_method_11_code 79 = .ok (.iconst 1, 1) := by decide +kernel
theorem d_Md_common_80 : decode prog_7_method_11_code 80 = .ok (.isub, 1) := by decide +kernel
theorem d_Md_common_81 : decode prog_7_method_11_code 81 = .ok (.iaload, 1) := by decide +kernel
theorem d_Md_common_82 : decode prog_7_method_11_code 82 = .ok (.if_icmp .ne 25, 3) := by decide +kernel
theorem d_Md_common_85 : decode prog_7_method_11_code 85 = .ok (.aload_n 0, 1) := by decide +kernel
theorem d_Md_common_86 : decode prog_7_method_11_code 86 = .ok (.getfield 74, 3) := by decide +kernel
theorem d_Md_common_89 : decode prog_7_method_11_code 89 = .ok (.iload 5, 2) := by decide +kernel
theorem d_Md_common_91 : decode prog_7_method_11_code 91 = .ok (.aload_n 0, 1) := by decide +kernel
theorem d_Md_common_92 : decode prog_7_method_11_code 92 = .ok (.getfield 74, 3) := by decide +kernel
theorem d_Md_common_95 : decode prog_7_method_11_code 95 = .ok (.iload 5, 2) := by decide +kernel
theorem d_Md_common_97 : decode prog_7_method_11_code 97 = .ok (.bipush 14, 2) := by decide +kernel
theorem d_Md_common_99 : decode prog_7_method_11_code 99 = .ok (.isub, 1) := by decide +kernel
theorem d_Md_common_100 : decode prog_7_method_11_code 100 = .ok (.iaload, 1) := by decide +kernel
theorem d_Md_common_101 : decode prog_7_method_11_code 101 = .ok (.iconst 1, 1) := by decide +kernel
theorem d_Md_common_102 : decode prog_7_method_11_code 102 = .ok (.iadd, 1) := by decide +kernel
theorem d_Md_common_103 : decode prog_7_method_11_code 103 = .ok (.iastore, 1) := by decide +kernel
theorem d_Md_common_104 : decode prog_7_method_11_code 104 = .ok (.goto 54, 3) := by decide +kernel
theorem d_Md_common_107 : decode prog_7_method_11_code 107 = .ok (.aload_n 0, 1) := by decide +kernel
theorem d_Md_common_108 : decode prog_7_method_11_code 108 = .ok (.getfield 74, 3) := by decide +kernel
theorem d_Md_common_111 : decode prog_7_method_11_code 111 = .ok (.iload 5, 2) := by decide +kernel
theorem d_Md_common_113 : decode prog_7_method_11_code 113 = .ok (.aload_n 0, 1) := by decide +kernel
theorem d_Md_common_114 : decode prog_7_method_11_code 114 = .ok (.getfield 74, 3) := by decide +kernel
theorem d_Md_common_117 : decode prog_7_method_11_code 117 = .ok (.iload 5, 2) := by decide +kernel
theorem d_Md_common_119 : decode prog_7_method_11_code 119 = .ok (.bipush 13, 2) := by decide +kernel
theorem d_Md_common_121 : decode prog_7_method_11_code 121 = .ok (.isub, 1) := by decide +kernel
theorem d_Md_common_122 : decode prog_7_method_11_code 122 = .ok (.iaload, 1) := by decide +kernel
theorem d_Md_common_123 : decode prog_7_method_11_code 123 = .ok (.aload_n 0, 1) := by decide +kernel
theorem d_Md_common_124 : decode prog_7_method_11_code 124 = .ok (.getfield 74, 3) := by decide +kernel
theorem d_Md_common_127 : decode prog_7_method_11_code 127 = .ok (.iload 5, 2) := by decide +kernel
theorem d_Md_common_129 : decode prog_7_method_11_code 129 = .ok (.iconst 1, 1) := by decide +kernel
theorem d_Md_common_130 : decode prog_7_method_11_code 130 = .ok (.isub, 1) := by decide +kernel
theorem d_Md_common_131 : decode prog_7_method_11_code 131 = .ok (.iaload, 1) := by decide +kernel
theorem d_Md_common_132 : decode prog_7_method_11_code 132 = .ok (.if_icmp .le 16, 3) := by decide +kernel
theorem d_Md_common_135 : decode prog_7_method_11_code 135 = .ok (.aload_n 0, 1) := by decide +kernel
theorem d_Md_common_136 : decode prog_7_method_11_code 136 = .ok (.getfield 74, 3) := by decide +kernel
theorem d_Md_common_139 : decode prog_7_method_11_code 139 = .ok (.iload 5, 2) := by decide +kernel
theorem d_Md_common_141 : decode prog_7_method_11_code 141 = .ok (.bipush 13, 2) := by decide +kernel
theorem d_Md_common_143 : decode prog_7_method_11_code 143 = .ok (.isub, 1) := by decide +kernel
theorem d_Md_common_144 : decode prog_7_method_11_code 144 = .ok (.iaload, 1) := by decide +kernel
theorem d_Md_common_145 : decode prog_7_method_11_code 145 = .ok (.goto 12, 3) := by decide +kernel
theorem d_Md_common_148 : decode prog_7_method_11_code 148 = .ok (.aload_n 0, 1) := by decide +kernel
theorem d_Md_common_149 : decode prog_7_method_11_code 149 = .ok (.getfield 74, 3) := by decide +kernel
theorem d_Md_common_152 : decode prog_7_method_11_code 152 = .ok (.iload 5, 2) := by decide +kernel
theorem d_Md_common_154 : decode prog_7_method_11_code 154 = .ok (.iconst 1, 1) := by decide +kernel
theorem d_Md_common_155 : decode prog_7_method_11_code 155 = .ok (.isub, 1) := by decide +kernel
theorem d_Md_common_156 : decode prog_7_method_11_code 156 = .ok (.iaload, 1) := by decide +kernel
theorem d_Md_common_157 : decode prog_7_method_11_code 157 = .ok (.iastore, 1) := by decide +kernel
theorem d_Md_common_158 : decode prog_7_method_11_code 158 = .ok (.iinc 4 1, 3) := by decide +kernel
theorem d_Md_common_161 : decode prog_7_method_11_code 161 = .ok (.goto (-146), 3) := by decide +kernel
theorem d_Md_common_164 : decode prog_7_method_11_code 164 = .ok (.iinc 3 1, 3) := by decide +kernel
theorem d_Md_common_167 : decode prog_7_method_11_code 167 = .ok (.goto (-165), 3) := by decide +kernel
theorem d_Md_common_170 : decode prog_7_method_11_code 170 = .ok (.aload_n 0, 1) := by decide +kernel
theorem d_Md_common_171 : decode prog_7_method_11_code 171 = .ok (.getfield 74, 3) := by decide +kernel
theorem d_Md_common_174 : decode prog_7_method_11_code 174 = .ok (.bipush 13, 2) := by decide +kernel
theorem d_Md_common_176 : decode prog_7_method_11_code 176 = .ok (.aload_n 0, 1) := by decide +kernel
theorem d_Md_common_177 : decode prog_7_method_11_code 177 = .ok (.getfield 16, 3) := by decide +kernel
theorem d_Md_common_180 : decode prog_7_method_11_code 180 = .ok (.iload_n 1, 1) := by decide +kernel
theorem d_Md_common_181 : decode prog_7_method_11_code 181 = .ok (.iaload, 1) := by decide +kernel
theorem d_Md_common_182 : decode prog_7_method_11_code 182 = .ok (.imul, 1) := by decide +kernel
theorem d_Md_common_183 : decode prog_7_method_11_code 183 = .ok (.aload_n 0, 1) := by decide +kernel
theorem d_Md_common_184 : decode prog_7_method_11_code 184 = .ok (.getfield 16, 3) := by decide +kernel
theorem d_Md_common_187 : decode prog_7_method_11_code 187 = .ok (.iload_n 2, 1) := by decide +kernel
theorem d_Md_common_188 : decode prog_7_method_11_code 188 = .ok (.iaload, 1) := by decide +kernel
theorem d_Md_common_189 : decode prog_7_method_11_code 189 = .ok (.iadd, 1) := by decide +kernel
theorem d_Md_common_190 : decode prog_7_method_11_code 190 = .ok (.iaload, 1) := by decide +kernel
theorem d_Md_common_191 : decode prog_7_method_11_code 191 = .ok (.ireturn, 1) := by decide +kernel
set_option maxHeartbeats 4000000 in
set_option maxRecDepth 100000 in
theorem c_Md_common (l : Launch) (D : va_G) (cs : Nat → ClassId) (N0 : Nat) (H : Heap) (x : Nat) (g : Nat → Nat) (i : Nat → Int32) (f : Nat → Nat → Int32) (v w : Nat) (hsep : md_sep N0 x g) (hI : md_I D cs H x g i f) (ln : Nat → Nat) (hln : ∀ v, v < 96 → f 2 v = nI (ln v) ∧ ln v ≤ 12) (hv : v < 96) (hw : w < 96) : Met l y_Md_common w_Md_common ({ frames := 0, cells := 0, slots := 0, locals := 0 }) (hPre D cs N0 [.ref x, .int (nI v), .int (nI w)] H) (hQi (fun r H' => ∃ R : Nat → Int32, md_I D cs H' x g i (setA f 21 R) ∧ r = nI (lcsV f ln v w)) (md_A x g)) 0 0 (md_A x g) := by
  refine Met.ofW (cc := prog_7_method_11_code) (maxL := 6) (ret := (Option.some Jvm.ClassFile.FieldType.int)) (by decide) rfl ?_
  intro p e s m args below meth c s₁ B hml hv
  obtain ⟨rfl, rfl, hB⟩ := hv
  have hx := B.exec
  have hb := B.bytes
  have hr := B.returns
  have hts := atoms_spec (ws := w_Md_common) B.pre
  have htg : ∀ w ∈ gw, w.before _ s = true := fun w h => hts w (List.mem_cons_of_mem _ h)
  have hown : s.vm.findClass "NameMergesModel" = some m.cls := findClass_of_methodNamed B.named
  have hlocks := B.notSynchronized
  have hK := hB.1
  have hS : va_S (md_A x g) s.heap s.heap [] := va_S.rf
  obtain ⟨H, hH⟩ : ∃ z : Heap, z = s.heap := ⟨_, rfl⟩
  rw [← hH] at hI
  have hS : va_S (md_A x g) s.heap H [] := by rw [hH]; exact va_S.rf
  have hl := lv_entry ([.ref x, .int (nI v), .int (nI w)]) (n := 6) (Nat.le_of_ble_eq_true rfl)
  rw [lg_entry_eq, ← hH]
  generalize (lg_sl ([.ref x, .int (nI v), .int (nI w)]) ++ List.replicate (6 - (lg_sl ([.ref x, .int (nI v), .int (nI w)])).length) Slot.unset).toArray = ls at hl ⊢
  have hl : lv_has ls 6 [(0, .ref x), (1, .int (nI v)), (2, .int (nI w))] := hl
  have hv12 := (hln v hv).2
  have hw12 := (hln w hw).2
  refine lv_iconst (v := 0) hx hb d_Md_common_0 (by decide) ?_
  refine lv_istore_n (lv' := [(3, .int 0), (0, .ref x), (1, .int (nI v)), (2, .int (nI w))]) hx hb d_Md_common_1 rfl hl (by decide) rfl (fun ls hl => ?_)
  have loop2 : ∀ (fuel : Nat) (F2 : Nat → Nat → Int32) (a : Nat), ln v + 1 - a < fuel → (a ≤ ln v + 1) → (∀ q, q ≠ 21 → F2 q = f q) → (∀ p c, p < a → c ≤ ln w → F2 21 (13 * p + c) = nI ((lcs (tx9 f v) (tx9 f w)) p c)) → ∀ (H : Heap) (locs : List Loc), md_I D cs H x g i F2 → va_S (md_A x g) s.heap H locs → ∀ (ls : Array Slot), lv_has ls 6 [(0, .ref x), (1, .int (nI v)), (2, .int (nI w)), (3, .int (nI a))] → W p l e (headSpec w_Md_common ({ frames := 0, cells := 0, slots := 0, locals := 0 })).room s m ([.ref x, .int (nI v), .int (nI w)] : List Value).toArray below meth c H locs 0 0 (MQ below (hQi (fun r H' => ∃ R : Nat → Int32, md_I D cs H' x g i (setA f 21 R) ∧ r = nI (lcsV f ln v w)) (md_A x g)) ([.ref x, .int (nI v), .int (nI w)] : List Value).toArray s 0 0 (md_A x g)) (F0 m 2 ls []) := by
    intro fuel2
    induction fuel2 with
    | zero => intro F2 a hn; exact absurd hn (Nat.not_lt_zero _)
    | succ fuel2 ih2 =>
      intro F2 a hn2 ha hF2 hR2 H locs hI hS ls hl
      refine lv_iload_n hx hb d_Md_common_2 rfl (lv_at hl 3 rfl) ?_
      refine lv_aload_n hx hb d_Md_common_3 rfl (lv_at hl 0 rfl) ?_
      refine hx_get (v := .ref (g 2)) hx hb htg iMd hown hK hI.1 rfl 5 (by decide) (htg _ (gw_mem (i := 1003) (by decide +kernel) rfl)) (fun _ h9 => h9) rfl d_Md_common_4 ?_
      refine lv_iload_n hx hb d_Md_common_7 rfl (lv_at hl 1 rfl) ?_
      refine hx_iald hx hb hK 0 (hI.2 2 (by decide)) rfl (show vp_in (nI v) 96 from vp_in_nI (n := v) (by omega) (by decide)) d_Md_common_8 ?_
      refine lv_eqi (y := (F2 2 v)) (show F2 2 (nI v).toNatClampNeg = _ by rw [nI_clamp (by omega)]) ?_
      refine lv_eqi (y := (nI (ln v))) (by rw [hF2 2 (by decide)]; exact (hln v hv).1) ?_
      refine lv_icmp_gt (x := (nI a)) (y := (nI (ln v))) (tgt := 170) hx hb d_Md_common_9 (by decide) (fun c9 => ?_) (fun c9 => ?_)
      · skip
        replace c9 : (ln v) < a := (nI_ltI (a := (ln v)) (b := a) (by omega) (by omega)).mp c9
        refine lv_aload_n hx hb d_Md_common_170 rfl (lv_at hl 0 rfl) ?_
        refine hx_get (v := .ref (g 21)) hx hb htg iMd hown hK hI.1 rfl 27 (by decide) (htg _ (gw_mem (i := 1025) (by decide +kernel) rfl)) (fun _ h9 => h9) rfl d_Md_common_171 ?_
        refine lv_bipush (v := 13) hx hb d_Md_common_174 (by decide) ?_
        refine lv_aload_n hx hb d_Md_common_176 rfl (lv_at hl 0 rfl) ?_
        refine hx_get (v := .ref (g 2)) hx hb htg iMd hown hK hI.1 rfl 5 (by decide) (htg _ (gw_mem (i := 1003) (by decide +kernel) rfl)) (fun _ h9 => h9) rfl d_Md_common_177 ?_
        refine lv_iload_n hx hb d_Md_common_180 rfl (lv_at hl 1 rfl) ?_
        refine hx_iald hx hb hK 0 (hI.2 2 (by decide)) rfl (show vp_in (nI v) 96 from vp_in_nI (n := v) (by omega) (by decide)) d_Md_common_181 ?_
        refine lv_eqi (y := (F2 2 v)) (show F2 2 (nI v).toNatClampNeg = _ by rw [nI_clamp (by omega)]) ?_
        refine lv_eqi (y := (nI (ln v))) (by rw [hF2 2 (by decide)]; exact (hln v hv).1) ?_
        refine lv_imul (x := 13) (y := (nI (ln v))) hx hb d_Md_common_182 ?_
        refine lv_eqi (y := (nI (13 * (ln v)))) (pk_mul 13 (ln v)) ?_
        refine lv_aload_n hx hb d_Md_common_183 rfl (lv_at hl 0 rfl) ?_
        refine hx_get (v := .ref (g 2)) hx hb htg iMd hown hK hI.1 rfl 5 (by decide) (htg _ (gw_mem (i := 1003) (by decide +kernel) rfl)) (fun _ h9 => h9) rfl d_Md_common_184 ?_
        refine lv_iload_n hx hb d_Md_common_187 rfl (lv_at hl 2 rfl) ?_
        refine hx_iald hx hb hK 0 (hI.2 2 (by decide)) rfl (show vp_in (nI w) 96 from vp_in_nI (n := w) (by omega) (by decide)) d_Md_common_188 ?_
        refine lv_eqi (y := (F2 2 w)) (show F2 2 (nI w).toNatClampNeg = _ by rw [nI_clamp (by omega)]) ?_
        refine lv_eqi (y := (nI (ln w))) (by rw [hF2 2 (by decide)]; exact (hln w hw).1) ?_
        refine lv_iadd (x := (nI (13 * (ln v)))) (y := (nI (ln w))) hx hb d_Md_common_189 ?_
        refine lv_eqi (y := (nI (13 * (ln v) + ln w))) (nI_add (13 * (ln v)) (ln w)) ?_
        refine hx_iald hx hb hK 0 (hI.2 21 (by decide)) rfl (show vp_in (nI (13 * (ln v) + ln w)) 169 from vp_in_nI (n := 13 * (ln v) + ln w) (by omega) (by decide)) d_Md_common_190 ?_
        refine lv_eqi (y := (F2 21 (13 * (ln v) + ln w))) (show F2 21 (nI (13 * (ln v) + ln w)).toNatClampNeg = _ by rw [nI_clamp (by omega)]) ?_
        refine lv_eqi (y := (nI ((lcs (tx9 f v) (tx9 f w)) (ln v) (ln w)))) (hR2 (ln v) (ln w) (by omega) (Nat.le_refl _)) ?_
        exact W.iret (v := (nI ((lcs (tx9 f v) (tx9 f w)) (ln v) (ln w)))) hx hb hr (fun t ht hW => ⟨⟨(nI ((lcs (tx9 f v) (tx9 f w)) (ln v) (ln w))), H, rfl, ⟨F2 21, setA_of hF2 ▸ hI, rfl⟩, ht⟩, hS.F ht⟩) hS.2.2 d_Md_common_191
      · skip
        replace c9 : ¬ ((ln v) < a) := fun z9 => c9 ((nI_ltI (a := (ln v)) (b := a) (by omega) (by omega)).mpr z9)
        refine lv_iconst (v := 0) hx hb d_Md_common_12 (by decide) ?_
        refine lv_istore (lv' := [(4, .int 0), (0, .ref x), (1, .int (nI v)), (2, .int (nI w)), (3, .int (nI a))]) hx hb d_Md_common_13 hl (by decide) rfl (fun ls hl => ?_)
        have loop15 : ∀ (fuel : Nat) (F3 : Nat → Nat → Int32) (b : Nat), ln w + 1 - b < fuel → (b ≤ ln w + 1) → (∀ q, q ≠ 21 → F3 q = f q) → (∀ p c, p < a → c ≤ ln w → F3 21 (13 * p + c) = nI ((lcs (tx9 f v) (tx9 f w)) p c)) → (∀ c, c < b → F3 21 (13 * a + c) = nI ((lcs (tx9 f v) (tx9 f w)) a c)) → ∀ (H : Heap) (locs : List Loc), md_I D cs H x g i F3 → va_S (md_A x g) s.heap H locs → ∀ (ls : Array Slot), lv_has ls 6 [(0, .ref x), (1, .int (nI v)), (2, .int (nI w)), (3, .int (nI a)), (4, .int (nI b))] → W p l e (headSpec w_Md_common ({ frames := 0, cells := 0, slots := 0, locals := 0 })).room s m ([.ref x, .int (nI v), .int (nI w)] : List Value).toArray below meth c H locs 0 0 (MQ below (hQi (fun r H' => ∃ R : Nat → Int32, md_I D cs H' x g i (setA f 21 R) ∧ r = nI (lcsV f ln v w)) (md_A x g)) ([.ref x, .int (nI v), .int (nI w)] : List Value).toArray s 0 0 (md_A x g)) (F0 m 15 ls []) := by
          intro fuel15
          induction fuel15 with
          | zero => intro F3 b hn; exact absurd hn (Nat.not_lt_zero _)
          | succ fuel15 ih15 =>
            intro F3 b hn15 hb9 hF3 hR3 hC3 H locs hI hS ls hl
            refine lv_iload hx hb d_Md_common_15 (lv_at hl 4 rfl) ?_
            refine lv_aload_n hx hb d_Md_common_17 rfl (lv_at hl 0 rfl) ?_
            refine hx_get (v := .ref (g 2)) hx hb htg iMd hown hK hI.1 rfl 5 (by decide) (htg _ (gw_mem (i := 1003) (by decide +kernel) rfl)) (fun _ h9 => h9) rfl d_Md_common_18 ?_
            refine lv_iload_n hx hb d_Md_common_21 rfl (lv_at hl 2 rfl) ?_
            refine hx_iald hx hb hK 0 (hI.2 2 (by decide)) rfl (show vp_in (nI w) 96 from vp_in_nI (n := w) (by omega) (by decide)) d_Md_common_22 ?_
            refine lv_eqi (y := (F3 2 w)) (show F3 2 (nI w).toNatClampNeg = _ by rw [nI_clamp (by omega)]) ?_
            refine lv_eqi (y := (nI (ln w))) (by rw [hF3 2 (by decide)]; exact (hln w hw).1) ?_
            refine lv_icmp_gt (x := (nI b)) (y := (nI (ln w))) (tgt := 164) hx hb d_Md_common_23 (by decide) (fun c23 => ?_) (fun c23 => ?_)
            · skip
              replace c23 : (ln w) < b := (nI_ltI (a := (ln w)) (b := b) (by omega) (by omega)).mp c23
              refine lv_iinc (v := (nI (a + 1))) (lv' := [(3, .int (nI (a + 1))), (0, .ref x), (1, .int (nI v)), (2, .int (nI w)), (4, .int (nI b))]) hx hb d_Md_common_164 hl (k := 3) rfl (nI_1 a) (by decide) rfl (fun ls hl => ?_)
              refine lv_goto (tgt := 2) hx hb d_Md_common_167 (by decide) ?_
              exact ih2  _ (a + 1) (by omega) (by omega) hF3 (fun p c hp hc => by by_cases e9 : p = a; (· subst e9; exact hC3 c (by omega)); (· exact hR3 p c (by omega) hc)) _ _ hI hS ls (lv_sub hl [1, 2, 3, 0] rfl)
            · skip
              replace c23 : ¬ ((ln w) < b) := fun z9 => c23 ((nI_ltI (a := (ln w)) (b := b) (by omega) (by omega)).mpr z9)
              refine lv_bipush (v := 13) hx hb d_Md_common_26 (by decide) ?_
              refine lv_iload_n hx hb d_Md_common_28 rfl (lv_at hl 3 rfl) ?_
              refine lv_imul (x := 13) (y := (nI a)) hx hb d_Md_common_29 ?_
              refine lv_eqi (y := (nI (13 * a))) (pk_mul 13 a) ?_
              refine lv_iload hx hb d_Md_common_30 (lv_at hl 4 rfl) ?_
              refine lv_iadd (x := (nI (13 * a))) (y := (nI b)) hx hb d_Md_common_32 ?_
              refine lv_eqi (y := (nI (13 * a + b))) (nI_add (13 * a) b) ?_
              refine lv_istore (lv' := [(5, .int (nI (13 * a + b))), (0, .ref x), (1, .int (nI v)), (2, .int (nI w)), (3, .int (nI a)), (4, .int (nI b))]) hx hb d_Md_common_33 hl (by decide) rfl (fun ls hl => ?_)
              refine lv_iload_n hx hb d_Md_common_35 rfl (lv_at hl 4 rfl) ?_
              refine lv_if_eq (x := (nI a)) (tgt := 44) hx hb d_Md_common_36 (by decide) (fun c36 => ?_) (fun c36 => ?_)
              · skip
                replace c36 : a = 0 := (nI_eq (a := a) (b := 0) (by omega) (by omega)).mp c36
                refine lv_aload_n hx hb d_Md_common_44 rfl (lv_at hl 1 rfl) ?_
                refine hx_get (v := .ref (g 21)) hx hb htg iMd hown hK hI.1 rfl 27 (by decide) (htg _ (gw_mem (i := 1025) (by decide +kernel) rfl)) (fun _ h9 => h9) rfl d_Md_common_45 ?_
                refine lv_iload hx hb d_Md_common_48 (lv_at hl 0 rfl) ?_
                refine lv_iconst (v := 0) hx hb d_Md_common_50 (by decide) ?_
                refine hx_iast hx hb hK hS (Or.inr ⟨21, by decide, rfl⟩) 0 (hI.2 21 (by decide)) rfl (show vp_in (nI (13 * a + b)) 169 from vp_in_nI (n := 13 * a + b) (by omega) (by decide)) d_Md_common_51 (fun H locs hat hz ho hS => ?_)
                replace hI : md_I D cs H x g i (updA F3 21 (13 * a + b) (0)) := md_I.puta hI hsep (by decide) (by rw [show ((nI (13 * a + b)) : Int32).toNatClampNeg = 13 * a + b from nI_clamp (n := 13 * a + b) (by omega)] at hat; exact hat) ho
                refine lv_goto (tgt := 158) hx hb d_Md_common_52 (by decide) ?_
                refine lv_iinc (v := (nI (b + 1))) (lv' := [(4, .int (nI (b + 1))), (5, .int (nI (13 * a + b))), (0, .ref x), (1, .int (nI v)), (2, .int (nI w)), (3, .int (nI a))]) hx hb d_Md_common_158 hl (k := 5) rfl (nI_1 b) (by decide) rfl (fun ls hl => ?_)
                refine lv_goto (tgt := 15) hx hb d_Md_common_161 (by decide) ?_
                obtain ⟨p1, p2⟩ := row_put (lw := ln w) hw12 (by omega) (show 0 = nI ((lcs (tx9 f v) (tx9 f w)) a b) by subst c36; rfl) hR3 hC3
                exact ih15  _ (b + 1) (by omega) (by omega) (fun q hq => (updA_ne hq).trans (hF3 q hq)) (by rw [updA_self]; exact p1) (by rw [updA_self]; exact p2) _ _ hI hS ls (lv_sub hl [2, 3, 4, 5, 0] rfl)
              · skip
                replace c36 : ¬ (a = 0) := fun z9 => c36 ((nI_eq (a := a) (b := 0) (by omega) (by omega)).mpr z9)
                refine lv_iload hx hb d_Md_common_39 (lv_at hl 5 rfl) ?_
                refine lv_if_ne (x := (nI b)) (tgt := 55) hx hb d_Md_common_41 (by decide) (fun c41 => ?_) (fun c41 => ?_)
                · skip
                  replace c41 : ¬ (b = 0) := fun z9 => c41 ((nI_eq (a := b) (b := 0) (by omega) (by omega)).mpr z9)
                  refine lv_aload_n hx hb d_Md_common_55 rfl (lv_at hl 1 rfl) ?_
                  refine hx_get (v := .ref (g 3)) hx hb htg iMd hown hK hI.1 rfl 6 (by decide) (htg _ (gw_mem (i := 1004) (by decide +kernel) rfl)) (fun _ h9 => h9) rfl d_Md_common_56 ?_
                  refine lv_bipush (v := 12) hx hb d_Md_common_59 (by decide) ?_
                  refine lv_iload_n hx hb d_Md_common_61 rfl (lv_at hl 2 rfl) ?_
                  refine lv_imul (x := 12) (y := (nI v)) hx hb d_Md_common_62 ?_
                  refine lv_eqi (y := (nI (12 * v))) (pk_mul 12 v) ?_
                  refine lv_iload_n hx hb d_Md_common_63 rfl (lv_at hl 4 rfl) ?_
                  refine lv_iadd (x := (nI (12 * v))) (y := (nI a)) hx hb d_Md_common_64 ?_
                  refine lv_eqi (y := (nI (12 * v + a))) (nI_add (12 * v) a) ?_
                  refine lv_iconst (v := 1) hx hb d_Md_common_65 (by decide) ?_
                  refine lv_isub (x := (nI (12 * v + a))) (y := 1) hx hb d_Md_common_66 ?_
                  refine lv_eqi (y := (nI (12 * v + a - 1))) (pk_sub (a := 12 * v + a) (b := 1) (by omega)) ?_
                  refine hx_iald hx hb hK 0 (hI.2 3 (by decide)) rfl (show vp_in (nI (12 * v + a - 1)) 1152 from vp_in_nI (n := 12 * v + a - 1) (by omega) (by decide)) d_Md_common_67 ?_
                  refine lv_eqi (y := (F3 3 (12 * v + a - 1))) (show F3 3 (nI (12 * v + a - 1)).toNatClampNeg = _ by rw [nI_clamp (by omega)]) ?_
                  refine lv_eqi (y := (f 3 (12 * v + (a - 1)))) (by rw [hF3 3 (by decide), show 12 * v + a - 1 = 12 * v + (a - 1) by omega]) ?_
                  refine lv_aload_n hx hb d_Md_common_68 rfl (lv_at hl 1 rfl) ?_
                  refine hx_get (v := .ref (g 3)) hx hb htg iMd hown hK hI.1 rfl 6 (by decide) (htg _ (gw_mem (i := 1004) (by decide +kernel) rfl)) (fun _ h9 => h9) rfl d_Md_common_69 ?_
                  refine lv_bipush (v := 12) hx hb d_Md_common_72 (by decide) ?_
                  refine lv_iload_n hx hb d_Md_common_74 rfl (lv_at hl 3 rfl) ?_
                  refine lv_imul (x := 12) (y := (nI w)) hx hb d_Md_common_75 ?_
                  refine lv_eqi (y := (nI (12 * w))) (pk_mul 12 w) ?_
                  refine lv_iload hx hb d_Md_common_76 (lv_at hl 5 rfl) ?_
                  refine lv_iadd (x := (nI (12 * w))) (y := (nI b)) hx hb d_Md_common_78 ?_
                  refine lv_eqi (y := (nI (12 * w + b))) (nI_add (12 * w) b) ?_
                  refine lv_iconst (v := 1) hx hb d_Md_common_79 (by decide) ?_
                  refine lv_isub (x := (nI (12 * w + b))) (y := 1) hx hb d_Md_common_80 ?_
                  refine lv_eqi (y := (nI (12 * w + b - 1))) (pk_sub (a := 12 * w + b) (b := 1) (by omega)) ?_
                  refine hx_iald hx hb hK 0 (hI.2 3 (by decide)) rfl (show vp_in (nI (12 * w + b - 1)) 1152 from vp_in_nI (n := 12 * w + b - 1) (by omega) (by decide)) d_Md_common_81 ?_
                  refine lv_eqi (y := (F3 3 (12 * w + b - 1))) (show F3 3 (nI (12 * w + b - 1)).toNatClampNeg = _ by rw [nI_clamp (by omega)]) ?_
                  refine lv_eqi (y := (f 3 (12 * w + (b - 1)))) (by rw [hF3 3 (by decide), show 12 * w + b - 1 = 12 * w + (b - 1) by omega]) ?_
                  refine lv_icmp_ne (x := (f 3 (12 * v + (a - 1)))) (y := (f 3 (12 * w + (b - 1)))) (tgt := 107) hx hb d_Md_common_82 (by decide) (fun c82 => ?_) (fun c82 => ?_)
                  · skip
                    refine lv_aload_n hx hb d_Md_common_107 rfl (lv_at hl 1 rfl) ?_
                    refine hx_get (v := .ref (g 21)) hx hb htg iMd hown hK hI.1 rfl 27 (by decide) (htg _ (gw_mem (i := 1025) (by decide +kernel) rfl)) (fun _ h9 => h9) rfl d_Md_common_108 ?_
                    refine lv_iload hx hb d_Md_common_111 (lv_at hl 0 rfl) ?_
                    refine lv_aload_n hx hb d_Md_common_113 rfl (lv_at hl 1 rfl) ?_
                    refine hx_get (v := .ref (g 21)) hx hb htg iMd hown hK hI.1 rfl 27 (by decide) (htg _ (gw_mem (i := 1025) (by decide +kernel) rfl)) (fun _ h9 => h9) rfl d_Md_common_114 ?_
                    refine lv_iload hx hb d_Md_common_117 (lv_at hl 0 rfl) ?_
                    refine lv_bipush (v := 13) hx hb d_Md_common_119 (by decide) ?_
                    refine lv_isub (x := (nI (13 * a + b))) (y := 13) hx hb d_Md_common_121 ?_
                    refine lv_eqi (y := (nI (13 * a + b - 13))) (pk_sub (a := 13 * a + b) (b := 13) (by omega)) ?_
                    refine hx_iald hx hb hK 0 (hI.2 21 (by decide)) rfl (show vp_in (nI (13 * a + b - 13)) 169 from vp_in_nI (n := 13 * a + b - 13) (by omega) (by decide)) d_Md_common_122 ?_
                    refine lv_eqi (y := (F3 21 (13 * a + b - 13))) (show F3 21 (nI (13 * a + b - 13)).toNatClampNeg = _ by rw [nI_clamp (by omega)]) ?_
                    refine lv_eqi (y := (nI ((lcs (tx9 f v) (tx9 f w)) (a - 1) b))) (by rw [show 13 * a + b - 13 = 13 * (a - 1) + b by omega]; exact hR3 (a - 1) b (by omega) (by omega)) ?_
                    refine lv_aload_n hx hb d_Md_common_123 rfl (lv_at hl 1 rfl) ?_
                    refine hx_get (v := .ref (g 21)) hx hb htg iMd hown hK hI.1 rfl 27 (by decide) (htg _ (gw_mem (i := 1025) (by decide +kernel) rfl)) (fun _ h9 => h9) rfl d_Md_common_124 ?_
                    refine lv_iload hx hb d_Md_common_127 (lv_at hl 0 rfl) ?_
                    refine lv_iconst (v := 1) hx hb d_Md_common_129 (by decide) ?_
                    refine lv_isub (x := (nI (13 * a + b))) (y := 1) hx hb d_Md_common_130 ?_
                    refine lv_eqi (y := (nI (13 * a + b - 1))) (pk_sub (a := 13 * a + b) (b := 1) (by omega)) ?_
                    refine hx_iald hx hb hK 0 (hI.2 21 (by decide)) rfl (show vp_in (nI (13 * a + b - 1)) 169 from vp_in_nI (n := 13 * a + b - 1) (by omega) (by decide)) d_Md_common_131 ?_
                    refine lv_eqi (y := (F3 21 (13 * a + b - 1))) (show F3 21 (nI (13 * a + b - 1)).toNatClampNeg = _ by rw [nI_clamp (by omega)]) ?_
                    refine lv_eqi (y := (nI ((lcs (tx9 f v) (tx9 f w)) a (b - 1)))) (by rw [show 13 * a + b - 1 = 13 * a + (b - 1) by omega]; exact hC3 (b - 1) (by omega)) ?_
                    have hl1 := lcs_le (tx9 f v) (tx9 f w) (a - 1) b
                    have hl2 := lcs_le (tx9 f v) (tx9 f w) a (b - 1)
                    refine lv_icmp_le (x := (nI ((lcs (tx9 f v) (tx9 f w)) (a - 1) b))) (y := (nI ((lcs (tx9 f v) (tx9 f w)) a (b - 1)))) (tgt := 148) hx hb d_Md_common_132 (by decide) (fun c132 => ?_) (fun c132 => ?_)
                    · skip
                      replace c132 : ((lcs (tx9 f v) (tx9 f w)) (a - 1) b) ≤ ((lcs (tx9 f v) (tx9 f w)) a (b - 1)) := (nI_leI (a := ((lcs (tx9 f v) (tx9 f w)) (a - 1) b)) (b := ((lcs (tx9 f v) (tx9 f w)) a (b - 1))) (by omega) (by omega)).mp c132
                      refine lv_aload_n hx hb d_Md_common_148 rfl (lv_at hl 1 rfl) ?_
                      refine hx_get (v := .ref (g 21)) hx hb htg iMd hown hK hI.1 rfl 27 (by decide) (htg _ (gw_mem (i := 1025) (by decide +kernel) rfl)) (fun _ h9 => h9) rfl d_Md_common_149 ?_
                      refine lv_iload hx hb d_Md_common_152 (lv_at hl 0 rfl) ?_
                      refine lv_iconst (v := 1) hx hb d_Md_common_154 (by decide) ?_
                      refine lv_isub (x := (nI (13 * a + b))) (y := 1) hx hb d_Md_common_155 ?_
                      refine lv_eqi (y := (nI (13 * a + b - 1))) (pk_sub (a := 13 * a + b) (b := 1) (by omega)) ?_
                      refine hx_iald hx hb hK 0 (hI.2 21 (by decide)) rfl (show vp_in (nI (13 * a + b - 1)) 169 from vp_in_nI (n := 13 * a + b - 1) (by omega) (by decide)) d_Md_common_156 ?_
                      refine lv_eqi (y := (F3 21 (13 * a + b - 1))) (show F3 21 (nI (13 * a + b - 1)).toNatClampNeg = _ by rw [nI_clamp (by omega)]) ?_
                      refine lv_eqi (y := (nI ((lcs (tx9 f v) (tx9 f w)) a (b - 1)))) (by rw [show 13 * a + b - 1 = 13 * a + (b - 1) by omega]; exact hC3 (b - 1) (by omega)) ?_
                      refine hx_iast hx hb hK hS (Or.inr ⟨21, by decide, rfl⟩) 0 (hI.2 21 (by decide)) rfl (show vp_in (nI (13 * a + b)) 169 from vp_in_nI (n := 13 * a + b) (by omega) (by decide)) d_Md_common_157 (fun H locs hat hz ho hS => ?_)
                      replace hI : md_I D cs H x g i (updA F3 21 (13 * a + b) ((nI ((lcs (tx9 f v) (tx9 f w)) a (b - 1))))) := md_I.puta hI hsep (by decide) (by rw [show ((nI (13 * a + b)) : Int32).toNatClampNeg = 13 * a + b from nI_clamp (n := 13 * a + b) (by omega)] at hat; exact hat) ho
                      refine lv_iinc (v := (nI (b + 1))) (lv' := [(4, .int (nI (b + 1))), (5, .int (nI (13 * a + b))), (0, .ref x), (1, .int (nI v)), (2, .int (nI w)), (3, .int (nI a))]) hx hb d_Md_common_158 hl (k := 5) rfl (nI_1 b) (by decide) rfl (fun ls hl => ?_)
                      refine lv_goto (tgt := 15) hx hb d_Md_common_161 (by decide) ?_
                      obtain ⟨p1, p2⟩ := row_put (lw := ln w) hw12 (by omega) (show (nI ((lcs (tx9 f v) (tx9 f w)) a (b - 1))) = nI ((lcs (tx9 f v) (tx9 f w)) a b) by rw [lcs_step (s := tx9 f v) (t := tx9 f w) (a := a) (b := b) (by omega) (by omega), if_neg c82, if_neg (by omega)]) hR3 hC3
                      exact ih15  _ (b + 1) (by omega) (by omega) (fun q hq => (updA_ne hq).trans (hF3 q hq)) (by rw [updA_self]; exact p1) (by rw [updA_self]; exact p2) _ _ hI hS ls (lv_sub hl [2, 3, 4, 5, 0] rfl)
                    · skip
                      replace c132 : ¬ (((lcs (tx9 f v) (tx9 f w)) (a - 1) b) ≤ ((lcs (tx9 f v) (tx9 f w)) a (b - 1))) := fun z9 => c132 ((nI_leI (a := ((lcs (tx9 f v) (tx9 f w)) (a - 1) b)) (b := ((lcs (tx9 f v) (tx9 f w)) a (b - 1))) (by omega) (by omega)).mpr z9)
                      refine lv_aload_n hx hb d_Md_common_135 rfl (lv_at hl 1 rfl) ?_
                      refine hx_get (v := .ref (g 21)) hx hb htg iMd hown hK hI.1 rfl 27 (by decide) (htg _ (gw_mem (i := 1025) (by decide +kernel) rfl)) (fun _ h9 => h9) rfl d_Md_common_136 ?_
                      refine lv_iload hx hb d_Md_common_139 (lv_at hl 0 rfl) ?_
                      refine lv_bipush (v := 13) hx hb d_Md_common_141 (by decide) ?_
                      refine lv_isub (x := (nI (13 * a + b))) (y := 13) hx hb d_Md_common_143 ?_
                      refine lv_eqi (y := (nI (13 * a + b - 13))) (pk_sub (a := 13 * a + b) (b := 13) (by omega)) ?_
                      refine hx_iald hx hb hK 0 (hI.2 21 (by decide)) rfl (show vp_in (nI (13 * a + b - 13)) 169 from vp_in_nI (n := 13 * a + b - 13) (by omega) (by decide)) d_Md_common_144 ?_
                      refine lv_eqi (y := (F3 21 (13 * a + b - 13))) (show F3 21 (nI (13 * a + b - 13)).toNatClampNeg = _ by rw [nI_clamp (by omega)]) ?_
                      refine lv_eqi (y := (nI ((lcs (tx9 f v) (tx9 f w)) (a - 1) b))) (by rw [show 13 * a + b - 13 = 13 * (a - 1) + b by omega]; exact hR3 (a - 1) b (by omega) (by omega)) ?_
                      refine lv_goto (tgt := 157) hx hb d_Md_common_145 (by decide) ?_
                      refine hx_iast hx hb hK hS (Or.inr ⟨21, by decide, rfl⟩) 0 (hI.2 21 (by decide)) rfl (show vp_in (nI (13 * a + b)) 169 from vp_in_nI (n := 13 * a + b) (by omega) (by decide)) d_Md_common_157 (fun H locs hat hz ho hS => ?_)
                      replace hI : md_I D cs H x g i (updA F3 21 (13 * a + b) ((nI ((lcs (tx9 f v) (tx9 f w)) (a - 1) b)))) := md_I.puta hI hsep (by decide) (by rw [show ((nI (13 * a + b)) : Int32).toNatClampNeg = 13 * a + b from nI_clamp (n := 13 * a + b) (by omega)] at hat; exact hat) ho
                      refine lv_iinc (v := (nI (b + 1))) (lv' := [(4, .int (nI (b + 1))), (5, .int (nI (13 * a + b))), (0, .ref x), (1, .int (nI v)), (2, .int (nI w)), (3, .int (nI a))]) hx hb d_Md_common_158 hl (k := 5) rfl (nI_1 b) (by decide) rfl (fun ls hl => ?_)
                      refine lv_goto (tgt := 15) hx hb d_Md_common_161 (by decide) ?_
                      obtain ⟨p1, p2⟩ := row_put (lw := ln w) hw12 (by omega) (show (nI ((lcs (tx9 f v) (tx9 f w)) (a - 1) b)) = nI ((lcs (tx9 f v) (tx9 f w)) a b) by rw [lcs_step (s := tx9 f v) (t := tx9 f w) (a := a) (b := b) (by omega) (by omega), if_neg c82, if_pos (by omega)]) hR3 hC3
                      exact ih15  _ (b + 1) (by omega) (by omega) (fun q hq => (updA_ne hq).trans (hF3 q hq)) (by rw [updA_self]; exact p1) (by rw [updA_self]; exact p2) _ _ hI hS ls (lv_sub hl [2, 3, 4, 5, 0] rfl)
                  · skip
                    refine lv_aload_n hx hb d_Md_common_85 rfl (lv_at hl 1 rfl) ?_
                    refine hx_get (v := .ref (g 21)) hx hb htg iMd hown hK hI.1 rfl 27 (by decide) (htg _ (gw_mem (i := 1025) (by decide +kernel) rfl)) (fun _ h9 => h9) rfl d_Md_common_86 ?_
                    refine lv_iload hx hb d_Md_common_89 (lv_at hl 0 rfl) ?_
                    refine lv_aload_n hx hb d_Md_common_91 rfl (lv_at hl 1 rfl) ?_
                    refine hx_get (v := .ref (g 21)) hx hb htg iMd hown hK hI.1 rfl 27 (by decide) (htg _ (gw_mem (i := 1025) (by decide +kernel) rfl)) (fun _ h9 => h9) rfl d_Md_common_92 ?_
                    refine lv_iload hx hb d_Md_common_95 (lv_at hl 0 rfl) ?_
                    refine lv_bipush (v := 14) hx hb d_Md_common_97 (by decide) ?_
                    refine lv_isub (x := (nI (13 * a + b))) (y := 14) hx hb d_Md_common_99 ?_
                    refine lv_eqi (y := (nI (13 * a + b - 14))) (pk_sub (a := 13 * a + b) (b := 14) (by omega)) ?_
                    refine hx_iald hx hb hK 0 (hI.2 21 (by decide)) rfl (show vp_in (nI (13 * a + b - 14)) 169 from vp_in_nI (n := 13 * a + b - 14) (by omega) (by decide)) d_Md_common_100 ?_
                    refine lv_eqi (y := (F3 21 (13 * a + b - 14))) (show F3 21 (nI (13 * a + b - 14)).toNatClampNeg = _ by rw [nI_clamp (by omega)]) ?_
                    refine lv_eqi (y := (nI ((lcs (tx9 f v) (tx9 f w)) (a - 1) (b - 1)))) (by rw [show 13 * a + b - 14 = 13 * (a - 1) + (b - 1) by omega]; exact hR3 (a - 1) (b - 1) (by omega) (by omega)) ?_
                    refine lv_iconst (v := 1) hx hb d_Md_common_101 (by decide) ?_
                    refine lv_iadd (x := (nI ((lcs (tx9 f v) (tx9 f w)) (a - 1) (b - 1)))) (y := 1) hx hb d_Md_common_102 ?_
                    refine lv_eqi (y := (nI ((lcs (tx9 f v) (tx9 f w)) (a - 1) (b - 1) + 1))) (nI_add ((lcs (tx9 f v) (tx9 f w)) (a - 1) (b - 1)) 1) ?_
                    refine hx_iast hx hb hK hS (Or.inr ⟨21, by decide, rfl⟩) 0 (hI.2 21 (by decide)) rfl (show vp_in (nI (13 * a + b)) 169 from vp_in_nI (n := 13 * a + b) (by omega) (by decide)) d_Md_common_103 (fun H locs hat hz ho hS => ?_)
                    replace hI : md_I D cs H x g i (updA F3 21 (13 * a + b) ((nI ((lcs (tx9 f v) (tx9 f w)) (a - 1) (b - 1) + 1)))) := md_I.puta hI hsep (by decide) (by rw [show ((nI (13 * a + b)) : Int32).toNatClampNeg = 13 * a + b from nI_clamp (n := 13 * a + b) (by omega)] at hat; exact hat) ho
                    refine lv_goto (tgt := 158) hx hb d_Md_common_104 (by decide) ?_
                    refine lv_iinc (v := (nI (b + 1))) (lv' := [(4, .int (nI (b + 1))), (5, .int (nI (13 * a + b))), (0, .ref x), (1, .int (nI v)), (2, .int (nI w)), (3, .int (nI a))]) hx hb d_Md_common_158 hl (k := 5) rfl (nI_1 b) (by decide) rfl (fun ls hl => ?_)
                    refine lv_goto (tgt := 15) hx hb d_Md_common_161 (by decide) ?_
                    obtain ⟨p1, p2⟩ := row_put (lw := ln w) hw12 (by omega) (show (nI ((lcs (tx9 f v) (tx9 f w)) (a - 1) (b - 1) + 1)) = nI ((lcs (tx9 f v) (tx9 f w)) a b) by rw [lcs_step (s := tx9 f v) (t := tx9 f w) (a := a) (b := b) (by omega) (by omega), if_pos c82]) hR3 hC3
                    exact ih15  _ (b + 1) (by omega) (by omega) (fun q hq => (updA_ne hq).trans (hF3 q hq)) (by rw [updA_self]; exact p1) (by rw [updA_self]; exact p2) _ _ hI hS ls (lv_sub hl [2, 3, 4, 5, 0] rfl)
                · skip
                  replace c41 : b = 0 := (nI_eq (a := b) (b := 0) (by omega) (by omega)).mp c41
                  refine lv_aload_n hx hb d_Md_common_44 rfl (lv_at hl 1 rfl) ?_
                  refine hx_get (v := .ref (g 21)) hx hb htg iMd hown hK hI.1 rfl 27 (by decide) (htg _ (gw_mem (i := 1025) (by decide +kernel) rfl)) (fun _ h9 => h9) rfl d_Md_common_45 ?_
                  refine lv_iload hx hb d_Md_common_48 (lv_at hl 0 rfl) ?_
                  refine lv_iconst (v := 0) hx hb d_Md_common_50 (by decide) ?_
                  refine hx_iast hx hb hK hS (Or.inr ⟨21, by decide, rfl⟩) 0 (hI.2 21 (by decide)) rfl (show vp_in (nI (13 * a + b)) 169 from vp_in_nI (n := 13 * a + b) (by omega) (by decide)) d_Md_common_51 (fun H locs hat hz ho hS => ?_)
                  replace hI : md_I D cs H x g i (updA F3 21 (13 * a + b) (0)) := md_I.puta hI hsep (by decide) (by rw [show ((nI (13 * a + b)) : Int32).toNatClampNeg = 13 * a + b from nI_clamp (n := 13 * a + b) (by omega)] at hat; exact hat) ho
                  refine lv_goto (tgt := 158) hx hb d_Md_common_52 (by decide) ?_
                  refine lv_iinc (v := (nI (b + 1))) (lv' := [(4, .int (nI (b + 1))), (5, .int (nI (13 * a + b))), (0, .ref x), (1, .int (nI v)), (2, .int (nI w)), (3, .int (nI a))]) hx hb d_Md_common_158 hl (k := 5) rfl (nI_1 b) (by decide) rfl (fun ls hl => ?_)
                  refine lv_goto (tgt := 15) hx hb d_Md_common_161 (by decide) ?_
                  obtain ⟨p1, p2⟩ := row_put (lw := ln w) hw12 (by omega) (show 0 = nI ((lcs (tx9 f v) (tx9 f w)) a b) by subst c41; rw [lcs_0]; rfl) hR3 hC3
                  exact ih15  _ (b + 1) (by omega) (by omega) (fun q hq => (updA_ne hq).trans (hF3 q hq)) (by rw [updA_self]; exact p1) (by rw [updA_self]; exact p2) _ _ hI hS ls (lv_sub hl [2, 3, 4, 5, 0] rfl)
        exact loop15 ((ln w + 1 - 0) + 1) _ 0 (Nat.lt_succ_self _) (Nat.zero_le _) hF2 hR2 (fun c hc => absurd hc (Nat.not_lt_zero c)) _ _ hI hS ls (lv_sub hl [1, 2, 3, 4, 0] rfl)
  exact loop2 ((ln v + 1 - 0) + 1) f 0 (Nat.lt_succ_self _) (Nat.zero_le _) (fun _ _ => rfl) (fun p c hp => absurd hp (Nat.not_lt_zero p)) _ _ hI hS ls (lv_sub hl [1, 2, 3, 0] rfl)
