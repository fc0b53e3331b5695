def cntTo (P : Nat → Bool) : Nat → Nat
  | 0 => 0
  | n + 1 => cntTo P n + (if P n = true then 1 else 0)
def sumTo (F : Nat → Nat) : Nat → Nat
  | 0 => 0
  | n + 1 => sumTo F n + F n
def cntP (f : Nat → Nat → Int32) (w : Int32) : Nat → Bool := fun k => if w = 4 then (!decide (f 9 k ≤ 0) && decide (k / 24 < k % 24)) else !decide (f 10 k = 0)
def cntX (f : Nat → Nat → Int32) (mn : Nat → Nat) (w : Int32) : Nat := if w = 2 then sumTo mn 24 else if w = 4 ∨ w = 5 then cntTo (cntP f w) 576 else 0
def cntR (f : Nat → Nat → Int32) (mn : Nat → Nat) (pn n mg : Nat) (w : Int32) : Int32 := if w = 0 then nI pn else if w = 1 then nI n else if w = 3 then nI mg else nI (cntX f mn w)
def setA (f : Nat → Nat → Int32) (k : Nat) (R : Nat → Int32) : Nat → Nat → Int32 := fun a => if a = k then R else f a
theorem setA_of {F f : Nat → Nat → Int32} {k : Nat} (h : ∀ a, a ≠ k → F a = f a) : F = setA f k (F k) := by
  funext a
  by_cases e : a = k
  · subst e; exact (if_pos rfl).symm
  · rw [h a e]; exact (if_neg e).symm
theorem setA_self (f : Nat → Nat → Int32) (k : Nat) (R : Nat → Int32) : setA f k R k = R := if_pos rfl
theorem setA_ne {f : Nat → Nat → Int32} {k a : Nat} {R : Nat → Int32} (h : a ≠ k) : setA f k R a = f a := if_neg h
theorem updA_setA {f : Nat → Nat → Int32} {k k' j : Nat} {R : Nat → Int32} {v : Int32} (h : k' ≠ k) : updA (setA f k R) k' j v = setA (updA f k' j v) k R := by
  funext a
  by_cases e : a = k'
  · subst e; rw [updA_self, setA_ne h, setA_ne h, updA_self]
  · rw [updA_ne e]
    by_cases e2 : a = k
    · subst e2; rw [setA_self, setA_self]
    · rw [setA_ne e2, setA_ne e2, updA_ne e]
theorem upd_lt {F G : Nat → Int32} {k : Nat} {v : Int32} (h : ∀ j, j < k → F j = G j) (hv : v = G k) : ∀ j, j < k + 1 → upd F k v j = G j := by
  intro j hj
  by_cases e : j = k
  · subst e; rw [upd_self]; exact hv
  · rw [upd_ne e]; exact h j (by omega)
theorem vp_z (b : Bool) : vp_nar .boolean (bI b) = bI b := by cases b <;> decide
def fwT (br : Nat → Bool) : Nat → Nat → Bool
  | 0 => br
  | z + 1 => fun k => fwT br z k || (fwT br z (24 * (k / 24) + z) && fwT br z (24 * z + k % 24))
theorem fw_c {br : Nat → Bool} {z a : Nat} (hz : z < 24) : fwT br (z + 1) (24 * a + z) = fwT br z (24 * a + z) := by
  show (fwT br z (24 * a + z) || (fwT br z (24 * ((24 * a + z) / 24) + z) && fwT br z (24 * z + (24 * a + z) % 24))) = _
  rw [show (24 * a + z) / 24 = a by omega]
  cases fwT br z (24 * a + z) <;> simp
theorem fw_r {br : Nat → Bool} {z b : Nat} (hb : b < 24) : fwT br (z + 1) (24 * z + b) = fwT br z (24 * z + b) := by
  show (fwT br z (24 * z + b) || (fwT br z (24 * ((24 * z + b) / 24) + z) && fwT br z (24 * z + (24 * z + b) % 24))) = _
  rw [show (24 * z + b) / 24 = z by omega, show (24 * z + b) % 24 = b by omega]
  cases fwT br z (24 * z + b) <;> cases fwT br z (24 * z + z) <;> rfl
def fwI (br : Nat → Bool) (z k : Nat) (R : Nat → Int32) : Prop := ∀ j, j < 576 → R j = bI (if j < k then fwT br (z + 1) j else fwT br z j)
theorem fwI.at0 {br : Nat → Bool} {z k : Nat} {R : Nat → Int32} (h : fwI br z k R) (hk : k < 576) : R k = bI (fwT br z k) := by rw [h k hk, if_neg (by omega)]
theorem fwI.atc {br : Nat → Bool} {z k a : Nat} {R : Nat → Int32} (h : fwI br z k R) (hz : z < 24) (ha : a < 24) : R (24 * a + z) = bI (fwT br z (24 * a + z)) := by
  rw [h _ (by omega)]
  by_cases e : 24 * a + z < k
  · rw [if_pos e, fw_c hz]
  · rw [if_neg e]
theorem fwI.atr {br : Nat → Bool} {z k b : Nat} {R : Nat → Int32} (h : fwI br z k R) (hz : z < 24) (hb : b < 24) : R (24 * z + b) = bI (fwT br z (24 * z + b)) := by
  rw [h _ (by omega)]
  by_cases e : 24 * z + b < k
  · rw [if_pos e, fw_r hb]
  · rw [if_neg e]
theorem fwI.step {br : Nat → Bool} {z k : Nat} {R : Nat → Int32} (h : fwI br z k R) : fwI br z (k + 1) (upd R k (bI (fwT br (z + 1) k))) := by
  intro j hj
  by_cases e : j = k
  · subst e; rw [upd_self, if_pos (by omega)]
  · rw [upd_ne e, h j hj]
    by_cases e2 : j < k
    · rw [if_pos e2, if_pos (by omega)]
    · rw [if_neg e2, if_neg (by omega)]
theorem fwI.next {br : Nat → Bool} {z : Nat} {R : Nat → Int32} (h : fwI br z 576 R) : fwI br (z + 1) 0 R := by
  intro j hj
  rw [h j hj, if_pos hj, if_neg (by omega)]
def y_Md_count : MethodName := ⟨"NameMergesModel", "count", "(I)I"⟩
abbrev w_Md_count : List Cond := Cond.code y_Md_count prog_7_method_35_code 5 (Option.some Jvm.ClassFile.FieldType.int) :: gw
theorem d_Md_count_0 : decode prog_7_method_35_code 0 = .ok (.aload_n 0, 1) := by decide +kernel
theorem d_Md_count_1 : decode prog_7_method_35_code 1 = .ok (.iload_n 1, 1) := by decide +kernel
theorem d_Md_count_2 : decode prog_7_method_35_code 2 = .ok (.ifCond .lt 12, 3) := by decide +kernel
theorem d_Md_count_5 : decode prog_7_method_35_code 5 = .ok (.iload_n 1, 1) := by decide +kernel
theorem d_Md_count_6 : decode prog_7_method_35_code 6 = .ok (.iconst 5, 1) := by decide +kernel
theorem d_Md_count_7 : decode prog_7_method_35_code 7 = .ok (.if_icmp .gt 7, 3) := by decide +kernel
theorem d_Md_count_10 : decode prog_7_method_35_code 10 = .ok (.iconst 1, 1) := by decide +kernel
theorem d_Md_count_11 : decode prog_7_method_35_code 11 = .ok (.goto 4, 3) := by decide +kernel
theorem d_Md_count_14 : decode prog_7_method_35_code 14 = .ok (.iconst 0, 1) := by decide +kernel
theorem d_Md_count_15 : decode prog_7_method_35_code 15 = .ok (.iconst 1, 1) := by decide +kernel
theorem d_Md_count_16 : decode prog_7_method_35_code 16 = .ok (.iconst 1, 1) := by decide +kernel
theorem d_Md_count_17 : decode prog_7_method_35_code 17 = .ok (.invokevirtual 88, 3) := by decide +kernel
theorem d_Md_count_20 : decode prog_7_method_35_code 20 = .ok (.ifCond .ne 5, 3) := by decide +kernel
theorem d_Md_count_23 : decode prog_7_method_35_code 23 = .ok (.iconst 0, 1) := by decide +kernel
theorem d_Md_count_24 : decode prog_7_method_35_code 24 = .ok (.ireturn, 1) := by decide +kernel
theorem d_Md_count_25 : decode prog_7_method_35_code 25 = .ok (.iconst 0, 1) := by decide +kernel
theorem d_Md_count_26 : decode prog_7_method_35_code 26 = .ok (.istore_n 2, 1) := by decide +kernel
theorem d_Md_count_27 : decode prog_7_method_35_code 27 = .ok (.iload_n 1, 1) := by decide +kernel
theorem d_Md_count_28 : decode prog_7_method_35_code 28 = .ok (.iconst 2, 1) := by decide +kernel
theorem d_Md_count_29 : decode prog_7_method_35_code 29 = .ok (.if_icmp .ne 29, 3) := by decide +kernel
theorem d_Md_count_32 : decode prog_7_method_35_code 32 = .ok (.iconst 0, 1) := by decide +kernel
theorem d_Md_count_33 : decode prog_7_method_35_code 33 = .ok (.istore_n 3, 1) := by decide +kernel
theorem d_Md_count_34 : decode prog_7_method_35_code 34 = .ok (.iload_n 3, 1) := by decide +kernel
theorem d_Md_count_35 : decode prog_7_method_35_code 35 = .ok (.bipush 24, 2) := by decide +kernel
theorem d_Md_count_37 : decode prog_7_method_35_code 37 = .ok (.if_icmp .ge 18, 3) := by decide +kernel
theorem d_Md_count_40 : decode prog_7_method_35_code 40 = .ok (.iload_n 2, 1) := by decide +kernel
theorem d_Md_count_41 : decode prog_7_method_35_code 41 = .ok (.aload_n 0, 1) := by decide +kernel
theorem d_Md_count_42 : decode prog_7_method_35_code 42 = .ok (.getfield 13, 3) := by decide +kernel
theorem d_Md_count_45 : decode prog_7_method_35_code 45 = .ok (.iload_n 3, 1) := by decide +kernel
theorem d_Md_count_46 : decode prog_7_method_35_code 46 = .ok (.iaload, 1) := by decide +kernel
theorem d_Md_count_47 : decode prog_7_method_35_code 47 = .ok (.iadd, 1) := by decide +kernel
theorem d_Md_count_48 : decode prog_7_method_35_code 48 = .ok (.istore_n 2, 1) := by decide +kernel
theorem d_Md_count_49 : decode prog_7_method_35_code 49 = .ok (.iinc 3 1, 3) := by decide +kernel
theorem d_Md_count_52 : decode prog_7_method_35_code 52 = .ok (.goto (-18), 3) := by decide +kernel
theorem d_Md_count_55 : decode prog_7_method_35_code 55 = .ok (.goto 82, 3) := by decide +kernel
theorem d_Md_count_58 : decode prog_7_method_35_code 58 = .ok (.iload_n 1, 1) := by decide +kernel
theorem d_Md_count_59 : decode prog_7_method_35_code 59 = .ok (.iconst 4, 1) := by decide +kernel
theorem d_Md_count_60 : decode prog_7_method_35_code 60 = .ok (.if_icmp .eq 8, 3) := by decide +kernel
theorem d_Md_count_63 : decode prog_7_method_35_code 63 = .ok (.iload_n 1, 1) := by decide +kernel
theorem d_Md_count_64 : decode prog_7_method_35_code 64 = .ok (.iconst 5, 1) := by decide +kernel
theorem d_Md_count_65 : decode prog_7_method_35_code 65 = .ok (.if_icmp .ne 72, 3) := by decide +kernel
theorem d_Md_count_68 : decode prog_7_method_35_code 68 = .ok (.iconst 0, 1) := by decide +kernel
theorem d_Md_count_69 : decode prog_7_method_35_code 69 = .ok (.istore_n 3, 1) := by decide +kernel
theorem d_Md_count_70 : decode prog_7_method_35_code 70 = .ok (.iload_n 3, 1) := by decide +kernel
theorem d_Md_count_71 : decode prog_7_method_35_code 71 = .ok (.sipush 576, 3) := by decide +kernel
theorem d_Md_count_74 : decode prog_7_method_35_code 74 = .ok (.if_icmp .ge 63, 3) := by decide +kernel
theorem d_Md_count_77 : decode prog_7_method_35_code 77 = .ok (.iload_n 1, 1) := by decide +kernel
theorem d_Md_count_78 : decode prog_7_method_35_code 78 = .ok (.iconst 4, 1) := by decide +kernel
theorem d_Md_count_79 : decode prog_7_method_35_code 79 = .ok (.if_icmp .ne 31, 3) := by decide +kernel
theorem d_Md_count_82 : decode prog_7_method_35_code 82 = .ok (.aload_n 0, 1) := by decide +kernel
theorem d_Md_count_83 : decode prog_7_method_35_code 83 = .ok (.getfield 37, 3) := by decide +kernel
theorem d_Md_count_86 : decode prog_7_method_35_code 86 = .ok (.iload_n 3, 1) := by decide +kernel
theorem d_Md_count_87 : decode prog_7_method_35_code 87 = .ok (.iaload, 1) := by decide +kernel
theorem d_Md_count_88 : decode prog_7_method_35_code 88 = .ok (.ifCond .le 18, 3) := by decide +kernel
theorem d_Md_count_91 : decode prog_7_method_35_code 91 = .ok (.iload_n 3, 1) := by decide +kernel
theorem d_Md_count_92 : decode prog_7_method_35_code 92 = .ok (.bipush 24, 2) := by decide +kernel
theorem d_Md_count_94 : decode prog_7_method_35_code 94 = .ok (.idiv, 1) := by decide +kernel
theorem d_Md_count_95 : decode prog_7_method_35_code 95 = .ok (.iload_n 3, 1) := by decide +kernel
theorem d_Md_count_96 : decode prog_7_method_35_code 96 = .ok (.bipush 24, 2) := by decide +kernel
theorem d_Md_count_98 : decode prog_7_method_35_code 98 = .ok (.irem, 1) := by decide +kernel
theorem d_Md_count_99 : decode prog_7_method_35_code 99 = .ok (.if_icmp .ge 7, 3) := by decide +kernel
theorem d_Md_count_102 : decode prog_7_method_35_code 102 = .ok (.iconst 1, 1) := by decide +kernel
theorem d_Md_count_103 : decode prog_7_method_35_code 103 = .ok (.goto 13, 3) := by decide +kernel
theorem d_Md_count_106 : decode prog_7_method_35_code 106 = .ok (.iconst 0, 1) := by decide +kernel
theorem d_Md_count_107 : decode prog_7_method_35_code 107 = .ok (.goto 9, 3) := by decide +kernel
theorem d_Md_count_110 : decode prog_7_method_35_code 110 = .ok (.aload_n 0, 1) := by decide +kernel
theorem d_Md_count_111 : decode prog_7_method_35_code 111 = .ok (.getfield 40, 3) := by decide +kernel
theorem d_Md_count_114 : decode prog_7_method_35_code 114 = .ok (.iload_n 3, 1) := by decide +kernel
theorem d_Md_count_115 : decode prog_7_method_35_code 115 = .ok (.baload, 1) := by decide +kernel
theorem d_Md_count_116 : decode prog_7_method_35_code 116 = .ok (.istore 4, 2) := by decide +kernel
theorem d_Md_count_118 : decode prog_7_method_35_code 118 = .ok (.iload 4, 2) := by decide +kernel
theorem d_Md_count_120 : decode prog_7_method_35_code 120 = .ok (.ifCond .eq 9, 3) := by decide +kernel
theorem d_Md_count_123 : decode prog_7_method_35_code 123 = .ok (.iload_n 2, 1) := by decide +kernel
theorem d_Md_count_124 : decode prog_7_method_35_code 124 = .ok (.iconst 1, 1) := by decide +kernel
theorem d_Md_count_125 : decode prog_7_method_35_code 125 = .ok (.iadd, 1) := by decide +kernel
theorem d_Md_count_126 : decode prog_7_method_35_code 126 = .ok (.goto 4, 3) := by decide +kernel
theorem d_Md_count_129 : decode prog_7_method_35_code 129 = .ok (.iload_n 2, 1) := by decide +kernel
theorem d_Md_count_130 : decode prog_7_method_35_code 130 = .ok (.istore_n 2, 1) := by decide +kernel
theorem d_Md_count_131 : decode prog_7_method_35_code 131 = .ok (.iinc 3 1, 3) := by decide +kernel
theorem d_Md_count_134 : decode prog_7_method_35_code 134 = .ok (.goto (-64), 3) := by decide +kernel
theorem d_Md_count_137 : decode prog_7_method_35_code 137 = .ok (.iload_n 1, 1) := by decide +kernel
theorem d_Md_count_138 : decode prog_7_method_35_code 138 = .ok (.ifCond .ne 10, 3) := by decide +kernel
theorem d_Md_count_141 : decode prog_7_method_35_code 141 = .ok (.aload_n 0, 1) := by decide +kernel
theorem d_Md_count_142 : decode prog_7_method_35_code 142 = .ok (.getfield 85, 3) := by decide +kernel
theorem d_Md_count_145 : decode prog_7_method_35_code 145 = .ok (.goto 28, 3) := by decide +kernel
theorem d_Md_count_148 : decode prog_7_method_35_code 148 = .ok (.iload_n 1, 1) := by decide +kernel
theorem d_Md_count_149 : decode prog_7_method_35_code 149 = .ok (.iconst 1, 1) := by decide +kernel
theorem d_Md_count_150 : decode prog_7_method_35_code 150 = .ok (.if_icmp .ne 10, 3) := by decide +kernel
theorem d_Md_count_153 : decode prog_7_method_35_code 153 = .ok (.aload_n 0, 1) := by decide +kernel
theorem d_Md_count_154 : decode prog_7_method_35_code 154 = .ok (.getfield 81, 3) := by decide +kernel
theorem d_Md_count_157 : decode prog_7_method_35_code 157 = .ok (.goto 16, 3) := by decide +kernel
theorem d_Md_count_160 : decode prog_7_method_35_code 160 = .ok (.iload_n 1, 1) := by decide +kernel
theorem d_Md_count_161 : decode prog_7_method_35_code 161 = .ok (.iconst 3, 1) := by decide +kernel
theorem d_Md_count_162 : decode prog_7_method_35_code 162 = .ok (.if_icmp .ne 10, 3) := by decide +kernel
theorem d_Md_count_165 : decode prog_7_method_35_code 165 = .ok (.aload_n 0, 1) := by decide +kernel
theorem d_Md_count_166 : decode prog_7_method_35_code 166 = .ok (.getfield 106, 3) := by decide +kernel
theorem d_Md_count_169 : decode prog_7_method_35_code 169 = .ok (.goto 4, 3) := by decide +kernel
theorem d_Md_count_172 : decode prog_7_method_35_code 172 = .ok (.iload_n 2, 1) := by decide +kernel
theorem d_Md_count_173 : decode prog_7_method_35_code 173 = .ok (.ireturn, 1) := by decide +kernel
set_option maxHeartbeats 4000000 in
set_option maxRecDepth 100000 in
theorem c_Md_count (l : Launch) (D : va_G) (cs : Nat → ClassId) (N0 : Nat) (H : Heap) (x : Nat) (g : Nat → Nat) (i : Nat → Int32) (f : Nat → Nat → Int32) (w : Int32) (hsep : md_sep N0 x g) (hI : md_I D cs H x g i f) (pn : Nat) (hpn : i 1 = nI pn) (hp12 : pn ≤ 12) (n : Nat) (hn : i 2 = nI n) (hn24 : n ≤ 24) (mn : Nat → Nat) (hm : ∀ a, a < 24 → f 1 a = nI (mn a) ∧ mn a ≤ 4) (mg : Nat) (hmg : i 3 = nI mg) : Met l y_Md_count w_Md_count ({ frames := 1, cells := 0, slots := 0, locals := 23 }) (hPre D cs N0 [.ref x, .int w] H) (hQi (fun r H' => if goB (!decide (w < 0) && !decide (5 < w)) true true = true then (md_I D cs H' x g (upd i 0 (goV (!decide (w < 0) && !decide (5 < w)) true true)) f ∧ r = cntR f mn pn n mg w) else (md_I D cs H' x g (upd i 0 (goV (!decide (w < 0) && !decide (5 < w)) true true)) f ∧ r = 0)) (md_A x g)) 0 0 (md_A x g) := by
  refine Met.ofW (cc := prog_7_method_35_code) (maxL := 5) (ret := (Option.some Jvm.ClassFile.FieldType.int)) (by decide) rfl ?_
  intro p e s m args below meth c s₁ B hml hv
  obtain ⟨rfl, rfl, hB⟩ := hv
  have hx := B.exec
  have hb := B.bytes
  have hr := B.returns
  have hts := atoms_spec (ws := w_Md_count) B.pre
  have htg : ∀ w ∈ gw, w.before _ s = true := fun w h => hts w (List.mem_cons_of_mem _ h)
  have hown : s.vm.findClass "NameMergesModel" = some m.cls := findClass_of_methodNamed B.named
  have hlocks := B.notSynchronized
  have hK := hB.1
  have hS : va_S (md_A x g) s.heap s.heap [] := va_S.rf
  obtain ⟨H, hH⟩ : ∃ z : Heap, z = s.heap := ⟨_, rfl⟩
  rw [← hH] at hI
  have hS : va_S (md_A x g) s.heap H [] := by rw [hH]; exact va_S.rf
  have hl := lv_entry ([.ref x, .int w]) (n := 5) (Nat.le_of_ble_eq_true rfl)
  rw [lg_entry_eq, ← hH]
  generalize (lg_sl ([.ref x, .int w]) ++ List.replicate (5 - (lg_sl ([.ref x, .int w])).length) Slot.unset).toArray = ls at hl ⊢
  have hl : lv_has ls 5 [(0, .ref x), (1, .int w)] := hl
  refine lv_aload_n hx hb d_Md_count_0 rfl (lv_at hl 0 rfl) ?_
  refine lv_iload_n hx hb d_Md_count_1 rfl (lv_at hl 1 rfl) ?_
  refine lv_if_lt (x := w) (tgt := 14) hx hb d_Md_count_2 (by decide) (fun c2 => ?_) (fun c2 => ?_)
  · skip
    refine lv_iconst (v := 0) hx hb d_Md_count_14 (by decide) ?_
    refine lv_iconst (v := 1) hx hb d_Md_count_15 (by decide) ?_
    refine lv_iconst (v := 1) hx hb d_Md_count_16 (by decide) ?_
    refine h_calli (va_runV (As := [.int 0, .int 1, .int 1]) (rest := []) ⟨hx, hb, hml, hown, htg⟩ (c_Md_goes l D cs N0 H x g i f false true true hsep hI) (cwV 3 htg (gw_V (gw_mem (i := 1092) (by decide +kernel) rfl) (gw_mem (i := 1094) (by decide +kernel) rfl) (gw_mem (i := 18) (by decide +kernel) rfl) (gw_mem (i := 38) (by decide +kernel) rfl) (gw_mem (i := 1095) (by decide +kernel) rfl)) rfl rfl rfl (by decide +kernel) ⟨Nat.le_of_ble_eq_true rfl, Nat.le_of_ble_eq_true rfl⟩) ⟨hPre.blind, hx_recv hK (ci := 0) rfl hI.1, hPre.at hB hS hsep.A⟩ rfl rfl hl.1 rfl (lv_room (Nat.le_of_ble_eq_true rfl)) d_Md_count_17 ⟨Nat.zero_le _, Nat.zero_le _⟩) hS (fun _ h => h) (fun r17 H locs hp hz hk hS => ?_)
    obtain ⟨hI, er17⟩ := hp
    replace hI : md_I D cs H x g (upd i 0 1) f := hI
    refine lv_eqi (y := 0) er17 ?_
    refine lv_if_ne (x := 0) (tgt := 25) hx hb d_Md_count_20 (by decide) (fun c20 => ?_) (fun c20 => ?_)
    · exact absurd c20 (by decide)
    · skip
      refine lv_iconst (v := 0) hx hb d_Md_count_23 (by decide) ?_
      exact W.iret (v := 0) hx hb hr (fun t ht hW => ⟨⟨0, H, rfl, by dsimp only; have e0 : (!decide (w < 0) && !decide (5 < w)) = false := (by first | (simp [c2]; done) | (simp [c2]; omega) | omega | simp_all); rw [e0]; rw [if_neg (show ¬ goB false true true = true by simp [goB])]; exact ⟨hI, rfl⟩, ht⟩, hS.F ht⟩) hS.2.2 d_Md_count_24
  · skip
    refine lv_iload_n hx hb d_Md_count_5 rfl (lv_at hl 1 rfl) ?_
    refine lv_iconst (v := 5) hx hb d_Md_count_6 (by decide) ?_
    refine lv_icmp_gt (x := w) (y := 5) (tgt := 14) hx hb d_Md_count_7 (by decide) (fun c7 => ?_) (fun c7 => ?_)
    · skip
      refine lv_iconst (v := 0) hx hb d_Md_count_14 (by decide) ?_
      refine lv_iconst (v := 1) hx hb d_Md_count_15 (by decide) ?_
      refine lv_iconst (v := 1) hx hb d_Md_count_16 (by decide) ?_
      refine h_calli (va_runV (As := [.int 0, .int 1, .int 1]) (rest := []) ⟨hx, hb, hml, hown, htg⟩ (c_Md_goes l D cs N0 H x g i f false true true hsep hI) (cwV 3 htg (gw_V (gw_mem (i := 1092) (by decide +kernel) rfl) (gw_mem (i := 1094) (by decide +kernel) rfl) (gw_mem (i := 18) (by decide +kernel) rfl) (gw_mem (i := 38) (by decide +kernel) rfl) (gw_mem (i := 1095) (by decide +kernel) rfl)) rfl rfl rfl (by decide +kernel) ⟨Nat.le_of_ble_eq_true rfl, Nat.le_of_ble_eq_true rfl⟩) ⟨hPre.blind, hx_recv hK (ci := 0) rfl hI.1, hPre.at hB hS hsep.A⟩ rfl rfl hl.1 rfl (lv_room (Nat.le_of_ble_eq_true rfl)) d_Md_count_17 ⟨Nat.zero_le _, Nat.zero_le _⟩) hS (fun _ h => h) (fun r17 H locs hp hz hk hS => ?_)
      obtain ⟨hI, er17⟩ := hp
      replace hI : md_I D cs H x g (upd i 0 1) f := hI
      refine lv_eqi (y := 0) er17 ?_
      refine lv_if_ne (x := 0) (tgt := 25) hx hb d_Md_count_20 (by decide) (fun c20 => ?_) (fun c20 => ?_)
      · exact absurd c20 (by decide)
      · skip
        refine lv_iconst (v := 0) hx hb d_Md_count_23 (by decide) ?_
        exact W.iret (v := 0) hx hb hr (fun t ht hW => ⟨⟨0, H, rfl, by dsimp only; have e0 : (!decide (w < 0) && !decide (5 < w)) = false := (by first | (simp [c2, c7]; done) | (simp [c2, c7]; omega) | omega | simp_all); rw [e0]; rw [if_neg (show ¬ goB false true true = true by simp [goB])]; exact ⟨hI, rfl⟩, ht⟩, hS.F ht⟩) hS.2.2 d_Md_count_24
    · skip
      refine lv_iconst (v := 1) hx hb d_Md_count_10 (by decide) ?_
      refine lv_goto (tgt := 15) hx hb d_Md_count_11 (by decide) ?_
      refine lv_iconst (v := 1) hx hb d_Md_count_15 (by decide) ?_
      refine lv_iconst (v := 1) hx hb d_Md_count_16 (by decide) ?_
      refine h_calli (va_runV (As := [.int 1, .int 1, .int 1]) (rest := []) ⟨hx, hb, hml, hown, htg⟩ (c_Md_goes l D cs N0 H x g i f true true true hsep hI) (cwV 3 htg (gw_V (gw_mem (i := 1092) (by decide +kernel) rfl) (gw_mem (i := 1094) (by decide +kernel) rfl) (gw_mem (i := 18) (by decide +kernel) rfl) (gw_mem (i := 38) (by decide +kernel) rfl) (gw_mem (i := 1095) (by decide +kernel) rfl)) rfl rfl rfl (by decide +kernel) ⟨Nat.le_of_ble_eq_true rfl, Nat.le_of_ble_eq_true rfl⟩) ⟨hPre.blind, hx_recv hK (ci := 0) rfl hI.1, hPre.at hB hS hsep.A⟩ rfl rfl hl.1 rfl (lv_room (Nat.le_of_ble_eq_true rfl)) d_Md_count_17 ⟨Nat.zero_le _, Nat.zero_le _⟩) hS (fun _ h => h) (fun r17 H locs hp hz hk hS => ?_)
      obtain ⟨hI, er17⟩ := hp
      replace hI : md_I D cs H x g (upd i 0 0) f := hI
      refine lv_eqi (y := 1) er17 ?_
      refine lv_if_ne (x := 1) (tgt := 25) hx hb d_Md_count_20 (by decide) (fun c20 => ?_) (fun c20 => ?_)
      · skip
        refine lv_iconst (v := 0) hx hb d_Md_count_25 (by decide) ?_
        refine lv_istore_n (lv' := [(2, .int 0), (0, .ref x), (1, .int w)]) hx hb d_Md_count_26 rfl hl (by decide) rfl (fun ls hl => ?_)
        have join137 : ∀ (cN : Nat), (cntX f mn w = cN) → ∀ (locs : List Loc), va_S (md_A x g) s.heap H locs → ∀ (ls : Array Slot), lv_has ls 5 [(0, .ref x), (1, .int w), (2, .int (nI cN))] → W p l e (headSpec w_Md_count ({ frames := 1, cells := 0, slots := 0, locals := 23 })).room s m ([.ref x, .int w] : List Value).toArray below meth c H locs 0 0 (MQ below (hQi (fun r H' => if goB (!decide (w < 0) && !decide (5 < w)) true true = true then (md_I D cs H' x g (upd i 0 (goV (!decide (w < 0) && !decide (5 < w)) true true)) f ∧ r = cntR f mn pn n mg w) else (md_I D cs H' x g (upd i 0 (goV (!decide (w < 0) && !decide (5 < w)) true true)) f ∧ r = 0)) (md_A x g)) ([.ref x, .int w] : List Value).toArray s 0 0 (md_A x g)) (F0 m 137 ls []) := by
          intro cN hX locs hS ls hl
          refine lv_iload_n hx hb d_Md_count_137 rfl (lv_at hl 1 rfl) ?_
          refine lv_if_ne (x := w) (tgt := 148) hx hb d_Md_count_138 (by decide) (fun c138 => ?_) (fun c138 => ?_)
          · skip
            refine lv_iload_n hx hb d_Md_count_148 rfl (lv_at hl 1 rfl) ?_
            refine lv_iconst (v := 1) hx hb d_Md_count_149 (by decide) ?_
            refine lv_icmp_ne (x := w) (y := 1) (tgt := 160) hx hb d_Md_count_150 (by decide) (fun c150 => ?_) (fun c150 => ?_)
            · skip
              refine lv_iload_n hx hb d_Md_count_160 rfl (lv_at hl 1 rfl) ?_
              refine lv_iconst (v := 3) hx hb d_Md_count_161 (by decide) ?_
              refine lv_icmp_ne (x := w) (y := 3) (tgt := 172) hx hb d_Md_count_162 (by decide) (fun c162 => ?_) (fun c162 => ?_)
              · skip
                refine lv_iload_n hx hb d_Md_count_172 rfl (lv_at hl 2 rfl) ?_
                exact W.iret (v := (nI cN)) hx hb hr (fun t ht hW => ⟨⟨(nI cN), H, rfl, by dsimp only; have e0 : (!decide (w < 0) && !decide (5 < w)) = true := (by first | (simp [c2, c7, c138, c150, c162]; done) | (simp [c2, c7, c138, c150, c162]; omega) | omega | simp_all); rw [e0]; rw [if_pos (show goB true true true = true from rfl)]; exact ⟨hI, by simp [cntR, hX, c138, c150, c162]⟩, ht⟩, hS.F ht⟩) hS.2.2 d_Md_count_173
              · skip
                refine lv_aload_n hx hb d_Md_count_165 rfl (lv_at hl 0 rfl) ?_
                refine hx_get (v := .int (i 3)) hx hb htg iMd hown hK hI.1 rfl 16 (by decide) (htg _ (gw_mem (i := 1014) (by decide +kernel) rfl)) (fun _ h9 => h9) rfl d_Md_count_166 ?_
                refine lv_eqi (y := (nI mg)) hmg ?_
                refine lv_goto (tgt := 173) hx hb d_Md_count_169 (by decide) ?_
                exact W.iret (v := (nI mg)) hx hb hr (fun t ht hW => ⟨⟨(nI mg), H, rfl, by dsimp only; have e0 : (!decide (w < 0) && !decide (5 < w)) = true := (by first | (simp [c2, c7, c138, c150, c162]; done) | (simp [c2, c7, c138, c150, c162]; omega) | omega | simp_all); rw [e0]; rw [if_pos (show goB true true true = true from rfl)]; exact ⟨hI, by simp [cntR, hX, c138, c150, c162]⟩, ht⟩, hS.F ht⟩) hS.2.2 d_Md_count_173
            · skip
              refine lv_aload_n hx hb d_Md_count_153 rfl (lv_at hl 0 rfl) ?_
              refine hx_get (v := .int (i 2)) hx hb htg iMd hown hK hI.1 rfl 3 (by decide) (htg _ (gw_mem (i := 1001) (by decide +kernel) rfl)) (fun _ h9 => h9) rfl d_Md_count_154 ?_
              refine lv_eqi (y := (nI n)) hn ?_
              refine lv_goto (tgt := 173) hx hb d_Md_count_157 (by decide) ?_
              exact W.iret (v := (nI n)) hx hb hr (fun t ht hW => ⟨⟨(nI n), H, rfl, by dsimp only; have e0 : (!decide (w < 0) && !decide (5 < w)) = true := (by first | (simp [c2, c7, c138, c150]; done) | (simp [c2, c7, c138, c150]; omega) | omega | simp_all); rw [e0]; rw [if_pos (show goB true true true = true from rfl)]; exact ⟨hI, by simp [cntR, hX, c138, c150]⟩, ht⟩, hS.F ht⟩) hS.2.2 d_Md_count_173
          · skip
            refine lv_aload_n hx hb d_Md_count_141 rfl (lv_at hl 0 rfl) ?_
            refine hx_get (v := .int (i 1)) hx hb htg iMd hown hK hI.1 rfl 1 (by decide) (htg _ (gw_mem (i := 999) (by decide +kernel) rfl)) (fun _ h9 => h9) rfl d_Md_count_142 ?_
            refine lv_eqi (y := (nI pn)) hpn ?_
            refine lv_goto (tgt := 173) hx hb d_Md_count_145 (by decide) ?_
            exact W.iret (v := (nI pn)) hx hb hr (fun t ht hW => ⟨⟨(nI pn), H, rfl, by dsimp only; have e0 : (!decide (w < 0) && !decide (5 < w)) = true := (by first | (simp [c2, c7, c138]; done) | (simp [c2, c7, c138]; omega) | omega | simp_all); rw [e0]; rw [if_pos (show goB true true true = true from rfl)]; exact ⟨hI, by simp [cntR, hX, c138]⟩, ht⟩, hS.F ht⟩) hS.2.2 d_Md_count_173
        refine lv_iload_n hx hb d_Md_count_27 rfl (lv_at hl 2 rfl) ?_
        refine lv_iconst (v := 2) hx hb d_Md_count_28 (by decide) ?_
        refine lv_icmp_ne (x := w) (y := 2) (tgt := 58) hx hb d_Md_count_29 (by decide) (fun c29 => ?_) (fun c29 => ?_)
        · skip
          refine lv_iload_n hx hb d_Md_count_58 rfl (lv_at hl 2 rfl) ?_
          refine lv_iconst (v := 4) hx hb d_Md_count_59 (by decide) ?_
          refine lv_icmp_eq (x := w) (y := 4) (tgt := 68) hx hb d_Md_count_60 (by decide) (fun c60 => ?_) (fun c60 => ?_)
          · skip
            refine lv_iconst (v := 0) hx hb d_Md_count_68 (by decide) ?_
            refine lv_istore_n (lv' := [(3, .int 0), (2, .int 0), (0, .ref x), (1, .int w)]) hx hb d_Md_count_69 rfl hl (by decide) rfl (fun ls hl => ?_)
            have loop70 : ∀ (fuel : Nat) (cN : Nat) (k : Nat), 576 - k < fuel → (k ≤ 576) → (cntTo (cntP f w) k = cN) → ∀ (locs : List Loc), va_S (md_A x g) s.heap H locs → ∀ (ls : Array Slot), lv_has ls 5 [(0, .ref x), (1, .int w), (2, .int (nI cN)), (3, .int (nI k))] → W p l e (headSpec w_Md_count ({ frames := 1, cells := 0, slots := 0, locals := 23 })).room s m ([.ref x, .int w] : List Value).toArray below meth c H locs 0 0 (MQ below (hQi (fun r H' => if goB (!decide (w < 0) && !decide (5 < w)) true true = true then (md_I D cs H' x g (upd i 0 (goV (!decide (w < 0) && !decide (5 < w)) true true)) f ∧ r = cntR f mn pn n mg w) else (md_I D cs H' x g (upd i 0 (goV (!decide (w < 0) && !decide (5 < w)) true true)) f ∧ r = 0)) (md_A x g)) ([.ref x, .int w] : List Value).toArray s 0 0 (md_A x g)) (F0 m 70 ls []) := by
              intro fuel70
              induction fuel70 with
              | zero => intro cN k hn; exact absurd hn (Nat.not_lt_zero _)
              | succ fuel70 ih70 =>
                intro cN k hn70 hk hc locs hS ls hl
                refine lv_iload_n hx hb d_Md_count_70 rfl (lv_at hl 3 rfl) ?_
                refine lv_sipush (v := 576) hx hb d_Md_count_71 (by decide) ?_
                refine lv_icmp_ge (x := (nI k)) (y := 576) (tgt := 137) hx hb d_Md_count_74 (by decide) (fun c74 => ?_) (fun c74 => ?_)
                · skip
                  replace c74 : 576 ≤ k := (nI_leI (a := 576) (b := k) (by omega) (by omega)).mp c74
                  exact join137  cN  (by have e9 : k = 576 := (by omega); subst e9; rw [cntX, if_neg (by rw [c60]; decide), if_pos (Or.inl c60), hc]) _ hS ls (lv_sub hl [0, 1, 2] rfl)
                · skip
                  replace c74 : ¬ (576 ≤ k) := fun z9 => c74 ((nI_leI (a := 576) (b := k) (by omega) (by omega)).mpr z9)
                  refine lv_iload_n hx hb d_Md_count_77 rfl (lv_at hl 1 rfl) ?_
                  refine lv_iconst (v := 4) hx hb d_Md_count_78 (by decide) ?_
                  refine lv_icmp_ne (x := w) (y := 4) (tgt := 110) hx hb d_Md_count_79 (by decide) (fun c79 => ?_) (fun c79 => ?_)
                  · skip
                    refine lv_aload_n hx hb d_Md_count_110 rfl (lv_at hl 0 rfl) ?_
                    refine hx_get (v := .ref (g 10)) hx hb htg iMd hown hK hI.1 rfl 13 (by decide) (htg _ (gw_mem (i := 1011) (by decide +kernel) rfl)) (fun _ h9 => h9) rfl d_Md_count_111 ?_
                    refine lv_iload_n hx hb d_Md_count_114 rfl (lv_at hl 3 rfl) ?_
                    refine hx_zald hx hb hK 1 (hI.2 10 (by decide)) rfl (show vp_in (nI k) 576 from vp_in_nI (n := k) (by omega) (by decide)) d_Md_count_115 ?_
                    refine lv_eqi (y := (f 10 k)) (show f 10 (nI k).toNatClampNeg = _ by rw [nI_clamp (by omega)]) ?_
                    refine lv_istore (lv' := [(4, .int (f 10 k)), (0, .ref x), (1, .int w), (2, .int (nI cN)), (3, .int (nI k))]) hx hb d_Md_count_116 hl (by decide) rfl (fun ls hl => ?_)
                    refine lv_iload hx hb d_Md_count_118 (lv_at hl 0 rfl) ?_
                    refine lv_if_eq (x := (f 10 k)) (tgt := 129) hx hb d_Md_count_120 (by decide) (fun c120 => ?_) (fun c120 => ?_)
                    · skip
                      refine lv_iload_n hx hb d_Md_count_129 rfl (lv_at hl 3 rfl) ?_
                      refine lv_istore_n (lv' := [(2, .int (nI cN)), (4, .int (f 10 k)), (0, .ref x), (1, .int w), (3, .int (nI k))]) hx hb d_Md_count_130 rfl hl (by decide) rfl (fun ls hl => ?_)
                      refine lv_iinc (v := (nI (k + 1))) (lv' := [(3, .int (nI (k + 1))), (2, .int (nI cN)), (4, .int (f 10 k)), (0, .ref x), (1, .int w)]) hx hb d_Md_count_131 hl (k := 4) rfl (nI_1 k) (by decide) rfl (fun ls hl => ?_)
                      refine lv_goto (tgt := 70) hx hb d_Md_count_134 (by decide) ?_
                      exact ih70  cN (k + 1) (by omega) (by omega) (by rw [cntTo, hc]; simp [cntP, c79, c120]) _ hS ls (lv_sub hl [3, 4, 1, 0] rfl)
                    · skip
                      refine lv_iload_n hx hb d_Md_count_123 rfl (lv_at hl 3 rfl) ?_
                      refine lv_iconst (v := 1) hx hb d_Md_count_124 (by decide) ?_
                      refine lv_iadd (x := (nI cN)) (y := 1) hx hb d_Md_count_125 ?_
                      refine lv_eqi (y := (nI (cN + 1))) (nI_add cN 1) ?_
                      refine lv_goto (tgt := 130) hx hb d_Md_count_126 (by decide) ?_
                      refine lv_istore_n (lv' := [(2, .int (nI (cN + 1))), (4, .int (f 10 k)), (0, .ref x), (1, .int w), (3, .int (nI k))]) hx hb d_Md_count_130 rfl hl (by decide) rfl (fun ls hl => ?_)
                      refine lv_iinc (v := (nI (k + 1))) (lv' := [(3, .int (nI (k + 1))), (2, .int (nI (cN + 1))), (4, .int (f 10 k)), (0, .ref x), (1, .int w)]) hx hb d_Md_count_131 hl (k := 4) rfl (nI_1 k) (by decide) rfl (fun ls hl => ?_)
                      refine lv_goto (tgt := 70) hx hb d_Md_count_134 (by decide) ?_
                      exact ih70  (cN + 1) (k + 1) (by omega) (by omega) (by rw [cntTo, hc]; simp [cntP, c79, c120]) _ hS ls (lv_sub hl [3, 4, 1, 0] rfl)
                  · skip
                    refine lv_aload_n hx hb d_Md_count_82 rfl (lv_at hl 0 rfl) ?_
                    refine hx_get (v := .ref (g 9)) hx hb htg iMd hown hK hI.1 rfl 12 (by decide) (htg _ (gw_mem (i := 1010) (by decide +kernel) rfl)) (fun _ h9 => h9) rfl d_Md_count_83 ?_
                    refine lv_iload_n hx hb d_Md_count_86 rfl (lv_at hl 3 rfl) ?_
                    refine hx_iald hx hb hK 0 (hI.2 9 (by decide)) rfl (show vp_in (nI k) 576 from vp_in_nI (n := k) (by omega) (by decide)) d_Md_count_87 ?_
                    refine lv_eqi (y := (f 9 k)) (show f 9 (nI k).toNatClampNeg = _ by rw [nI_clamp (by omega)]) ?_
                    refine lv_if_le (x := (f 9 k)) (tgt := 106) hx hb d_Md_count_88 (by decide) (fun c88 => ?_) (fun c88 => ?_)
                    · skip
                      refine lv_iconst (v := 0) hx hb d_Md_count_106 (by decide) ?_
                      refine lv_goto (tgt := 116) hx hb d_Md_count_107 (by decide) ?_
                      refine lv_istore (lv' := [(4, .int 0), (0, .ref x), (1, .int w), (2, .int (nI cN)), (3, .int (nI k))]) hx hb d_Md_count_116 hl (by decide) rfl (fun ls hl => ?_)
                      refine lv_iload hx hb d_Md_count_118 (lv_at hl 0 rfl) ?_
                      refine lv_if_eq (x := 0) (tgt := 129) hx hb d_Md_count_120 (by decide) (fun c120 => ?_) (fun c120 => ?_)
                      · skip
                        refine lv_iload_n hx hb d_Md_count_129 rfl (lv_at hl 3 rfl) ?_
                        refine lv_istore_n (lv' := [(2, .int (nI cN)), (4, .int 0), (0, .ref x), (1, .int w), (3, .int (nI k))]) hx hb d_Md_count_130 rfl hl (by decide) rfl (fun ls hl => ?_)
                        refine lv_iinc (v := (nI (k + 1))) (lv' := [(3, .int (nI (k + 1))), (2, .int (nI cN)), (4, .int 0), (0, .ref x), (1, .int w)]) hx hb d_Md_count_131 hl (k := 4) rfl (nI_1 k) (by decide) rfl (fun ls hl => ?_)
                        refine lv_goto (tgt := 70) hx hb d_Md_count_134 (by decide) ?_
                        exact ih70  cN (k + 1) (by omega) (by omega) (by rw [cntTo, hc]; simp [cntP, c79, c88]) _ hS ls (lv_sub hl [3, 4, 1, 0] rfl)
                      · exact absurd c120 (by decide)
                    · skip
                      refine lv_iload_n hx hb d_Md_count_91 rfl (lv_at hl 3 rfl) ?_
                      refine lv_bipush (v := 24) hx hb d_Md_count_92 (by decide) ?_
                      refine lv_idiv (x := (nI k)) (y := 24) hx hb d_Md_count_94 (by decide) ?_
                      refine lv_eqi (y := (nI (k / 24))) (pk_div (a := k) (d := 24) (by omega) (by omega) (by omega)) ?_
                      refine lv_iload_n hx hb d_Md_count_95 rfl (lv_at hl 3 rfl) ?_
                      refine lv_bipush (v := 24) hx hb d_Md_count_96 (by decide) ?_
                      refine lv_irem (x := (nI k)) (y := 24) hx hb d_Md_count_98 (by decide) ?_
                      refine lv_eqi (y := (nI (k % 24))) (pk_rem (a := k) (d := 24) (by omega) (by omega) (by omega)) ?_
                      refine lv_icmp_ge (x := (nI (k / 24))) (y := (nI (k % 24))) (tgt := 106) hx hb d_Md_count_99 (by decide) (fun c99 => ?_) (fun c99 => ?_)
                      · skip
                        replace c99 : (k % 24) ≤ (k / 24) := (nI_leI (a := (k % 24)) (b := (k / 24)) (by omega) (by omega)).mp c99
                        refine lv_iconst (v := 0) hx hb d_Md_count_106 (by decide) ?_
                        refine lv_goto (tgt := 116) hx hb d_Md_count_107 (by decide) ?_
                        refine lv_istore (lv' := [(4, .int 0), (0, .ref x), (1, .int w), (2, .int (nI cN)), (3, .int (nI k))]) hx hb d_Md_count_116 hl (by decide) rfl (fun ls hl => ?_)
                        refine lv_iload hx hb d_Md_count_118 (lv_at hl 0 rfl) ?_
                        refine lv_if_eq (x := 0) (tgt := 129) hx hb d_Md_count_120 (by decide) (fun c120 => ?_) (fun c120 => ?_)
                        · skip
                          refine lv_iload_n hx hb d_Md_count_129 rfl (lv_at hl 3 rfl) ?_
                          refine lv_istore_n (lv' := [(2, .int (nI cN)), (4, .int 0), (0, .ref x), (1, .int w), (3, .int (nI k))]) hx hb d_Md_count_130 rfl hl (by decide) rfl (fun ls hl => ?_)
                          refine lv_iinc (v := (nI (k + 1))) (lv' := [(3, .int (nI (k + 1))), (2, .int (nI cN)), (4, .int 0), (0, .ref x), (1, .int w)]) hx hb d_Md_count_131 hl (k := 4) rfl (nI_1 k) (by decide) rfl (fun ls hl => ?_)
                          refine lv_goto (tgt := 70) hx hb d_Md_count_134 (by decide) ?_
                          exact ih70  cN (k + 1) (by omega) (by omega) (by rw [cntTo, hc]; simp [cntP, c79, c88, c99]) _ hS ls (lv_sub hl [3, 4, 1, 0] rfl)
                        · exact absurd c120 (by decide)
                      · skip
                        replace c99 : ¬ ((k % 24) ≤ (k / 24)) := fun z9 => c99 ((nI_leI (a := (k % 24)) (b := (k / 24)) (by omega) (by omega)).mpr z9)
                        refine lv_iconst (v := 1) hx hb d_Md_count_102 (by decide) ?_
                        refine lv_goto (tgt := 116) hx hb d_Md_count_103 (by decide) ?_
                        refine lv_istore (lv' := [(4, .int 1), (0, .ref x), (1, .int w), (2, .int (nI cN)), (3, .int (nI k))]) hx hb d_Md_count_116 hl (by decide) rfl (fun ls hl => ?_)
                        refine lv_iload hx hb d_Md_count_118 (lv_at hl 0 rfl) ?_
                        refine lv_if_eq (x := 1) (tgt := 129) hx hb d_Md_count_120 (by decide) (fun c120 => ?_) (fun c120 => ?_)
                        · exact absurd c120 (by decide)
                        · skip
                          refine lv_iload_n hx hb d_Md_count_123 rfl (lv_at hl 3 rfl) ?_
                          refine lv_iconst (v := 1) hx hb d_Md_count_124 (by decide) ?_
                          refine lv_iadd (x := (nI cN)) (y := 1) hx hb d_Md_count_125 ?_
                          refine lv_eqi (y := (nI (cN + 1))) (nI_add cN 1) ?_
                          refine lv_goto (tgt := 130) hx hb d_Md_count_126 (by decide) ?_
                          refine lv_istore_n (lv' := [(2, .int (nI (cN + 1))), (4, .int 1), (0, .ref x), (1, .int w), (3, .int (nI k))]) hx hb d_Md_count_130 rfl hl (by decide) rfl (fun ls hl => ?_)
                          refine lv_iinc (v := (nI (k + 1))) (lv' := [(3, .int (nI (k + 1))), (2, .int (nI (cN + 1))), (4, .int 1), (0, .ref x), (1, .int w)]) hx hb d_Md_count_131 hl (k := 4) rfl (nI_1 k) (by decide) rfl (fun ls hl => ?_)
                          refine lv_goto (tgt := 70) hx hb d_Md_count_134 (by decide) ?_
                          exact ih70  (cN + 1) (k + 1) (by omega) (by omega) (by rw [cntTo, hc]; simp [cntP, c79, c88, c99]) _ hS ls (lv_sub hl [3, 4, 1, 0] rfl)
            exact loop70 ((576 - 0) + 1) 0 0 (Nat.lt_succ_self _) (by decide) rfl _ hS ls (lv_sub hl [2, 3, 1, 0] rfl)
          · skip
            refine lv_iload_n hx hb d_Md_count_63 rfl (lv_at hl 2 rfl) ?_
            refine lv_iconst (v := 5) hx hb d_Md_count_64 (by decide) ?_
            refine lv_icmp_ne (x := w) (y := 5) (tgt := 137) hx hb d_Md_count_65 (by decide) (fun c65 => ?_) (fun c65 => ?_)
            · skip
              exact join137  0  (by simp [cntX, c29, c60, c65]) _ hS ls (lv_sub hl [1, 2, 0] rfl)
            · skip
              refine lv_iconst (v := 0) hx hb d_Md_count_68 (by decide) ?_
              refine lv_istore_n (lv' := [(3, .int 0), (2, .int 0), (0, .ref x), (1, .int w)]) hx hb d_Md_count_69 rfl hl (by decide) rfl (fun ls hl => ?_)
              have loop70 : ∀ (fuel : Nat) (cN : Nat) (k : Nat), 576 - k < fuel → (k ≤ 576) → (cntTo (cntP f w) k = cN) → ∀ (locs : List Loc), va_S (md_A x g) s.heap H locs → ∀ (ls : Array Slot), lv_has ls 5 [(0, .ref x), (1, .int w), (2, .int (nI cN)), (3, .int (nI k))] → W p l e (headSpec w_Md_count ({ frames := 1, cells := 0, slots := 0, locals := 23 })).room s m ([.ref x, .int w] : List Value).toArray below meth c H locs 0 0 (MQ below (hQi (fun r H' => if goB (!decide (w < 0) && !decide (5 < w)) true true = true then (md_I D cs H' x g (upd i 0 (goV (!decide (w < 0) && !decide (5 < w)) true true)) f ∧ r = cntR f mn pn n mg w) else (md_I D cs H' x g (upd i 0 (goV (!decide (w < 0) && !decide (5 < w)) true true)) f ∧ r = 0)) (md_A x g)) ([.ref x, .int w] : List Value).toArray s 0 0 (md_A x g)) (F0 m 70 ls []) := by
                intro fuel70
                induction fuel70 with
                | zero => intro cN k hn; exact absurd hn (Nat.not_lt_zero _)
                | succ fuel70 ih70 =>
                  intro cN k hn70 hk hc locs hS ls hl
                  refine lv_iload_n hx hb d_Md_count_70 rfl (lv_at hl 3 rfl) ?_
                  refine lv_sipush (v := 576) hx hb d_Md_count_71 (by decide) ?_
                  refine lv_icmp_ge (x := (nI k)) (y := 576) (tgt := 137) hx hb d_Md_count_74 (by decide) (fun c74 => ?_) (fun c74 => ?_)
                  · skip
                    replace c74 : 576 ≤ k := (nI_leI (a := 576) (b := k) (by omega) (by omega)).mp c74
                    exact join137  cN  (by have e9 : k = 576 := (by omega); subst e9; rw [cntX, if_neg (by rw [c65]; decide), if_pos (Or.inr c65), hc]) _ hS ls (lv_sub hl [0, 1, 2] rfl)
                  · skip
                    replace c74 : ¬ (576 ≤ k) := fun z9 => c74 ((nI_leI (a := 576) (b := k) (by omega) (by omega)).mpr z9)
                    refine lv_iload_n hx hb d_Md_count_77 rfl (lv_at hl 1 rfl) ?_
                    refine lv_iconst (v := 4) hx hb d_Md_count_78 (by decide) ?_
                    refine lv_icmp_ne (x := w) (y := 4) (tgt := 110) hx hb d_Md_count_79 (by decide) (fun c79 => ?_) (fun c79 => ?_)
                    · skip
                      refine lv_aload_n hx hb d_Md_count_110 rfl (lv_at hl 0 rfl) ?_
                      refine hx_get (v := .ref (g 10)) hx hb htg iMd hown hK hI.1 rfl 13 (by decide) (htg _ (gw_mem (i := 1011) (by decide +kernel) rfl)) (fun _ h9 => h9) rfl d_Md_count_111 ?_
                      refine lv_iload_n hx hb d_Md_count_114 rfl (lv_at hl 3 rfl) ?_
                      refine hx_zald hx hb hK 1 (hI.2 10 (by decide)) rfl (show vp_in (nI k) 576 from vp_in_nI (n := k) (by omega) (by decide)) d_Md_count_115 ?_
                      refine lv_eqi (y := (f 10 k)) (show f 10 (nI k).toNatClampNeg = _ by rw [nI_clamp (by omega)]) ?_
                      refine lv_istore (lv' := [(4, .int (f 10 k)), (0, .ref x), (1, .int w), (2, .int (nI cN)), (3, .int (nI k))]) hx hb d_Md_count_116 hl (by decide) rfl (fun ls hl => ?_)
                      refine lv_iload hx hb d_Md_count_118 (lv_at hl 0 rfl) ?_
                      refine lv_if_eq (x := (f 10 k)) (tgt := 129) hx hb d_Md_count_120 (by decide) (fun c120 => ?_) (fun c120 => ?_)
                      · skip
                        refine lv_iload_n hx hb d_Md_count_129 rfl (lv_at hl 3 rfl) ?_
                        refine lv_istore_n (lv' := [(2, .int (nI cN)), (4, .int (f 10 k)), (0, .ref x), (1, .int w), (3, .int (nI k))]) hx hb d_Md_count_130 rfl hl (by decide) rfl (fun ls hl => ?_)
                        refine lv_iinc (v := (nI (k + 1))) (lv' := [(3, .int (nI (k + 1))), (2, .int (nI cN)), (4, .int (f 10 k)), (0, .ref x), (1, .int w)]) hx hb d_Md_count_131 hl (k := 4) rfl (nI_1 k) (by decide) rfl (fun ls hl => ?_)
                        refine lv_goto (tgt := 70) hx hb d_Md_count_134 (by decide) ?_
                        exact ih70  cN (k + 1) (by omega) (by omega) (by rw [cntTo, hc]; simp [cntP, c79, c120]) _ hS ls (lv_sub hl [3, 4, 1, 0] rfl)
                      · skip
                        refine lv_iload_n hx hb d_Md_count_123 rfl (lv_at hl 3 rfl) ?_
                        refine lv_iconst (v := 1) hx hb d_Md_count_124 (by decide) ?_
                        refine lv_iadd (x := (nI cN)) (y := 1) hx hb d_Md_count_125 ?_
                        refine lv_eqi (y := (nI (cN + 1))) (nI_add cN 1) ?_
                        refine lv_goto (tgt := 130) hx hb d_Md_count_126 (by decide) ?_
                        refine lv_istore_n (lv' := [(2, .int (nI (cN + 1))), (4, .int (f 10 k)), (0, .ref x), (1, .int w), (3, .int (nI k))]) hx hb d_Md_count_130 rfl hl (by decide) rfl (fun ls hl => ?_)
                        refine lv_iinc (v := (nI (k + 1))) (lv' := [(3, .int (nI (k + 1))), (2, .int (nI (cN + 1))), (4, .int (f 10 k)), (0, .ref x), (1, .int w)]) hx hb d_Md_count_131 hl (k := 4) rfl (nI_1 k) (by decide) rfl (fun ls hl => ?_)
                        refine lv_goto (tgt := 70) hx hb d_Md_count_134 (by decide) ?_
                        exact ih70  (cN + 1) (k + 1) (by omega) (by omega) (by rw [cntTo, hc]; simp [cntP, c79, c120]) _ hS ls (lv_sub hl [3, 4, 1, 0] rfl)
                    · skip
                      refine lv_aload_n hx hb d_Md_count_82 rfl (lv_at hl 0 rfl) ?_
                      refine hx_get (v := .ref (g 9)) hx hb htg iMd hown hK hI.1 rfl 12 (by decide) (htg _ (gw_mem (i := 1010) (by decide +kernel) rfl)) (fun _ h9 => h9) rfl d_Md_count_83 ?_
                      refine lv_iload_n hx hb d_Md_count_86 rfl (lv_at hl 3 rfl) ?_
                      refine hx_iald hx hb hK 0 (hI.2 9 (by decide)) rfl (show vp_in (nI k) 576 from vp_in_nI (n := k) (by omega) (by decide)) d_Md_count_87 ?_
                      refine lv_eqi (y := (f 9 k)) (show f 9 (nI k).toNatClampNeg = _ by rw [nI_clamp (by omega)]) ?_
                      refine lv_if_le (x := (f 9 k)) (tgt := 106) hx hb d_Md_count_88 (by decide) (fun c88 => ?_) (fun c88 => ?_)
                      · skip
                        refine lv_iconst (v := 0) hx hb d_Md_count_106 (by decide) ?_
                        refine lv_goto (tgt := 116) hx hb d_Md_count_107 (by decide) ?_
                        refine lv_istore (lv' := [(4, .int 0), (0, .ref x), (1, .int w), (2, .int (nI cN)), (3, .int (nI k))]) hx hb d_Md_count_116 hl (by decide) rfl (fun ls hl => ?_)
                        refine lv_iload hx hb d_Md_count_118 (lv_at hl 0 rfl) ?_
                        refine lv_if_eq (x := 0) (tgt := 129) hx hb d_Md_count_120 (by decide) (fun c120 => ?_) (fun c120 => ?_)
                        · skip
                          refine lv_iload_n hx hb d_Md_count_129 rfl (lv_at hl 3 rfl) ?_
                          refine lv_istore_n (lv' := [(2, .int (nI cN)), (4, .int 0), (0, .ref x), (1, .int w), (3, .int (nI k))]) hx hb d_Md_count_130 rfl hl (by decide) rfl (fun ls hl => ?_)
                          refine lv_iinc (v := (nI (k + 1))) (lv' := [(3, .int (nI (k + 1))), (2, .int (nI cN)), (4, .int 0), (0, .ref x), (1, .int w)]) hx hb d_Md_count_131 hl (k := 4) rfl (nI_1 k) (by decide) rfl (fun ls hl => ?_)
                          refine lv_goto (tgt := 70) hx hb d_Md_count_134 (by decide) ?_
                          exact ih70  cN (k + 1) (by omega) (by omega) (by rw [cntTo, hc]; simp [cntP, c79, c88]) _ hS ls (lv_sub hl [3, 4, 1, 0] rfl)
                        · exact absurd c120 (by decide)
                      · skip
                        refine lv_iload_n hx hb d_Md_count_91 rfl (lv_at hl 3 rfl) ?_
                        refine lv_bipush (v := 24) hx hb d_Md_count_92 (by decide) ?_
                        refine lv_idiv (x := (nI k)) (y := 24) hx hb d_Md_count_94 (by decide) ?_
                        refine lv_eqi (y := (nI (k / 24))) (pk_div (a := k) (d := 24) (by omega) (by omega) (by omega)) ?_
                        refine lv_iload_n hx hb d_Md_count_95 rfl (lv_at hl 3 rfl) ?_
                        refine lv_bipush (v := 24) hx hb d_Md_count_96 (by decide) ?_
                        refine lv_irem (x := (nI k)) (y := 24) hx hb d_Md_count_98 (by decide) ?_
                        refine lv_eqi (y := (nI (k % 24))) (pk_rem (a := k) (d := 24) (by omega) (by omega) (by omega)) ?_
                        refine lv_icmp_ge (x := (nI (k / 24))) (y := (nI (k % 24))) (tgt := 106) hx hb d_Md_count_99 (by decide) (fun c99 => ?_) (fun c99 => ?_)
                        · skip
                          replace c99 : (k % 24) ≤ (k / 24) := (nI_leI (a := (k % 24)) (b := (k / 24)) (by omega) (by omega)).mp c99
                          refine lv_iconst (v := 0) hx hb d_Md_count_106 (by decide) ?_
                          refine lv_goto (tgt := 116) hx hb d_Md_count_107 (by decide) ?_
                          refine lv_istore (lv' := [(4, .int 0), (0, .ref x), (1, .int w), (2, .int (nI cN)), (3, .int (nI k))]) hx hb d_Md_count_116 hl (by decide) rfl (fun ls hl => ?_)
                          refine lv_iload hx hb d_Md_count_118 (lv_at hl 0 rfl) ?_
                          refine lv_if_eq (x := 0) (tgt := 129) hx hb d_Md_count_120 (by decide) (fun c120 => ?_) (fun c120 => ?_)
                          · skip
                            refine lv_iload_n hx hb d_Md_count_129 rfl (lv_at hl 3 rfl) ?_
                            refine lv_istore_n (lv' := [(2, .int (nI cN)), (4, .int 0), (0, .ref x), (1, .int w), (3, .int (nI k))]) hx hb d_Md_count_130 rfl hl (by decide) rfl (fun ls hl => ?_)
                            refine lv_iinc (v := (nI (k + 1))) (lv' := [(3, .int (nI (k + 1))), (2, .int (nI cN)), (4, .int 0), (0, .ref x), (1, .int w)]) hx hb d_Md_count_131 hl (k := 4) rfl (nI_1 k) (by decide) rfl (fun ls hl => ?_)
                            refine lv_goto (tgt := 70) hx hb d_Md_count_134 (by decide) ?_
                            exact ih70  cN (k + 1) (by omega) (by omega) (by rw [cntTo, hc]; simp [cntP, c79, c88, c99]) _ hS ls (lv_sub hl [3, 4, 1, 0] rfl)
                          · exact absurd c120 (by decide)
                        · skip
                          replace c99 : ¬ ((k % 24) ≤ (k / 24)) := fun z9 => c99 ((nI_leI (a := (k % 24)) (b := (k / 24)) (by omega) (by omega)).mpr z9)
                          refine lv_iconst (v := 1) hx hb d_Md_count_102 (by decide) ?_
                          refine lv_goto (tgt := 116) hx hb d_Md_count_103 (by decide) ?_
                          refine lv_istore (lv' := [(4, .int 1), (0, .ref x), (1, .int w), (2, .int (nI cN)), (3, .int (nI k))]) hx hb d_Md_count_116 hl (by decide) rfl (fun ls hl => ?_)
                          refine lv_iload hx hb d_Md_count_118 (lv_at hl 0 rfl) ?_
                          refine lv_if_eq (x := 1) (tgt := 129) hx hb d_Md_count_120 (by decide) (fun c120 => ?_) (fun c120 => ?_)
                          · exact absurd c120 (by decide)
                          · skip
                            refine lv_iload_n hx hb d_Md_count_123 rfl (lv_at hl 3 rfl) ?_
                            refine lv_iconst (v := 1) hx hb d_Md_count_124 (by decide) ?_
                            refine lv_iadd (x := (nI cN)) (y := 1) hx hb d_Md_count_125 ?_
                            refine lv_eqi (y := (nI (cN + 1))) (nI_add cN 1) ?_
                            refine lv_goto (tgt := 130) hx hb d_Md_count_126 (by decide) ?_
                            refine lv_istore_n (lv' := [(2, .int (nI (cN + 1))), (4, .int 1), (0, .ref x), (1, .int w), (3, .int (nI k))]) hx hb d_Md_count_130 rfl hl (by decide) rfl (fun ls hl => ?_)
                            refine lv_iinc (v := (nI (k + 1))) (lv' := [(3, .int (nI (k + 1))), (2, .int (nI (cN + 1))), (4, .int 1), (0, .ref x), (1, .int w)]) hx hb d_Md_count_131 hl (k := 4) rfl (nI_1 k) (by decide) rfl (fun ls hl => ?_)
                            refine lv_goto (tgt := 70) hx hb d_Md_count_134 (by decide) ?_
                            exact ih70  (cN + 1) (k + 1) (by omega) (by omega) (by rw [cntTo, hc]; simp [cntP, c79, c88, c99]) _ hS ls (lv_sub hl [3, 4, 1, 0] rfl)
              exact loop70 ((576 - 0) + 1) 0 0 (Nat.lt_succ_self _) (by decide) rfl _ hS ls (lv_sub hl [2, 3, 1, 0] rfl)
        · skip
          refine lv_iconst (v := 0) hx hb d_Md_count_32 (by decide) ?_
          refine lv_istore_n (lv' := [(3, .int 0), (2, .int 0), (0, .ref x), (1, .int w)]) hx hb d_Md_count_33 rfl hl (by decide) rfl (fun ls hl => ?_)
          have loop34 : ∀ (fuel : Nat) (sN : Nat) (k : Nat), 24 - k < fuel → (k ≤ 24) → (sumTo mn k = sN) → ∀ (locs : List Loc), va_S (md_A x g) s.heap H locs → ∀ (ls : Array Slot), lv_has ls 5 [(0, .ref x), (1, .int w), (2, .int (nI sN)), (3, .int (nI k))] → W p l e (headSpec w_Md_count ({ frames := 1, cells := 0, slots := 0, locals := 23 })).room s m ([.ref x, .int w] : List Value).toArray below meth c H locs 0 0 (MQ below (hQi (fun r H' => if goB (!decide (w < 0) && !decide (5 < w)) true true = true then (md_I D cs H' x g (upd i 0 (goV (!decide (w < 0) && !decide (5 < w)) true true)) f ∧ r = cntR f mn pn n mg w) else (md_I D cs H' x g (upd i 0 (goV (!decide (w < 0) && !decide (5 < w)) true true)) f ∧ r = 0)) (md_A x g)) ([.ref x, .int w] : List Value).toArray s 0 0 (md_A x g)) (F0 m 34 ls []) := by
            intro fuel34
            induction fuel34 with
            | zero => intro sN k hn; exact absurd hn (Nat.not_lt_zero _)
            | succ fuel34 ih34 =>
              intro sN k hn34 hk hc locs hS ls hl
              refine lv_iload_n hx hb d_Md_count_34 rfl (lv_at hl 3 rfl) ?_
              refine lv_bipush (v := 24) hx hb d_Md_count_35 (by decide) ?_
              refine lv_icmp_ge (x := (nI k)) (y := 24) (tgt := 55) hx hb d_Md_count_37 (by decide) (fun c37 => ?_) (fun c37 => ?_)
              · skip
                replace c37 : 24 ≤ k := (nI_leI (a := 24) (b := k) (by omega) (by omega)).mp c37
                refine lv_goto (tgt := 137) hx hb d_Md_count_55 (by decide) ?_
                exact join137  sN  (by have e9 : k = 24 := (by omega); subst e9; simp [cntX, c29, hc]) _ hS ls (lv_sub hl [0, 1, 2] rfl)
              · skip
                replace c37 : ¬ (24 ≤ k) := fun z9 => c37 ((nI_leI (a := 24) (b := k) (by omega) (by omega)).mpr z9)
                refine lv_iload_n hx hb d_Md_count_40 rfl (lv_at hl 2 rfl) ?_
                refine lv_aload_n hx hb d_Md_count_41 rfl (lv_at hl 0 rfl) ?_
                refine hx_get (v := .ref (g 1)) hx hb htg iMd hown hK hI.1 rfl 4 (by decide) (htg _ (gw_mem (i := 1002) (by decide +kernel) rfl)) (fun _ h9 => h9) rfl d_Md_count_42 ?_
                refine lv_iload_n hx hb d_Md_count_45 rfl (lv_at hl 3 rfl) ?_
                refine hx_iald hx hb hK 0 (hI.2 1 (by decide)) rfl (show vp_in (nI k) 24 from vp_in_nI (n := k) (by omega) (by decide)) d_Md_count_46 ?_
                refine lv_eqi (y := (f 1 k)) (show f 1 (nI k).toNatClampNeg = _ by rw [nI_clamp (by omega)]) ?_
                refine lv_eqi (y := (nI (mn k))) (hm k (by omega)).1 ?_
                refine lv_iadd (x := (nI sN)) (y := (nI (mn k))) hx hb d_Md_count_47 ?_
                refine lv_eqi (y := (nI (sN + mn k))) (nI_add sN (mn k)) ?_
                refine lv_istore_n (lv' := [(2, .int (nI (sN + mn k))), (0, .ref x), (1, .int w), (3, .int (nI k))]) hx hb d_Md_count_48 rfl hl (by decide) rfl (fun ls hl => ?_)
                refine lv_iinc (v := (nI (k + 1))) (lv' := [(3, .int (nI (k + 1))), (2, .int (nI (sN + mn k))), (0, .ref x), (1, .int w)]) hx hb d_Md_count_49 hl (k := 3) rfl (nI_1 k) (by decide) rfl (fun ls hl => ?_)
                refine lv_goto (tgt := 34) hx hb d_Md_count_52 (by decide) ?_
                exact ih34  (sN + mn k) (k + 1) (by omega) (by omega) (by rw [sumTo, hc]) _ hS ls (lv_sub hl [2, 3, 1, 0] rfl)
          exact loop34 ((24 - 0) + 1) 0 0 (Nat.lt_succ_self _) (by decide) rfl _ hS ls (lv_sub hl [2, 3, 1, 0] rfl)
      · exact absurd c20 (by decide)
def y_Md_close : MethodName := ⟨"NameMergesModel", "close", "()V"⟩
abbrev w_Md_close : List Cond := Cond.code y_Md_close prog_7_method_24_code 3 (Option.none : Option Jvm.ClassFile.FieldType) :: gw
theorem d_Md_close_0 : decode prog_7_method_24_code 0 = .ok (.iconst 0, 1) := by decide +kernel
theorem d_Md_close_1 : decode prog_7_method_24_code 1 = .ok (.istore_n 1, 1) := by decide +kernel
theorem d_Md_close_2 : decode prog_7_method_24_code 2 = .ok (.iload_n 1, 1) := by decide +kernel
theorem d_Md_close_3 : decode prog_7_method_24_code 3 = .ok (.sipush 576, 3) := by decide +kernel
theorem d_Md_close_6 : decode prog_7_method_24_code 6 = .ok (.if_icmp .ge 21, 3) := by decide +kernel
theorem d_Md_close_9 : decode prog_7_method_24_code 9 = .ok (.aload_n 0, 1) := by decide +kernel
theorem d_Md_close_10 : decode prog_7_method_24_code 10 = .ok (.getfield 44, 3) := by decide +kernel
theorem d_Md_close_13 : decode prog_7_method_24_code 13 = .ok (.iload_n 1, 1) := by decide +kernel
theorem d_Md_close_14 : decode prog_7_method_24_code 14 = .ok (.aload_n 0, 1) := by decide +kernel
theorem d_Md_close_15 : decode prog_7_method_24_code 15 = .ok (.getfield 40, 3) := by decide +kernel
theorem d_Md_close_18 : decode prog_7_method_24_code 18 = .ok (.iload_n 1, 1) := by decide +kernel
theorem d_Md_close_19 : decode prog_7_method_24_code 19 = .ok (.baload, 1) := by decide +kernel
theorem d_Md_close_20 : decode prog_7_method_24_code 20 = .ok (.bastore, 1) := by decide +kernel
theorem d_Md_close_21 : decode prog_7_method_24_code 21 = .ok (.iinc 1 1, 3) := by decide +kernel
theorem d_Md_close_24 : decode prog_7_method_24_code 24 = .ok (.goto (-22), 3) := by decide +kernel
theorem d_Md_close_27 : decode prog_7_method_24_code 27 = .ok (.iconst 0, 1) := by decide +kernel
theorem d_Md_close_28 : decode prog_7_method_24_code 28 = .ok (.istore_n 1, 1) := by decide +kernel
theorem d_Md_close_29 : decode prog_7_method_24_code 29 = .ok (.iload_n 1, 1) := by decide +kernel
theorem d_Md_close_30 : decode prog_7_method_24_code 30 = .ok (.bipush 24, 2) := by decide +kernel
theorem d_Md_close_32 : decode prog_7_method_24_code 32 = .ok (.if_icmp .ge 78, 3) := by decide +kernel
theorem d_Md_close_35 : decode prog_7_method_24_code 35 = .ok (.iconst 0, 1) := by decide +kernel
theorem d_Md_close_36 : decode prog_7_method_24_code 36 = .ok (.istore_n 2, 1) := by decide +kernel
theorem d_Md_close_37 : decode prog_7_method_24_code 37 = .ok (.iload_n 2, 1) := by decide +kernel
theorem d_Md_close_38 : decode prog_7_method_24_code 38 = .ok (.sipush 576, 3) := by decide +kernel
theorem d_Md_close_41 : decode prog_7_method_24_code 41 = .ok (.if_icmp .ge 63, 3) := by decide +kernel
theorem d_Md_close_44 : decode prog_7_method_24_code 44 = .ok (.aload_n 0, 1) := by decide +kernel
theorem d_Md_close_45 : decode prog_7_method_24_code 45 = .ok (.getfield 44, 3) := by decide +kernel
theorem d_Md_close_48 : decode prog_7_method_24_code 48 = .ok (.iload_n 2, 1) := by decide +kernel
theorem d_Md_close_49 : decode prog_7_method_24_code 49 = .ok (.aload_n 0, 1) := by decide +kernel
theorem d_Md_close_50 : decode prog_7_method_24_code 50 = .ok (.getfield 44, 3) := by decide +kernel
theorem d_Md_close_53 : decode prog_7_method_24_code 53 = .ok (.iload_n 2, 1) := by decide +kernel
theorem d_Md_close_54 : decode prog_7_method_24_code 54 = .ok (.baload, 1) := by decide +kernel
theorem d_Md_close_55 : decode prog_7_method_24_code 55 = .ok (.ifCond .ne 37, 3) := by decide +kernel
theorem d_Md_close_58 : decode prog_7_method_24_code 58 = .ok (.aload_n 0, 1) := by decide +kernel
theorem d_Md_close_59 : decode prog_7_method_24_code 59 = .ok (.getfield 44, 3) := by decide +kernel
theorem d_Md_close_62 : decode prog_7_method_24_code 62 = .ok (.bipush 24, 2) := by decide +kernel
theorem d_Md_close_64 : decode prog_7_method_24_code 64 = .ok (.iload_n 2, 1) := by decide +kernel
theorem d_Md_close_65 : decode prog_7_method_24_code 65 = .ok (.bipush 24, 2) := by decide +kernel
theorem d_Md_close_67 : decode prog_7_method_24_code 67 = .ok (.idiv, 1) := by decide +kernel
theorem d_Md_close_68 : decode prog_7_method_24_code 68 = .ok (.imul, 1) := by decide +kernel
theorem d_Md_close_69 : decode prog_7_method_24_code 69 = .ok (.iload_n 1, 1) := by decide +kernel
theorem d_Md_close_70 : decode prog_7_method_24_code 70 = .ok (.iadd, 1) := by decide +kernel
theorem d_Md_close_71 : decode prog_7_method_24_code 71 = .ok (.baload, 1) := by decide +kernel
theorem d_Md_close_72 : decode prog_7_method_24_code 72 = .ok (.ifCond .eq 24, 3) := by decide +kernel
theorem d_Md_close_75 : decode prog_7_method_24_code 75 = .ok (.aload_n 0, 1) := by decide +kernel
theorem d_Md_close_76 : decode prog_7_method_24_code 76 = .ok (.getfield 44, 3) := by decide +kernel
theorem d_Md_close_79 : decode prog_7_method_24_code 79 = .ok (.bipush 24, 2) := by decide +kernel
theorem d_Md_close_81 : decode prog_7_method_24_code 81 = .ok (.iload_n 1, 1) := by decide +kernel
theorem d_Md_close_82 : decode prog_7_method_24_code 82 = .ok (.imul, 1) := by decide +kernel
theorem d_Md_close_83 : decode prog_7_method_24_code 83 = .ok (.iload_n 2, 1) := by decide +kernel
theorem d_Md_close_84 : decode prog_7_method_24_code 84 = .ok (.bipush 24, 2) := by decide +kernel
theorem d_Md_close_86 : decode prog_7_method_24_code 86 = .ok (.irem, 1) := by decide +kernel
theorem d_Md_close_87 : decode prog_7_method_24_code 87 = .ok (.iadd, 1) := by decide +kernel
theorem d_Md_close_88 : decode prog_7_method_24_code 88 = .ok (.baload, 1) := by decide +kernel
theorem d_Md_close_89 : decode prog_7_method_24_code 89 = .ok (.ifCond .eq 7, 3) := by decide +kernel
theorem d_Md_close_92 : decode prog_7_method_24_code 92 = .ok (.iconst 1, 1) := by decide +kernel
theorem d_Md_close_93 : decode prog_7_method_24_code 93 = .ok (.goto 4, 3) := by decide +kernel
theorem d_Md_close_96 : decode prog_7_method_24_code 96 = .ok (.iconst 0, 1) := by decide +kernel
theorem d_Md_close_97 : decode prog_7_method_24_code 97 = .ok (.bastore, 1) := by decide +kernel
theorem d_Md_close_98 : decode prog_7_method_24_code 98 = .ok (.iinc 2 1, 3) := by decide +kernel
theorem d_Md_close_101 : decode prog_7_method_24_code 101 = .ok (.goto (-64), 3) := by decide +kernel
theorem d_Md_close_104 : decode prog_7_method_24_code 104 = .ok (.iinc 1 1, 3) := by decide +kernel
theorem d_Md_close_107 : decode prog_7_method_24_code 107 = .ok (.goto (-78), 3) := by decide +kernel
theorem d_Md_close_110 : decode prog_7_method_24_code 110 = .ok (.return_, 1) := by decide +kernel
set_option maxHeartbeats 4000000 in
set_option maxRecDepth 100000 in
theorem c_Md_close (l : Launch) (D : va_G) (cs : Nat → ClassId) (N0 : Nat) (H : Heap) (x : Nat) (g : Nat → Nat) (i : Nat → Int32) (f : Nat → Nat → Int32) (hsep : md_sep N0 x g) (hI : md_I D cs H x g i f) (br : Nat → Bool) (hbr : ∀ k, k < 576 → f 10 k = bI (br k)) : Met l y_Md_close w_Md_close ({ frames := 0, cells := 0, slots := 0, locals := 0 }) (hPre D cs N0 [.ref x] H) (hQv (fun H' => ∃ R : Nat → Int32, md_I D cs H' x g i (setA f 11 R) ∧ ∀ j, j < 576 → R j = bI (fwT br 24 j)) (md_A x g)) 0 0 (md_A x g) := by
  refine Met.ofW (cc := prog_7_method_24_code) (maxL := 3) (ret := (Option.none : Option Jvm.ClassFile.FieldType)) (by decide) rfl ?_
  intro p e s m args below meth c s₁ B hml hv
  obtain ⟨rfl, rfl, hB⟩ := hv
  have hx := B.exec
  have hb := B.bytes
  have hr := B.returns
  have hts := atoms_spec (ws := w_Md_close) B.pre
  have htg : ∀ w ∈ gw, w.before _ s = true := fun w h => hts w (List.mem_cons_of_mem _ h)
  have hown : s.vm.findClass "NameMergesModel" = some m.cls := findClass_of_methodNamed B.named
  have hlocks := B.notSynchronized
  have hK := hB.1
  have hS : va_S (md_A x g) s.heap s.heap [] := va_S.rf
  obtain ⟨H, hH⟩ : ∃ z : Heap, z = s.heap := ⟨_, rfl⟩
  rw [← hH] at hI
  have hS : va_S (md_A x g) s.heap H [] := by rw [hH]; exact va_S.rf
  have hl := lv_entry ([.ref x]) (n := 3) (Nat.le_of_ble_eq_true rfl)
  rw [lg_entry_eq, ← hH]
  generalize (lg_sl ([.ref x]) ++ List.replicate (3 - (lg_sl ([.ref x])).length) Slot.unset).toArray = ls at hl ⊢
  have hl : lv_has ls 3 [(0, .ref x)] := hl
  refine lv_iconst (v := 0) hx hb d_Md_close_0 (by decide) ?_
  refine lv_istore_n (lv' := [(1, .int 0), (0, .ref x)]) hx hb d_Md_close_1 rfl hl (by decide) rfl (fun ls hl => ?_)
  have loop2 : ∀ (fuel : Nat) (F1 : Nat → Nat → Int32) (k : Nat), 576 - k < fuel → (k ≤ 576) → (∀ a, a ≠ 11 → F1 a = f a) → (∀ j, j < k → F1 11 j = bI (br j)) → ∀ (H : Heap) (locs : List Loc), md_I D cs H x g i F1 → va_S (md_A x g) s.heap H locs → ∀ (ls : Array Slot), lv_has ls 3 [(0, .ref x), (1, .int (nI k))] → W p l e (headSpec w_Md_close ({ frames := 0, cells := 0, slots := 0, locals := 0 })).room s m ([.ref x] : List Value).toArray below meth c H locs 0 0 (MQ below (hQv (fun H' => ∃ R : Nat → Int32, md_I D cs H' x g i (setA f 11 R) ∧ ∀ j, j < 576 → R j = bI (fwT br 24 j)) (md_A x g)) ([.ref x] : List Value).toArray s 0 0 (md_A x g)) (F0 m 2 ls []) := by
    intro fuel2
    induction fuel2 with
    | zero => intro F1 k hn; exact absurd hn (Nat.not_lt_zero _)
    | succ fuel2 ih2 =>
      intro F1 k hn2 hk hF hR H locs hI hS ls hl
      refine lv_iload_n hx hb d_Md_close_2 rfl (lv_at hl 1 rfl) ?_
      refine lv_sipush (v := 576) hx hb d_Md_close_3 (by decide) ?_
      refine lv_icmp_ge (x := (nI k)) (y := 576) (tgt := 27) hx hb d_Md_close_6 (by decide) (fun c6 => ?_) (fun c6 => ?_)
      · skip
        replace c6 : 576 ≤ k := (nI_leI (a := 576) (b := k) (by omega) (by omega)).mp c6
        refine lv_iconst (v := 0) hx hb d_Md_close_27 (by decide) ?_
        refine lv_istore_n (lv' := [(1, .int 0), (0, .ref x)]) hx hb d_Md_close_28 rfl hl (by decide) rfl (fun ls hl => ?_)
        have loop29 : ∀ (fuel : Nat) (F2 : Nat → Nat → Int32) (z : Nat), 24 - z < fuel → (z ≤ 24) → (∀ a, a ≠ 11 → F2 a = f a) → (fwI br z 0 (F2 11)) → ∀ (H : Heap) (locs : List Loc), md_I D cs H x g i F2 → va_S (md_A x g) s.heap H locs → ∀ (ls : Array Slot), lv_has ls 3 [(0, .ref x), (1, .int (nI z))] → W p l e (headSpec w_Md_close ({ frames := 0, cells := 0, slots := 0, locals := 0 })).room s m ([.ref x] : List Value).toArray below meth c H locs 0 0 (MQ below (hQv (fun H' => ∃ R : Nat → Int32, md_I D cs H' x g i (setA f 11 R) ∧ ∀ j, j < 576 → R j = bI (fwT br 24 j)) (md_A x g)) ([.ref x] : List Value).toArray s 0 0 (md_A x g)) (F0 m 29 ls []) := by
          intro fuel29
          induction fuel29 with
          | zero => intro F2 z hn; exact absurd hn (Nat.not_lt_zero _)
          | succ fuel29 ih29 =>
            intro F2 z hn29 hz9 hF2 hR2 H locs hI hS ls hl
            refine lv_iload_n hx hb d_Md_close_29 rfl (lv_at hl 1 rfl) ?_
            refine lv_bipush (v := 24) hx hb d_Md_close_30 (by decide) ?_
            refine lv_icmp_ge (x := (nI z)) (y := 24) (tgt := 110) hx hb d_Md_close_32 (by decide) (fun c32 => ?_) (fun c32 => ?_)
            · skip
              replace c32 : 24 ≤ z := (nI_leI (a := 24) (b := z) (by omega) (by omega)).mp c32
              exact W.vret hx hb hr (fun t ht hW => ⟨⟨H, rfl, ⟨F2 11, setA_of hF2 ▸ hI, fun j hj => by have e9 : z = 24 := (by omega); subst e9; rw [hR2 j hj, if_neg (Nat.not_lt_zero j)]⟩, ht⟩, hS.F ht⟩) hS.2.2 d_Md_close_110
            · skip
              replace c32 : ¬ (24 ≤ z) := fun z9 => c32 ((nI_leI (a := 24) (b := z) (by omega) (by omega)).mpr z9)
              refine lv_iconst (v := 0) hx hb d_Md_close_35 (by decide) ?_
              refine lv_istore_n (lv' := [(2, .int 0), (0, .ref x), (1, .int (nI z))]) hx hb d_Md_close_36 rfl hl (by decide) rfl (fun ls hl => ?_)
              have loop37 : ∀ (fuel : Nat) (F3 : Nat → Nat → Int32) (k : Nat), 576 - k < fuel → (k ≤ 576) → (∀ a, a ≠ 11 → F3 a = f a) → (fwI br z k (F3 11)) → ∀ (H : Heap) (locs : List Loc), md_I D cs H x g i F3 → va_S (md_A x g) s.heap H locs → ∀ (ls : Array Slot), lv_has ls 3 [(0, .ref x), (1, .int (nI z)), (2, .int (nI k))] → W p l e (headSpec w_Md_close ({ frames := 0, cells := 0, slots := 0, locals := 0 })).room s m ([.ref x] : List Value).toArray below meth c H locs 0 0 (MQ below (hQv (fun H' => ∃ R : Nat → Int32, md_I D cs H' x g i (setA f 11 R) ∧ ∀ j, j < 576 → R j = bI (fwT br 24 j)) (md_A x g)) ([.ref x] : List Value).toArray s 0 0 (md_A x g)) (F0 m 37 ls []) := by
                intro fuel37
                induction fuel37 with
                | zero => intro F3 k hn; exact absurd hn (Nat.not_lt_zero _)
                | succ fuel37 ih37 =>
                  intro F3 k hn37 hk hF3 hR3 H locs hI hS ls hl
                  refine lv_iload_n hx hb d_Md_close_37 rfl (lv_at hl 2 rfl) ?_
                  refine lv_sipush (v := 576) hx hb d_Md_close_38 (by decide) ?_
                  refine lv_icmp_ge (x := (nI k)) (y := 576) (tgt := 104) hx hb d_Md_close_41 (by decide) (fun c41 => ?_) (fun c41 => ?_)
                  · skip
                    replace c41 : 576 ≤ k := (nI_leI (a := 576) (b := k) (by omega) (by omega)).mp c41
                    refine lv_iinc (v := (nI (z + 1))) (lv' := [(1, .int (nI (z + 1))), (0, .ref x), (2, .int (nI k))]) hx hb d_Md_close_104 hl (k := 1) rfl (nI_1 z) (by decide) rfl (fun ls hl => ?_)
                    refine lv_goto (tgt := 29) hx hb d_Md_close_107 (by decide) ?_
                    exact ih29  _ (z + 1) (by omega) (by omega) hF3 (by have e9 : k = 576 := (by omega); subst e9; exact hR3.next) _ _ hI hS ls (lv_sub hl [1, 0] rfl)
                  · skip
                    replace c41 : ¬ (576 ≤ k) := fun z9 => c41 ((nI_leI (a := 576) (b := k) (by omega) (by omega)).mpr z9)
                    refine lv_aload_n hx hb d_Md_close_44 rfl (lv_at hl 0 rfl) ?_
                    refine hx_get (v := .ref (g 11)) hx hb htg iMd hown hK hI.1 rfl 14 (by decide) (htg _ (gw_mem (i := 1012) (by decide +kernel) rfl)) (fun _ h9 => h9) rfl d_Md_close_45 ?_
                    refine lv_iload_n hx hb d_Md_close_48 rfl (lv_at hl 2 rfl) ?_
                    refine lv_aload_n hx hb d_Md_close_49 rfl (lv_at hl 0 rfl) ?_
                    refine hx_get (v := .ref (g 11)) hx hb htg iMd hown hK hI.1 rfl 14 (by decide) (htg _ (gw_mem (i := 1012) (by decide +kernel) rfl)) (fun _ h9 => h9) rfl d_Md_close_50 ?_
                    refine lv_iload_n hx hb d_Md_close_53 rfl (lv_at hl 2 rfl) ?_
                    refine hx_zald hx hb hK 1 (hI.2 11 (by decide)) rfl (show vp_in (nI k) 576 from vp_in_nI (n := k) (by omega) (by decide)) d_Md_close_54 ?_
                    refine lv_eqi (y := (F3 11 k)) (show F3 11 (nI k).toNatClampNeg = _ by rw [nI_clamp (by omega)]) ?_
                    refine lv_eqi (y := (bI (fwT br z k))) (hR3.at0 (by omega)) ?_
                    refine lv_if_ne (x := (bI (fwT br z k))) (tgt := 92) hx hb d_Md_close_55 (by decide) (fun c55 => ?_) (fun c55 => ?_)
                    · skip
                      replace c55 : (fwT br z k) = true := bI_1 c55
                      refine lv_iconst (v := 1) hx hb d_Md_close_92 (by decide) ?_
                      refine lv_goto (tgt := 97) hx hb d_Md_close_93 (by decide) ?_
                      refine hx_zast hx hb hK hS (Or.inr ⟨11, by decide, rfl⟩) 1 (hI.2 11 (by decide)) rfl (show vp_in (nI k) 576 from vp_in_nI (n := k) (by omega) (by decide)) d_Md_close_97 (fun H locs hat hz ho hS => ?_)
                      replace hI : md_I D cs H x g i (updA F3 11 k (bI (fwT br (z + 1) k))) := md_I.puta hI hsep (by decide) (by rw [show ((nI k) : Int32).toNatClampNeg = k from nI_clamp (n := k) (by omega), show vp_nar .boolean 1 = bI (fwT br (z + 1) k) by rw [show fwT br (z + 1) k = true by simp [fwT, c55]]; rfl] at hat; exact hat) ho
                      refine lv_iinc (v := (nI (k + 1))) (lv' := [(2, .int (nI (k + 1))), (0, .ref x), (1, .int (nI z))]) hx hb d_Md_close_98 hl (k := 2) rfl (nI_1 k) (by decide) rfl (fun ls hl => ?_)
                      refine lv_goto (tgt := 37) hx hb d_Md_close_101 (by decide) ?_
                      exact ih37  _ (k + 1) (by omega) (by omega) (fun a ha => (updA_ne ha).trans (hF3 a ha)) (by rw [updA_self]; exact hR3.step) _ _ hI hS ls (lv_sub hl [1, 2, 0] rfl)
                    · skip
                      replace c55 : (fwT br z k) = false := bI_0 c55
                      refine lv_aload_n hx hb d_Md_close_58 rfl (lv_at hl 0 rfl) ?_
                      refine hx_get (v := .ref (g 11)) hx hb htg iMd hown hK hI.1 rfl 14 (by decide) (htg _ (gw_mem (i := 1012) (by decide +kernel) rfl)) (fun _ h9 => h9) rfl d_Md_close_59 ?_
                      refine lv_bipush (v := 24) hx hb d_Md_close_62 (by decide) ?_
                      refine lv_iload_n hx hb d_Md_close_64 rfl (lv_at hl 2 rfl) ?_
                      refine lv_bipush (v := 24) hx hb d_Md_close_65 (by decide) ?_
                      refine lv_idiv (x := (nI k)) (y := 24) hx hb d_Md_close_67 (by decide) ?_
                      refine lv_eqi (y := (nI (k / 24))) (pk_div (a := k) (d := 24) (by omega) (by omega) (by omega)) ?_
                      refine lv_imul (x := 24) (y := (nI (k / 24))) hx hb d_Md_close_68 ?_
                      refine lv_eqi (y := (nI (24 * (k / 24)))) (pk_mul 24 (k / 24)) ?_
                      refine lv_iload_n hx hb d_Md_close_69 rfl (lv_at hl 1 rfl) ?_
                      refine lv_iadd (x := (nI (24 * (k / 24)))) (y := (nI z)) hx hb d_Md_close_70 ?_
                      refine lv_eqi (y := (nI (24 * (k / 24) + z))) (nI_add (24 * (k / 24)) z) ?_
                      refine hx_zald hx hb hK 1 (hI.2 11 (by decide)) rfl (show vp_in (nI (24 * (k / 24) + z)) 576 from vp_in_nI (n := 24 * (k / 24) + z) (by omega) (by decide)) d_Md_close_71 ?_
                      refine lv_eqi (y := (F3 11 (24 * (k / 24) + z))) (show F3 11 (nI (24 * (k / 24) + z)).toNatClampNeg = _ by rw [nI_clamp (by omega)]) ?_
                      refine lv_eqi (y := (bI (fwT br z (24 * (k / 24) + z)))) (hR3.atc (by omega) (by omega)) ?_
                      refine lv_if_eq (x := (bI (fwT br z (24 * (k / 24) + z)))) (tgt := 96) hx hb d_Md_close_72 (by decide) (fun c72 => ?_) (fun c72 => ?_)
                      · skip
                        replace c72 : (fwT br z (24 * (k / 24) + z)) = false := bI_0 c72
                        refine lv_iconst (v := 0) hx hb d_Md_close_96 (by decide) ?_
                        refine hx_zast hx hb hK hS (Or.inr ⟨11, by decide, rfl⟩) 1 (hI.2 11 (by decide)) rfl (show vp_in (nI k) 576 from vp_in_nI (n := k) (by omega) (by decide)) d_Md_close_97 (fun H locs hat hz ho hS => ?_)
                        replace hI : md_I D cs H x g i (updA F3 11 k (bI (fwT br (z + 1) k))) := md_I.puta hI hsep (by decide) (by rw [show ((nI k) : Int32).toNatClampNeg = k from nI_clamp (n := k) (by omega), show vp_nar .boolean 0 = bI (fwT br (z + 1) k) by rw [show fwT br (z + 1) k = false by simp [fwT, c55, c72]]; rfl] at hat; exact hat) ho
                        refine lv_iinc (v := (nI (k + 1))) (lv' := [(2, .int (nI (k + 1))), (0, .ref x), (1, .int (nI z))]) hx hb d_Md_close_98 hl (k := 2) rfl (nI_1 k) (by decide) rfl (fun ls hl => ?_)
                        refine lv_goto (tgt := 37) hx hb d_Md_close_101 (by decide) ?_
                        exact ih37  _ (k + 1) (by omega) (by omega) (fun a ha => (updA_ne ha).trans (hF3 a ha)) (by rw [updA_self]; exact hR3.step) _ _ hI hS ls (lv_sub hl [1, 2, 0] rfl)
                      · skip
                        replace c72 : (fwT br z (24 * (k / 24) + z)) = true := bI_1 c72
                        refine lv_aload_n hx hb d_Md_close_75 rfl (lv_at hl 0 rfl) ?_
                        refine hx_get (v := .ref (g 11)) hx hb htg iMd hown hK hI.1 rfl 14 (by decide) (htg _ (gw_mem (i := 1012) (by decide +kernel) rfl)) (fun _ h9 => h9) rfl d_Md_close_76 ?_
                        refine lv_bipush (v := 24) hx hb d_Md_close_79 (by decide) ?_
                        refine lv_iload_n hx hb d_Md_close_81 rfl (lv_at hl 1 rfl) ?_
                        refine lv_imul (x := 24) (y := (nI z)) hx hb d_Md_close_82 ?_
                        refine lv_eqi (y := (nI (24 * z))) (pk_mul 24 z) ?_
                        refine lv_iload_n hx hb d_Md_close_83 rfl (lv_at hl 2 rfl) ?_
                        refine lv_bipush (v := 24) hx hb d_Md_close_84 (by decide) ?_
                        refine lv_irem (x := (nI k)) (y := 24) hx hb d_Md_close_86 (by decide) ?_
                        refine lv_eqi (y := (nI (k % 24))) (pk_rem (a := k) (d := 24) (by omega) (by omega) (by omega)) ?_
                        refine lv_iadd (x := (nI (24 * z))) (y := (nI (k % 24))) hx hb d_Md_close_87 ?_
                        refine lv_eqi (y := (nI (24 * z + k % 24))) (nI_add (24 * z) (k % 24)) ?_
                        refine hx_zald hx hb hK 1 (hI.2 11 (by decide)) rfl (show vp_in (nI (24 * z + k % 24)) 576 from vp_in_nI (n := 24 * z + k % 24) (by omega) (by decide)) d_Md_close_88 ?_
                        refine lv_eqi (y := (F3 11 (24 * z + k % 24))) (show F3 11 (nI (24 * z + k % 24)).toNatClampNeg = _ by rw [nI_clamp (by omega)]) ?_
                        refine lv_eqi (y := (bI (fwT br z (24 * z + k % 24)))) (hR3.atr (by omega) (by omega)) ?_
                        refine lv_if_eq (x := (bI (fwT br z (24 * z + k % 24)))) (tgt := 96) hx hb d_Md_close_89 (by decide) (fun c89 => ?_) (fun c89 => ?_)
                        · skip
                          replace c89 : (fwT br z (24 * z + k % 24)) = false := bI_0 c89
                          refine lv_iconst (v := 0) hx hb d_Md_close_96 (by decide) ?_
                          refine hx_zast hx hb hK hS (Or.inr ⟨11, by decide, rfl⟩) 1 (hI.2 11 (by decide)) rfl (show vp_in (nI k) 576 from vp_in_nI (n := k) (by omega) (by decide)) d_Md_close_97 (fun H locs hat hz ho hS => ?_)
                          replace hI : md_I D cs H x g i (updA F3 11 k (bI (fwT br (z + 1) k))) := md_I.puta hI hsep (by decide) (by rw [show ((nI k) : Int32).toNatClampNeg = k from nI_clamp (n := k) (by omega), show vp_nar .boolean 0 = bI (fwT br (z + 1) k) by rw [show fwT br (z + 1) k = false by simp [fwT, c55, c72, c89]]; rfl] at hat; exact hat) ho
                          refine lv_iinc (v := (nI (k + 1))) (lv' := [(2, .int (nI (k + 1))), (0, .ref x), (1, .int (nI z))]) hx hb d_Md_close_98 hl (k := 2) rfl (nI_1 k) (by decide) rfl (fun ls hl => ?_)
                          refine lv_goto (tgt := 37) hx hb d_Md_close_101 (by decide) ?_
                          exact ih37  _ (k + 1) (by omega) (by omega) (fun a ha => (updA_ne ha).trans (hF3 a ha)) (by rw [updA_self]; exact hR3.step) _ _ hI hS ls (lv_sub hl [1, 2, 0] rfl)
                        · skip
                          replace c89 : (fwT br z (24 * z + k % 24)) = true := bI_1 c89
                          refine lv_iconst (v := 1) hx hb d_Md_close_92 (by decide) ?_
                          refine lv_goto (tgt := 97) hx hb d_Md_close_93 (by decide) ?_
                          refine hx_zast hx hb hK hS (Or.inr ⟨11, by decide, rfl⟩) 1 (hI.2 11 (by decide)) rfl (show vp_in (nI k) 576 from vp_in_nI (n := k) (by omega) (by decide)) d_Md_close_97 (fun H locs hat hz ho hS => ?_)
                          replace hI : md_I D cs H x g i (updA F3 11 k (bI (fwT br (z + 1) k))) := md_I.puta hI hsep (by decide) (by rw [show ((nI k) : Int32).toNatClampNeg = k from nI_clamp (n := k) (by omega), show vp_nar .boolean 1 = bI (fwT br (z + 1) k) by rw [show fwT br (z + 1) k = true by simp [fwT, c55, c72, c89]]; rfl] at hat; exact hat) ho
                          refine lv_iinc (v := (nI (k + 1))) (lv' := [(2, .int (nI (k + 1))), (0, .ref x), (1, .int (nI z))]) hx hb d_Md_close_98 hl (k := 2) rfl (nI_1 k) (by decide) rfl (fun ls hl => ?_)
                          refine lv_goto (tgt := 37) hx hb d_Md_close_101 (by decide) ?_
                          exact ih37  _ (k + 1) (by omega) (by omega) (fun a ha => (updA_ne ha).trans (hF3 a ha)) (by rw [updA_self]; exact hR3.step) _ _ hI hS ls (lv_sub hl [1, 2, 0] rfl)
              exact loop37 ((576 - 0) + 1) _ 0 (Nat.lt_succ_self _) (by decide) hF2 hR2 _ _ hI hS ls (lv_sub hl [1, 2, 0] rfl)
        exact loop29 ((24 - 0) + 1) _ 0 (Nat.lt_succ_self _) (by decide) hF (fun j hj => (hR j (by omega)).trans (by rw [if_neg (Nat.not_lt_zero j)]; rfl)) _ _ hI hS ls (lv_sub hl [1, 0] rfl)
      · skip
        replace c6 : ¬ (576 ≤ k) := fun z9 => c6 ((nI_leI (a := 576) (b := k) (by omega) (by omega)).mpr z9)
        refine lv_aload_n hx hb d_Md_close_9 rfl (lv_at hl 0 rfl) ?_
        refine hx_get (v := .ref (g 11)) hx hb htg iMd hown hK hI.1 rfl 14 (by decide) (htg _ (gw_mem (i := 1012) (by decide +kernel) rfl)) (fun _ h9 => h9) rfl d_Md_close_10 ?_
        refine lv_iload_n hx hb d_Md_close_13 rfl (lv_at hl 1 rfl) ?_
        refine lv_aload_n hx hb d_Md_close_14 rfl (lv_at hl 0 rfl) ?_
        refine hx_get (v := .ref (g 10)) hx hb htg iMd hown hK hI.1 rfl 13 (by decide) (htg _ (gw_mem (i := 1011) (by decide +kernel) rfl)) (fun _ h9 => h9) rfl d_Md_close_15 ?_
        refine lv_iload_n hx hb d_Md_close_18 rfl (lv_at hl 1 rfl) ?_
        refine hx_zald hx hb hK 1 (hI.2 10 (by decide)) rfl (show vp_in (nI k) 576 from vp_in_nI (n := k) (by omega) (by decide)) d_Md_close_19 ?_
        refine lv_eqi (y := (F1 10 k)) (show F1 10 (nI k).toNatClampNeg = _ by rw [nI_clamp (by omega)]) ?_
        refine lv_eqi (y := (bI (br k))) (by rw [hF 10 (by decide)]; exact hbr k (by omega)) ?_
        refine hx_zast hx hb hK hS (Or.inr ⟨11, by decide, rfl⟩) 1 (hI.2 11 (by decide)) rfl (show vp_in (nI k) 576 from vp_in_nI (n := k) (by omega) (by decide)) d_Md_close_20 (fun H locs hat hz ho hS => ?_)
        replace hI : md_I D cs H x g i (updA F1 11 k (bI (br k))) := md_I.puta hI hsep (by decide) (by rw [show ((nI k) : Int32).toNatClampNeg = k from nI_clamp (n := k) (by omega), vp_z] at hat; exact hat) ho
        refine lv_iinc (v := (nI (k + 1))) (lv' := [(1, .int (nI (k + 1))), (0, .ref x)]) hx hb d_Md_close_21 hl (k := 1) rfl (nI_1 k) (by decide) rfl (fun ls hl => ?_)
        refine lv_goto (tgt := 2) hx hb d_Md_close_24 (by decide) ?_
        exact ih2  _ (k + 1) (by omega) (by omega) (fun a ha => (updA_ne ha).trans (hF a ha)) (by rw [updA_self]; exact upd_lt (G := fun j => bI (br j)) hR rfl) _ _ hI hS ls (lv_sub hl [1, 0] rfl)
  exact loop2 ((576 - 0) + 1) f 0 (Nat.lt_succ_self _) (by decide) (fun _ _ => rfl) (fun j hj => absurd hj (Nat.not_lt_zero j)) _ _ hI hS ls (lv_sub hl [1, 0] rfl)
def y_Md_covers : MethodName := ⟨"NameMergesModel", "covers", "(II)Z"⟩
abbrev w_Md_covers : List Cond := Cond.code y_Md_covers prog_7_method_26_code 3 (Option.some Jvm.ClassFile.FieldType.boolean) :: gw
theorem d_Md_covers_0 : decode prog_7_method_26_code 0 = .ok (.aload_n 0, 1) := by decide +kernel
theorem d_Md_covers_1 : decode prog_7_method_26_code 1 = .ok (.aload_n 0, 1) := by decide +kernel
theorem d_Md_covers_2 : decode prog_7_method_26_code 2 = .ok (.iload_n 1, 1) := by decide +kernel
theorem d_Md_covers_3 : decode prog_7_method_26_code 3 = .ok (.invokevirtual 92, 3) := by decide +kernel
theorem d_Md_covers_6 : decode prog_7_method_26_code 6 = .ok (.ifCond .eq 15, 3) := by decide +kernel
theorem d_Md_covers_9 : decode prog_7_method_26_code 9 = .ok (.aload_n 0, 1) := by decide +kernel
theorem d_Md_covers_10 : decode prog_7_method_26_code 10 = .ok (.iload_n 2, 1) := by decide +kernel
theorem d_Md_covers_11 : decode prog_7_method_26_code 11 = .ok (.invokevirtual 92, 3) := by decide +kernel
theorem d_Md_covers_14 : decode prog_7_method_26_code 14 = .ok (.ifCond .eq 7, 3) := by decide +kernel
theorem d_Md_covers_17 : decode prog_7_method_26_code 17 = .ok (.iconst 1, 1) := by decide +kernel
theorem d_Md_covers_18 : decode prog_7_method_26_code 18 = .ok (.goto 4, 3) := by decide +kernel
theorem d_Md_covers_21 : decode prog_7_method_26_code 21 = .ok (.iconst 0, 1) := by decide +kernel
theorem d_Md_covers_22 : decode prog_7_method_26_code 22 = .ok (.iconst 1, 1) := by decide +kernel
theorem d_Md_covers_23 : decode prog_7_method_26_code 23 = .ok (.iconst 1, 1) := by decide +kernel
theorem d_Md_covers_24 : decode prog_7_method_26_code 24 = .ok (.invokevirtual 88, 3) := by decide +kernel
theorem d_Md_covers_27 : decode prog_7_method_26_code 27 = .ok (.ifCond .ne 5, 3) := by decide +kernel
theorem d_Md_covers_30 : decode prog_7_method_26_code 30 = .ok (.iconst 0, 1) := by decide +kernel
theorem d_Md_covers_31 : decode prog_7_method_26_code 31 = .ok (.ireturn, 1) := by decide +kernel
theorem d_Md_covers_32 : decode prog_7_method_26_code 32 = .ok (.aload_n 0, 1) := by decide +kernel
theorem d_Md_covers_33 : decode prog_7_method_26_code 33 = .ok (.invokevirtual 124, 3) := by decide +kernel
theorem d_Md_covers_36 : decode prog_7_method_26_code 36 = .ok (.aload_n 0, 1) := by decide +kernel
theorem d_Md_covers_37 : decode prog_7_method_26_code 37 = .ok (.getfield 44, 3) := by decide +kernel
theorem d_Md_covers_40 : decode prog_7_method_26_code 40 = .ok (.bipush 24, 2) := by decide +kernel
theorem d_Md_covers_42 : decode prog_7_method_26_code 42 = .ok (.iload_n 1, 1) := by decide +kernel
theorem d_Md_covers_43 : decode prog_7_method_26_code 43 = .ok (.imul, 1) := by decide +kernel
theorem d_Md_covers_44 : decode prog_7_method_26_code 44 = .ok (.iload_n 2, 1) := by decide +kernel
theorem d_Md_covers_45 : decode prog_7_method_26_code 45 = .ok (.iadd, 1) := by decide +kernel
theorem d_Md_covers_46 : decode prog_7_method_26_code 46 = .ok (.baload, 1) := by decide +kernel
theorem d_Md_covers_47 : decode prog_7_method_26_code 47 = .ok (.ireturn, 1) := by decide +kernel
set_option maxHeartbeats 4000000 in
set_option maxRecDepth 100000 in
theorem c_Md_covers (l : Launch) (D : va_G) (cs : Nat → ClassId) (N0 : Nat) (H : Heap) (x : Nat) (g : Nat → Nat) (i : Nat → Int32) (f : Nat → Nat → Int32) (qa qb : Int32) (hsep : md_sep N0 x g) (hI : md_I D cs H x g i f) (n : Nat) (hn : i 2 = nI n) (hn24 : n ≤ 24) (br : Nat → Bool) (hbr : ∀ k, k < 576 → f 10 k = bI (br k)) : Met l y_Md_covers w_Md_covers ({ frames := 1, cells := 0, slots := 0, locals := 23 }) (hPre D cs N0 [.ref x, .int qa, .int qb] H) (hQi (fun r H' => if goB (isN n qa && isN n qb) true true = true then (∃ R : Nat → Int32, md_I D cs H' x g (upd i 0 (goV (isN n qa && isN n qb) true true)) (setA f 11 R) ∧ r = bI (fwT br 24 (24 * tn qa + tn qb))) else (md_I D cs H' x g (upd i 0 (goV (isN n qa && isN n qb) true true)) f ∧ r = 0)) (md_A x g)) 0 0 (md_A x g) := by
  refine Met.ofW (cc := prog_7_method_26_code) (maxL := 3) (ret := (Option.some Jvm.ClassFile.FieldType.boolean)) (by decide) rfl ?_
  intro p e s m args below meth c s₁ B hml hv
  obtain ⟨rfl, rfl, hB⟩ := hv
  have hx := B.exec
  have hb := B.bytes
  have hr := B.returns
  have hts := atoms_spec (ws := w_Md_covers) B.pre
  have htg : ∀ w ∈ gw, w.before _ s = true := fun w h => hts w (List.mem_cons_of_mem _ h)
  have hown : s.vm.findClass "NameMergesModel" = some m.cls := findClass_of_methodNamed B.named
  have hlocks := B.notSynchronized
  have hK := hB.1
  have hS : va_S (md_A x g) s.heap s.heap [] := va_S.rf
  obtain ⟨H, hH⟩ : ∃ z : Heap, z = s.heap := ⟨_, rfl⟩
  rw [← hH] at hI
  have hS : va_S (md_A x g) s.heap H [] := by rw [hH]; exact va_S.rf
  have hl := lv_entry ([.ref x, .int qa, .int qb]) (n := 3) (Nat.le_of_ble_eq_true rfl)
  rw [lg_entry_eq, ← hH]
  generalize (lg_sl ([.ref x, .int qa, .int qb]) ++ List.replicate (3 - (lg_sl ([.ref x, .int qa, .int qb])).length) Slot.unset).toArray = ls at hl ⊢
  have hl : lv_has ls 3 [(0, .ref x), (1, .int qa), (2, .int qb)] := hl
  refine lv_aload_n hx hb d_Md_covers_0 rfl (lv_at hl 0 rfl) ?_
  refine lv_aload_n hx hb d_Md_covers_1 rfl (lv_at hl 0 rfl) ?_
  refine lv_iload_n hx hb d_Md_covers_2 rfl (lv_at hl 1 rfl) ?_
  refine h_calli (va_runV (As := [.int qa]) (rest := [.ref x]) ⟨hx, hb, hml, hown, htg⟩ (c_Md_isName l D cs N0 H x g i f qa hsep hI n hn) (cwV 1 htg (gw_V (gw_mem (i := 1108) (by decide +kernel) rfl) (gw_mem (i := 1110) (by decide +kernel) rfl) (gw_mem (i := 19) (by decide +kernel) rfl) (gw_mem (i := 38) (by decide +kernel) rfl) (gw_mem (i := 1111) (by decide +kernel) rfl)) rfl rfl rfl (by decide +kernel) ⟨Nat.le_of_ble_eq_true rfl, Nat.le_of_ble_eq_true rfl⟩) ⟨hPre.blind, hx_recv hK (ci := 0) rfl hI.1, hPre.at hB hS hsep.A⟩ rfl rfl hl.1 rfl (lv_room (Nat.le_of_ble_eq_true rfl)) d_Md_covers_3 ⟨Nat.zero_le _, Nat.zero_le _⟩) hS (fun _ h => h) (fun r3 H locs hp hz hk hS => ?_)
  obtain ⟨hI, er3⟩ := hp
  refine lv_eqi (y := (bI (isN n qa))) er3 ?_
  refine lv_if_eq (x := (bI (isN n qa))) (tgt := 21) hx hb d_Md_covers_6 (by decide) (fun c6 => ?_) (fun c6 => ?_)
  · skip
    replace c6 : (isN n qa) = false := bI_0 c6
    refine lv_iconst (v := 0) hx hb d_Md_covers_21 (by decide) ?_
    refine lv_iconst (v := 1) hx hb d_Md_covers_22 (by decide) ?_
    refine lv_iconst (v := 1) hx hb d_Md_covers_23 (by decide) ?_
    refine h_calli (va_runV (As := [.int 0, .int 1, .int 1]) (rest := []) ⟨hx, hb, hml, hown, htg⟩ (c_Md_goes l D cs N0 H x g i f false true true hsep hI) (cwV 3 htg (gw_V (gw_mem (i := 1092) (by decide +kernel) rfl) (gw_mem (i := 1094) (by decide +kernel) rfl) (gw_mem (i := 18) (by decide +kernel) rfl) (gw_mem (i := 38) (by decide +kernel) rfl) (gw_mem (i := 1095) (by decide +kernel) rfl)) rfl rfl rfl (by decide +kernel) ⟨Nat.le_of_ble_eq_true rfl, Nat.le_of_ble_eq_true rfl⟩) ⟨hPre.blind, hx_recv hK (ci := 0) rfl hI.1, hPre.at hB hS hsep.A⟩ rfl rfl hl.1 rfl (lv_room (Nat.le_of_ble_eq_true rfl)) d_Md_covers_24 ⟨Nat.zero_le _, Nat.zero_le _⟩) hS (fun _ h => h) (fun r24 H locs hp hz hk hS => ?_)
    obtain ⟨hI, er24⟩ := hp
    replace hI : md_I D cs H x g (upd i 0 1) f := hI
    refine lv_eqi (y := 0) er24 ?_
    refine lv_if_ne (x := 0) (tgt := 32) hx hb d_Md_covers_27 (by decide) (fun c27 => ?_) (fun c27 => ?_)
    · exact absurd c27 (by decide)
    · skip
      refine lv_iconst (v := 0) hx hb d_Md_covers_30 (by decide) ?_
      exact W.zret (v := 0) hx hb hr (by decide) (fun t ht hW => ⟨⟨0, H, rfl, by dsimp only; have e0 : (isN n qa && isN n qb) = false := (by first | (simp [c6]; done) | (simp [c6]; omega) | omega | simp_all); rw [e0]; rw [if_neg (show ¬ goB false true true = true by simp [goB])]; exact ⟨hI, rfl⟩, ht⟩, hS.F ht⟩) hS.2.2 d_Md_covers_31
  · skip
    replace c6 : (isN n qa) = true := bI_1 c6
    refine lv_aload_n hx hb d_Md_covers_9 rfl (lv_at hl 0 rfl) ?_
    refine lv_iload_n hx hb d_Md_covers_10 rfl (lv_at hl 2 rfl) ?_
    refine h_calli (va_runV (As := [.int qb]) (rest := [.ref x]) ⟨hx, hb, hml, hown, htg⟩ (c_Md_isName l D cs N0 H x g i f qb hsep hI n hn) (cwV 1 htg (gw_V (gw_mem (i := 1108) (by decide +kernel) rfl) (gw_mem (i := 1110) (by decide +kernel) rfl) (gw_mem (i := 19) (by decide +kernel) rfl) (gw_mem (i := 38) (by decide +kernel) rfl) (gw_mem (i := 1111) (by decide +kernel) rfl)) rfl rfl rfl (by decide +kernel) ⟨Nat.le_of_ble_eq_true rfl, Nat.le_of_ble_eq_true rfl⟩) ⟨hPre.blind, hx_recv hK (ci := 0) rfl hI.1, hPre.at hB hS hsep.A⟩ rfl rfl hl.1 rfl (lv_room (Nat.le_of_ble_eq_true rfl)) d_Md_covers_11 ⟨Nat.zero_le _, Nat.zero_le _⟩) hS (fun _ h => h) (fun r11 H locs hp hz hk hS => ?_)
    obtain ⟨hI, er11⟩ := hp
    refine lv_eqi (y := (bI (isN n qb))) er11 ?_
    refine lv_if_eq (x := (bI (isN n qb))) (tgt := 21) hx hb d_Md_covers_14 (by decide) (fun c14 => ?_) (fun c14 => ?_)
    · skip
      replace c14 : (isN n qb) = false := bI_0 c14
      refine lv_iconst (v := 0) hx hb d_Md_covers_21 (by decide) ?_
      refine lv_iconst (v := 1) hx hb d_Md_covers_22 (by decide) ?_
      refine lv_iconst (v := 1) hx hb d_Md_covers_23 (by decide) ?_
      refine h_calli (va_runV (As := [.int 0, .int 1, .int 1]) (rest := []) ⟨hx, hb, hml, hown, htg⟩ (c_Md_goes l D cs N0 H x g i f false true true hsep hI) (cwV 3 htg (gw_V (gw_mem (i := 1092) (by decide +kernel) rfl) (gw_mem (i := 1094) (by decide +kernel) rfl) (gw_mem (i := 18) (by decide +kernel) rfl) (gw_mem (i := 38) (by decide +kernel) rfl) (gw_mem (i := 1095) (by decide +kernel) rfl)) rfl rfl rfl (by decide +kernel) ⟨Nat.le_of_ble_eq_true rfl, Nat.le_of_ble_eq_true rfl⟩) ⟨hPre.blind, hx_recv hK (ci := 0) rfl hI.1, hPre.at hB hS hsep.A⟩ rfl rfl hl.1 rfl (lv_room (Nat.le_of_ble_eq_true rfl)) d_Md_covers_24 ⟨Nat.zero_le _, Nat.zero_le _⟩) hS (fun _ h => h) (fun r24 H locs hp hz hk hS => ?_)
      obtain ⟨hI, er24⟩ := hp
      replace hI : md_I D cs H x g (upd i 0 1) f := hI
      refine lv_eqi (y := 0) er24 ?_
      refine lv_if_ne (x := 0) (tgt := 32) hx hb d_Md_covers_27 (by decide) (fun c27 => ?_) (fun c27 => ?_)
      · exact absurd c27 (by decide)
      · skip
        refine lv_iconst (v := 0) hx hb d_Md_covers_30 (by decide) ?_
        exact W.zret (v := 0) hx hb hr (by decide) (fun t ht hW => ⟨⟨0, H, rfl, by dsimp only; have e0 : (isN n qa && isN n qb) = false := (by first | (simp [c6, c14]; done) | (simp [c6, c14]; omega) | omega | simp_all); rw [e0]; rw [if_neg (show ¬ goB false true true = true by simp [goB])]; exact ⟨hI, rfl⟩, ht⟩, hS.F ht⟩) hS.2.2 d_Md_covers_31
    · skip
      replace c14 : (isN n qb) = true := bI_1 c14
      refine lv_iconst (v := 1) hx hb d_Md_covers_17 (by decide) ?_
      refine lv_goto (tgt := 22) hx hb d_Md_covers_18 (by decide) ?_
      refine lv_iconst (v := 1) hx hb d_Md_covers_22 (by decide) ?_
      refine lv_iconst (v := 1) hx hb d_Md_covers_23 (by decide) ?_
      refine h_calli (va_runV (As := [.int 1, .int 1, .int 1]) (rest := []) ⟨hx, hb, hml, hown, htg⟩ (c_Md_goes l D cs N0 H x g i f true true true hsep hI) (cwV 3 htg (gw_V (gw_mem (i := 1092) (by decide +kernel) rfl) (gw_mem (i := 1094) (by decide +kernel) rfl) (gw_mem (i := 18) (by decide +kernel) rfl) (gw_mem (i := 38) (by decide +kernel) rfl) (gw_mem (i := 1095) (by decide +kernel) rfl)) rfl rfl rfl (by decide +kernel) ⟨Nat.le_of_ble_eq_true rfl, Nat.le_of_ble_eq_true rfl⟩) ⟨hPre.blind, hx_recv hK (ci := 0) rfl hI.1, hPre.at hB hS hsep.A⟩ rfl rfl hl.1 rfl (lv_room (Nat.le_of_ble_eq_true rfl)) d_Md_covers_24 ⟨Nat.zero_le _, Nat.zero_le _⟩) hS (fun _ h => h) (fun r24 H locs hp hz hk hS => ?_)
      obtain ⟨hI, er24⟩ := hp
      replace hI : md_I D cs H x g (upd i 0 0) f := hI
      refine lv_eqi (y := 1) er24 ?_
      refine lv_if_ne (x := 1) (tgt := 32) hx hb d_Md_covers_27 (by decide) (fun c27 => ?_) (fun c27 => ?_)
      · skip
        obtain ⟨ha, ea⟩ := isN_n c6 (by omega)
        obtain ⟨hb1, eb⟩ := isN_n c14 (by omega)
        refine lv_aload_n hx hb d_Md_covers_32 rfl (lv_at hl 0 rfl) ?_
        refine h_callv (va_runV (As := []) (rest := []) ⟨hx, hb, hml, hown, htg⟩ (c_Md_close l D cs N0 H x g ((upd i 0 0)) f hsep hI br hbr) (cwV 0 htg (gw_V (gw_mem (i := 1176) (by decide +kernel) rfl) (gw_mem (i := 1178) (by decide +kernel) rfl) (gw_mem (i := 25) (by decide +kernel) rfl) (gw_mem (i := 38) (by decide +kernel) rfl) (gw_mem (i := 1179) (by decide +kernel) rfl)) rfl rfl rfl (by decide +kernel) ⟨Nat.le_of_ble_eq_true rfl, Nat.le_of_ble_eq_true rfl⟩) ⟨hPre.blind, hx_recv hK (ci := 0) rfl hI.1, hPre.at hB hS hsep.A⟩ rfl rfl hl.1 rfl (lv_room (Nat.le_of_ble_eq_true rfl)) d_Md_covers_33 ⟨Nat.zero_le _, Nat.zero_le _⟩) hS (fun _ h => h) (fun  H locs hp hz hk hS => ?_)
        obtain ⟨R, hI, hR⟩ := hp
        refine lv_aload_n hx hb d_Md_covers_36 rfl (lv_at hl 0 rfl) ?_
        refine hx_get (v := .ref (g 11)) hx hb htg iMd hown hK hI.1 rfl 14 (by decide) (htg _ (gw_mem (i := 1012) (by decide +kernel) rfl)) (fun _ h9 => h9) rfl d_Md_covers_37 ?_
        refine lv_bipush (v := 24) hx hb d_Md_covers_40 (by decide) ?_
        refine lv_iload_n hx hb d_Md_covers_42 rfl (lv_at hl 1 rfl) ?_
        refine lv_eqi (y := (nI (tn qa))) ea ?_
        refine lv_imul (x := 24) (y := (nI (tn qa))) hx hb d_Md_covers_43 ?_
        refine lv_eqi (y := (nI (24 * (tn qa)))) (pk_mul 24 (tn qa)) ?_
        refine lv_iload_n hx hb d_Md_covers_44 rfl (lv_at hl 2 rfl) ?_
        refine lv_eqi (y := (nI (tn qb))) eb ?_
        refine lv_iadd (x := (nI (24 * (tn qa)))) (y := (nI (tn qb))) hx hb d_Md_covers_45 ?_
        refine lv_eqi (y := (nI (24 * (tn qa) + tn qb))) (nI_add (24 * (tn qa)) (tn qb)) ?_
        refine hx_zald hx hb hK 1 (hI.2 11 (by decide)) rfl (show vp_in (nI (24 * (tn qa) + tn qb)) 576 from vp_in_nI (n := 24 * (tn qa) + tn qb) (by omega) (by decide)) d_Md_covers_46 ?_
        refine lv_eqi (y := ((setA f 11 R) 11 (24 * (tn qa) + tn qb))) (show (setA f 11 R) 11 (nI (24 * (tn qa) + tn qb)).toNatClampNeg = _ by rw [nI_clamp (by omega)]) ?_
        refine lv_eqi (y := (bI (fwT br 24 (24 * tn qa + tn qb)))) (by rw [setA_self]; exact hR _ (by omega)) ?_
        exact W.zret (v := (bI (fwT br 24 (24 * tn qa + tn qb)))) hx hb hr (bI_z _) (fun t ht hW => ⟨⟨(bI (fwT br 24 (24 * tn qa + tn qb))), H, rfl, by dsimp only; have e0 : (isN n qa && isN n qb) = true := (by first | (simp [c6, c14]; done) | (simp [c6, c14]; omega) | omega | simp_all); rw [e0]; rw [if_pos (show goB true true true = true from rfl)]; exact ⟨R, hI, rfl⟩, ht⟩, hS.F ht⟩) hS.2.2 d_Md_covers_47
      · exact absurd c27 (by decide)
def y_Md_broader : MethodName := ⟨"NameMergesModel", "broader", "(II)I"⟩
abbrev w_Md_broader : List Cond := Cond.code y_Md_broader prog_7_method_25_code 3 (Option.some Jvm.ClassFile.FieldType.int) :: gw
theorem d_Md_broader_0 : decode prog_7_method_25_code 0 = .ok (.aload_n 0, 1) := by decide +kernel
theorem d_Md_broader_1 : decode prog_7_method_25_code 1 = .ok (.aload_n 0, 1) := by decide +kernel
theorem d_Md_broader_2 : decode prog_7_method_25_code 2 = .ok (.iload_n 1, 1) := by decide +kernel
theorem d_Md_broader_3 : decode prog_7_method_25_code 3 = .ok (.invokevirtual 92, 3) := by decide +kernel
theorem d_Md_broader_6 : decode prog_7_method_25_code 6 = .ok (.ifCond .eq 15, 3) := by decide +kernel
theorem d_Md_broader_9 : decode prog_7_method_25_code 9 = .ok (.aload_n 0, 1) := by decide +kernel
theorem d_Md_broader_10 : decode prog_7_method_25_code 10 = .ok (.iload_n 2, 1) := by decide +kernel
theorem d_Md_broader_11 : decode prog_7_method_25_code 11 = .ok (.invokevirtual 92, 3) := by decide +kernel
theorem d_Md_broader_14 : decode prog_7_method_25_code 14 = .ok (.ifCond .eq 7, 3) := by decide +kernel
theorem d_Md_broader_17 : decode prog_7_method_25_code 17 = .ok (.iconst 1, 1) := by decide +kernel
theorem d_Md_broader_18 : decode prog_7_method_25_code 18 = .ok (.goto 4, 3) := by decide +kernel
theorem d_Md_broader_21 : decode prog_7_method_25_code 21 = .ok (.iconst 0, 1) := by decide +kernel
theorem d_Md_broader_22 : decode prog_7_method_25_code 22 = .ok (.iconst 1, 1) := by decide +kernel
theorem d_Md_broader_23 : decode prog_7_method_25_code 23 = .ok (.iconst 1, 1) := by decide +kernel
theorem d_Md_broader_24 : decode prog_7_method_25_code 24 = .ok (.invokevirtual 88, 3) := by decide +kernel
theorem d_Md_broader_27 : decode prog_7_method_25_code 27 = .ok (.ifCond .ne 5, 3) := by decide +kernel
theorem d_Md_broader_30 : decode prog_7_method_25_code 30 = .ok (.iconst 0, 1) := by decide +kernel
theorem d_Md_broader_31 : decode prog_7_method_25_code 31 = .ok (.ireturn, 1) := by decide +kernel
theorem d_Md_broader_32 : decode prog_7_method_25_code 32 = .ok (.aload_n 0, 1) := by decide +kernel
theorem d_Md_broader_33 : decode prog_7_method_25_code 33 = .ok (.invokevirtual 124, 3) := by decide +kernel
theorem d_Md_broader_36 : decode prog_7_method_25_code 36 = .ok (.aload_n 0, 1) := by decide +kernel
theorem d_Md_broader_37 : decode prog_7_method_25_code 37 = .ok (.getfield 40, 3) := by decide +kernel
theorem d_Md_broader_40 : decode prog_7_method_25_code 40 = .ok (.bipush 24, 2) := by decide +kernel
theorem d_Md_broader_42 : decode prog_7_method_25_code 42 = .ok (.iload_n 1, 1) := by decide +kernel
theorem d_Md_broader_43 : decode prog_7_method_25_code 43 = .ok (.imul, 1) := by decide +kernel
theorem d_Md_broader_44 : decode prog_7_method_25_code 44 = .ok (.iload_n 2, 1) := by decide +kernel
theorem d_Md_broader_45 : decode prog_7_method_25_code 45 = .ok (.iadd, 1) := by decide +kernel
theorem d_Md_broader_46 : decode prog_7_method_25_code 46 = .ok (.baload, 1) := by decide +kernel
theorem d_Md_broader_47 : decode prog_7_method_25_code 47 = .ok (.ifCond .eq 5, 3) := by decide +kernel
theorem d_Md_broader_50 : decode prog_7_method_25_code 50 = .ok (.iconst 0, 1) := by decide +kernel
theorem d_Md_broader_51 : decode prog_7_method_25_code 51 = .ok (.ireturn, 1) := by decide +kernel
theorem d_Md_broader_52 : decode prog_7_method_25_code 52 = .ok (.iload_n 1, 1) := by decide +kernel
theorem d_Md_broader_53 : decode prog_7_method_25_code 53 = .ok (.iload_n 2, 1) := by decide +kernel
theorem d_Md_broader_54 : decode prog_7_method_25_code 54 = .ok (.if_icmp .eq 17, 3) := by decide +kernel
theorem d_Md_broader_57 : decode prog_7_method_25_code 57 = .ok (.aload_n 0, 1) := by decide +kernel
theorem d_Md_broader_58 : decode prog_7_method_25_code 58 = .ok (.getfield 44, 3) := by decide +kernel
theorem d_Md_broader_61 : decode prog_7_method_25_code 61 = .ok (.bipush 24, 2) := by decide +kernel
theorem d_Md_broader_63 : decode prog_7_method_25_code 63 = .ok (.iload_n 2, 1) := by decide +kernel
theorem d_Md_broader_64 : decode prog_7_method_25_code 64 = .ok (.imul, 1) := by decide +kernel
theorem d_Md_broader_65 : decode prog_7_method_25_code 65 = .ok (.iload_n 1, 1) := by decide +kernel
theorem d_Md_broader_66 : decode prog_7_method_25_code 66 = .ok (.iadd, 1) := by decide +kernel
theorem d_Md_broader_67 : decode prog_7_method_25_code 67 = .ok (.baload, 1) := by decide +kernel
theorem d_Md_broader_68 : decode prog_7_method_25_code 68 = .ok (.ifCond .eq 5, 3) := by decide +kernel
theorem d_Md_broader_71 : decode prog_7_method_25_code 71 = .ok (.iconst (-1), 1) := by decide +kernel
theorem d_Md_broader_72 : decode prog_7_method_25_code 72 = .ok (.ireturn, 1) := by decide +kernel
theorem d_Md_broader_73 : decode prog_7_method_25_code 73 = .ok (.aload_n 0, 1) := by decide +kernel
theorem d_Md_broader_74 : decode prog_7_method_25_code 74 = .ok (.getfield 40, 3) := by decide +kernel
theorem d_Md_broader_77 : decode prog_7_method_25_code 77 = .ok (.bipush 24, 2) := by decide +kernel
theorem d_Md_broader_79 : decode prog_7_method_25_code 79 = .ok (.iload_n 1, 1) := by decide +kernel
theorem d_Md_broader_80 : decode prog_7_method_25_code 80 = .ok (.imul, 1) := by decide +kernel
theorem d_Md_broader_81 : decode prog_7_method_25_code 81 = .ok (.iload_n 2, 1) := by decide +kernel
theorem d_Md_broader_82 : decode prog_7_method_25_code 82 = .ok (.iadd, 1) := by decide +kernel
theorem d_Md_broader_83 : decode prog_7_method_25_code 83 = .ok (.iconst 1, 1) := by decide +kernel
theorem d_Md_broader_84 : decode prog_7_method_25_code 84 = .ok (.bastore, 1) := by decide +kernel
theorem d_Md_broader_85 : decode prog_7_method_25_code 85 = .ok (.iconst 1, 1) := by decide +kernel
theorem d_Md_broader_86 : decode prog_7_method_25_code 86 = .ok (.ireturn, 1) := by decide +kernel
set_option maxHeartbeats 4000000 in
set_option maxRecDepth 100000 in
theorem c_Md_broader (l : Launch) (D : va_G) (cs : Nat → ClassId) (N0 : Nat) (H : Heap) (x : Nat) (g : Nat → Nat) (i : Nat → Int32) (f : Nat → Nat → Int32) (qa qb : Int32) (hsep : md_sep N0 x g) (hI : md_I D cs H x g i f) (n : Nat) (hn : i 2 = nI n) (hn24 : n ≤ 24) (br : Nat → Bool) (hbr : ∀ k, k < 576 → f 10 k = bI (br k)) : Met l y_Md_broader w_Md_broader ({ frames := 1, cells := 0, slots := 0, locals := 23 }) (hPre D cs N0 [.ref x, .int qa, .int qb] H) (hQi (fun r H' => if goB (isN n qa && isN n qb) true true = true then (if br (24 * tn qa + tn qb) = true then (∃ R : Nat → Int32, md_I D cs H' x g (upd i 0 (goV (isN n qa && isN n qb) true true)) (setA f 11 R) ∧ r = 0) else if (decide (qa = qb) || fwT br 24 (24 * tn qb + tn qa)) = true then (∃ R : Nat → Int32, md_I D cs H' x g (upd i 0 (goV (isN n qa && isN n qb) true true)) (setA f 11 R) ∧ r = -1) else (∃ R : Nat → Int32, md_I D cs H' x g (upd i 0 (goV (isN n qa && isN n qb) true true)) (setA (updA f 10 (24 * tn qa + tn qb) 1) 11 R) ∧ r = 1)) else (md_I D cs H' x g (upd i 0 (goV (isN n qa && isN n qb) true true)) f ∧ r = 0)) (md_A x g)) 0 0 (md_A x g) := by
  refine Met.ofW (cc := prog_7_method_25_code) (maxL := 3) (ret := (Option.some Jvm.ClassFile.FieldType.int)) (by decide) rfl ?_
  intro p e s m args below meth c s₁ B hml hv
  obtain ⟨rfl, rfl, hB⟩ := hv
  have hx := B.exec
  have hb := B.bytes
  have hr := B.returns
  have hts := atoms_spec (ws := w_Md_broader) B.pre
  have htg : ∀ w ∈ gw, w.before _ s = true := fun w h => hts w (List.mem_cons_of_mem _ h)
  have hown : s.vm.findClass "NameMergesModel" = some m.cls := findClass_of_methodNamed B.named
  have hlocks := B.notSynchronized
  have hK := hB.1
  have hS : va_S (md_A x g) s.heap s.heap [] := va_S.rf
  obtain ⟨H, hH⟩ : ∃ z : Heap, z = s.heap := ⟨_, rfl⟩
  rw [← hH] at hI
  have hS : va_S (md_A x g) s.heap H [] := by rw [hH]; exact va_S.rf
  have hl := lv_entry ([.ref x, .int qa, .int qb]) (n := 3) (Nat.le_of_ble_eq_true rfl)
  rw [lg_entry_eq, ← hH]
  generalize (lg_sl ([.ref x, .int qa, .int qb]) ++ List.replicate (3 - (lg_sl ([.ref x, .int qa, .int qb])).length) Slot.unset).toArray = ls at hl ⊢
  have hl : lv_has ls 3 [(0, .ref x), (1, .int qa), (2, .int qb)] := hl
  refine lv_aload_n hx hb d_Md_broader_0 rfl (lv_at hl 0 rfl) ?_
  refine lv_aload_n hx hb d_Md_broader_1 rfl (lv_at hl 0 rfl) ?_
  refine lv_iload_n hx hb d_Md_broader_2 rfl (lv_at hl 1 rfl) ?_
  refine h_calli (va_runV (As := [.int qa]) (rest := [.ref x]) ⟨hx, hb, hml, hown, htg⟩ (c_Md_isName l D cs N0 H x g i f qa hsep hI n hn) (cwV 1 htg (gw_V (gw_mem (i := 1108) (by decide +kernel) rfl) (gw_mem (i := 1110) (by decide +kernel) rfl) (gw_mem (i := 19) (by decide +kernel) rfl) (gw_mem (i := 38) (by decide +kernel) rfl) (gw_mem (i := 1111) (by decide +kernel) rfl)) rfl rfl rfl (by decide +kernel) ⟨Nat.le_of_ble_eq_true rfl, Nat.le_of_ble_eq_true rfl⟩) ⟨hPre.blind, hx_recv hK (ci := 0) rfl hI.1, hPre.at hB hS hsep.A⟩ rfl rfl hl.1 rfl (lv_room (Nat.le_of_ble_eq_true rfl)) d_Md_broader_3 ⟨Nat.zero_le _, Nat.zero_le _⟩) hS (fun _ h => h) (fun r3 H locs hp hz hk hS => ?_)
  obtain ⟨hI, er3⟩ := hp
  refine lv_eqi (y := (bI (isN n qa))) er3 ?_
  refine lv_if_eq (x := (bI (isN n qa))) (tgt := 21) hx hb d_Md_broader_6 (by decide) (fun c6 => ?_) (fun c6 => ?_)
  · skip
    replace c6 : (isN n qa) = false := bI_0 c6
    refine lv_iconst (v := 0) hx hb d_Md_broader_21 (by decide) ?_
    refine lv_iconst (v := 1) hx hb d_Md_broader_22 (by decide) ?_
    refine lv_iconst (v := 1) hx hb d_Md_broader_23 (by decide) ?_
    refine h_calli (va_runV (As := [.int 0, .int 1, .int 1]) (rest := []) ⟨hx, hb, hml, hown, htg⟩ (c_Md_goes l D cs N0 H x g i f false true true hsep hI) (cwV 3 htg (gw_V (gw_mem (i := 1092) (by decide +kernel) rfl) (gw_mem (i := 1094) (by decide +kernel) rfl) (gw_mem (i := 18) (by decide +kernel) rfl) (gw_mem (i := 38) (by decide +kernel) rfl) (gw_mem (i := 1095) (by decide +kernel) rfl)) rfl rfl rfl (by decide +kernel) ⟨Nat.le_of_ble_eq_true rfl, Nat.le_of_ble_eq_true rfl⟩) ⟨hPre.blind, hx_recv hK (ci := 0) rfl hI.1, hPre.at hB hS hsep.A⟩ rfl rfl hl.1 rfl (lv_room (Nat.le_of_ble_eq_true rfl)) d_Md_broader_24 ⟨Nat.zero_le _, Nat.zero_le _⟩) hS (fun _ h => h) (fun r24 H locs hp hz hk hS => ?_)
    obtain ⟨hI, er24⟩ := hp
    replace hI : md_I D cs H x g (upd i 0 1) f := hI
    refine lv_eqi (y := 0) er24 ?_
    refine lv_if_ne (x := 0) (tgt := 32) hx hb d_Md_broader_27 (by decide) (fun c27 => ?_) (fun c27 => ?_)
    · exact absurd c27 (by decide)
    · skip
      refine lv_iconst (v := 0) hx hb d_Md_broader_30 (by decide) ?_
      exact W.iret (v := 0) hx hb hr (fun t ht hW => ⟨⟨0, H, rfl, by dsimp only; have e0 : (isN n qa && isN n qb) = false := (by first | (simp [c6]; done) | (simp [c6]; omega) | omega | simp_all); rw [e0]; rw [if_neg (show ¬ goB false true true = true by simp [goB])]; exact ⟨hI, rfl⟩, ht⟩, hS.F ht⟩) hS.2.2 d_Md_broader_31
  · skip
    replace c6 : (isN n qa) = true := bI_1 c6
    refine lv_aload_n hx hb d_Md_broader_9 rfl (lv_at hl 0 rfl) ?_
    refine lv_iload_n hx hb d_Md_broader_10 rfl (lv_at hl 2 rfl) ?_
    refine h_calli (va_runV (As := [.int qb]) (rest := [.ref x]) ⟨hx, hb, hml, hown, htg⟩ (c_Md_isName l D cs N0 H x g i f qb hsep hI n hn) (cwV 1 htg (gw_V (gw_mem (i := 1108) (by decide +kernel) rfl) (gw_mem (i := 1110) (by decide +kernel) rfl) (gw_mem (i := 19) (by decide +kernel) rfl) (gw_mem (i := 38) (by decide +kernel) rfl) (gw_mem (i := 1111) (by decide +kernel) rfl)) rfl rfl rfl (by decide +kernel) ⟨Nat.le_of_ble_eq_true rfl, Nat.le_of_ble_eq_true rfl⟩) ⟨hPre.blind, hx_recv hK (ci := 0) rfl hI.1, hPre.at hB hS hsep.A⟩ rfl rfl hl.1 rfl (lv_room (Nat.le_of_ble_eq_true rfl)) d_Md_broader_11 ⟨Nat.zero_le _, Nat.zero_le _⟩) hS (fun _ h => h) (fun r11 H locs hp hz hk hS => ?_)
    obtain ⟨hI, er11⟩ := hp
    refine lv_eqi (y := (bI (isN n qb))) er11 ?_
    refine lv_if_eq (x := (bI (isN n qb))) (tgt := 21) hx hb d_Md_broader_14 (by decide) (fun c14 => ?_) (fun c14 => ?_)
    · skip
      replace c14 : (isN n qb) = false := bI_0 c14
      refine lv_iconst (v := 0) hx hb d_Md_broader_21 (by decide) ?_
      refine lv_iconst (v := 1) hx hb d_Md_broader_22 (by decide) ?_
      refine lv_iconst (v := 1) hx hb d_Md_broader_23 (by decide) ?_
      refine h_calli (va_runV (As := [.int 0, .int 1, .int 1]) (rest := []) ⟨hx, hb, hml, hown, htg⟩ (c_Md_goes l D cs N0 H x g i f false true true hsep hI) (cwV 3 htg (gw_V (gw_mem (i := 1092) (by decide +kernel) rfl) (gw_mem (i := 1094) (by decide +kernel) rfl) (gw_mem (i := 18) (by decide +kernel) rfl) (gw_mem (i := 38) (by decide +kernel) rfl) (gw_mem (i := 1095) (by decide +kernel) rfl)) rfl rfl rfl (by decide +kernel) ⟨Nat.le_of_ble_eq_true rfl, Nat.le_of_ble_eq_true rfl⟩) ⟨hPre.blind, hx_recv hK (ci := 0) rfl hI.1, hPre.at hB hS hsep.A⟩ rfl rfl hl.1 rfl (lv_room (Nat.le_of_ble_eq_true rfl)) d_Md_broader_24 ⟨Nat.zero_le _, Nat.zero_le _⟩) hS (fun _ h => h) (fun r24 H locs hp hz hk hS => ?_)
      obtain ⟨hI, er24⟩ := hp
      replace hI : md_I D cs H x g (upd i 0 1) f := hI
      refine lv_eqi (y := 0) er24 ?_
      refine lv_if_ne (x := 0) (tgt := 32) hx hb d_Md_broader_27 (by decide) (fun c27 => ?_) (fun c27 => ?_)
      · exact absurd c27 (by decide)
      · skip
        refine lv_iconst (v := 0) hx hb d_Md_broader_30 (by decide) ?_
        exact W.iret (v := 0) hx hb hr (fun t ht hW => ⟨⟨0, H, rfl, by dsimp only; have e0 : (isN n qa && isN n qb) = false := (by first | (simp [c6, c14]; done) | (simp [c6, c14]; omega) | omega | simp_all); rw [e0]; rw [if_neg (show ¬ goB false true true = true by simp [goB])]; exact ⟨hI, rfl⟩, ht⟩, hS.F ht⟩) hS.2.2 d_Md_broader_31
    · skip
      replace c14 : (isN n qb) = true := bI_1 c14
      refine lv_iconst (v := 1) hx hb d_Md_broader_17 (by decide) ?_
      refine lv_goto (tgt := 22) hx hb d_Md_broader_18 (by decide) ?_
      refine lv_iconst (v := 1) hx hb d_Md_broader_22 (by decide) ?_
      refine lv_iconst (v := 1) hx hb d_Md_broader_23 (by decide) ?_
      refine h_calli (va_runV (As := [.int 1, .int 1, .int 1]) (rest := []) ⟨hx, hb, hml, hown, htg⟩ (c_Md_goes l D cs N0 H x g i f true true true hsep hI) (cwV 3 htg (gw_V (gw_mem (i := 1092) (by decide +kernel) rfl) (gw_mem (i := 1094) (by decide +kernel) rfl) (gw_mem (i := 18) (by decide +kernel) rfl) (gw_mem (i := 38) (by decide +kernel) rfl) (gw_mem (i := 1095) (by decide +kernel) rfl)) rfl rfl rfl (by decide +kernel) ⟨Nat.le_of_ble_eq_true rfl, Nat.le_of_ble_eq_true rfl⟩) ⟨hPre.blind, hx_recv hK (ci := 0) rfl hI.1, hPre.at hB hS hsep.A⟩ rfl rfl hl.1 rfl (lv_room (Nat.le_of_ble_eq_true rfl)) d_Md_broader_24 ⟨Nat.zero_le _, Nat.zero_le _⟩) hS (fun _ h => h) (fun r24 H locs hp hz hk hS => ?_)
      obtain ⟨hI, er24⟩ := hp
      replace hI : md_I D cs H x g (upd i 0 0) f := hI
      refine lv_eqi (y := 1) er24 ?_
      refine lv_if_ne (x := 1) (tgt := 32) hx hb d_Md_broader_27 (by decide) (fun c27 => ?_) (fun c27 => ?_)
      · skip
        obtain ⟨ha, ea⟩ := isN_n c6 (by omega)
        obtain ⟨hb1, eb⟩ := isN_n c14 (by omega)
        refine lv_aload_n hx hb d_Md_broader_32 rfl (lv_at hl 0 rfl) ?_
        refine h_callv (va_runV (As := []) (rest := []) ⟨hx, hb, hml, hown, htg⟩ (c_Md_close l D cs N0 H x g ((upd i 0 0)) f hsep hI br hbr) (cwV 0 htg (gw_V (gw_mem (i := 1176) (by decide +kernel) rfl) (gw_mem (i := 1178) (by decide +kernel) rfl) (gw_mem (i := 25) (by decide +kernel) rfl) (gw_mem (i := 38) (by decide +kernel) rfl) (gw_mem (i := 1179) (by decide +kernel) rfl)) rfl rfl rfl (by decide +kernel) ⟨Nat.le_of_ble_eq_true rfl, Nat.le_of_ble_eq_true rfl⟩) ⟨hPre.blind, hx_recv hK (ci := 0) rfl hI.1, hPre.at hB hS hsep.A⟩ rfl rfl hl.1 rfl (lv_room (Nat.le_of_ble_eq_true rfl)) d_Md_broader_33 ⟨Nat.zero_le _, Nat.zero_le _⟩) hS (fun _ h => h) (fun  H locs hp hz hk hS => ?_)
        obtain ⟨R, hI, hR⟩ := hp
        refine lv_aload_n hx hb d_Md_broader_36 rfl (lv_at hl 0 rfl) ?_
        refine hx_get (v := .ref (g 10)) hx hb htg iMd hown hK hI.1 rfl 13 (by decide) (htg _ (gw_mem (i := 1011) (by decide +kernel) rfl)) (fun _ h9 => h9) rfl d_Md_broader_37 ?_
        refine lv_bipush (v := 24) hx hb d_Md_broader_40 (by decide) ?_
        refine lv_iload_n hx hb d_Md_broader_42 rfl (lv_at hl 1 rfl) ?_
        refine lv_eqi (y := (nI (tn qa))) ea ?_
        refine lv_imul (x := 24) (y := (nI (tn qa))) hx hb d_Md_broader_43 ?_
        refine lv_eqi (y := (nI (24 * (tn qa)))) (pk_mul 24 (tn qa)) ?_
        refine lv_iload_n hx hb d_Md_broader_44 rfl (lv_at hl 2 rfl) ?_
        refine lv_eqi (y := (nI (tn qb))) eb ?_
        refine lv_iadd (x := (nI (24 * (tn qa)))) (y := (nI (tn qb))) hx hb d_Md_broader_45 ?_
        refine lv_eqi (y := (nI (24 * (tn qa) + tn qb))) (nI_add (24 * (tn qa)) (tn qb)) ?_
        refine hx_zald hx hb hK 1 (hI.2 10 (by decide)) rfl (show vp_in (nI (24 * (tn qa) + tn qb)) 576 from vp_in_nI (n := 24 * (tn qa) + tn qb) (by omega) (by decide)) d_Md_broader_46 ?_
        refine lv_eqi (y := ((setA f 11 R) 10 (24 * (tn qa) + tn qb))) (show (setA f 11 R) 10 (nI (24 * (tn qa) + tn qb)).toNatClampNeg = _ by rw [nI_clamp (by omega)]) ?_
        refine lv_eqi (y := (bI (br (24 * tn qa + tn qb)))) (by rw [setA_ne (by decide)]; exact hbr _ (by omega)) ?_
        refine lv_if_eq (x := (bI (br (24 * tn qa + tn qb)))) (tgt := 52) hx hb d_Md_broader_47 (by decide) (fun c47 => ?_) (fun c47 => ?_)
        · skip
          replace c47 : (br (24 * tn qa + tn qb)) = false := bI_0 c47
          refine lv_iload_n hx hb d_Md_broader_52 rfl (lv_at hl 1 rfl) ?_
          refine lv_iload_n hx hb d_Md_broader_53 rfl (lv_at hl 2 rfl) ?_
          refine lv_icmp_eq (x := qa) (y := qb) (tgt := 71) hx hb d_Md_broader_54 (by decide) (fun c54 => ?_) (fun c54 => ?_)
          · skip
            refine lv_iconst (v := (-1)) hx hb d_Md_broader_71 (by decide) ?_
            exact W.iret (v := (-1)) hx hb hr (fun t ht hW => ⟨⟨(-1), H, rfl, by dsimp only; have e0 : (isN n qa && isN n qb) = true := (by first | (simp [c6, c14, c47, c54]; done) | (simp [c6, c14, c47, c54]; omega) | omega | simp_all); rw [e0]; rw [if_pos (show goB true true true = true from rfl)]; exact (by first | (rw [if_pos (by simp [c47])]; exact ⟨R, hI, rfl⟩) | (rw [if_neg (by simp [c47]), if_pos (by simp [c54])]; exact ⟨R, hI, rfl⟩) | (rw [if_neg (by simp [c47]), if_neg (by simp [c54, c68])]; exact ⟨R, by rw [← updA_setA (by decide)]; exact hI, rfl⟩)), ht⟩, hS.F ht⟩) hS.2.2 d_Md_broader_72
          · skip
            refine lv_aload_n hx hb d_Md_broader_57 rfl (lv_at hl 0 rfl) ?_
            refine hx_get (v := .ref (g 11)) hx hb htg iMd hown hK hI.1 rfl 14 (by decide) (htg _ (gw_mem (i := 1012) (by decide +kernel) rfl)) (fun _ h9 => h9) rfl d_Md_broader_58 ?_
            refine lv_bipush (v := 24) hx hb d_Md_broader_61 (by decide) ?_
            refine lv_iload_n hx hb d_Md_broader_63 rfl (lv_at hl 2 rfl) ?_
            refine lv_eqi (y := (nI (tn qb))) eb ?_
            refine lv_imul (x := 24) (y := (nI (tn qb))) hx hb d_Md_broader_64 ?_
            refine lv_eqi (y := (nI (24 * (tn qb)))) (pk_mul 24 (tn qb)) ?_
            refine lv_iload_n hx hb d_Md_broader_65 rfl (lv_at hl 1 rfl) ?_
            refine lv_eqi (y := (nI (tn qa))) ea ?_
            refine lv_iadd (x := (nI (24 * (tn qb)))) (y := (nI (tn qa))) hx hb d_Md_broader_66 ?_
            refine lv_eqi (y := (nI (24 * (tn qb) + tn qa))) (nI_add (24 * (tn qb)) (tn qa)) ?_
            refine hx_zald hx hb hK 1 (hI.2 11 (by decide)) rfl (show vp_in (nI (24 * (tn qb) + tn qa)) 576 from vp_in_nI (n := 24 * (tn qb) + tn qa) (by omega) (by decide)) d_Md_broader_67 ?_
            refine lv_eqi (y := ((setA f 11 R) 11 (24 * (tn qb) + tn qa))) (show (setA f 11 R) 11 (nI (24 * (tn qb) + tn qa)).toNatClampNeg = _ by rw [nI_clamp (by omega)]) ?_
            refine lv_eqi (y := (bI (fwT br 24 (24 * tn qb + tn qa)))) (by rw [setA_self]; exact hR _ (by omega)) ?_
            refine lv_if_eq (x := (bI (fwT br 24 (24 * tn qb + tn qa)))) (tgt := 73) hx hb d_Md_broader_68 (by decide) (fun c68 => ?_) (fun c68 => ?_)
            · skip
              replace c68 : (fwT br 24 (24 * tn qb + tn qa)) = false := bI_0 c68
              refine lv_aload_n hx hb d_Md_broader_73 rfl (lv_at hl 0 rfl) ?_
              refine hx_get (v := .ref (g 10)) hx hb htg iMd hown hK hI.1 rfl 13 (by decide) (htg _ (gw_mem (i := 1011) (by decide +kernel) rfl)) (fun _ h9 => h9) rfl d_Md_broader_74 ?_
              refine lv_bipush (v := 24) hx hb d_Md_broader_77 (by decide) ?_
              refine lv_iload_n hx hb d_Md_broader_79 rfl (lv_at hl 1 rfl) ?_
              refine lv_eqi (y := (nI (tn qa))) ea ?_
              refine lv_imul (x := 24) (y := (nI (tn qa))) hx hb d_Md_broader_80 ?_
              refine lv_eqi (y := (nI (24 * (tn qa)))) (pk_mul 24 (tn qa)) ?_
              refine lv_iload_n hx hb d_Md_broader_81 rfl (lv_at hl 2 rfl) ?_
              refine lv_eqi (y := (nI (tn qb))) eb ?_
              refine lv_iadd (x := (nI (24 * (tn qa)))) (y := (nI (tn qb))) hx hb d_Md_broader_82 ?_
              refine lv_eqi (y := (nI (24 * (tn qa) + tn qb))) (nI_add (24 * (tn qa)) (tn qb)) ?_
              refine lv_iconst (v := 1) hx hb d_Md_broader_83 (by decide) ?_
              refine hx_zast hx hb hK hS (Or.inr ⟨10, by decide, rfl⟩) 1 (hI.2 10 (by decide)) rfl (show vp_in (nI (24 * (tn qa) + tn qb)) 576 from vp_in_nI (n := 24 * (tn qa) + tn qb) (by omega) (by decide)) d_Md_broader_84 (fun H locs hat hz ho hS => ?_)
              replace hI : md_I D cs H x g (upd i 0 0) (updA (setA f 11 R) 10 (24 * (tn qa) + tn qb) (1)) := md_I.puta hI hsep (by decide) (by rw [show ((nI (24 * (tn qa) + tn qb)) : Int32).toNatClampNeg = 24 * (tn qa) + tn qb from nI_clamp (n := 24 * (tn qa) + tn qb) (by omega), show vp_nar .boolean 1 = 1 from rfl] at hat; exact hat) ho
              refine lv_iconst (v := 1) hx hb d_Md_broader_85 (by decide) ?_
              exact W.iret (v := 1) hx hb hr (fun t ht hW => ⟨⟨1, H, rfl, by dsimp only; have e0 : (isN n qa && isN n qb) = true := (by first | (simp [c6, c14, c47, c54, c68]; done) | (simp [c6, c14, c47, c54, c68]; omega) | omega | simp_all); rw [e0]; rw [if_pos (show goB true true true = true from rfl)]; exact (by first | (rw [if_pos (by simp [c47])]; exact ⟨R, hI, rfl⟩) | (rw [if_neg (by simp [c47]), if_pos (by simp [c54, c68])]; exact ⟨R, hI, rfl⟩) | (rw [if_neg (by simp [c47]), if_neg (by simp [c54, c68])]; exact ⟨R, by rw [← updA_setA (by decide)]; exact hI, rfl⟩)), ht⟩, hS.F ht⟩) hS.2.2 d_Md_broader_86
            · skip
              replace c68 : (fwT br 24 (24 * tn qb + tn qa)) = true := bI_1 c68
              refine lv_iconst (v := (-1)) hx hb d_Md_broader_71 (by decide) ?_
              exact W.iret (v := (-1)) hx hb hr (fun t ht hW => ⟨⟨(-1), H, rfl, by dsimp only; have e0 : (isN n qa && isN n qb) = true := (by first | (simp [c6, c14, c47, c54, c68]; done) | (simp [c6, c14, c47, c54, c68]; omega) | omega | simp_all); rw [e0]; rw [if_pos (show goB true true true = true from rfl)]; exact (by first | (rw [if_pos (by simp [c47])]; exact ⟨R, hI, rfl⟩) | (rw [if_neg (by simp [c47]), if_pos (by simp [c54, c68])]; exact ⟨R, hI, rfl⟩) | (rw [if_neg (by simp [c47]), if_neg (by simp [c54, c68])]; exact ⟨R, by rw [← updA_setA (by decide)]; exact hI, rfl⟩)), ht⟩, hS.F ht⟩) hS.2.2 d_Md_broader_72
        · skip
          replace c47 : (br (24 * tn qa + tn qb)) = true := bI_1 c47
          refine lv_iconst (v := 0) hx hb d_Md_broader_50 (by decide) ?_
          exact W.iret (v := 0) hx hb hr (fun t ht hW => ⟨⟨0, H, rfl, by dsimp only; have e0 : (isN n qa && isN n qb) = true := (by first | (simp [c6, c14, c47]; done) | (simp [c6, c14, c47]; omega) | omega | simp_all); rw [e0]; rw [if_pos (show goB true true true = true from rfl)]; exact (by first | (rw [if_pos (by simp [c47])]; exact ⟨R, hI, rfl⟩) | (rw [if_neg (by simp [c47]), if_pos (by simp [])]; exact ⟨R, hI, rfl⟩) | (rw [if_neg (by simp [c47]), if_neg (by simp [c54, c68])]; exact ⟨R, by rw [← updA_setA (by decide)]; exact hI, rfl⟩)), ht⟩, hS.F ht⟩) hS.2.2 d_Md_broader_51
      · exact absurd c27 (by decide)
