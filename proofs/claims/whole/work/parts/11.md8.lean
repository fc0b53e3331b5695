def ptsV (f : Nat → Nat → Int32) (ln : Nat → Nat) (v w : Nat) : Nat := 20 * lcsV f ln v w / (ln v + ln w)
def mxTo (P : Nat → Nat) (b0 : Nat) : Nat → Nat
  | 0 => b0
  | k + 1 => if mxTo P b0 k < P k then P k else mxTo P b0 k
def ptP (f : Nat → Nat → Int32) (ln : Nat → Nat) (a b j : Nat) : Nat → Nat := fun k => ptsV f ln (4 * a + j) (4 * b + k)
def mx2 (f : Nat → Nat → Int32) (ln mn : Nat → Nat) (a b : Nat) : Nat → Nat
  | 0 => 0
  | j + 1 => mxTo (ptP f ln a b j) (mx2 f ln mn a b j) (mn b)
def samP (f : Nat → Nat → Int32) (a b j : Nat) : Nat → Bool := fun k => decide (f 4 (4 * a + j) = f 4 (4 * b + k))
def samB (f : Nat → Nat → Int32) (mn : Nat → Nat) (a b : Nat) : Bool := anyTo (fun j => anyTo (samP f a b j) (mn b)) (mn a)
def datB (f : Nat → Nat → Int32) (a b : Nat) : Bool := !decide (f 8 a = -1) && !decide (f 8 b = -1)
def togB (f : Nat → Nat → Int32) (a b : Nat) : Bool := datB f a b && !decide (f 8 b < f 7 a) && !decide (f 8 a < f 7 b)
def likeV (f : Nat → Nat → Int32) (ln mn : Nat → Nat) (a b : Nat) : Int32 := nI (mx2 f ln mn a b (mn a)) + (if samB f mn a b = true then 2 else 0) + (if togB f a b = true then 3 else if datB f a b = true then -5 else 0)
theorem ptsV_le {f : Nat → Nat → Int32} {ln : Nat → Nat} {v w : Nat} (h : ln w ≤ 12) : ptsV f ln v w ≤ 240 := by
  have h1 := lcsV_le (f := f) (ln := ln) (v := v) h
  exact Nat.le_trans (Nat.div_le_self _ _) (by omega)
def wfV (f : Nat → Nat → Int32) (mn ln : Nat → Nat) : Prop := (∀ a, a < 24 → f 1 a = nI (mn a) ∧ mn a ≤ 4) ∧ (∀ v, v < 96 → f 2 v = nI (ln v) ∧ ln v ≤ 12) ∧ ∀ a j, a < 24 → j < mn a → 1 ≤ ln (4 * a + j)
def agr (F f : Nat → Nat → Int32) : Prop := F 1 = f 1 ∧ F 2 = f 2 ∧ F 3 = f 3 ∧ F 4 = f 4 ∧ F 7 = f 7 ∧ F 8 = f 8
theorem agr.rf (f : Nat → Nat → Int32) : agr f f := ⟨rfl, rfl, rfl, rfl, rfl, rfl⟩
theorem agr.wf {F f : Nat → Nat → Int32} {mn ln : Nat → Nat} (h : agr F f) (w : wfV f mn ln) : wfV F mn ln := ⟨fun a ha => by rw [h.1]; exact w.1 a ha, fun v hv => by rw [h.2.1]; exact w.2.1 v hv, w.2.2⟩
theorem agr.lcs {F f : Nat → Nat → Int32} {ln : Nat → Nat} {v w : Nat} (h : agr F f) : lcsV F ln v w = lcsV f ln v w := by unfold lcsV tx9; rw [h.2.2.1]
theorem agr.mx2 {F f : Nat → Nat → Int32} {ln mn : Nat → Nat} {a b : Nat} (h : agr F f) : ∀ j, mx2 F ln mn a b j = mx2 f ln mn a b j := by
  have e : ∀ j, ptP F ln a b j = ptP f ln a b j := fun j => by funext k; unfold ptP ptsV; rw [h.lcs]
  intro j
  induction j with
  | zero => rfl
  | succ j ih => show mxTo _ _ _ = mxTo _ _ _; rw [e, ih]
theorem agr.like {F f : Nat → Nat → Int32} {ln mn : Nat → Nat} {a b : Nat} (h : agr F f) : likeV F ln mn a b = likeV f ln mn a b := by
  unfold likeV samB togB datB
  have e : ∀ j, samP F a b j = samP f a b j := fun j => by funext k; unfold samP; rw [h.2.2.2.1]
  simp only [e]
  rw [h.mx2, h.2.2.2.2.1, h.2.2.2.2.2]
theorem agr.of21 {F f : Nat → Nat → Int32} (h : ∀ q, q ≠ 21 → F q = f q) : agr F f := ⟨h 1 (by decide), h 2 (by decide), h 3 (by decide), h 4 (by decide), h 7 (by decide), h 8 (by decide)⟩
def y_Md_likeness : MethodName := ⟨"NameMergesModel", "likeness", "(II)I"⟩
abbrev w_Md_likeness : List Cond := Cond.code y_Md_likeness prog_7_method_12_code 8 (Option.some Jvm.ClassFile.FieldType.int) :: gw
theorem d_Md_likeness_0 : decode prog_7_method_12_code 0 = .ok (.iconst 0, 1) := by decide +kernel
theorem d_Md_likeness_1 : decode prog_7_method_12_code 1 = .ok (.istore_n 3, 1) := by decide +kernel
theorem d_Md_likeness_2 : decode prog_7_method_12_code 2 = .ok (.iconst 0, 1) := by decide +kernel
theorem d_Md_likeness_3 : decode prog_7_method_12_code 3 = .ok (.istore 4, 2) := by decide +kernel
theorem d_Md_likeness_5 : decode prog_7_method_12_code 5 = .ok (.iconst 4, 1) := by decide +kernel
theorem d_Md_likeness_6 : decode prog_7_method_12_code 6 = .ok (.iload_n 1, 1) := by decide +kernel
theorem d_Md_likeness_7 : decode prog_7_method_12_code 7 = .ok (.imul, 1) := by decide +kernel
theorem d_Md_likeness_8 : decode prog_7_method_12_code 8 = .ok (.istore 5, 2) := by decide +kernel
theorem d_Md_likeness_10 : decode prog_7_method_12_code 10 = .ok (.iload 5, 2) := by decide +kernel
theorem d_Md_likeness_12 : decode prog_7_method_12_code 12 = .ok (.iconst 4, 1) := by decide +kernel
theorem d_Md_likeness_13 : decode prog_7_method_12_code 13 = .ok (.iload_n 1, 1) := by decide +kernel
theorem d_Md_likeness_14 : decode prog_7_method_12_code 14 = .ok (.imul, 1) := by decide +kernel
theorem d_Md_likeness_15 : decode prog_7_method_12_code 15 = .ok (.aload_n 0, 1) := by decide +kernel
theorem d_Md_likeness_16 : decode prog_7_method_12_code 16 = .ok (.getfield 13, 3) := by decide +kernel
theorem d_Md_likeness_19 : decode prog_7_method_12_code 19 = .ok (.iload_n 1, 1) := by decide +kernel
theorem d_Md_likeness_20 : decode prog_7_method_12_code 20 = .ok (.iaload, 1) := by decide +kernel
theorem d_Md_likeness_21 : decode prog_7_method_12_code 21 = .ok (.iadd, 1) := by decide +kernel
theorem d_Md_likeness_22 : decode prog_7_method_12_code 22 = .ok (.if_icmp .ge 106, 3) := by decide +kernel
theorem d_Md_likeness_25 : decode prog_7_method_12_code 25 = .ok (.iconst 4, 1) := by decide +kernel
theorem d_Md_likeness_26 : decode prog_7_method_12_code 26 = .ok (.iload_n 2, 1) := by decide +kernel
theorem d_Md_likeness_27 : decode prog_7_method_12_code 27 = .ok (.imul, 1) := by decide +kernel
theorem d_Md_likeness_28 : decode prog_7_method_12_code 28 = .ok (.istore 6, 2) := by decide +kernel
theorem d_Md_likeness_30 : decode prog_7_method_12_code 30 = .ok (.iload 6, 2) := by decide +kernel
theorem d_Md_likeness_32 : decode prog_7_method_12_code 32 = .ok (.iconst 4, 1) := by decide +kernel
theorem d_Md_likeness_33 : decode prog_7_method_12_code 33 = .ok (.iload_n 2, 1) := by decide +kernel
theorem d_Md_likeness_34 : decode prog_7_method_12_code 34 = .ok (.imul, 1) := by decide +kernel
theorem d_Md_likeness_35 : decode prog_7_method_12_code 35 = .ok (.aload_n 0, 1) := by decide +kernel
theorem d_Md_likeness_36 : decode prog_7_method_12_code 36 = .ok (.getfield 13, 3) := by decide +kernel
theorem d_Md_likeness_39 : decode prog_7_method_12_code 39 = .ok (.iload_n 2, 1) := by decide +kernel
theorem d_Md_likeness_40 : decode prog_7_method_12_code 40 = .ok (.iaload, 1) := by decide +kernel
theorem d_Md_likeness_41 : decode prog_7_method_12_code 41 = .ok (.iadd, 1) := by decide +kernel
theorem d_Md_likeness_42 : decode prog_7_method_12_code 42 = .ok (.if_icmp .ge 80, 3) := by decide +kernel
theorem d_Md_likeness_45 : decode prog_7_method_12_code 45 = .ok (.bipush 20, 2) := by decide +kernel
theorem d_Md_likeness_47 : decode prog_7_method_12_code 47 = .ok (.aload_n 0, 1) := by decide +kernel
theorem d_Md_likeness_48 : decode prog_7_method_12_code 48 = .ok (.iload 5, 2) := by decide +kernel
theorem d_Md_likeness_50 : decode prog_7_method_12_code 50 = .ok (.iload 6, 2) := by decide +kernel
theorem d_Md_likeness_52 : decode prog_7_method_12_code 52 = .ok (.invokevirtual 99, 3) := by decide +kernel
theorem d_Md_likeness_55 : decode prog_7_method_12_code 55 = .ok (.imul, 1) := by decide +kernel
theorem d_Md_likeness_56 : decode prog_7_method_12_code 56 = .ok (.aload_n 0, 1) := by decide +kernel
theorem d_Md_likeness_57 : decode prog_7_method_12_code 57 = .ok (.getfield 16, 3) := by decide +kernel
theorem d_Md_likeness_60 : decode prog_7_method_12_code 60 = .ok (.iload 5, 2) := by decide +kernel
theorem d_Md_likeness_62 : decode prog_7_method_12_code 62 = .ok (.iaload, 1) := by decide +kernel
theorem d_Md_likeness_63 : decode prog_7_method_12_code 63 = .ok (.aload_n 0, 1) := by decide +kernel
theorem d_Md_likeness_64 : decode prog_7_method_12_code 64 = .ok (.getfield 16, 3) := by decide +kernel
theorem d_Md_likeness_67 : decode prog_7_method_12_code 67 = .ok (.iload 6, 2) := by decide +kernel
theorem d_Md_likeness_69 : decode prog_7_method_12_code 69 = .ok (.iaload, 1) := by decide +kernel
theorem d_Md_likeness_70 : decode prog_7_method_12_code 70 = .ok (.iadd, 1) := by decide +kernel
theorem d_Md_likeness_71 : decode prog_7_method_12_code 71 = .ok (.idiv, 1) := by decide +kernel
theorem d_Md_likeness_72 : decode prog_7_method_12_code 72 = .ok (.istore 7, 2) := by decide +kernel
theorem d_Md_likeness_74 : decode prog_7_method_12_code 74 = .ok (.iload 7, 2) := by decide +kernel
theorem d_Md_likeness_76 : decode prog_7_method_12_code 76 = .ok (.iload_n 3, 1) := by decide +kernel
theorem d_Md_likeness_77 : decode prog_7_method_12_code 77 = .ok (.if_icmp .le 8, 3) := by decide +kernel
theorem d_Md_likeness_80 : decode prog_7_method_12_code 80 = .ok (.iload 7, 2) := by decide +kernel
theorem d_Md_likeness_82 : decode prog_7_method_12_code 82 = .ok (.goto 4, 3) := by decide +kernel
theorem d_Md_likeness_85 : decode prog_7_method_12_code 85 = .ok (.iload_n 3, 1) := by decide +kernel
theorem d_Md_likeness_86 : decode prog_7_method_12_code 86 = .ok (.istore_n 3, 1) := by decide +kernel
theorem d_Md_likeness_87 : decode prog_7_method_12_code 87 = .ok (.iload 4, 2) := by decide +kernel
theorem d_Md_likeness_89 : decode prog_7_method_12_code 89 = .ok (.ifCond .ne 20, 3) := by decide +kernel
theorem d_Md_likeness_92 : decode prog_7_method_12_code 92 = .ok (.aload_n 0, 1) := by decide +kernel
theorem d_Md_likeness_93 : decode prog_7_method_12_code 93 = .ok (.getfield 22, 3) := by decide +kernel
theorem d_Md_likeness_96 : decode prog_7_method_12_code 96 = .ok (.iload 5, 2) := by decide +kernel
theorem d_Md_likeness_98 : decode prog_7_method_12_code 98 = .ok (.iaload, 1) := by decide +kernel
theorem d_Md_likeness_99 : decode prog_7_method_12_code 99 = .ok (.aload_n 0, 1) := by decide +kernel
theorem d_Md_likeness_100 : decode prog_7_method_12_code 100 = .ok (.getfield 22, 3) := by decide +kernel
theorem d_Md_likeness_103 : decode prog_7_method_12_code 103 = .ok (.iload 6, 2) := by decide +kernel
theorem d_Md_likeness_105 : decode prog_7_method_12_code 105 = .ok (.iaload, 1) := by decide +kernel
theorem d_Md_likeness_106 : decode prog_7_method_12_code 106 = .ok (.if_icmp .ne 7, 3) := by decide +kernel
theorem d_Md_likeness_109 : decode prog_7_method_12_code 109 = .ok (.iconst 1, 1) := by decide +kernel
theorem d_Md_likeness_110 : decode prog_7_method_12_code 110 = .ok (.goto 4, 3) := by decide +kernel
theorem d_Md_likeness_113 : decode prog_7_method_12_code 113 = .ok (.iconst 0, 1) := by decide +kernel
theorem d_Md_likeness_114 : decode prog_7_method_12_code 114 = .ok (.istore 4, 2) := by decide +kernel
theorem d_Md_likeness_116 : decode prog_7_method_12_code 116 = .ok (.iinc 6 1, 3) := by decide +kernel
theorem d_Md_likeness_119 : decode prog_7_method_12_code 119 = .ok (.goto (-89), 3) := by decide +kernel
theorem d_Md_likeness_122 : decode prog_7_method_12_code 122 = .ok (.iinc 5 1, 3) := by decide +kernel
theorem d_Md_likeness_125 : decode prog_7_method_12_code 125 = .ok (.goto (-115), 3) := by decide +kernel
theorem d_Md_likeness_128 : decode prog_7_method_12_code 128 = .ok (.aload_n 0, 1) := by decide +kernel
theorem d_Md_likeness_129 : decode prog_7_method_12_code 129 = .ok (.getfield 34, 3) := by decide +kernel
theorem d_Md_likeness_132 : decode prog_7_method_12_code 132 = .ok (.iload_n 1, 1) := by decide +kernel
theorem d_Md_likeness_133 : decode prog_7_method_12_code 133 = .ok (.iaload, 1) := by decide +kernel
theorem d_Md_likeness_134 : decode prog_7_method_12_code 134 = .ok (.iconst (-1), 1) := by decide +kernel
theorem d_Md_likeness_135 : decode prog_7_method_12_code 135 = .ok (.if_icmp .eq 17, 3) := by decide +kernel
theorem d_Md_likeness_138 : decode prog_7_method_12_code 138 = .ok (.aload_n 0, 1) := by decide +kernel
theorem d_Md_likeness_139 : decode prog_7_method_12_code 139 = .ok (.getfield 34, 3) := by decide +kernel
theorem d_Md_likeness_142 : decode prog_7_method_12_code 142 = .ok (.iload_n 2, 1) := by decide +kernel
theorem d_Md_likeness_143 : decode prog_7_method_12_code 143 = .ok (.iaload, 1) := by decide +kernel
theorem d_Md_likeness_144 : decode prog_7_method_12_code 144 = .ok (.iconst (-1), 1) := by decide +kernel
theorem d_Md_likeness_145 : decode prog_7_method_12_code 145 = .ok (.if_icmp .eq 7, 3) := by decide +kernel
theorem d_Md_likeness_148 : decode prog_7_method_12_code 148 = .ok (.iconst 1, 1) := by decide +kernel
theorem d_Md_likeness_149 : decode prog_7_method_12_code 149 = .ok (.goto 4, 3) := by decide +kernel
theorem d_Md_likeness_152 : decode prog_7_method_12_code 152 = .ok (.iconst 0, 1) := by decide +kernel
theorem d_Md_likeness_153 : decode prog_7_method_12_code 153 = .ok (.istore 5, 2) := by decide +kernel
theorem d_Md_likeness_155 : decode prog_7_method_12_code 155 = .ok (.iload 5, 2) := by decide +kernel
theorem d_Md_likeness_157 : decode prog_7_method_12_code 157 = .ok (.ifCond .eq 37, 3) := by decide +kernel
theorem d_Md_likeness_160 : decode prog_7_method_12_code 160 = .ok (.aload_n 0, 1) := by decide +kernel
theorem d_Md_likeness_161 : decode prog_7_method_12_code 161 = .ok (.getfield 31, 3) := by decide +kernel
theorem d_Md_likeness_164 : decode prog_7_method_12_code 164 = .ok (.iload_n 1, 1) := by decide +kernel
theorem d_Md_likeness_165 : decode prog_7_method_12_code 165 = .ok (.iaload, 1) := by decide +kernel
theorem d_Md_likeness_166 : decode prog_7_method_12_code 166 = .ok (.aload_n 0, 1) := by decide +kernel
theorem d_Md_likeness_167 : decode prog_7_method_12_code 167 = .ok (.getfield 34, 3) := by decide +kernel
theorem d_Md_likeness_170 : decode prog_7_method_12_code 170 = .ok (.iload_n 2, 1) := by decide +kernel
theorem d_Md_likeness_171 : decode prog_7_method_12_code 171 = .ok (.iaload, 1) := by decide +kernel
theorem d_Md_likeness_172 : decode prog_7_method_12_code 172 = .ok (.if_icmp .gt 22, 3) := by decide +kernel
theorem d_Md_likeness_175 : decode prog_7_method_12_code 175 = .ok (.aload_n 0, 1) := by decide +kernel
theorem d_Md_likeness_176 : decode prog_7_method_12_code 176 = .ok (.getfield 31, 3) := by decide +kernel
theorem d_Md_likeness_179 : decode prog_7_method_12_code 179 = .ok (.iload_n 2, 1) := by decide +kernel
theorem d_Md_likeness_180 : decode prog_7_method_12_code 180 = .ok (.iaload, 1) := by decide +kernel
theorem d_Md_likeness_181 : decode prog_7_method_12_code 181 = .ok (.aload_n 0, 1) := by decide +kernel
theorem d_Md_likeness_182 : decode prog_7_method_12_code 182 = .ok (.getfield 34, 3) := by decide +kernel
theorem d_Md_likeness_185 : decode prog_7_method_12_code 185 = .ok (.iload_n 1, 1) := by decide +kernel
theorem d_Md_likeness_186 : decode prog_7_method_12_code 186 = .ok (.iaload, 1) := by decide +kernel
theorem d_Md_likeness_187 : decode prog_7_method_12_code 187 = .ok (.if_icmp .gt 7, 3) := by decide +kernel
theorem d_Md_likeness_190 : decode prog_7_method_12_code 190 = .ok (.iconst 1, 1) := by decide +kernel
theorem d_Md_likeness_191 : decode prog_7_method_12_code 191 = .ok (.goto 4, 3) := by decide +kernel
theorem d_Md_likeness_194 : decode prog_7_method_12_code 194 = .ok (.iconst 0, 1) := by decide +kernel
theorem d_Md_likeness_195 : decode prog_7_method_12_code 195 = .ok (.istore 6, 2) := by decide +kernel
theorem d_Md_likeness_197 : decode prog_7_method_12_code 197 = .ok (.iload_n 3, 1) := by decide +kernel
theorem d_Md_likeness_198 : decode prog_7_method_12_code 198 = .ok (.iload 4, 2) := by decide +kernel
theorem d_Md_likeness_200 : decode prog_7_method_12_code 200 = .ok (.ifCond .eq 7, 3) := by decide +kernel
theorem d_Md_likeness_203 : decode prog_7_method_12_code 203 = .ok (.iconst 2, 1) := by decide +kernel
theorem d_Md_likeness_204 : decode prog_7_method_12_code 204 = .ok (.goto 4, 3) := by decide +kernel
theorem d_Md_likeness_207 : decode prog_7_method_12_code 207 = .ok (.iconst 0, 1) := by decide +kernel
theorem d_Md_likeness_208 : decode prog_7_method_12_code 208 = .ok (.iadd, 1) := by decide +kernel
theorem d_Md_likeness_209 : decode prog_7_method_12_code 209 = .ok (.iload 6, 2) := by decide +kernel
theorem d_Md_likeness_211 : decode prog_7_method_12_code 211 = .ok (.ifCond .eq 7, 3) := by decide +kernel
theorem d_Md_likeness_214 : decode prog_7_method_12_code 214 = .ok (.iconst 3, 1) := by decide +kernel
theorem d_Md_likeness_215 : decode prog_7_method_12_code 215 = .ok (.goto 14, 3) := by decide +kernel
theorem d_Md_likeness_218 : decode prog_7_method_12_code 218 = .ok (.iload 5, 2) := by decide +kernel
theorem d_Md_likeness_220 : decode prog_7_method_12_code 220 = .ok (.ifCond .eq 8, 3) := by decide +kernel
theorem d_Md_likeness_223 : decode prog_7_method_12_code 223 = .ok (.bipush (-5), 2) := by decide +kernel
theorem d_Md_likeness_225 : decode prog_7_method_12_code 225 = .ok (.goto 4, 3) := by decide +kernel
theorem d_Md_likeness_228 : decode prog_7_method_12_code 228 = .ok (.iconst 0, 1) := by decide +kernel
theorem d_Md_likeness_229 : decode prog_7_method_12_code 229 = .ok (.iadd, 1) := by decide +kernel
theorem d_Md_likeness_230 : decode prog_7_method_12_code 230 = .ok (.ireturn, 1) := by decide +kernel
set_option maxHeartbeats 4000000 in
set_option maxRecDepth 100000 in
theorem c_Md_likeness (l : Launch) (D : va_G) (cs : Nat → ClassId) (N0 : Nat) (H : Heap) (x : Nat) (g : Nat → Nat) (i : Nat → Int32) (f : Nat → Nat → Int32) (a b : Nat) (hsep : md_sep N0 x g) (hI : md_I D cs H x g i f) (mn ln : Nat → Nat) (hV : wfV f mn ln) (ha : a < 24) (hb1 : b < 24) : Met l y_Md_likeness w_Md_likeness ({ frames := 1, cells := 0, slots := 0, locals := 25 }) (hPre D cs N0 [.ref x, .int (nI a), .int (nI b)] H) (hQi (fun r H' => ∃ R : Nat → Int32, md_I D cs H' x g i (setA f 21 R) ∧ r = likeV f ln mn a b) (md_A x g)) 0 0 (md_A x g) := by
  refine Met.ofW (cc := prog_7_method_12_code) (maxL := 8) (ret := (Option.some Jvm.ClassFile.FieldType.int)) (by decide) rfl ?_
  intro p e s m args below meth c s₁ B hml hv
  obtain ⟨rfl, rfl, hB⟩ := hv
  have hx := B.exec
  have hb := B.bytes
  have hr := B.returns
  have hts := atoms_spec (ws := w_Md_likeness) B.pre
  have htg : ∀ w ∈ gw, w.before _ s = true := fun w h => hts w (List.mem_cons_of_mem _ h)
  have hown : s.vm.findClass "NameMergesModel" = some m.cls := findClass_of_methodNamed B.named
  have hlocks := B.notSynchronized
  have hK := hB.1
  have hS : va_S (md_A x g) s.heap s.heap [] := va_S.rf
  obtain ⟨H, hH⟩ : ∃ z : Heap, z = s.heap := ⟨_, rfl⟩
  rw [← hH] at hI
  have hS : va_S (md_A x g) s.heap H [] := by rw [hH]; exact va_S.rf
  have hl := lv_entry ([.ref x, .int (nI a), .int (nI b)]) (n := 8) (Nat.le_of_ble_eq_true rfl)
  rw [lg_entry_eq, ← hH]
  generalize (lg_sl ([.ref x, .int (nI a), .int (nI b)]) ++ List.replicate (8 - (lg_sl ([.ref x, .int (nI a), .int (nI b)])).length) Slot.unset).toArray = ls at hl ⊢
  have hl : lv_has ls 8 [(0, .ref x), (1, .int (nI a)), (2, .int (nI b))] := hl
  have hma := (hV.1 a ha).2
  have hmb := (hV.1 b hb1).2
  refine lv_iconst (v := 0) hx hb d_Md_likeness_0 (by decide) ?_
  refine lv_istore_n (lv' := [(3, .int 0), (0, .ref x), (1, .int (nI a)), (2, .int (nI b))]) hx hb d_Md_likeness_1 rfl hl (by decide) rfl (fun ls hl => ?_)
  refine lv_iconst (v := 0) hx hb d_Md_likeness_2 (by decide) ?_
  refine lv_istore (lv' := [(4, .int 0), (3, .int 0), (0, .ref x), (1, .int (nI a)), (2, .int (nI b))]) hx hb d_Md_likeness_3 hl (by decide) rfl (fun ls hl => ?_)
  refine lv_iconst (v := 4) hx hb d_Md_likeness_5 (by decide) ?_
  refine lv_iload_n hx hb d_Md_likeness_6 rfl (lv_at hl 3 rfl) ?_
  refine lv_imul (x := 4) (y := (nI a)) hx hb d_Md_likeness_7 ?_
  refine lv_eqi (y := (nI (4 * a))) (pk_mul 4 a) ?_
  refine lv_istore (lv' := [(5, .int (nI (4 * a))), (4, .int 0), (3, .int 0), (0, .ref x), (1, .int (nI a)), (2, .int (nI b))]) hx hb d_Md_likeness_8 hl (by decide) rfl (fun ls hl => ?_)
  have loop10 : ∀ (fuel : Nat) (F2 : Nat → Nat → Int32) (B0 : Nat) (z0 : Bool) (j : Nat), mn a - j < fuel → (j ≤ mn a) → (∀ q, q ≠ 21 → F2 q = f q) → (mx2 f ln mn a b j = B0) → (anyTo (fun j => anyTo (samP f a b j) (mn b)) j = z0) → (B0 ≤ 240) → ∀ (H : Heap) (locs : List Loc), md_I D cs H x g i F2 → va_S (md_A x g) s.heap H locs → ∀ (ls : Array Slot), lv_has ls 8 [(0, .ref x), (1, .int (nI a)), (2, .int (nI b)), (3, .int (nI B0)), (4, .int (bI z0)), (5, .int (nI (4 * a + j)))] → W p l e (headSpec w_Md_likeness ({ frames := 1, cells := 0, slots := 0, locals := 25 })).room s m ([.ref x, .int (nI a), .int (nI b)] : List Value).toArray below meth c H locs 0 0 (MQ below (hQi (fun r H' => ∃ R : Nat → Int32, md_I D cs H' x g i (setA f 21 R) ∧ r = likeV f ln mn a b) (md_A x g)) ([.ref x, .int (nI a), .int (nI b)] : List Value).toArray s 0 0 (md_A x g)) (F0 m 10 ls []) := by
    intro fuel10
    induction fuel10 with
    | zero => intro F2 B0 z0 j hn; exact absurd hn (Nat.not_lt_zero _)
    | succ fuel10 ih10 =>
      intro F2 B0 z0 j hn10 hj hF2 hB0 hz0 hB240 H locs hI hS ls hl
      refine lv_iload hx hb d_Md_likeness_10 (lv_at hl 5 rfl) ?_
      refine lv_iconst (v := 4) hx hb d_Md_likeness_12 (by decide) ?_
      refine lv_iload_n hx hb d_Md_likeness_13 rfl (lv_at hl 1 rfl) ?_
      refine lv_imul (x := 4) (y := (nI a)) hx hb d_Md_likeness_14 ?_
      refine lv_eqi (y := (nI (4 * a))) (pk_mul 4 a) ?_
      refine lv_aload_n hx hb d_Md_likeness_15 rfl (lv_at hl 0 rfl) ?_
      refine hx_get (v := .ref (g 1)) hx hb htg iMd hown hK hI.1 rfl 4 (by decide) (htg _ (gw_mem (i := 1002) (by decide +kernel) rfl)) (fun _ h9 => h9) rfl d_Md_likeness_16 ?_
      refine lv_iload_n hx hb d_Md_likeness_19 rfl (lv_at hl 1 rfl) ?_
      refine hx_iald hx hb hK 0 (hI.2 1 (by decide)) rfl (show vp_in (nI a) 24 from vp_in_nI (n := a) (by omega) (by decide)) d_Md_likeness_20 ?_
      refine lv_eqi (y := (F2 1 a)) (show F2 1 (nI a).toNatClampNeg = _ by rw [nI_clamp (by omega)]) ?_
      refine lv_eqi (y := (nI (mn a))) (by rw [hF2 1 (by decide)]; exact (hV.1 a ha).1) ?_
      refine lv_iadd (x := (nI (4 * a))) (y := (nI (mn a))) hx hb d_Md_likeness_21 ?_
      refine lv_eqi (y := (nI (4 * a + mn a))) (nI_add (4 * a) (mn a)) ?_
      refine lv_icmp_ge (x := (nI (4 * a + j))) (y := (nI (4 * a + mn a))) (tgt := 128) hx hb d_Md_likeness_22 (by decide) (fun c22 => ?_) (fun c22 => ?_)
      · skip
        replace c22 : (4 * a + mn a) ≤ (4 * a + j) := (nI_leI (a := (4 * a + mn a)) (b := (4 * a + j)) (by omega) (by omega)).mp c22
        refine lv_aload_n hx hb d_Md_likeness_128 rfl (lv_at hl 0 rfl) ?_
        refine hx_get (v := .ref (g 8)) hx hb htg iMd hown hK hI.1 rfl 11 (by decide) (htg _ (gw_mem (i := 1009) (by decide +kernel) rfl)) (fun _ h9 => h9) rfl d_Md_likeness_129 ?_
        refine lv_iload_n hx hb d_Md_likeness_132 rfl (lv_at hl 1 rfl) ?_
        refine hx_iald hx hb hK 0 (hI.2 8 (by decide)) rfl (show vp_in (nI a) 24 from vp_in_nI (n := a) (by omega) (by decide)) d_Md_likeness_133 ?_
        refine lv_eqi (y := (F2 8 a)) (show F2 8 (nI a).toNatClampNeg = _ by rw [nI_clamp (by omega)]) ?_
        refine lv_eqi (y := (f 8 a)) (by rw [hF2 8 (by decide)]) ?_
        refine lv_iconst (v := (-1)) hx hb d_Md_likeness_134 (by decide) ?_
        refine lv_icmp_eq (x := (f 8 a)) (y := (-1)) (tgt := 152) hx hb d_Md_likeness_135 (by decide) (fun c135 => ?_) (fun c135 => ?_)
        · skip
          refine lv_iconst (v := 0) hx hb d_Md_likeness_152 (by decide) ?_
          refine lv_istore (lv' := [(5, .int 0), (0, .ref x), (1, .int (nI a)), (2, .int (nI b)), (3, .int (nI B0)), (4, .int (bI z0))]) hx hb d_Md_likeness_153 hl (by decide) rfl (fun ls hl => ?_)
          refine lv_iload hx hb d_Md_likeness_155 (lv_at hl 0 rfl) ?_
          refine lv_if_eq (x := 0) (tgt := 194) hx hb d_Md_likeness_157 (by decide) (fun c157 => ?_) (fun c157 => ?_)
          · skip
            refine lv_iconst (v := 0) hx hb d_Md_likeness_194 (by decide) ?_
            refine lv_istore (lv' := [(6, .int 0), (5, .int 0), (0, .ref x), (1, .int (nI a)), (2, .int (nI b)), (3, .int (nI B0)), (4, .int (bI z0))]) hx hb d_Md_likeness_195 hl (by decide) rfl (fun ls hl => ?_)
            refine lv_iload_n hx hb d_Md_likeness_197 rfl (lv_at hl 5 rfl) ?_
            refine lv_iload hx hb d_Md_likeness_198 (lv_at hl 6 rfl) ?_
            refine lv_if_eq (x := (bI z0)) (tgt := 207) hx hb d_Md_likeness_200 (by decide) (fun c200 => ?_) (fun c200 => ?_)
            · skip
              replace c200 : z0 = false := bI_0 c200
              refine lv_iconst (v := 0) hx hb d_Md_likeness_207 (by decide) ?_
              refine lv_iadd (x := (nI B0)) (y := 0) hx hb d_Md_likeness_208 ?_
              refine lv_iload hx hb d_Md_likeness_209 (lv_at hl 0 rfl) ?_
              refine lv_if_eq (x := 0) (tgt := 218) hx hb d_Md_likeness_211 (by decide) (fun c211 => ?_) (fun c211 => ?_)
              · skip
                refine lv_iload hx hb d_Md_likeness_218 (lv_at hl 1 rfl) ?_
                refine lv_if_eq (x := 0) (tgt := 228) hx hb d_Md_likeness_220 (by decide) (fun c220 => ?_) (fun c220 => ?_)
                · skip
                  refine lv_iconst (v := 0) hx hb d_Md_likeness_228 (by decide) ?_
                  refine lv_iadd (x := ((nI B0) + 0)) (y := 0) hx hb d_Md_likeness_229 ?_
                  exact W.iret (v := (((nI B0) + 0) + 0)) hx hb hr (fun t ht hW => ⟨⟨(((nI B0) + 0) + 0), H, rfl, ⟨F2 21, setA_of hF2 ▸ hI, by have e9 : j = mn a := (by omega); subst e9; unfold likeV samB togB datB; rw [hB0, hz0]; simp only [decide_eq_true c135, c200]; simp⟩, ht⟩, hS.F ht⟩) hS.2.2 d_Md_likeness_230
                · exact absurd c220 (by decide)
              · exact absurd c211 (by decide)
            · skip
              replace c200 : z0 = true := bI_1 c200
              refine lv_iconst (v := 2) hx hb d_Md_likeness_203 (by decide) ?_
              refine lv_goto (tgt := 208) hx hb d_Md_likeness_204 (by decide) ?_
              refine lv_iadd (x := (nI B0)) (y := 2) hx hb d_Md_likeness_208 ?_
              refine lv_iload hx hb d_Md_likeness_209 (lv_at hl 0 rfl) ?_
              refine lv_if_eq (x := 0) (tgt := 218) hx hb d_Md_likeness_211 (by decide) (fun c211 => ?_) (fun c211 => ?_)
              · skip
                refine lv_iload hx hb d_Md_likeness_218 (lv_at hl 1 rfl) ?_
                refine lv_if_eq (x := 0) (tgt := 228) hx hb d_Md_likeness_220 (by decide) (fun c220 => ?_) (fun c220 => ?_)
                · skip
                  refine lv_iconst (v := 0) hx hb d_Md_likeness_228 (by decide) ?_
                  refine lv_iadd (x := ((nI B0) + 2)) (y := 0) hx hb d_Md_likeness_229 ?_
                  exact W.iret (v := (((nI B0) + 2) + 0)) hx hb hr (fun t ht hW => ⟨⟨(((nI B0) + 2) + 0), H, rfl, ⟨F2 21, setA_of hF2 ▸ hI, by have e9 : j = mn a := (by omega); subst e9; unfold likeV samB togB datB; rw [hB0, hz0]; simp only [decide_eq_true c135, c200]; simp⟩, ht⟩, hS.F ht⟩) hS.2.2 d_Md_likeness_230
                · exact absurd c220 (by decide)
              · exact absurd c211 (by decide)
          · exact absurd c157 (by decide)
        · skip
          refine lv_aload_n hx hb d_Md_likeness_138 rfl (lv_at hl 0 rfl) ?_
          refine hx_get (v := .ref (g 8)) hx hb htg iMd hown hK hI.1 rfl 11 (by decide) (htg _ (gw_mem (i := 1009) (by decide +kernel) rfl)) (fun _ h9 => h9) rfl d_Md_likeness_139 ?_
          refine lv_iload_n hx hb d_Md_likeness_142 rfl (lv_at hl 2 rfl) ?_
          refine hx_iald hx hb hK 0 (hI.2 8 (by decide)) rfl (show vp_in (nI b) 24 from vp_in_nI (n := b) (by omega) (by decide)) d_Md_likeness_143 ?_
          refine lv_eqi (y := (F2 8 b)) (show F2 8 (nI b).toNatClampNeg = _ by rw [nI_clamp (by omega)]) ?_
          refine lv_eqi (y := (f 8 b)) (by rw [hF2 8 (by decide)]) ?_
          refine lv_iconst (v := (-1)) hx hb d_Md_likeness_144 (by decide) ?_
          refine lv_icmp_eq (x := (f 8 b)) (y := (-1)) (tgt := 152) hx hb d_Md_likeness_145 (by decide) (fun c145 => ?_) (fun c145 => ?_)
          · skip
            refine lv_iconst (v := 0) hx hb d_Md_likeness_152 (by decide) ?_
            refine lv_istore (lv' := [(5, .int 0), (0, .ref x), (1, .int (nI a)), (2, .int (nI b)), (3, .int (nI B0)), (4, .int (bI z0))]) hx hb d_Md_likeness_153 hl (by decide) rfl (fun ls hl => ?_)
            refine lv_iload hx hb d_Md_likeness_155 (lv_at hl 0 rfl) ?_
            refine lv_if_eq (x := 0) (tgt := 194) hx hb d_Md_likeness_157 (by decide) (fun c157 => ?_) (fun c157 => ?_)
            · skip
              refine lv_iconst (v := 0) hx hb d_Md_likeness_194 (by decide) ?_
              refine lv_istore (lv' := [(6, .int 0), (5, .int 0), (0, .ref x), (1, .int (nI a)), (2, .int (nI b)), (3, .int (nI B0)), (4, .int (bI z0))]) hx hb d_Md_likeness_195 hl (by decide) rfl (fun ls hl => ?_)
              refine lv_iload_n hx hb d_Md_likeness_197 rfl (lv_at hl 5 rfl) ?_
              refine lv_iload hx hb d_Md_likeness_198 (lv_at hl 6 rfl) ?_
              refine lv_if_eq (x := (bI z0)) (tgt := 207) hx hb d_Md_likeness_200 (by decide) (fun c200 => ?_) (fun c200 => ?_)
              · skip
                replace c200 : z0 = false := bI_0 c200
                refine lv_iconst (v := 0) hx hb d_Md_likeness_207 (by decide) ?_
                refine lv_iadd (x := (nI B0)) (y := 0) hx hb d_Md_likeness_208 ?_
                refine lv_iload hx hb d_Md_likeness_209 (lv_at hl 0 rfl) ?_
                refine lv_if_eq (x := 0) (tgt := 218) hx hb d_Md_likeness_211 (by decide) (fun c211 => ?_) (fun c211 => ?_)
                · skip
                  refine lv_iload hx hb d_Md_likeness_218 (lv_at hl 1 rfl) ?_
                  refine lv_if_eq (x := 0) (tgt := 228) hx hb d_Md_likeness_220 (by decide) (fun c220 => ?_) (fun c220 => ?_)
                  · skip
                    refine lv_iconst (v := 0) hx hb d_Md_likeness_228 (by decide) ?_
                    refine lv_iadd (x := ((nI B0) + 0)) (y := 0) hx hb d_Md_likeness_229 ?_
                    exact W.iret (v := (((nI B0) + 0) + 0)) hx hb hr (fun t ht hW => ⟨⟨(((nI B0) + 0) + 0), H, rfl, ⟨F2 21, setA_of hF2 ▸ hI, by have e9 : j = mn a := (by omega); subst e9; unfold likeV samB togB datB; rw [hB0, hz0]; simp only [decide_eq_false c135, decide_eq_true c145, c200]; simp⟩, ht⟩, hS.F ht⟩) hS.2.2 d_Md_likeness_230
                  · exact absurd c220 (by decide)
                · exact absurd c211 (by decide)
              · skip
                replace c200 : z0 = true := bI_1 c200
                refine lv_iconst (v := 2) hx hb d_Md_likeness_203 (by decide) ?_
                refine lv_goto (tgt := 208) hx hb d_Md_likeness_204 (by decide) ?_
                refine lv_iadd (x := (nI B0)) (y := 2) hx hb d_Md_likeness_208 ?_
                refine lv_iload hx hb d_Md_likeness_209 (lv_at hl 0 rfl) ?_
                refine lv_if_eq (x := 0) (tgt := 218) hx hb d_Md_likeness_211 (by decide) (fun c211 => ?_) (fun c211 => ?_)
                · skip
                  refine lv_iload hx hb d_Md_likeness_218 (lv_at hl 1 rfl) ?_
                  refine lv_if_eq (x := 0) (tgt := 228) hx hb d_Md_likeness_220 (by decide) (fun c220 => ?_) (fun c220 => ?_)
                  · skip
                    refine lv_iconst (v := 0) hx hb d_Md_likeness_228 (by decide) ?_
                    refine lv_iadd (x := ((nI B0) + 2)) (y := 0) hx hb d_Md_likeness_229 ?_
                    exact W.iret (v := (((nI B0) + 2) + 0)) hx hb hr (fun t ht hW => ⟨⟨(((nI B0) + 2) + 0), H, rfl, ⟨F2 21, setA_of hF2 ▸ hI, by have e9 : j = mn a := (by omega); subst e9; unfold likeV samB togB datB; rw [hB0, hz0]; simp only [decide_eq_false c135, decide_eq_true c145, c200]; simp⟩, ht⟩, hS.F ht⟩) hS.2.2 d_Md_likeness_230
                  · exact absurd c220 (by decide)
                · exact absurd c211 (by decide)
            · exact absurd c157 (by decide)
          · skip
            refine lv_iconst (v := 1) hx hb d_Md_likeness_148 (by decide) ?_
            refine lv_goto (tgt := 153) hx hb d_Md_likeness_149 (by decide) ?_
            refine lv_istore (lv' := [(5, .int 1), (0, .ref x), (1, .int (nI a)), (2, .int (nI b)), (3, .int (nI B0)), (4, .int (bI z0))]) hx hb d_Md_likeness_153 hl (by decide) rfl (fun ls hl => ?_)
            refine lv_iload hx hb d_Md_likeness_155 (lv_at hl 0 rfl) ?_
            refine lv_if_eq (x := 1) (tgt := 194) hx hb d_Md_likeness_157 (by decide) (fun c157 => ?_) (fun c157 => ?_)
            · exact absurd c157 (by decide)
            · skip
              refine lv_aload_n hx hb d_Md_likeness_160 rfl (lv_at hl 1 rfl) ?_
              refine hx_get (v := .ref (g 7)) hx hb htg iMd hown hK hI.1 rfl 10 (by decide) (htg _ (gw_mem (i := 1008) (by decide +kernel) rfl)) (fun _ h9 => h9) rfl d_Md_likeness_161 ?_
              refine lv_iload_n hx hb d_Md_likeness_164 rfl (lv_at hl 2 rfl) ?_
              refine hx_iald hx hb hK 0 (hI.2 7 (by decide)) rfl (show vp_in (nI a) 24 from vp_in_nI (n := a) (by omega) (by decide)) d_Md_likeness_165 ?_
              refine lv_eqi (y := (F2 7 a)) (show F2 7 (nI a).toNatClampNeg = _ by rw [nI_clamp (by omega)]) ?_
              refine lv_eqi (y := (f 7 a)) (by rw [hF2 7 (by decide)]) ?_
              refine lv_aload_n hx hb d_Md_likeness_166 rfl (lv_at hl 1 rfl) ?_
              refine hx_get (v := .ref (g 8)) hx hb htg iMd hown hK hI.1 rfl 11 (by decide) (htg _ (gw_mem (i := 1009) (by decide +kernel) rfl)) (fun _ h9 => h9) rfl d_Md_likeness_167 ?_
              refine lv_iload_n hx hb d_Md_likeness_170 rfl (lv_at hl 3 rfl) ?_
              refine hx_iald hx hb hK 0 (hI.2 8 (by decide)) rfl (show vp_in (nI b) 24 from vp_in_nI (n := b) (by omega) (by decide)) d_Md_likeness_171 ?_
              refine lv_eqi (y := (F2 8 b)) (show F2 8 (nI b).toNatClampNeg = _ by rw [nI_clamp (by omega)]) ?_
              refine lv_eqi (y := (f 8 b)) (by rw [hF2 8 (by decide)]) ?_
              refine lv_icmp_gt (x := (f 7 a)) (y := (f 8 b)) (tgt := 194) hx hb d_Md_likeness_172 (by decide) (fun c172 => ?_) (fun c172 => ?_)
              · skip
                refine lv_iconst (v := 0) hx hb d_Md_likeness_194 (by decide) ?_
                refine lv_istore (lv' := [(6, .int 0), (5, .int 1), (0, .ref x), (1, .int (nI a)), (2, .int (nI b)), (3, .int (nI B0)), (4, .int (bI z0))]) hx hb d_Md_likeness_195 hl (by decide) rfl (fun ls hl => ?_)
                refine lv_iload_n hx hb d_Md_likeness_197 rfl (lv_at hl 5 rfl) ?_
                refine lv_iload hx hb d_Md_likeness_198 (lv_at hl 6 rfl) ?_
                refine lv_if_eq (x := (bI z0)) (tgt := 207) hx hb d_Md_likeness_200 (by decide) (fun c200 => ?_) (fun c200 => ?_)
                · skip
                  replace c200 : z0 = false := bI_0 c200
                  refine lv_iconst (v := 0) hx hb d_Md_likeness_207 (by decide) ?_
                  refine lv_iadd (x := (nI B0)) (y := 0) hx hb d_Md_likeness_208 ?_
                  refine lv_iload hx hb d_Md_likeness_209 (lv_at hl 0 rfl) ?_
                  refine lv_if_eq (x := 0) (tgt := 218) hx hb d_Md_likeness_211 (by decide) (fun c211 => ?_) (fun c211 => ?_)
                  · skip
                    refine lv_iload hx hb d_Md_likeness_218 (lv_at hl 1 rfl) ?_
                    refine lv_if_eq (x := 1) (tgt := 228) hx hb d_Md_likeness_220 (by decide) (fun c220 => ?_) (fun c220 => ?_)
                    · exact absurd c220 (by decide)
                    · skip
                      refine lv_bipush (v := (-5)) hx hb d_Md_likeness_223 (by decide) ?_
                      refine lv_goto (tgt := 229) hx hb d_Md_likeness_225 (by decide) ?_
                      refine lv_iadd (x := ((nI B0) + 0)) (y := (-5)) hx hb d_Md_likeness_229 ?_
                      exact W.iret (v := (((nI B0) + 0) + (-5))) hx hb hr (fun t ht hW => ⟨⟨(((nI B0) + 0) + (-5)), H, rfl, ⟨F2 21, setA_of hF2 ▸ hI, by have e9 : j = mn a := (by omega); subst e9; unfold likeV samB togB datB; rw [hB0, hz0]; simp only [decide_eq_false c135, decide_eq_false c145, decide_eq_true c172, c200]; simp⟩, ht⟩, hS.F ht⟩) hS.2.2 d_Md_likeness_230
                  · exact absurd c211 (by decide)
                · skip
                  replace c200 : z0 = true := bI_1 c200
                  refine lv_iconst (v := 2) hx hb d_Md_likeness_203 (by decide) ?_
                  refine lv_goto (tgt := 208) hx hb d_Md_likeness_204 (by decide) ?_
                  refine lv_iadd (x := (nI B0)) (y := 2) hx hb d_Md_likeness_208 ?_
                  refine lv_iload hx hb d_Md_likeness_209 (lv_at hl 0 rfl) ?_
                  refine lv_if_eq (x := 0) (tgt := 218) hx hb d_Md_likeness_211 (by decide) (fun c211 => ?_) (fun c211 => ?_)
                  · skip
                    refine lv_iload hx hb d_Md_likeness_218 (lv_at hl 1 rfl) ?_
                    refine lv_if_eq (x := 1) (tgt := 228) hx hb d_Md_likeness_220 (by decide) (fun c220 => ?_) (fun c220 => ?_)
                    · exact absurd c220 (by decide)
                    · skip
                      refine lv_bipush (v := (-5)) hx hb d_Md_likeness_223 (by decide) ?_
                      refine lv_goto (tgt := 229) hx hb d_Md_likeness_225 (by decide) ?_
                      refine lv_iadd (x := ((nI B0) + 2)) (y := (-5)) hx hb d_Md_likeness_229 ?_
                      exact W.iret (v := (((nI B0) + 2) + (-5))) hx hb hr (fun t ht hW => ⟨⟨(((nI B0) + 2) + (-5)), H, rfl, ⟨F2 21, setA_of hF2 ▸ hI, by have e9 : j = mn a := (by omega); subst e9; unfold likeV samB togB datB; rw [hB0, hz0]; simp only [decide_eq_false c135, decide_eq_false c145, decide_eq_true c172, c200]; simp⟩, ht⟩, hS.F ht⟩) hS.2.2 d_Md_likeness_230
                  · exact absurd c211 (by decide)
              · skip
                refine lv_aload_n hx hb d_Md_likeness_175 rfl (lv_at hl 1 rfl) ?_
                refine hx_get (v := .ref (g 7)) hx hb htg iMd hown hK hI.1 rfl 10 (by decide) (htg _ (gw_mem (i := 1008) (by decide +kernel) rfl)) (fun _ h9 => h9) rfl d_Md_likeness_176 ?_
                refine lv_iload_n hx hb d_Md_likeness_179 rfl (lv_at hl 3 rfl) ?_
                refine hx_iald hx hb hK 0 (hI.2 7 (by decide)) rfl (show vp_in (nI b) 24 from vp_in_nI (n := b) (by omega) (by decide)) d_Md_likeness_180 ?_
                refine lv_eqi (y := (F2 7 b)) (show F2 7 (nI b).toNatClampNeg = _ by rw [nI_clamp (by omega)]) ?_
                refine lv_eqi (y := (f 7 b)) (by rw [hF2 7 (by decide)]) ?_
                refine lv_aload_n hx hb d_Md_likeness_181 rfl (lv_at hl 1 rfl) ?_
                refine hx_get (v := .ref (g 8)) hx hb htg iMd hown hK hI.1 rfl 11 (by decide) (htg _ (gw_mem (i := 1009) (by decide +kernel) rfl)) (fun _ h9 => h9) rfl d_Md_likeness_182 ?_
                refine lv_iload_n hx hb d_Md_likeness_185 rfl (lv_at hl 2 rfl) ?_
                refine hx_iald hx hb hK 0 (hI.2 8 (by decide)) rfl (show vp_in (nI a) 24 from vp_in_nI (n := a) (by omega) (by decide)) d_Md_likeness_186 ?_
                refine lv_eqi (y := (F2 8 a)) (show F2 8 (nI a).toNatClampNeg = _ by rw [nI_clamp (by omega)]) ?_
                refine lv_eqi (y := (f 8 a)) (by rw [hF2 8 (by decide)]) ?_
                refine lv_icmp_gt (x := (f 7 b)) (y := (f 8 a)) (tgt := 194) hx hb d_Md_likeness_187 (by decide) (fun c187 => ?_) (fun c187 => ?_)
                · skip
                  refine lv_iconst (v := 0) hx hb d_Md_likeness_194 (by decide) ?_
                  refine lv_istore (lv' := [(6, .int 0), (5, .int 1), (0, .ref x), (1, .int (nI a)), (2, .int (nI b)), (3, .int (nI B0)), (4, .int (bI z0))]) hx hb d_Md_likeness_195 hl (by decide) rfl (fun ls hl => ?_)
                  refine lv_iload_n hx hb d_Md_likeness_197 rfl (lv_at hl 5 rfl) ?_
                  refine lv_iload hx hb d_Md_likeness_198 (lv_at hl 6 rfl) ?_
                  refine lv_if_eq (x := (bI z0)) (tgt := 207) hx hb d_Md_likeness_200 (by decide) (fun c200 => ?_) (fun c200 => ?_)
                  · skip
                    replace c200 : z0 = false := bI_0 c200
                    refine lv_iconst (v := 0) hx hb d_Md_likeness_207 (by decide) ?_
                    refine lv_iadd (x := (nI B0)) (y := 0) hx hb d_Md_likeness_208 ?_
                    refine lv_iload hx hb d_Md_likeness_209 (lv_at hl 0 rfl) ?_
                    refine lv_if_eq (x := 0) (tgt := 218) hx hb d_Md_likeness_211 (by decide) (fun c211 => ?_) (fun c211 => ?_)
                    · skip
                      refine lv_iload hx hb d_Md_likeness_218 (lv_at hl 1 rfl) ?_
                      refine lv_if_eq (x := 1) (tgt := 228) hx hb d_Md_likeness_220 (by decide) (fun c220 => ?_) (fun c220 => ?_)
                      · exact absurd c220 (by decide)
                      · skip
                        refine lv_bipush (v := (-5)) hx hb d_Md_likeness_223 (by decide) ?_
                        refine lv_goto (tgt := 229) hx hb d_Md_likeness_225 (by decide) ?_
                        refine lv_iadd (x := ((nI B0) + 0)) (y := (-5)) hx hb d_Md_likeness_229 ?_
                        exact W.iret (v := (((nI B0) + 0) + (-5))) hx hb hr (fun t ht hW => ⟨⟨(((nI B0) + 0) + (-5)), H, rfl, ⟨F2 21, setA_of hF2 ▸ hI, by have e9 : j = mn a := (by omega); subst e9; unfold likeV samB togB datB; rw [hB0, hz0]; simp only [decide_eq_false c135, decide_eq_false c145, decide_eq_false c172, decide_eq_true c187, c200]; simp⟩, ht⟩, hS.F ht⟩) hS.2.2 d_Md_likeness_230
                    · exact absurd c211 (by decide)
                  · skip
                    replace c200 : z0 = true := bI_1 c200
                    refine lv_iconst (v := 2) hx hb d_Md_likeness_203 (by decide) ?_
                    refine lv_goto (tgt := 208) hx hb d_Md_likeness_204 (by decide) ?_
                    refine lv_iadd (x := (nI B0)) (y := 2) hx hb d_Md_likeness_208 ?_
                    refine lv_iload hx hb d_Md_likeness_209 (lv_at hl 0 rfl) ?_
                    refine lv_if_eq (x := 0) (tgt := 218) hx hb d_Md_likeness_211 (by decide) (fun c211 => ?_) (fun c211 => ?_)
                    · skip
                      refine lv_iload hx hb d_Md_likeness_218 (lv_at hl 1 rfl) ?_
                      refine lv_if_eq (x := 1) (tgt := 228) hx hb d_Md_likeness_220 (by decide) (fun c220 => ?_) (fun c220 => ?_)
                      · exact absurd c220 (by decide)
                      · skip
                        refine lv_bipush (v := (-5)) hx hb d_Md_likeness_223 (by decide) ?_
                        refine lv_goto (tgt := 229) hx hb d_Md_likeness_225 (by decide) ?_
                        refine lv_iadd (x := ((nI B0) + 2)) (y := (-5)) hx hb d_Md_likeness_229 ?_
                        exact W.iret (v := (((nI B0) + 2) + (-5))) hx hb hr (fun t ht hW => ⟨⟨(((nI B0) + 2) + (-5)), H, rfl, ⟨F2 21, setA_of hF2 ▸ hI, by have e9 : j = mn a := (by omega); subst e9; unfold likeV samB togB datB; rw [hB0, hz0]; simp only [decide_eq_false c135, decide_eq_false c145, decide_eq_false c172, decide_eq_true c187, c200]; simp⟩, ht⟩, hS.F ht⟩) hS.2.2 d_Md_likeness_230
                    · exact absurd c211 (by decide)
                · skip
                  refine lv_iconst (v := 1) hx hb d_Md_likeness_190 (by decide) ?_
                  refine lv_goto (tgt := 195) hx hb d_Md_likeness_191 (by decide) ?_
                  refine lv_istore (lv' := [(6, .int 1), (5, .int 1), (0, .ref x), (1, .int (nI a)), (2, .int (nI b)), (3, .int (nI B0)), (4, .int (bI z0))]) hx hb d_Md_likeness_195 hl (by decide) rfl (fun ls hl => ?_)
                  refine lv_iload_n hx hb d_Md_likeness_197 rfl (lv_at hl 5 rfl) ?_
                  refine lv_iload hx hb d_Md_likeness_198 (lv_at hl 6 rfl) ?_
                  refine lv_if_eq (x := (bI z0)) (tgt := 207) hx hb d_Md_likeness_200 (by decide) (fun c200 => ?_) (fun c200 => ?_)
                  · skip
                    replace c200 : z0 = false := bI_0 c200
                    refine lv_iconst (v := 0) hx hb d_Md_likeness_207 (by decide) ?_
                    refine lv_iadd (x := (nI B0)) (y := 0) hx hb d_Md_likeness_208 ?_
                    refine lv_iload hx hb d_Md_likeness_209 (lv_at hl 0 rfl) ?_
                    refine lv_if_eq (x := 1) (tgt := 218) hx hb d_Md_likeness_211 (by decide) (fun c211 => ?_) (fun c211 => ?_)
                    · exact absurd c211 (by decide)
                    · skip
                      refine lv_iconst (v := 3) hx hb d_Md_likeness_214 (by decide) ?_
                      refine lv_goto (tgt := 229) hx hb d_Md_likeness_215 (by decide) ?_
                      refine lv_iadd (x := ((nI B0) + 0)) (y := 3) hx hb d_Md_likeness_229 ?_
                      exact W.iret (v := (((nI B0) + 0) + 3)) hx hb hr (fun t ht hW => ⟨⟨(((nI B0) + 0) + 3), H, rfl, ⟨F2 21, setA_of hF2 ▸ hI, by have e9 : j = mn a := (by omega); subst e9; unfold likeV samB togB datB; rw [hB0, hz0]; simp only [decide_eq_false c135, decide_eq_false c145, decide_eq_false c172, decide_eq_false c187, c200]; simp⟩, ht⟩, hS.F ht⟩) hS.2.2 d_Md_likeness_230
                  · skip
                    replace c200 : z0 = true := bI_1 c200
                    refine lv_iconst (v := 2) hx hb d_Md_likeness_203 (by decide) ?_
                    refine lv_goto (tgt := 208) hx hb d_Md_likeness_204 (by decide) ?_
                    refine lv_iadd (x := (nI B0)) (y := 2) hx hb d_Md_likeness_208 ?_
                    refine lv_iload hx hb d_Md_likeness_209 (lv_at hl 0 rfl) ?_
                    refine lv_if_eq (x := 1) (tgt := 218) hx hb d_Md_likeness_211 (by decide) (fun c211 => ?_) (fun c211 => ?_)
                    · exact absurd c211 (by decide)
                    · skip
                      refine lv_iconst (v := 3) hx hb d_Md_likeness_214 (by decide) ?_
                      refine lv_goto (tgt := 229) hx hb d_Md_likeness_215 (by decide) ?_
                      refine lv_iadd (x := ((nI B0) + 2)) (y := 3) hx hb d_Md_likeness_229 ?_
                      exact W.iret (v := (((nI B0) + 2) + 3)) hx hb hr (fun t ht hW => ⟨⟨(((nI B0) + 2) + 3), H, rfl, ⟨F2 21, setA_of hF2 ▸ hI, by have e9 : j = mn a := (by omega); subst e9; unfold likeV samB togB datB; rw [hB0, hz0]; simp only [decide_eq_false c135, decide_eq_false c145, decide_eq_false c172, decide_eq_false c187, c200]; simp⟩, ht⟩, hS.F ht⟩) hS.2.2 d_Md_likeness_230
      · skip
        replace c22 : ¬ ((4 * a + mn a) ≤ (4 * a + j)) := fun z9 => c22 ((nI_leI (a := (4 * a + mn a)) (b := (4 * a + j)) (by omega) (by omega)).mpr z9)
        refine lv_iconst (v := 4) hx hb d_Md_likeness_25 (by decide) ?_
        refine lv_iload_n hx hb d_Md_likeness_26 rfl (lv_at hl 2 rfl) ?_
        refine lv_imul (x := 4) (y := (nI b)) hx hb d_Md_likeness_27 ?_
        refine lv_eqi (y := (nI (4 * b))) (pk_mul 4 b) ?_
        refine lv_istore (lv' := [(6, .int (nI (4 * b))), (0, .ref x), (1, .int (nI a)), (2, .int (nI b)), (3, .int (nI B0)), (4, .int (bI z0)), (5, .int (nI (4 * a + j)))]) hx hb d_Md_likeness_28 hl (by decide) rfl (fun ls hl => ?_)
        have loop30 : ∀ (fuel : Nat) (F3 : Nat → Nat → Int32) (B : Nat) (z : Bool) (k : Nat), mn b - k < fuel → (k ≤ mn b) → (∀ q, q ≠ 21 → F3 q = f q) → (mxTo (ptP f ln a b j) B0 k = B) → ((z0 || anyTo (samP f a b j) k) = z) → (B ≤ 240) → ∀ (H : Heap) (locs : List Loc), md_I D cs H x g i F3 → va_S (md_A x g) s.heap H locs → ∀ (ls : Array Slot), lv_has ls 8 [(0, .ref x), (1, .int (nI a)), (2, .int (nI b)), (3, .int (nI B)), (4, .int (bI z)), (5, .int (nI (4 * a + j))), (6, .int (nI (4 * b + k)))] → W p l e (headSpec w_Md_likeness ({ frames := 1, cells := 0, slots := 0, locals := 25 })).room s m ([.ref x, .int (nI a), .int (nI b)] : List Value).toArray below meth c H locs 0 0 (MQ below (hQi (fun r H' => ∃ R : Nat → Int32, md_I D cs H' x g i (setA f 21 R) ∧ r = likeV f ln mn a b) (md_A x g)) ([.ref x, .int (nI a), .int (nI b)] : List Value).toArray s 0 0 (md_A x g)) (F0 m 30 ls []) := by
          intro fuel30
          induction fuel30 with
          | zero => intro F3 B z k hn; exact absurd hn (Nat.not_lt_zero _)
          | succ fuel30 ih30 =>
            intro F3 B z k hn30 hk hF3 hB9 hz9 hBB H locs hI hS ls hl
            refine lv_iload hx hb d_Md_likeness_30 (lv_at hl 6 rfl) ?_
            refine lv_iconst (v := 4) hx hb d_Md_likeness_32 (by decide) ?_
            refine lv_iload_n hx hb d_Md_likeness_33 rfl (lv_at hl 2 rfl) ?_
            refine lv_imul (x := 4) (y := (nI b)) hx hb d_Md_likeness_34 ?_
            refine lv_eqi (y := (nI (4 * b))) (pk_mul 4 b) ?_
            refine lv_aload_n hx hb d_Md_likeness_35 rfl (lv_at hl 0 rfl) ?_
            refine hx_get (v := .ref (g 1)) hx hb htg iMd hown hK hI.1 rfl 4 (by decide) (htg _ (gw_mem (i := 1002) (by decide +kernel) rfl)) (fun _ h9 => h9) rfl d_Md_likeness_36 ?_
            refine lv_iload_n hx hb d_Md_likeness_39 rfl (lv_at hl 2 rfl) ?_
            refine hx_iald hx hb hK 0 (hI.2 1 (by decide)) rfl (show vp_in (nI b) 24 from vp_in_nI (n := b) (by omega) (by decide)) d_Md_likeness_40 ?_
            refine lv_eqi (y := (F3 1 b)) (show F3 1 (nI b).toNatClampNeg = _ by rw [nI_clamp (by omega)]) ?_
            refine lv_eqi (y := (nI (mn b))) (by rw [hF3 1 (by decide)]; exact (hV.1 b hb1).1) ?_
            refine lv_iadd (x := (nI (4 * b))) (y := (nI (mn b))) hx hb d_Md_likeness_41 ?_
            refine lv_eqi (y := (nI (4 * b + mn b))) (nI_add (4 * b) (mn b)) ?_
            refine lv_icmp_ge (x := (nI (4 * b + k))) (y := (nI (4 * b + mn b))) (tgt := 122) hx hb d_Md_likeness_42 (by decide) (fun c42 => ?_) (fun c42 => ?_)
            · skip
              replace c42 : (4 * b + mn b) ≤ (4 * b + k) := (nI_leI (a := (4 * b + mn b)) (b := (4 * b + k)) (by omega) (by omega)).mp c42
              refine lv_iinc (v := (nI (4 * a + j + 1))) (lv' := [(5, .int (nI (4 * a + j + 1))), (0, .ref x), (1, .int (nI a)), (2, .int (nI b)), (3, .int (nI B)), (4, .int (bI z)), (6, .int (nI (4 * b + k)))]) hx hb d_Md_likeness_122 hl (k := 5) rfl (nI_1 (4 * a + j)) (by decide) rfl (fun ls hl => ?_)
              refine lv_goto (tgt := 10) hx hb d_Md_likeness_125 (by decide) ?_
              exact ih10  _ B z (j + 1) (by omega) (by omega) hF3 (by have e9 : k = mn b := (by omega); subst e9; rw [mx2, hB0, hB9]) (by rw [anyTo, hz0]; have e9 : k = mn b := (by omega); subst e9; exact hz9) hBB _ _ hI hS ls (lv_sub hl [1, 2, 3, 4, 5, 0] rfl)
            · skip
              replace c42 : ¬ ((4 * b + mn b) ≤ (4 * b + k)) := fun z9 => c42 ((nI_leI (a := (4 * b + mn b)) (b := (4 * b + k)) (by omega) (by omega)).mpr z9)
              have hlv := hV.2.1 (4 * a + j) (by omega)
              have hlw := hV.2.1 (4 * b + k) (by omega)
              have hl1 := hV.2.2 a j ha (by omega)
              have hlc := lcsV_le (f := f) (ln := ln) (v := 4 * a + j) hlw.2
              have hpt := ptsV_le (f := f) (ln := ln) (v := 4 * a + j) hlw.2
              refine lv_bipush (v := 20) hx hb d_Md_likeness_45 (by decide) ?_
              refine lv_aload_n hx hb d_Md_likeness_47 rfl (lv_at hl 0 rfl) ?_
              refine lv_iload hx hb d_Md_likeness_48 (lv_at hl 5 rfl) ?_
              refine lv_iload hx hb d_Md_likeness_50 (lv_at hl 6 rfl) ?_
              refine h_calli (va_runV (As := [.int (nI (4 * a + j)), .int (nI (4 * b + k))]) (rest := [.int 20]) ⟨hx, hb, hml, hown, htg⟩ (c_Md_common l D cs N0 H x g i F3 (4 * a + j) (4 * b + k) hsep hI ln ((agr.of21 hF3).wf hV).2.1 (by omega) (by omega)) (cwV 2 htg (gw_V (gw_mem (i := 1128) (by decide +kernel) rfl) (gw_mem (i := 1130) (by decide +kernel) rfl) (gw_mem (i := 21) (by decide +kernel) rfl) (gw_mem (i := 38) (by decide +kernel) rfl) (gw_mem (i := 1131) (by decide +kernel) rfl)) rfl rfl rfl (by decide +kernel) ⟨Nat.le_of_ble_eq_true rfl, Nat.le_of_ble_eq_true rfl⟩) ⟨hPre.blind, hx_recv hK (ci := 0) rfl hI.1, hPre.at hB hS hsep.A⟩ rfl rfl hl.1 rfl (lv_room (Nat.le_of_ble_eq_true rfl)) d_Md_likeness_52 ⟨Nat.zero_le _, Nat.zero_le _⟩) hS (fun _ h => h) (fun r52 H locs hp hz hk hS => ?_)
              obtain ⟨R, hI, er52⟩ := hp
              refine lv_eqi (y := (nI (lcsV f ln (4 * a + j) (4 * b + k)))) (er52.trans (by rw [(agr.of21 hF3).lcs])) ?_
              refine lv_imul (x := 20) (y := (nI (lcsV f ln (4 * a + j) (4 * b + k)))) hx hb d_Md_likeness_55 ?_
              refine lv_eqi (y := (nI (20 * (lcsV f ln (4 * a + j) (4 * b + k))))) (pk_mul 20 (lcsV f ln (4 * a + j) (4 * b + k))) ?_
              refine lv_aload_n hx hb d_Md_likeness_56 rfl (lv_at hl 0 rfl) ?_
              refine hx_get (v := .ref (g 2)) hx hb htg iMd hown hK hI.1 rfl 5 (by decide) (htg _ (gw_mem (i := 1003) (by decide +kernel) rfl)) (fun _ h9 => h9) rfl d_Md_likeness_57 ?_
              refine lv_iload hx hb d_Md_likeness_60 (lv_at hl 5 rfl) ?_
              refine hx_iald hx hb hK 0 (hI.2 2 (by decide)) rfl (show vp_in (nI (4 * a + j)) 96 from vp_in_nI (n := 4 * a + j) (by omega) (by decide)) d_Md_likeness_62 ?_
              refine lv_eqi (y := ((setA F3 21 R) 2 (4 * a + j))) (show (setA F3 21 R) 2 (nI (4 * a + j)).toNatClampNeg = _ by rw [nI_clamp (by omega)]) ?_
              refine lv_eqi (y := (nI (ln (4 * a + j)))) (by rw [setA_ne (by decide), hF3 2 (by decide)]; exact hlv.1) ?_
              refine lv_aload_n hx hb d_Md_likeness_63 rfl (lv_at hl 0 rfl) ?_
              refine hx_get (v := .ref (g 2)) hx hb htg iMd hown hK hI.1 rfl 5 (by decide) (htg _ (gw_mem (i := 1003) (by decide +kernel) rfl)) (fun _ h9 => h9) rfl d_Md_likeness_64 ?_
              refine lv_iload hx hb d_Md_likeness_67 (lv_at hl 6 rfl) ?_
              refine hx_iald hx hb hK 0 (hI.2 2 (by decide)) rfl (show vp_in (nI (4 * b + k)) 96 from vp_in_nI (n := 4 * b + k) (by omega) (by decide)) d_Md_likeness_69 ?_
              refine lv_eqi (y := ((setA F3 21 R) 2 (4 * b + k))) (show (setA F3 21 R) 2 (nI (4 * b + k)).toNatClampNeg = _ by rw [nI_clamp (by omega)]) ?_
              refine lv_eqi (y := (nI (ln (4 * b + k)))) (by rw [setA_ne (by decide), hF3 2 (by decide)]; exact hlw.1) ?_
              refine lv_iadd (x := (nI (ln (4 * a + j)))) (y := (nI (ln (4 * b + k)))) hx hb d_Md_likeness_70 ?_
              refine lv_eqi (y := (nI (ln (4 * a + j) + ln (4 * b + k)))) (nI_add (ln (4 * a + j)) (ln (4 * b + k))) ?_
              refine lv_idiv (x := (nI (20 * (lcsV f ln (4 * a + j) (4 * b + k))))) (y := (nI (ln (4 * a + j) + ln (4 * b + k)))) hx hb d_Md_likeness_71 (nI_ne0 (n := ln (4 * a + j) + ln (4 * b + k)) (by omega) (by omega)) ?_
              refine lv_eqi (y := (nI (ptsV f ln (4 * a + j) (4 * b + k)))) (pk_div (a := 20 * lcsV f ln (4 * a + j) (4 * b + k)) (d := ln (4 * a + j) + ln (4 * b + k)) (by omega) (by omega) (by omega)) ?_
              refine lv_istore (lv' := [(7, .int (nI (ptsV f ln (4 * a + j) (4 * b + k)))), (0, .ref x), (1, .int (nI a)), (2, .int (nI b)), (3, .int (nI B)), (4, .int (bI z)), (5, .int (nI (4 * a + j))), (6, .int (nI (4 * b + k)))]) hx hb d_Md_likeness_72 hl (by decide) rfl (fun ls hl => ?_)
              refine lv_iload hx hb d_Md_likeness_74 (lv_at hl 0 rfl) ?_
              refine lv_iload_n hx hb d_Md_likeness_76 rfl (lv_at hl 4 rfl) ?_
              refine lv_icmp_le (x := (nI (ptsV f ln (4 * a + j) (4 * b + k)))) (y := (nI B)) (tgt := 85) hx hb d_Md_likeness_77 (by decide) (fun c77 => ?_) (fun c77 => ?_)
              · skip
                replace c77 : (ptsV f ln (4 * a + j) (4 * b + k)) ≤ B := (nI_leI (a := (ptsV f ln (4 * a + j) (4 * b + k))) (b := B) (by omega) (by omega)).mp c77
                refine lv_iload_n hx hb d_Md_likeness_85 rfl (lv_at hl 4 rfl) ?_
                refine lv_istore_n (lv' := [(3, .int (nI B)), (7, .int (nI (ptsV f ln (4 * a + j) (4 * b + k)))), (0, .ref x), (1, .int (nI a)), (2, .int (nI b)), (4, .int (bI z)), (5, .int (nI (4 * a + j))), (6, .int (nI (4 * b + k)))]) hx hb d_Md_likeness_86 rfl hl (by decide) rfl (fun ls hl => ?_)
                refine lv_iload hx hb d_Md_likeness_87 (lv_at hl 5 rfl) ?_
                refine lv_if_ne (x := (bI z)) (tgt := 109) hx hb d_Md_likeness_89 (by decide) (fun c89 => ?_) (fun c89 => ?_)
                · skip
                  replace c89 : z = true := bI_1 c89
                  refine lv_iconst (v := 1) hx hb d_Md_likeness_109 (by decide) ?_
                  refine lv_goto (tgt := 114) hx hb d_Md_likeness_110 (by decide) ?_
                  refine lv_istore (lv' := [(4, .int 1), (3, .int (nI B)), (7, .int (nI (ptsV f ln (4 * a + j) (4 * b + k)))), (0, .ref x), (1, .int (nI a)), (2, .int (nI b)), (5, .int (nI (4 * a + j))), (6, .int (nI (4 * b + k)))]) hx hb d_Md_likeness_114 hl (by decide) rfl (fun ls hl => ?_)
                  refine lv_iinc (v := (nI (4 * b + k + 1))) (lv' := [(6, .int (nI (4 * b + k + 1))), (4, .int 1), (3, .int (nI B)), (7, .int (nI (ptsV f ln (4 * a + j) (4 * b + k)))), (0, .ref x), (1, .int (nI a)), (2, .int (nI b)), (5, .int (nI (4 * a + j)))]) hx hb d_Md_likeness_116 hl (k := 7) rfl (nI_1 (4 * b + k)) (by decide) rfl (fun ls hl => ?_)
                  refine lv_goto (tgt := 30) hx hb d_Md_likeness_119 (by decide) ?_
                  exact ih30  _ B true (k + 1) (by omega) (by omega) (fun q hq => (setA_ne hq).trans (hF3 q hq)) (by rw [mxTo, hB9]; exact if_neg (show ¬ B < ptsV f ln (4 * a + j) (4 * b + k) by omega)) (by rw [anyTo, ← Bool.or_assoc, hz9]; simp [samP, c89]) (by omega) _ _ hI hS ls (lv_sub hl [4, 5, 6, 2, 1, 7, 0] rfl)
                · skip
                  replace c89 : z = false := bI_0 c89
                  refine lv_aload_n hx hb d_Md_likeness_92 rfl (lv_at hl 2 rfl) ?_
                  refine hx_get (v := .ref (g 4)) hx hb htg iMd hown hK hI.1 rfl 7 (by decide) (htg _ (gw_mem (i := 1005) (by decide +kernel) rfl)) (fun _ h9 => h9) rfl d_Md_likeness_93 ?_
                  refine lv_iload hx hb d_Md_likeness_96 (lv_at hl 6 rfl) ?_
                  refine hx_iald hx hb hK 0 (hI.2 4 (by decide)) rfl (show vp_in (nI (4 * a + j)) 96 from vp_in_nI (n := 4 * a + j) (by omega) (by decide)) d_Md_likeness_98 ?_
                  refine lv_eqi (y := ((setA F3 21 R) 4 (4 * a + j))) (show (setA F3 21 R) 4 (nI (4 * a + j)).toNatClampNeg = _ by rw [nI_clamp (by omega)]) ?_
                  refine lv_eqi (y := (f 4 (4 * a + j))) (by rw [setA_ne (by decide), hF3 4 (by decide)]) ?_
                  refine lv_aload_n hx hb d_Md_likeness_99 rfl (lv_at hl 2 rfl) ?_
                  refine hx_get (v := .ref (g 4)) hx hb htg iMd hown hK hI.1 rfl 7 (by decide) (htg _ (gw_mem (i := 1005) (by decide +kernel) rfl)) (fun _ h9 => h9) rfl d_Md_likeness_100 ?_
                  refine lv_iload hx hb d_Md_likeness_103 (lv_at hl 7 rfl) ?_
                  refine hx_iald hx hb hK 0 (hI.2 4 (by decide)) rfl (show vp_in (nI (4 * b + k)) 96 from vp_in_nI (n := 4 * b + k) (by omega) (by decide)) d_Md_likeness_105 ?_
                  refine lv_eqi (y := ((setA F3 21 R) 4 (4 * b + k))) (show (setA F3 21 R) 4 (nI (4 * b + k)).toNatClampNeg = _ by rw [nI_clamp (by omega)]) ?_
                  refine lv_eqi (y := (f 4 (4 * b + k))) (by rw [setA_ne (by decide), hF3 4 (by decide)]) ?_
                  refine lv_icmp_ne (x := (f 4 (4 * a + j))) (y := (f 4 (4 * b + k))) (tgt := 113) hx hb d_Md_likeness_106 (by decide) (fun c106 => ?_) (fun c106 => ?_)
                  · skip
                    refine lv_iconst (v := 0) hx hb d_Md_likeness_113 (by decide) ?_
                    refine lv_istore (lv' := [(4, .int 0), (3, .int (nI B)), (7, .int (nI (ptsV f ln (4 * a + j) (4 * b + k)))), (0, .ref x), (1, .int (nI a)), (2, .int (nI b)), (5, .int (nI (4 * a + j))), (6, .int (nI (4 * b + k)))]) hx hb d_Md_likeness_114 hl (by decide) rfl (fun ls hl => ?_)
                    refine lv_iinc (v := (nI (4 * b + k + 1))) (lv' := [(6, .int (nI (4 * b + k + 1))), (4, .int 0), (3, .int (nI B)), (7, .int (nI (ptsV f ln (4 * a + j) (4 * b + k)))), (0, .ref x), (1, .int (nI a)), (2, .int (nI b)), (5, .int (nI (4 * a + j)))]) hx hb d_Md_likeness_116 hl (k := 7) rfl (nI_1 (4 * b + k)) (by decide) rfl (fun ls hl => ?_)
                    refine lv_goto (tgt := 30) hx hb d_Md_likeness_119 (by decide) ?_
                    exact ih30  _ B false (k + 1) (by omega) (by omega) (fun q hq => (setA_ne hq).trans (hF3 q hq)) (by rw [mxTo, hB9]; exact if_neg (show ¬ B < ptsV f ln (4 * a + j) (4 * b + k) by omega)) (by rw [anyTo, ← Bool.or_assoc, hz9]; simp [samP, c89, c106]) (by omega) _ _ hI hS ls (lv_sub hl [4, 5, 6, 2, 1, 7, 0] rfl)
                  · skip
                    refine lv_iconst (v := 1) hx hb d_Md_likeness_109 (by decide) ?_
                    refine lv_goto (tgt := 114) hx hb d_Md_likeness_110 (by decide) ?_
                    refine lv_istore (lv' := [(4, .int 1), (3, .int (nI B)), (7, .int (nI (ptsV f ln (4 * a + j) (4 * b + k)))), (0, .ref x), (1, .int (nI a)), (2, .int (nI b)), (5, .int (nI (4 * a + j))), (6, .int (nI (4 * b + k)))]) hx hb d_Md_likeness_114 hl (by decide) rfl (fun ls hl => ?_)
                    refine lv_iinc (v := (nI (4 * b + k + 1))) (lv' := [(6, .int (nI (4 * b + k + 1))), (4, .int 1), (3, .int (nI B)), (7, .int (nI (ptsV f ln (4 * a + j) (4 * b + k)))), (0, .ref x), (1, .int (nI a)), (2, .int (nI b)), (5, .int (nI (4 * a + j)))]) hx hb d_Md_likeness_116 hl (k := 7) rfl (nI_1 (4 * b + k)) (by decide) rfl (fun ls hl => ?_)
                    refine lv_goto (tgt := 30) hx hb d_Md_likeness_119 (by decide) ?_
                    exact ih30  _ B true (k + 1) (by omega) (by omega) (fun q hq => (setA_ne hq).trans (hF3 q hq)) (by rw [mxTo, hB9]; exact if_neg (show ¬ B < ptsV f ln (4 * a + j) (4 * b + k) by omega)) (by rw [anyTo, ← Bool.or_assoc, hz9]; simp [samP, c89, c106]) (by omega) _ _ hI hS ls (lv_sub hl [4, 5, 6, 2, 1, 7, 0] rfl)
              · skip
                replace c77 : ¬ ((ptsV f ln (4 * a + j) (4 * b + k)) ≤ B) := fun z9 => c77 ((nI_leI (a := (ptsV f ln (4 * a + j) (4 * b + k))) (b := B) (by omega) (by omega)).mpr z9)
                refine lv_iload hx hb d_Md_likeness_80 (lv_at hl 0 rfl) ?_
                refine lv_goto (tgt := 86) hx hb d_Md_likeness_82 (by decide) ?_
                refine lv_istore_n (lv' := [(3, .int (nI (ptsV f ln (4 * a + j) (4 * b + k)))), (7, .int (nI (ptsV f ln (4 * a + j) (4 * b + k)))), (0, .ref x), (1, .int (nI a)), (2, .int (nI b)), (4, .int (bI z)), (5, .int (nI (4 * a + j))), (6, .int (nI (4 * b + k)))]) hx hb d_Md_likeness_86 rfl hl (by decide) rfl (fun ls hl => ?_)
                refine lv_iload hx hb d_Md_likeness_87 (lv_at hl 5 rfl) ?_
                refine lv_if_ne (x := (bI z)) (tgt := 109) hx hb d_Md_likeness_89 (by decide) (fun c89 => ?_) (fun c89 => ?_)
                · skip
                  replace c89 : z = true := bI_1 c89
                  refine lv_iconst (v := 1) hx hb d_Md_likeness_109 (by decide) ?_
                  refine lv_goto (tgt := 114) hx hb d_Md_likeness_110 (by decide) ?_
                  refine lv_istore (lv' := [(4, .int 1), (3, .int (nI (ptsV f ln (4 * a + j) (4 * b + k)))), (7, .int (nI (ptsV f ln (4 * a + j) (4 * b + k)))), (0, .ref x), (1, .int (nI a)), (2, .int (nI b)), (5, .int (nI (4 * a + j))), (6, .int (nI (4 * b + k)))]) hx hb d_Md_likeness_114 hl (by decide) rfl (fun ls hl => ?_)
                  refine lv_iinc (v := (nI (4 * b + k + 1))) (lv' := [(6, .int (nI (4 * b + k + 1))), (4, .int 1), (3, .int (nI (ptsV f ln (4 * a + j) (4 * b + k)))), (7, .int (nI (ptsV f ln (4 * a + j) (4 * b + k)))), (0, .ref x), (1, .int (nI a)), (2, .int (nI b)), (5, .int (nI (4 * a + j)))]) hx hb d_Md_likeness_116 hl (k := 7) rfl (nI_1 (4 * b + k)) (by decide) rfl (fun ls hl => ?_)
                  refine lv_goto (tgt := 30) hx hb d_Md_likeness_119 (by decide) ?_
                  exact ih30  _ (ptsV f ln (4 * a + j) (4 * b + k)) true (k + 1) (by omega) (by omega) (fun q hq => (setA_ne hq).trans (hF3 q hq)) (by rw [mxTo, hB9]; exact if_pos (show B < ptsV f ln (4 * a + j) (4 * b + k) by omega)) (by rw [anyTo, ← Bool.or_assoc, hz9]; simp [samP, c89]) (by omega) _ _ hI hS ls (lv_sub hl [4, 5, 6, 2, 1, 7, 0] rfl)
                · skip
                  replace c89 : z = false := bI_0 c89
                  refine lv_aload_n hx hb d_Md_likeness_92 rfl (lv_at hl 2 rfl) ?_
                  refine hx_get (v := .ref (g 4)) hx hb htg iMd hown hK hI.1 rfl 7 (by decide) (htg _ (gw_mem (i := 1005) (by decide +kernel) rfl)) (fun _ h9 => h9) rfl d_Md_likeness_93 ?_
                  refine lv_iload hx hb d_Md_likeness_96 (lv_at hl 6 rfl) ?_
                  refine hx_iald hx hb hK 0 (hI.2 4 (by decide)) rfl (show vp_in (nI (4 * a + j)) 96 from vp_in_nI (n := 4 * a + j) (by omega) (by decide)) d_Md_likeness_98 ?_
                  refine lv_eqi (y := ((setA F3 21 R) 4 (4 * a + j))) (show (setA F3 21 R) 4 (nI (4 * a + j)).toNatClampNeg = _ by rw [nI_clamp (by omega)]) ?_
                  refine lv_eqi (y := (f 4 (4 * a + j))) (by rw [setA_ne (by decide), hF3 4 (by decide)]) ?_
                  refine lv_aload_n hx hb d_Md_likeness_99 rfl (lv_at hl 2 rfl) ?_
                  refine hx_get (v := .ref (g 4)) hx hb htg iMd hown hK hI.1 rfl 7 (by decide) (htg _ (gw_mem (i := 1005) (by decide +kernel) rfl)) (fun _ h9 => h9) rfl d_Md_likeness_100 ?_
                  refine lv_iload hx hb d_Md_likeness_103 (lv_at hl 7 rfl) ?_
                  refine hx_iald hx hb hK 0 (hI.2 4 (by decide)) rfl (show vp_in (nI (4 * b + k)) 96 from vp_in_nI (n := 4 * b + k) (by omega) (by decide)) d_Md_likeness_105 ?_
                  refine lv_eqi (y := ((setA F3 21 R) 4 (4 * b + k))) (show (setA F3 21 R) 4 (nI (4 * b + k)).toNatClampNeg = _ by rw [nI_clamp (by omega)]) ?_
                  refine lv_eqi (y := (f 4 (4 * b + k))) (by rw [setA_ne (by decide), hF3 4 (by decide)]) ?_
                  refine lv_icmp_ne (x := (f 4 (4 * a + j))) (y := (f 4 (4 * b + k))) (tgt := 113) hx hb d_Md_likeness_106 (by decide) (fun c106 => ?_) (fun c106 => ?_)
                  · skip
                    refine lv_iconst (v := 0) hx hb d_Md_likeness_113 (by decide) ?_
                    refine lv_istore (lv' := [(4, .int 0), (3, .int (nI (ptsV f ln (4 * a + j) (4 * b + k)))), (7, .int (nI (ptsV f ln (4 * a + j) (4 * b + k)))), (0, .ref x), (1, .int (nI a)), (2, .int (nI b)), (5, .int (nI (4 * a + j))), (6, .int (nI (4 * b + k)))]) hx hb d_Md_likeness_114 hl (by decide) rfl (fun ls hl => ?_)
                    refine lv_iinc (v := (nI (4 * b + k + 1))) (lv' := [(6, .int (nI (4 * b + k + 1))), (4, .int 0), (3, .int (nI (ptsV f ln (4 * a + j) (4 * b + k)))), (7, .int (nI (ptsV f ln (4 * a + j) (4 * b + k)))), (0, .ref x), (1, .int (nI a)), (2, .int (nI b)), (5, .int (nI (4 * a + j)))]) hx hb d_Md_likeness_116 hl (k := 7) rfl (nI_1 (4 * b + k)) (by decide) rfl (fun ls hl => ?_)
                    refine lv_goto (tgt := 30) hx hb d_Md_likeness_119 (by decide) ?_
                    exact ih30  _ (ptsV f ln (4 * a + j) (4 * b + k)) false (k + 1) (by omega) (by omega) (fun q hq => (setA_ne hq).trans (hF3 q hq)) (by rw [mxTo, hB9]; exact if_pos (show B < ptsV f ln (4 * a + j) (4 * b + k) by omega)) (by rw [anyTo, ← Bool.or_assoc, hz9]; simp [samP, c89, c106]) (by omega) _ _ hI hS ls (lv_sub hl [4, 5, 6, 2, 1, 7, 0] rfl)
                  · skip
                    refine lv_iconst (v := 1) hx hb d_Md_likeness_109 (by decide) ?_
                    refine lv_goto (tgt := 114) hx hb d_Md_likeness_110 (by decide) ?_
                    refine lv_istore (lv' := [(4, .int 1), (3, .int (nI (ptsV f ln (4 * a + j) (4 * b + k)))), (7, .int (nI (ptsV f ln (4 * a + j) (4 * b + k)))), (0, .ref x), (1, .int (nI a)), (2, .int (nI b)), (5, .int (nI (4 * a + j))), (6, .int (nI (4 * b + k)))]) hx hb d_Md_likeness_114 hl (by decide) rfl (fun ls hl => ?_)
                    refine lv_iinc (v := (nI (4 * b + k + 1))) (lv' := [(6, .int (nI (4 * b + k + 1))), (4, .int 1), (3, .int (nI (ptsV f ln (4 * a + j) (4 * b + k)))), (7, .int (nI (ptsV f ln (4 * a + j) (4 * b + k)))), (0, .ref x), (1, .int (nI a)), (2, .int (nI b)), (5, .int (nI (4 * a + j)))]) hx hb d_Md_likeness_116 hl (k := 7) rfl (nI_1 (4 * b + k)) (by decide) rfl (fun ls hl => ?_)
                    refine lv_goto (tgt := 30) hx hb d_Md_likeness_119 (by decide) ?_
                    exact ih30  _ (ptsV f ln (4 * a + j) (4 * b + k)) true (k + 1) (by omega) (by omega) (fun q hq => (setA_ne hq).trans (hF3 q hq)) (by rw [mxTo, hB9]; exact if_pos (show B < ptsV f ln (4 * a + j) (4 * b + k) by omega)) (by rw [anyTo, ← Bool.or_assoc, hz9]; simp [samP, c89, c106]) (by omega) _ _ hI hS ls (lv_sub hl [4, 5, 6, 2, 1, 7, 0] rfl)
        exact loop30 ((mn b - 0) + 1) _ B0 z0 0 (Nat.lt_succ_self _) (Nat.zero_le _) hF2 rfl (by simp [anyTo]) hB240 _ _ hI hS ls (lv_sub hl [1, 2, 3, 4, 5, 6, 0] rfl)
  exact loop10 ((mn a - 0) + 1) f 0 false 0 (Nat.lt_succ_self _) (Nat.zero_le _) (fun _ _ => rfl) rfl rfl (Nat.zero_le _) _ _ hI hS ls (lv_sub hl [3, 4, 5, 2, 1, 0] rfl)
