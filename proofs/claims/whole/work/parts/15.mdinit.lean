def y_Md_init : MethodName := ⟨"NameMergesModel", "<init>", "()V"⟩
abbrev w_Md_init : List Cond := Cond.code y_Md_init prog_7_method_1_code 2 (Option.none : Option Jvm.ClassFile.FieldType) :: gw
theorem d_Md_init_0 : decode prog_7_method_1_code 0 = .ok (.aload_n 0, 1) := by decide +kernel
theorem d_Md_init_1 : decode prog_7_method_1_code 1 = .ok (.invokespecial 1, 3) := by decide +kernel
theorem d_Md_init_4 : decode prog_7_method_1_code 4 = .ok (.aload_n 0, 1) := by decide +kernel
theorem d_Md_init_5 : decode prog_7_method_1_code 5 = .ok (.bipush 12, 2) := by decide +kernel
theorem d_Md_init_7 : decode prog_7_method_1_code 7 = .ok (.newarray .int, 2) := by decide +kernel
theorem d_Md_init_9 : decode prog_7_method_1_code 9 = .ok (.putfield 7, 3) := by decide +kernel
theorem d_Md_init_12 : decode prog_7_method_1_code 12 = .ok (.aload_n 0, 1) := by decide +kernel
theorem d_Md_init_13 : decode prog_7_method_1_code 13 = .ok (.bipush 24, 2) := by decide +kernel
theorem d_Md_init_15 : decode prog_7_method_1_code 15 = .ok (.newarray .int, 2) := by decide +kernel
theorem d_Md_init_17 : decode prog_7_method_1_code 17 = .ok (.putfield 13, 3) := by decide +kernel
theorem d_Md_init_20 : decode prog_7_method_1_code 20 = .ok (.aload_n 0, 1) := by decide +kernel
theorem d_Md_init_21 : decode prog_7_method_1_code 21 = .ok (.bipush 96, 2) := by decide +kernel
theorem d_Md_init_23 : decode prog_7_method_1_code 23 = .ok (.newarray .int, 2) := by decide +kernel
theorem d_Md_init_25 : decode prog_7_method_1_code 25 = .ok (.putfield 16, 3) := by decide +kernel
theorem d_Md_init_28 : decode prog_7_method_1_code 28 = .ok (.aload_n 0, 1) := by decide +kernel
theorem d_Md_init_29 : decode prog_7_method_1_code 29 = .ok (.sipush 1152, 3) := by decide +kernel
theorem d_Md_init_32 : decode prog_7_method_1_code 32 = .ok (.newarray .int, 2) := by decide +kernel
theorem d_Md_init_34 : decode prog_7_method_1_code 34 = .ok (.putfield 19, 3) := by decide +kernel
theorem d_Md_init_37 : decode prog_7_method_1_code 37 = .ok (.aload_n 0, 1) := by decide +kernel
theorem d_Md_init_38 : decode prog_7_method_1_code 38 = .ok (.bipush 96, 2) := by decide +kernel
theorem d_Md_init_40 : decode prog_7_method_1_code 40 = .ok (.newarray .int, 2) := by decide +kernel
theorem d_Md_init_42 : decode prog_7_method_1_code 42 = .ok (.putfield 22, 3) := by decide +kernel
theorem d_Md_init_45 : decode prog_7_method_1_code 45 = .ok (.aload_n 0, 1) := by decide +kernel
theorem d_Md_init_46 : decode prog_7_method_1_code 46 = .ok (.bipush 96, 2) := by decide +kernel
theorem d_Md_init_48 : decode prog_7_method_1_code 48 = .ok (.newarray .int, 2) := by decide +kernel
theorem d_Md_init_50 : decode prog_7_method_1_code 50 = .ok (.putfield 25, 3) := by decide +kernel
theorem d_Md_init_53 : decode prog_7_method_1_code 53 = .ok (.aload_n 0, 1) := by decide +kernel
theorem d_Md_init_54 : decode prog_7_method_1_code 54 = .ok (.bipush 96, 2) := by decide +kernel
theorem d_Md_init_56 : decode prog_7_method_1_code 56 = .ok (.newarray .int, 2) := by decide +kernel
theorem d_Md_init_58 : decode prog_7_method_1_code 58 = .ok (.putfield 28, 3) := by decide +kernel
theorem d_Md_init_61 : decode prog_7_method_1_code 61 = .ok (.aload_n 0, 1) := by decide +kernel
theorem d_Md_init_62 : decode prog_7_method_1_code 62 = .ok (.bipush 24, 2) := by decide +kernel
theorem d_Md_init_64 : decode prog_7_method_1_code 64 = .ok (.newarray .int, 2) := by decide +kernel
theorem d_Md_init_66 : decode prog_7_method_1_code 66 = .ok (.putfield 31, 3) := by decide +kernel
theorem d_Md_init_69 : decode prog_7_method_1_code 69 = .ok (.aload_n 0, 1) := by decide +kernel
theorem d_Md_init_70 : decode prog_7_method_1_code 70 = .ok (.bipush 24, 2) := by decide +kernel
theorem d_Md_init_72 : decode prog_7_method_1_code 72 = .ok (.newarray .int, 2) := by decide +kernel
theorem d_Md_init_74 : decode prog_7_method_1_code 74 = .ok (.putfield 34, 3) := by decide +kernel
theorem d_Md_init_77 : decode prog_7_method_1_code 77 = .ok (.aload_n 0, 1) := by decide +kernel
theorem d_Md_init_78 : decode prog_7_method_1_code 78 = .ok (.sipush 576, 3) := by decide +kernel
theorem d_Md_init_81 : decode prog_7_method_1_code 81 = .ok (.newarray .int, 2) := by decide +kernel
theorem d_Md_init_83 : decode prog_7_method_1_code 83 = .ok (.putfield 37, 3) := by decide +kernel
theorem d_Md_init_86 : decode prog_7_method_1_code 86 = .ok (.aload_n 0, 1) := by decide +kernel
theorem d_Md_init_87 : decode prog_7_method_1_code 87 = .ok (.sipush 576, 3) := by decide +kernel
theorem d_Md_init_90 : decode prog_7_method_1_code 90 = .ok (.newarray .boolean, 2) := by decide +kernel
theorem d_Md_init_92 : decode prog_7_method_1_code 92 = .ok (.putfield 40, 3) := by decide +kernel
theorem d_Md_init_95 : decode prog_7_method_1_code 95 = .ok (.aload_n 0, 1) := by decide +kernel
theorem d_Md_init_96 : decode prog_7_method_1_code 96 = .ok (.sipush 576, 3) := by decide +kernel
theorem d_Md_init_99 : decode prog_7_method_1_code 99 = .ok (.newarray .boolean, 2) := by decide +kernel
theorem d_Md_init_101 : decode prog_7_method_1_code 101 = .ok (.putfield 44, 3) := by decide +kernel
theorem d_Md_init_104 : decode prog_7_method_1_code 104 = .ok (.aload_n 0, 1) := by decide +kernel
theorem d_Md_init_105 : decode prog_7_method_1_code 105 = .ok (.bipush 96, 2) := by decide +kernel
theorem d_Md_init_107 : decode prog_7_method_1_code 107 = .ok (.newarray .int, 2) := by decide +kernel
theorem d_Md_init_109 : decode prog_7_method_1_code 109 = .ok (.putfield 47, 3) := by decide +kernel
theorem d_Md_init_112 : decode prog_7_method_1_code 112 = .ok (.aload_n 0, 1) := by decide +kernel
theorem d_Md_init_113 : decode prog_7_method_1_code 113 = .ok (.bipush 60, 2) := by decide +kernel
theorem d_Md_init_115 : decode prog_7_method_1_code 115 = .ok (.newarray .int, 2) := by decide +kernel
theorem d_Md_init_117 : decode prog_7_method_1_code 117 = .ok (.putfield 50, 3) := by decide +kernel
theorem d_Md_init_120 : decode prog_7_method_1_code 120 = .ok (.aload_n 0, 1) := by decide +kernel
theorem d_Md_init_121 : decode prog_7_method_1_code 121 = .ok (.bipush 60, 2) := by decide +kernel
theorem d_Md_init_123 : decode prog_7_method_1_code 123 = .ok (.newarray .int, 2) := by decide +kernel
theorem d_Md_init_125 : decode prog_7_method_1_code 125 = .ok (.putfield 53, 3) := by decide +kernel
theorem d_Md_init_128 : decode prog_7_method_1_code 128 = .ok (.aload_n 0, 1) := by decide +kernel
theorem d_Md_init_129 : decode prog_7_method_1_code 129 = .ok (.bipush 60, 2) := by decide +kernel
theorem d_Md_init_131 : decode prog_7_method_1_code 131 = .ok (.newarray .int, 2) := by decide +kernel
theorem d_Md_init_133 : decode prog_7_method_1_code 133 = .ok (.putfield 56, 3) := by decide +kernel
theorem d_Md_init_136 : decode prog_7_method_1_code 136 = .ok (.aload_n 0, 1) := by decide +kernel
theorem d_Md_init_137 : decode prog_7_method_1_code 137 = .ok (.bipush 60, 2) := by decide +kernel
theorem d_Md_init_139 : decode prog_7_method_1_code 139 = .ok (.newarray .int, 2) := by decide +kernel
theorem d_Md_init_141 : decode prog_7_method_1_code 141 = .ok (.putfield 59, 3) := by decide +kernel
theorem d_Md_init_144 : decode prog_7_method_1_code 144 = .ok (.aload_n 0, 1) := by decide +kernel
theorem d_Md_init_145 : decode prog_7_method_1_code 145 = .ok (.bipush 24, 2) := by decide +kernel
theorem d_Md_init_147 : decode prog_7_method_1_code 147 = .ok (.newarray .int, 2) := by decide +kernel
theorem d_Md_init_149 : decode prog_7_method_1_code 149 = .ok (.putfield 62, 3) := by decide +kernel
theorem d_Md_init_152 : decode prog_7_method_1_code 152 = .ok (.aload_n 0, 1) := by decide +kernel
theorem d_Md_init_153 : decode prog_7_method_1_code 153 = .ok (.sipush 276, 3) := by decide +kernel
theorem d_Md_init_156 : decode prog_7_method_1_code 156 = .ok (.newarray .int, 2) := by decide +kernel
theorem d_Md_init_158 : decode prog_7_method_1_code 158 = .ok (.putfield 65, 3) := by decide +kernel
theorem d_Md_init_161 : decode prog_7_method_1_code 161 = .ok (.aload_n 0, 1) := by decide +kernel
theorem d_Md_init_162 : decode prog_7_method_1_code 162 = .ok (.sipush 276, 3) := by decide +kernel
theorem d_Md_init_165 : decode prog_7_method_1_code 165 = .ok (.newarray .int, 2) := by decide +kernel
theorem d_Md_init_167 : decode prog_7_method_1_code 167 = .ok (.putfield 68, 3) := by decide +kernel
theorem d_Md_init_170 : decode prog_7_method_1_code 170 = .ok (.aload_n 0, 1) := by decide +kernel
theorem d_Md_init_171 : decode prog_7_method_1_code 171 = .ok (.bipush 24, 2) := by decide +kernel
theorem d_Md_init_173 : decode prog_7_method_1_code 173 = .ok (.newarray .int, 2) := by decide +kernel
theorem d_Md_init_175 : decode prog_7_method_1_code 175 = .ok (.putfield 71, 3) := by decide +kernel
theorem d_Md_init_178 : decode prog_7_method_1_code 178 = .ok (.aload_n 0, 1) := by decide +kernel
theorem d_Md_init_179 : decode prog_7_method_1_code 179 = .ok (.sipush 169, 3) := by decide +kernel
theorem d_Md_init_182 : decode prog_7_method_1_code 182 = .ok (.newarray .int, 2) := by decide +kernel
theorem d_Md_init_184 : decode prog_7_method_1_code 184 = .ok (.putfield 74, 3) := by decide +kernel
theorem d_Md_init_187 : decode prog_7_method_1_code 187 = .ok (.iconst 0, 1) := by decide +kernel
theorem d_Md_init_188 : decode prog_7_method_1_code 188 = .ok (.istore_n 1, 1) := by decide +kernel
theorem d_Md_init_189 : decode prog_7_method_1_code 189 = .ok (.iload_n 1, 1) := by decide +kernel
theorem d_Md_init_190 : decode prog_7_method_1_code 190 = .ok (.bipush 24, 2) := by decide +kernel
theorem d_Md_init_192 : decode prog_7_method_1_code 192 = .ok (.if_icmp .ge 16, 3) := by decide +kernel
theorem d_Md_init_195 : decode prog_7_method_1_code 195 = .ok (.aload_n 0, 1) := by decide +kernel
theorem d_Md_init_196 : decode prog_7_method_1_code 196 = .ok (.getfield 34, 3) := by decide +kernel
theorem d_Md_init_199 : decode prog_7_method_1_code 199 = .ok (.iload_n 1, 1) := by decide +kernel
theorem d_Md_init_200 : decode prog_7_method_1_code 200 = .ok (.iconst (-1), 1) := by decide +kernel
theorem d_Md_init_201 : decode prog_7_method_1_code 201 = .ok (.iastore, 1) := by decide +kernel
theorem d_Md_init_202 : decode prog_7_method_1_code 202 = .ok (.iinc 1 1, 3) := by decide +kernel
theorem d_Md_init_205 : decode prog_7_method_1_code 205 = .ok (.goto (-16), 3) := by decide +kernel
theorem d_Md_init_208 : decode prog_7_method_1_code 208 = .ok (.return_, 1) := by decide +kernel
def mdP (D : va_G) (cs : Nat → ClassId) (N x k : Nat) (fs : List Value) (H : Heap) : Prop := va_at D vwCl (x, .inr (0, fs)) H ∧ (∀ j, j < k → va_at D vwCl (N + j, .inl (cs (md_ty j), (md_len j, .inl (fun _ => 0)))) H) ∧ H.size = N + k
theorem mdP.new {D : va_G} {cs : Nat → ClassId} {N x k : Nat} {fs : List Value} {H H1 : Heap} (h : mdP D cs N x k fs H) (hx : x < N) (hat : va_at D vwCl (H.size, .inl (cs (md_ty k), (md_len k, .inl (fun _ => 0)))) H1) (hz : H1.size = H.size + 1) (ho : ∀ q : Nat, q < H.size → H1[q]? = H[q]?) : mdP D cs N x (k + 1) fs H1 := by
  obtain ⟨h1, h2, h3⟩ := h
  rw [h3] at hat hz ho
  refine ⟨hx_keep h1 (ho x (by omega)), fun j hj => ?_, by omega⟩
  by_cases e : j = k
  · subst e; exact hat
  · exact hx_keep (h2 j (by omega)) (ho _ (by omega))
theorem mdP.put {D : va_G} {cs : Nat → ClassId} {N x k : Nat} {fs fs' : List Value} {H H1 : Heap} (h : mdP D cs N x k fs H) (hx : x < N) (hat : va_at D vwCl (x, .inr (0, fs')) H1) (hz : H1.size = H.size) (ho : ∀ q : Nat, q ≠ x → H1[q]? = H[q]?) : mdP D cs N x k fs' H1 :=
  ⟨hat, fun j hj => hx_keep (h.2.1 j hj) (ho _ (by omega)), hz.trans h.2.2⟩
def mdC (p : Program) (s : State) (m : MethodId) (args : Array Value) (meth : Method) (c : Code) (D : va_G) (cs : Nat → ClassId) : Prop := p.tables.exec = Jvm.exec ∧ c.code = prog_7_method_1_code ∧ s.vm.findClass "NameMergesModel" = some m.cls ∧ meth.name = "<init>" ∧ (∀ w ∈ gw, w.before args s = true) ∧ va_K D vwCl (tyl cs) s
set_option maxRecDepth 100000 in
theorem mi_0 {p : Program} {l : Launch} {e : Env} {R : Room} {s : State} {m : MethodId} {args : Array Value} {below : List Frame} {meth : Method} {c : Code} {H : Heap} {locs : List Loc} {Q : State → Prop} {D : va_G} {cs : Nat → ClassId} {N x : Nat} {ls : Array Slot} (C : mdC p s m args meth c D cs) (hxN : x < N) (hS : va_S (fun q : Nat => q = x ∨ N ≤ q) s.heap H locs) (hP : mdP D cs N x 0 [.int 0, .int 0, .null, .int 0, .null, .null, .null, .null, .null, .null, .null, .null, .null, .null, .null, .null, .int 0, .null, .null, .null, .null, .null, .int 0, .null, .null, .int 0, .null, .null] H) (hl : lv_has ls 2 [(0, .ref x)]) (hc : 1 ≤ R.cells) (hs : 12 ≤ R.slots) (kk : ∀ (H : Heap) (locs : List Loc), mdP D cs N x 1 [.int 0, .int 0, .ref (N + 0), .int 0, .null, .null, .null, .null, .null, .null, .null, .null, .null, .null, .null, .null, .int 0, .null, .null, .null, .null, .null, .int 0, .null, .null, .int 0, .null, .null] H → va_S (fun q : Nat => q = x ∨ N ≤ q) s.heap H locs → W p l e R s m args below meth c H locs 1 12 Q (F0 m 12 ls [])) : W p l e R s m args below meth c H locs 0 0 Q (F0 m 4 ls []) := by
  obtain ⟨hx, hb, hown, hin, htg, hK⟩ := C
  refine lv_aload_n hx hb d_Md_init_4 rfl (lv_at hl 0 rfl) ?_
  refine lv_bipush (v := 12) hx hb d_Md_init_5 (by decide) ?_
  refine hx_newa (atype := .int) (cA := cs 0) (N' := 12) (a0 := (12, .inl (fun _ => 0))) hx hb (htg _ (gw_mem (i := 151) (by decide +kernel) rfl)) hK hS 0 rfl rfl (by decide) (by decide) (show 12 * 4 ≤ 536870912 by decide) hc hs d_Md_init_7 (fun H1 hat hz1 ho hS => ?_)
  have hN := hP.2.2
  replace hP := hP.new hxN hat hz1 ho
  rw [hN]
  refine hx_putF (ty := .array (.int)) (v := .ref (N + 0)) hx hb htg iMd tMd tMd_ok nMd hown hK hP.1 hS (Or.inl rfl) rfl 2 (by decide) (htg _ (gw_mem (i := 1000) (by decide +kernel) rfl)) (fun _ h9 => h9) rfl hin rfl (by decide +kernel) rfl rfl (Nat.le_of_ble_eq_true rfl) d_Md_init_9 (fun H locs hat hz2 ho hS => ?_)
  exact kk H locs (hP.put hxN hat hz2 ho) hS
set_option maxRecDepth 100000 in
theorem mi_1 {p : Program} {l : Launch} {e : Env} {R : Room} {s : State} {m : MethodId} {args : Array Value} {below : List Frame} {meth : Method} {c : Code} {H : Heap} {locs : List Loc} {Q : State → Prop} {D : va_G} {cs : Nat → ClassId} {N x : Nat} {ls : Array Slot} (C : mdC p s m args meth c D cs) (hxN : x < N) (hS : va_S (fun q : Nat => q = x ∨ N ≤ q) s.heap H locs) (hP : mdP D cs N x 1 [.int 0, .int 0, .ref (N + 0), .int 0, .null, .null, .null, .null, .null, .null, .null, .null, .null, .null, .null, .null, .int 0, .null, .null, .null, .null, .null, .int 0, .null, .null, .int 0, .null, .null] H) (hl : lv_has ls 2 [(0, .ref x)]) (hc : 2 ≤ R.cells) (hs : 36 ≤ R.slots) (kk : ∀ (H : Heap) (locs : List Loc), mdP D cs N x 2 [.int 0, .int 0, .ref (N + 0), .int 0, .ref (N + 1), .null, .null, .null, .null, .null, .null, .null, .null, .null, .null, .null, .int 0, .null, .null, .null, .null, .null, .int 0, .null, .null, .int 0, .null, .null] H → va_S (fun q : Nat => q = x ∨ N ≤ q) s.heap H locs → W p l e R s m args below meth c H locs 2 36 Q (F0 m 20 ls [])) : W p l e R s m args below meth c H locs 1 12 Q (F0 m 12 ls []) := by
  obtain ⟨hx, hb, hown, hin, htg, hK⟩ := C
  refine lv_aload_n hx hb d_Md_init_12 rfl (lv_at hl 0 rfl) ?_
  refine lv_bipush (v := 24) hx hb d_Md_init_13 (by decide) ?_
  refine hx_newa (atype := .int) (cA := cs 0) (N' := 24) (a0 := (24, .inl (fun _ => 0))) hx hb (htg _ (gw_mem (i := 151) (by decide +kernel) rfl)) hK hS 0 rfl rfl (by decide) (by decide) (show 24 * 4 ≤ 536870912 by decide) hc hs d_Md_init_15 (fun H1 hat hz1 ho hS => ?_)
  have hN := hP.2.2
  replace hP := hP.new hxN hat hz1 ho
  rw [hN]
  refine hx_putF (ty := .array (.int)) (v := .ref (N + 1)) hx hb htg iMd tMd tMd_ok nMd hown hK hP.1 hS (Or.inl rfl) rfl 4 (by decide) (htg _ (gw_mem (i := 1002) (by decide +kernel) rfl)) (fun _ h9 => h9) rfl hin rfl (by decide +kernel) rfl rfl (Nat.le_of_ble_eq_true rfl) d_Md_init_17 (fun H locs hat hz2 ho hS => ?_)
  exact kk H locs (hP.put hxN hat hz2 ho) hS
set_option maxRecDepth 100000 in
theorem mi_2 {p : Program} {l : Launch} {e : Env} {R : Room} {s : State} {m : MethodId} {args : Array Value} {below : List Frame} {meth : Method} {c : Code} {H : Heap} {locs : List Loc} {Q : State → Prop} {D : va_G} {cs : Nat → ClassId} {N x : Nat} {ls : Array Slot} (C : mdC p s m args meth c D cs) (hxN : x < N) (hS : va_S (fun q : Nat => q = x ∨ N ≤ q) s.heap H locs) (hP : mdP D cs N x 2 [.int 0, .int 0, .ref (N + 0), .int 0, .ref (N + 1), .null, .null, .null, .null, .null, .null, .null, .null, .null, .null, .null, .int 0, .null, .null, .null, .null, .null, .int 0, .null, .null, .int 0, .null, .null] H) (hl : lv_has ls 2 [(0, .ref x)]) (hc : 3 ≤ R.cells) (hs : 132 ≤ R.slots) (kk : ∀ (H : Heap) (locs : List Loc), mdP D cs N x 3 [.int 0, .int 0, .ref (N + 0), .int 0, .ref (N + 1), .ref (N + 2), .null, .null, .null, .null, .null, .null, .null, .null, .null, .null, .int 0, .null, .null, .null, .null, .null, .int 0, .null, .null, .int 0, .null, .null] H → va_S (fun q : Nat => q = x ∨ N ≤ q) s.heap H locs → W p l e R s m args below meth c H locs 3 132 Q (F0 m 28 ls [])) : W p l e R s m args below meth c H locs 2 36 Q (F0 m 20 ls []) := by
  obtain ⟨hx, hb, hown, hin, htg, hK⟩ := C
  refine lv_aload_n hx hb d_Md_init_20 rfl (lv_at hl 0 rfl) ?_
  refine lv_bipush (v := 96) hx hb d_Md_init_21 (by decide) ?_
  refine hx_newa (atype := .int) (cA := cs 0) (N' := 96) (a0 := (96, .inl (fun _ => 0))) hx hb (htg _ (gw_mem (i := 151) (by decide +kernel) rfl)) hK hS 0 rfl rfl (by decide) (by decide) (show 96 * 4 ≤ 536870912 by decide) hc hs d_Md_init_23 (fun H1 hat hz1 ho hS => ?_)
  have hN := hP.2.2
  replace hP := hP.new hxN hat hz1 ho
  rw [hN]
  refine hx_putF (ty := .array (.int)) (v := .ref (N + 2)) hx hb htg iMd tMd tMd_ok nMd hown hK hP.1 hS (Or.inl rfl) rfl 5 (by decide) (htg _ (gw_mem (i := 1003) (by decide +kernel) rfl)) (fun _ h9 => h9) rfl hin rfl (by decide +kernel) rfl rfl (Nat.le_of_ble_eq_true rfl) d_Md_init_25 (fun H locs hat hz2 ho hS => ?_)
  exact kk H locs (hP.put hxN hat hz2 ho) hS
set_option maxRecDepth 100000 in
theorem mi_3 {p : Program} {l : Launch} {e : Env} {R : Room} {s : State} {m : MethodId} {args : Array Value} {below : List Frame} {meth : Method} {c : Code} {H : Heap} {locs : List Loc} {Q : State → Prop} {D : va_G} {cs : Nat → ClassId} {N x : Nat} {ls : Array Slot} (C : mdC p s m args meth c D cs) (hxN : x < N) (hS : va_S (fun q : Nat => q = x ∨ N ≤ q) s.heap H locs) (hP : mdP D cs N x 3 [.int 0, .int 0, .ref (N + 0), .int 0, .ref (N + 1), .ref (N + 2), .null, .null, .null, .null, .null, .null, .null, .null, .null, .null, .int 0, .null, .null, .null, .null, .null, .int 0, .null, .null, .int 0, .null, .null] H) (hl : lv_has ls 2 [(0, .ref x)]) (hc : 4 ≤ R.cells) (hs : 1284 ≤ R.slots) (kk : ∀ (H : Heap) (locs : List Loc), mdP D cs N x 4 [.int 0, .int 0, .ref (N + 0), .int 0, .ref (N + 1), .ref (N + 2), .ref (N + 3), .null, .null, .null, .null, .null, .null, .null, .null, .null, .int 0, .null, .null, .null, .null, .null, .int 0, .null, .null, .int 0, .null, .null] H → va_S (fun q : Nat => q = x ∨ N ≤ q) s.heap H locs → W p l e R s m args below meth c H locs 4 1284 Q (F0 m 37 ls [])) : W p l e R s m args below meth c H locs 3 132 Q (F0 m 28 ls []) := by
  obtain ⟨hx, hb, hown, hin, htg, hK⟩ := C
  refine lv_aload_n hx hb d_Md_init_28 rfl (lv_at hl 0 rfl) ?_
  refine lv_sipush (v := 1152) hx hb d_Md_init_29 (by decide) ?_
  refine hx_newa (atype := .int) (cA := cs 0) (N' := 1152) (a0 := (1152, .inl (fun _ => 0))) hx hb (htg _ (gw_mem (i := 151) (by decide +kernel) rfl)) hK hS 0 rfl rfl (by decide) (by decide) (show 1152 * 4 ≤ 536870912 by decide) hc hs d_Md_init_32 (fun H1 hat hz1 ho hS => ?_)
  have hN := hP.2.2
  replace hP := hP.new hxN hat hz1 ho
  rw [hN]
  refine hx_putF (ty := .array (.int)) (v := .ref (N + 3)) hx hb htg iMd tMd tMd_ok nMd hown hK hP.1 hS (Or.inl rfl) rfl 6 (by decide) (htg _ (gw_mem (i := 1004) (by decide +kernel) rfl)) (fun _ h9 => h9) rfl hin rfl (by decide +kernel) rfl rfl (Nat.le_of_ble_eq_true rfl) d_Md_init_34 (fun H locs hat hz2 ho hS => ?_)
  exact kk H locs (hP.put hxN hat hz2 ho) hS
set_option maxRecDepth 100000 in
theorem mi_4 {p : Program} {l : Launch} {e : Env} {R : Room} {s : State} {m : MethodId} {args : Array Value} {below : List Frame} {meth : Method} {c : Code} {H : Heap} {locs : List Loc} {Q : State → Prop} {D : va_G} {cs : Nat → ClassId} {N x : Nat} {ls : Array Slot} (C : mdC p s m args meth c D cs) (hxN : x < N) (hS : va_S (fun q : Nat => q = x ∨ N ≤ q) s.heap H locs) (hP : mdP D cs N x 4 [.int 0, .int 0, .ref (N + 0), .int 0, .ref (N + 1), .ref (N + 2), .ref (N + 3), .null, .null, .null, .null, .null, .null, .null, .null, .null, .int 0, .null, .null, .null, .null, .null, .int 0, .null, .null, .int 0, .null, .null] H) (hl : lv_has ls 2 [(0, .ref x)]) (hc : 5 ≤ R.cells) (hs : 1380 ≤ R.slots) (kk : ∀ (H : Heap) (locs : List Loc), mdP D cs N x 5 [.int 0, .int 0, .ref (N + 0), .int 0, .ref (N + 1), .ref (N + 2), .ref (N + 3), .ref (N + 4), .null, .null, .null, .null, .null, .null, .null, .null, .int 0, .null, .null, .null, .null, .null, .int 0, .null, .null, .int 0, .null, .null] H → va_S (fun q : Nat => q = x ∨ N ≤ q) s.heap H locs → W p l e R s m args below meth c H locs 5 1380 Q (F0 m 45 ls [])) : W p l e R s m args below meth c H locs 4 1284 Q (F0 m 37 ls []) := by
  obtain ⟨hx, hb, hown, hin, htg, hK⟩ := C
  refine lv_aload_n hx hb d_Md_init_37 rfl (lv_at hl 0 rfl) ?_
  refine lv_bipush (v := 96) hx hb d_Md_init_38 (by decide) ?_
  refine hx_newa (atype := .int) (cA := cs 0) (N' := 96) (a0 := (96, .inl (fun _ => 0))) hx hb (htg _ (gw_mem (i := 151) (by decide +kernel) rfl)) hK hS 0 rfl rfl (by decide) (by decide) (show 96 * 4 ≤ 536870912 by decide) hc hs d_Md_init_40 (fun H1 hat hz1 ho hS => ?_)
  have hN := hP.2.2
  replace hP := hP.new hxN hat hz1 ho
  rw [hN]
  refine hx_putF (ty := .array (.int)) (v := .ref (N + 4)) hx hb htg iMd tMd tMd_ok nMd hown hK hP.1 hS (Or.inl rfl) rfl 7 (by decide) (htg _ (gw_mem (i := 1005) (by decide +kernel) rfl)) (fun _ h9 => h9) rfl hin rfl (by decide +kernel) rfl rfl (Nat.le_of_ble_eq_true rfl) d_Md_init_42 (fun H locs hat hz2 ho hS => ?_)
  exact kk H locs (hP.put hxN hat hz2 ho) hS
set_option maxRecDepth 100000 in
theorem mi_5 {p : Program} {l : Launch} {e : Env} {R : Room} {s : State} {m : MethodId} {args : Array Value} {below : List Frame} {meth : Method} {c : Code} {H : Heap} {locs : List Loc} {Q : State → Prop} {D : va_G} {cs : Nat → ClassId} {N x : Nat} {ls : Array Slot} (C : mdC p s m args meth c D cs) (hxN : x < N) (hS : va_S (fun q : Nat => q = x ∨ N ≤ q) s.heap H locs) (hP : mdP D cs N x 5 [.int 0, .int 0, .ref (N + 0), .int 0, .ref (N + 1), .ref (N + 2), .ref (N + 3), .ref (N + 4), .null, .null, .null, .null, .null, .null, .null, .null, .int 0, .null, .null, .null, .null, .null, .int 0, .null, .null, .int 0, .null, .null] H) (hl : lv_has ls 2 [(0, .ref x)]) (hc : 6 ≤ R.cells) (hs : 1476 ≤ R.slots) (kk : ∀ (H : Heap) (locs : List Loc), mdP D cs N x 6 [.int 0, .int 0, .ref (N + 0), .int 0, .ref (N + 1), .ref (N + 2), .ref (N + 3), .ref (N + 4), .ref (N + 5), .null, .null, .null, .null, .null, .null, .null, .int 0, .null, .null, .null, .null, .null, .int 0, .null, .null, .int 0, .null, .null] H → va_S (fun q : Nat => q = x ∨ N ≤ q) s.heap H locs → W p l e R s m args below meth c H locs 6 1476 Q (F0 m 53 ls [])) : W p l e R s m args below meth c H locs 5 1380 Q (F0 m 45 ls []) := by
  obtain ⟨hx, hb, hown, hin, htg, hK⟩ := C
  refine lv_aload_n hx hb d_Md_init_45 rfl (lv_at hl 0 rfl) ?_
  refine lv_bipush (v := 96) hx hb d_Md_init_46 (by decide) ?_
  refine hx_newa (atype := .int) (cA := cs 0) (N' := 96) (a0 := (96, .inl (fun _ => 0))) hx hb (htg _ (gw_mem (i := 151) (by decide +kernel) rfl)) hK hS 0 rfl rfl (by decide) (by decide) (show 96 * 4 ≤ 536870912 by decide) hc hs d_Md_init_48 (fun H1 hat hz1 ho hS => ?_)
  have hN := hP.2.2
  replace hP := hP.new hxN hat hz1 ho
  rw [hN]
  refine hx_putF (ty := .array (.int)) (v := .ref (N + 5)) hx hb htg iMd tMd tMd_ok nMd hown hK hP.1 hS (Or.inl rfl) rfl 8 (by decide) (htg _ (gw_mem (i := 1006) (by decide +kernel) rfl)) (fun _ h9 => h9) rfl hin rfl (by decide +kernel) rfl rfl (Nat.le_of_ble_eq_true rfl) d_Md_init_50 (fun H locs hat hz2 ho hS => ?_)
  exact kk H locs (hP.put hxN hat hz2 ho) hS
set_option maxRecDepth 100000 in
theorem mi_6 {p : Program} {l : Launch} {e : Env} {R : Room} {s : State} {m : MethodId} {args : Array Value} {below : List Frame} {meth : Method} {c : Code} {H : Heap} {locs : List Loc} {Q : State → Prop} {D : va_G} {cs : Nat → ClassId} {N x : Nat} {ls : Array Slot} (C : mdC p s m args meth c D cs) (hxN : x < N) (hS : va_S (fun q : Nat => q = x ∨ N ≤ q) s.heap H locs) (hP : mdP D cs N x 6 [.int 0, .int 0, .ref (N + 0), .int 0, .ref (N + 1), .ref (N + 2), .ref (N + 3), .ref (N + 4), .ref (N + 5), .null, .null, .null, .null, .null, .null, .null, .int 0, .null, .null, .null, .null, .null, .int 0, .null, .null, .int 0, .null, .null] H) (hl : lv_has ls 2 [(0, .ref x)]) (hc : 7 ≤ R.cells) (hs : 1572 ≤ R.slots) (kk : ∀ (H : Heap) (locs : List Loc), mdP D cs N x 7 [.int 0, .int 0, .ref (N + 0), .int 0, .ref (N + 1), .ref (N + 2), .ref (N + 3), .ref (N + 4), .ref (N + 5), .ref (N + 6), .null, .null, .null, .null, .null, .null, .int 0, .null, .null, .null, .null, .null, .int 0, .null, .null, .int 0, .null, .null] H → va_S (fun q : Nat => q = x ∨ N ≤ q) s.heap H locs → W p l e R s m args below meth c H locs 7 1572 Q (F0 m 61 ls [])) : W p l e R s m args below meth c H locs 6 1476 Q (F0 m 53 ls []) := by
  obtain ⟨hx, hb, hown, hin, htg, hK⟩ := C
  refine lv_aload_n hx hb d_Md_init_53 rfl (lv_at hl 0 rfl) ?_
  refine lv_bipush (v := 96) hx hb d_Md_init_54 (by decide) ?_
  refine hx_newa (atype := .int) (cA := cs 0) (N' := 96) (a0 := (96, .inl (fun _ => 0))) hx hb (htg _ (gw_mem (i := 151) (by decide +kernel) rfl)) hK hS 0 rfl rfl (by decide) (by decide) (show 96 * 4 ≤ 536870912 by decide) hc hs d_Md_init_56 (fun H1 hat hz1 ho hS => ?_)
  have hN := hP.2.2
  replace hP := hP.new hxN hat hz1 ho
  rw [hN]
  refine hx_putF (ty := .array (.int)) (v := .ref (N + 6)) hx hb htg iMd tMd tMd_ok nMd hown hK hP.1 hS (Or.inl rfl) rfl 9 (by decide) (htg _ (gw_mem (i := 1007) (by decide +kernel) rfl)) (fun _ h9 => h9) rfl hin rfl (by decide +kernel) rfl rfl (Nat.le_of_ble_eq_true rfl) d_Md_init_58 (fun H locs hat hz2 ho hS => ?_)
  exact kk H locs (hP.put hxN hat hz2 ho) hS
set_option maxRecDepth 100000 in
theorem mi_7 {p : Program} {l : Launch} {e : Env} {R : Room} {s : State} {m : MethodId} {args : Array Value} {below : List Frame} {meth : Method} {c : Code} {H : Heap} {locs : List Loc} {Q : State → Prop} {D : va_G} {cs : Nat → ClassId} {N x : Nat} {ls : Array Slot} (C : mdC p s m args meth c D cs) (hxN : x < N) (hS : va_S (fun q : Nat => q = x ∨ N ≤ q) s.heap H locs) (hP : mdP D cs N x 7 [.int 0, .int 0, .ref (N + 0), .int 0, .ref (N + 1), .ref (N + 2), .ref (N + 3), .ref (N + 4), .ref (N + 5), .ref (N + 6), .null, .null, .null, .null, .null, .null, .int 0, .null, .null, .null, .null, .null, .int 0, .null, .null, .int 0, .null, .null] H) (hl : lv_has ls 2 [(0, .ref x)]) (hc : 8 ≤ R.cells) (hs : 1596 ≤ R.slots) (kk : ∀ (H : Heap) (locs : List Loc), mdP D cs N x 8 [.int 0, .int 0, .ref (N + 0), .int 0, .ref (N + 1), .ref (N + 2), .ref (N + 3), .ref (N + 4), .ref (N + 5), .ref (N + 6), .ref (N + 7), .null, .null, .null, .null, .null, .int 0, .null, .null, .null, .null, .null, .int 0, .null, .null, .int 0, .null, .null] H → va_S (fun q : Nat => q = x ∨ N ≤ q) s.heap H locs → W p l e R s m args below meth c H locs 8 1596 Q (F0 m 69 ls [])) : W p l e R s m args below meth c H locs 7 1572 Q (F0 m 61 ls []) := by
  obtain ⟨hx, hb, hown, hin, htg, hK⟩ := C
  refine lv_aload_n hx hb d_Md_init_61 rfl (lv_at hl 0 rfl) ?_
  refine lv_bipush (v := 24) hx hb d_Md_init_62 (by decide) ?_
  refine hx_newa (atype := .int) (cA := cs 0) (N' := 24) (a0 := (24, .inl (fun _ => 0))) hx hb (htg _ (gw_mem (i := 151) (by decide +kernel) rfl)) hK hS 0 rfl rfl (by decide) (by decide) (show 24 * 4 ≤ 536870912 by decide) hc hs d_Md_init_64 (fun H1 hat hz1 ho hS => ?_)
  have hN := hP.2.2
  replace hP := hP.new hxN hat hz1 ho
  rw [hN]
  refine hx_putF (ty := .array (.int)) (v := .ref (N + 7)) hx hb htg iMd tMd tMd_ok nMd hown hK hP.1 hS (Or.inl rfl) rfl 10 (by decide) (htg _ (gw_mem (i := 1008) (by decide +kernel) rfl)) (fun _ h9 => h9) rfl hin rfl (by decide +kernel) rfl rfl (Nat.le_of_ble_eq_true rfl) d_Md_init_66 (fun H locs hat hz2 ho hS => ?_)
  exact kk H locs (hP.put hxN hat hz2 ho) hS
set_option maxRecDepth 100000 in
theorem mi_8 {p : Program} {l : Launch} {e : Env} {R : Room} {s : State} {m : MethodId} {args : Array Value} {below : List Frame} {meth : Method} {c : Code} {H : Heap} {locs : List Loc} {Q : State → Prop} {D : va_G} {cs : Nat → ClassId} {N x : Nat} {ls : Array Slot} (C : mdC p s m args meth c D cs) (hxN : x < N) (hS : va_S (fun q : Nat => q = x ∨ N ≤ q) s.heap H locs) (hP : mdP D cs N x 8 [.int 0, .int 0, .ref (N + 0), .int 0, .ref (N + 1), .ref (N + 2), .ref (N + 3), .ref (N + 4), .ref (N + 5), .ref (N + 6), .ref (N + 7), .null, .null, .null, .null, .null, .int 0, .null, .null, .null, .null, .null, .int 0, .null, .null, .int 0, .null, .null] H) (hl : lv_has ls 2 [(0, .ref x)]) (hc : 9 ≤ R.cells) (hs : 1620 ≤ R.slots) (kk : ∀ (H : Heap) (locs : List Loc), mdP D cs N x 9 [.int 0, .int 0, .ref (N + 0), .int 0, .ref (N + 1), .ref (N + 2), .ref (N + 3), .ref (N + 4), .ref (N + 5), .ref (N + 6), .ref (N + 7), .ref (N + 8), .null, .null, .null, .null, .int 0, .null, .null, .null, .null, .null, .int 0, .null, .null, .int 0, .null, .null] H → va_S (fun q : Nat => q = x ∨ N ≤ q) s.heap H locs → W p l e R s m args below meth c H locs 9 1620 Q (F0 m 77 ls [])) : W p l e R s m args below meth c H locs 8 1596 Q (F0 m 69 ls []) := by
  obtain ⟨hx, hb, hown, hin, htg, hK⟩ := C
  refine lv_aload_n hx hb d_Md_init_69 rfl (lv_at hl 0 rfl) ?_
  refine lv_bipush (v := 24) hx hb d_Md_init_70 (by decide) ?_
  refine hx_newa (atype := .int) (cA := cs 0) (N' := 24) (a0 := (24, .inl (fun _ => 0))) hx hb (htg _ (gw_mem (i := 151) (by decide +kernel) rfl)) hK hS 0 rfl rfl (by decide) (by decide) (show 24 * 4 ≤ 536870912 by decide) hc hs d_Md_init_72 (fun H1 hat hz1 ho hS => ?_)
  have hN := hP.2.2
  replace hP := hP.new hxN hat hz1 ho
  rw [hN]
  refine hx_putF (ty := .array (.int)) (v := .ref (N + 8)) hx hb htg iMd tMd tMd_ok nMd hown hK hP.1 hS (Or.inl rfl) rfl 11 (by decide) (htg _ (gw_mem (i := 1009) (by decide +kernel) rfl)) (fun _ h9 => h9) rfl hin rfl (by decide +kernel) rfl rfl (Nat.le_of_ble_eq_true rfl) d_Md_init_74 (fun H locs hat hz2 ho hS => ?_)
  exact kk H locs (hP.put hxN hat hz2 ho) hS
set_option maxRecDepth 100000 in
theorem mi_9 {p : Program} {l : Launch} {e : Env} {R : Room} {s : State} {m : MethodId} {args : Array Value} {below : List Frame} {meth : Method} {c : Code} {H : Heap} {locs : List Loc} {Q : State → Prop} {D : va_G} {cs : Nat → ClassId} {N x : Nat} {ls : Array Slot} (C : mdC p s m args meth c D cs) (hxN : x < N) (hS : va_S (fun q : Nat => q = x ∨ N ≤ q) s.heap H locs) (hP : mdP D cs N x 9 [.int 0, .int 0, .ref (N + 0), .int 0, .ref (N + 1), .ref (N + 2), .ref (N + 3), .ref (N + 4), .ref (N + 5), .ref (N + 6), .ref (N + 7), .ref (N + 8), .null, .null, .null, .null, .int 0, .null, .null, .null, .null, .null, .int 0, .null, .null, .int 0, .null, .null] H) (hl : lv_has ls 2 [(0, .ref x)]) (hc : 10 ≤ R.cells) (hs : 2196 ≤ R.slots) (kk : ∀ (H : Heap) (locs : List Loc), mdP D cs N x 10 [.int 0, .int 0, .ref (N + 0), .int 0, .ref (N + 1), .ref (N + 2), .ref (N + 3), .ref (N + 4), .ref (N + 5), .ref (N + 6), .ref (N + 7), .ref (N + 8), .ref (N + 9), .null, .null, .null, .int 0, .null, .null, .null, .null, .null, .int 0, .null, .null, .int 0, .null, .null] H → va_S (fun q : Nat => q = x ∨ N ≤ q) s.heap H locs → W p l e R s m args below meth c H locs 10 2196 Q (F0 m 86 ls [])) : W p l e R s m args below meth c H locs 9 1620 Q (F0 m 77 ls []) := by
  obtain ⟨hx, hb, hown, hin, htg, hK⟩ := C
  refine lv_aload_n hx hb d_Md_init_77 rfl (lv_at hl 0 rfl) ?_
  refine lv_sipush (v := 576) hx hb d_Md_init_78 (by decide) ?_
  refine hx_newa (atype := .int) (cA := cs 0) (N' := 576) (a0 := (576, .inl (fun _ => 0))) hx hb (htg _ (gw_mem (i := 151) (by decide +kernel) rfl)) hK hS 0 rfl rfl (by decide) (by decide) (show 576 * 4 ≤ 536870912 by decide) hc hs d_Md_init_81 (fun H1 hat hz1 ho hS => ?_)
  have hN := hP.2.2
  replace hP := hP.new hxN hat hz1 ho
  rw [hN]
  refine hx_putF (ty := .array (.int)) (v := .ref (N + 9)) hx hb htg iMd tMd tMd_ok nMd hown hK hP.1 hS (Or.inl rfl) rfl 12 (by decide) (htg _ (gw_mem (i := 1010) (by decide +kernel) rfl)) (fun _ h9 => h9) rfl hin rfl (by decide +kernel) rfl rfl (Nat.le_of_ble_eq_true rfl) d_Md_init_83 (fun H locs hat hz2 ho hS => ?_)
  exact kk H locs (hP.put hxN hat hz2 ho) hS
set_option maxRecDepth 100000 in
theorem mi_10 {p : Program} {l : Launch} {e : Env} {R : Room} {s : State} {m : MethodId} {args : Array Value} {below : List Frame} {meth : Method} {c : Code} {H : Heap} {locs : List Loc} {Q : State → Prop} {D : va_G} {cs : Nat → ClassId} {N x : Nat} {ls : Array Slot} (C : mdC p s m args meth c D cs) (hxN : x < N) (hS : va_S (fun q : Nat => q = x ∨ N ≤ q) s.heap H locs) (hP : mdP D cs N x 10 [.int 0, .int 0, .ref (N + 0), .int 0, .ref (N + 1), .ref (N + 2), .ref (N + 3), .ref (N + 4), .ref (N + 5), .ref (N + 6), .ref (N + 7), .ref (N + 8), .ref (N + 9), .null, .null, .null, .int 0, .null, .null, .null, .null, .null, .int 0, .null, .null, .int 0, .null, .null] H) (hl : lv_has ls 2 [(0, .ref x)]) (hc : 11 ≤ R.cells) (hs : 2772 ≤ R.slots) (kk : ∀ (H : Heap) (locs : List Loc), mdP D cs N x 11 [.int 0, .int 0, .ref (N + 0), .int 0, .ref (N + 1), .ref (N + 2), .ref (N + 3), .ref (N + 4), .ref (N + 5), .ref (N + 6), .ref (N + 7), .ref (N + 8), .ref (N + 9), .ref (N + 10), .null, .null, .int 0, .null, .null, .null, .null, .null, .int 0, .null, .null, .int 0, .null, .null] H → va_S (fun q : Nat => q = x ∨ N ≤ q) s.heap H locs → W p l e R s m args below meth c H locs 11 2772 Q (F0 m 95 ls [])) : W p l e R s m args below meth c H locs 10 2196 Q (F0 m 86 ls []) := by
  obtain ⟨hx, hb, hown, hin, htg, hK⟩ := C
  refine lv_aload_n hx hb d_Md_init_86 rfl (lv_at hl 0 rfl) ?_
  refine lv_sipush (v := 576) hx hb d_Md_init_87 (by decide) ?_
  refine hx_newa (atype := .boolean) (cA := cs 1) (N' := 576) (a0 := (576, .inl (fun _ => 0))) hx hb (htg _ (gw_mem (i := 1083) (by decide +kernel) rfl)) hK hS 1 rfl rfl (by decide) (by decide) (show 576 * 1 ≤ 536870912 by decide) hc hs d_Md_init_90 (fun H1 hat hz1 ho hS => ?_)
  have hN := hP.2.2
  replace hP := hP.new hxN hat hz1 ho
  rw [hN]
  refine hx_putF (ty := .array (.boolean)) (v := .ref (N + 10)) hx hb htg iMd tMd tMd_ok nMd hown hK hP.1 hS (Or.inl rfl) rfl 13 (by decide) (htg _ (gw_mem (i := 1011) (by decide +kernel) rfl)) (fun _ h9 => h9) rfl hin rfl (by decide +kernel) rfl rfl (Nat.le_of_ble_eq_true rfl) d_Md_init_92 (fun H locs hat hz2 ho hS => ?_)
  exact kk H locs (hP.put hxN hat hz2 ho) hS
set_option maxRecDepth 100000 in
theorem mi_11 {p : Program} {l : Launch} {e : Env} {R : Room} {s : State} {m : MethodId} {args : Array Value} {below : List Frame} {meth : Method} {c : Code} {H : Heap} {locs : List Loc} {Q : State → Prop} {D : va_G} {cs : Nat → ClassId} {N x : Nat} {ls : Array Slot} (C : mdC p s m args meth c D cs) (hxN : x < N) (hS : va_S (fun q : Nat => q = x ∨ N ≤ q) s.heap H locs) (hP : mdP D cs N x 11 [.int 0, .int 0, .ref (N + 0), .int 0, .ref (N + 1), .ref (N + 2), .ref (N + 3), .ref (N + 4), .ref (N + 5), .ref (N + 6), .ref (N + 7), .ref (N + 8), .ref (N + 9), .ref (N + 10), .null, .null, .int 0, .null, .null, .null, .null, .null, .int 0, .null, .null, .int 0, .null, .null] H) (hl : lv_has ls 2 [(0, .ref x)]) (hc : 12 ≤ R.cells) (hs : 3348 ≤ R.slots) (kk : ∀ (H : Heap) (locs : List Loc), mdP D cs N x 12 [.int 0, .int 0, .ref (N + 0), .int 0, .ref (N + 1), .ref (N + 2), .ref (N + 3), .ref (N + 4), .ref (N + 5), .ref (N + 6), .ref (N + 7), .ref (N + 8), .ref (N + 9), .ref (N + 10), .ref (N + 11), .null, .int 0, .null, .null, .null, .null, .null, .int 0, .null, .null, .int 0, .null, .null] H → va_S (fun q : Nat => q = x ∨ N ≤ q) s.heap H locs → W p l e R s m args below meth c H locs 12 3348 Q (F0 m 104 ls [])) : W p l e R s m args below meth c H locs 11 2772 Q (F0 m 95 ls []) := by
  obtain ⟨hx, hb, hown, hin, htg, hK⟩ := C
  refine lv_aload_n hx hb d_Md_init_95 rfl (lv_at hl 0 rfl) ?_
  refine lv_sipush (v := 576) hx hb d_Md_init_96 (by decide) ?_
  refine hx_newa (atype := .boolean) (cA := cs 1) (N' := 576) (a0 := (576, .inl (fun _ => 0))) hx hb (htg _ (gw_mem (i := 1083) (by decide +kernel) rfl)) hK hS 1 rfl rfl (by decide) (by decide) (show 576 * 1 ≤ 536870912 by decide) hc hs d_Md_init_99 (fun H1 hat hz1 ho hS => ?_)
  have hN := hP.2.2
  replace hP := hP.new hxN hat hz1 ho
  rw [hN]
  refine hx_putF (ty := .array (.boolean)) (v := .ref (N + 11)) hx hb htg iMd tMd tMd_ok nMd hown hK hP.1 hS (Or.inl rfl) rfl 14 (by decide) (htg _ (gw_mem (i := 1012) (by decide +kernel) rfl)) (fun _ h9 => h9) rfl hin rfl (by decide +kernel) rfl rfl (Nat.le_of_ble_eq_true rfl) d_Md_init_101 (fun H locs hat hz2 ho hS => ?_)
  exact kk H locs (hP.put hxN hat hz2 ho) hS
set_option maxRecDepth 100000 in
theorem mi_12 {p : Program} {l : Launch} {e : Env} {R : Room} {s : State} {m : MethodId} {args : Array Value} {below : List Frame} {meth : Method} {c : Code} {H : Heap} {locs : List Loc} {Q : State → Prop} {D : va_G} {cs : Nat → ClassId} {N x : Nat} {ls : Array Slot} (C : mdC p s m args meth c D cs) (hxN : x < N) (hS : va_S (fun q : Nat => q = x ∨ N ≤ q) s.heap H locs) (hP : mdP D cs N x 12 [.int 0, .int 0, .ref (N + 0), .int 0, .ref (N + 1), .ref (N + 2), .ref (N + 3), .ref (N + 4), .ref (N + 5), .ref (N + 6), .ref (N + 7), .ref (N + 8), .ref (N + 9), .ref (N + 10), .ref (N + 11), .null, .int 0, .null, .null, .null, .null, .null, .int 0, .null, .null, .int 0, .null, .null] H) (hl : lv_has ls 2 [(0, .ref x)]) (hc : 13 ≤ R.cells) (hs : 3444 ≤ R.slots) (kk : ∀ (H : Heap) (locs : List Loc), mdP D cs N x 13 [.int 0, .int 0, .ref (N + 0), .int 0, .ref (N + 1), .ref (N + 2), .ref (N + 3), .ref (N + 4), .ref (N + 5), .ref (N + 6), .ref (N + 7), .ref (N + 8), .ref (N + 9), .ref (N + 10), .ref (N + 11), .ref (N + 12), .int 0, .null, .null, .null, .null, .null, .int 0, .null, .null, .int 0, .null, .null] H → va_S (fun q : Nat => q = x ∨ N ≤ q) s.heap H locs → W p l e R s m args below meth c H locs 13 3444 Q (F0 m 112 ls [])) : W p l e R s m args below meth c H locs 12 3348 Q (F0 m 104 ls []) := by
  obtain ⟨hx, hb, hown, hin, htg, hK⟩ := C
  refine lv_aload_n hx hb d_Md_init_104 rfl (lv_at hl 0 rfl) ?_
  refine lv_bipush (v := 96) hx hb d_Md_init_105 (by decide) ?_
  refine hx_newa (atype := .int) (cA := cs 0) (N' := 96) (a0 := (96, .inl (fun _ => 0))) hx hb (htg _ (gw_mem (i := 151) (by decide +kernel) rfl)) hK hS 0 rfl rfl (by decide) (by decide) (show 96 * 4 ≤ 536870912 by decide) hc hs d_Md_init_107 (fun H1 hat hz1 ho hS => ?_)
  have hN := hP.2.2
  replace hP := hP.new hxN hat hz1 ho
  rw [hN]
  refine hx_putF (ty := .array (.int)) (v := .ref (N + 12)) hx hb htg iMd tMd tMd_ok nMd hown hK hP.1 hS (Or.inl rfl) rfl 15 (by decide) (htg _ (gw_mem (i := 1013) (by decide +kernel) rfl)) (fun _ h9 => h9) rfl hin rfl (by decide +kernel) rfl rfl (Nat.le_of_ble_eq_true rfl) d_Md_init_109 (fun H locs hat hz2 ho hS => ?_)
  exact kk H locs (hP.put hxN hat hz2 ho) hS
set_option maxRecDepth 100000 in
theorem mi_13 {p : Program} {l : Launch} {e : Env} {R : Room} {s : State} {m : MethodId} {args : Array Value} {below : List Frame} {meth : Method} {c : Code} {H : Heap} {locs : List Loc} {Q : State → Prop} {D : va_G} {cs : Nat → ClassId} {N x : Nat} {ls : Array Slot} (C : mdC p s m args meth c D cs) (hxN : x < N) (hS : va_S (fun q : Nat => q = x ∨ N ≤ q) s.heap H locs) (hP : mdP D cs N x 13 [.int 0, .int 0, .ref (N + 0), .int 0, .ref (N + 1), .ref (N + 2), .ref (N + 3), .ref (N + 4), .ref (N + 5), .ref (N + 6), .ref (N + 7), .ref (N + 8), .ref (N + 9), .ref (N + 10), .ref (N + 11), .ref (N + 12), .int 0, .null, .null, .null, .null, .null, .int 0, .null, .null, .int 0, .null, .null] H) (hl : lv_has ls 2 [(0, .ref x)]) (hc : 14 ≤ R.cells) (hs : 3504 ≤ R.slots) (kk : ∀ (H : Heap) (locs : List Loc), mdP D cs N x 14 [.int 0, .int 0, .ref (N + 0), .int 0, .ref (N + 1), .ref (N + 2), .ref (N + 3), .ref (N + 4), .ref (N + 5), .ref (N + 6), .ref (N + 7), .ref (N + 8), .ref (N + 9), .ref (N + 10), .ref (N + 11), .ref (N + 12), .int 0, .ref (N + 13), .null, .null, .null, .null, .int 0, .null, .null, .int 0, .null, .null] H → va_S (fun q : Nat => q = x ∨ N ≤ q) s.heap H locs → W p l e R s m args below meth c H locs 14 3504 Q (F0 m 120 ls [])) : W p l e R s m args below meth c H locs 13 3444 Q (F0 m 112 ls []) := by
  obtain ⟨hx, hb, hown, hin, htg, hK⟩ := C
  refine lv_aload_n hx hb d_Md_init_112 rfl (lv_at hl 0 rfl) ?_
  refine lv_bipush (v := 60) hx hb d_Md_init_113 (by decide) ?_
  refine hx_newa (atype := .int) (cA := cs 0) (N' := 60) (a0 := (60, .inl (fun _ => 0))) hx hb (htg _ (gw_mem (i := 151) (by decide +kernel) rfl)) hK hS 0 rfl rfl (by decide) (by decide) (show 60 * 4 ≤ 536870912 by decide) hc hs d_Md_init_115 (fun H1 hat hz1 ho hS => ?_)
  have hN := hP.2.2
  replace hP := hP.new hxN hat hz1 ho
  rw [hN]
  refine hx_putF (ty := .array (.int)) (v := .ref (N + 13)) hx hb htg iMd tMd tMd_ok nMd hown hK hP.1 hS (Or.inl rfl) rfl 17 (by decide) (htg _ (gw_mem (i := 1015) (by decide +kernel) rfl)) (fun _ h9 => h9) rfl hin rfl (by decide +kernel) rfl rfl (Nat.le_of_ble_eq_true rfl) d_Md_init_117 (fun H locs hat hz2 ho hS => ?_)
  exact kk H locs (hP.put hxN hat hz2 ho) hS
set_option maxRecDepth 100000 in
theorem mi_14 {p : Program} {l : Launch} {e : Env} {R : Room} {s : State} {m : MethodId} {args : Array Value} {below : List Frame} {meth : Method} {c : Code} {H : Heap} {locs : List Loc} {Q : State → Prop} {D : va_G} {cs : Nat → ClassId} {N x : Nat} {ls : Array Slot} (C : mdC p s m args meth c D cs) (hxN : x < N) (hS : va_S (fun q : Nat => q = x ∨ N ≤ q) s.heap H locs) (hP : mdP D cs N x 14 [.int 0, .int 0, .ref (N + 0), .int 0, .ref (N + 1), .ref (N + 2), .ref (N + 3), .ref (N + 4), .ref (N + 5), .ref (N + 6), .ref (N + 7), .ref (N + 8), .ref (N + 9), .ref (N + 10), .ref (N + 11), .ref (N + 12), .int 0, .ref (N + 13), .null, .null, .null, .null, .int 0, .null, .null, .int 0, .null, .null] H) (hl : lv_has ls 2 [(0, .ref x)]) (hc : 15 ≤ R.cells) (hs : 3564 ≤ R.slots) (kk : ∀ (H : Heap) (locs : List Loc), mdP D cs N x 15 [.int 0, .int 0, .ref (N + 0), .int 0, .ref (N + 1), .ref (N + 2), .ref (N + 3), .ref (N + 4), .ref (N + 5), .ref (N + 6), .ref (N + 7), .ref (N + 8), .ref (N + 9), .ref (N + 10), .ref (N + 11), .ref (N + 12), .int 0, .ref (N + 13), .ref (N + 14), .null, .null, .null, .int 0, .null, .null, .int 0, .null, .null] H → va_S (fun q : Nat => q = x ∨ N ≤ q) s.heap H locs → W p l e R s m args below meth c H locs 15 3564 Q (F0 m 128 ls [])) : W p l e R s m args below meth c H locs 14 3504 Q (F0 m 120 ls []) := by
  obtain ⟨hx, hb, hown, hin, htg, hK⟩ := C
  refine lv_aload_n hx hb d_Md_init_120 rfl (lv_at hl 0 rfl) ?_
  refine lv_bipush (v := 60) hx hb d_Md_init_121 (by decide) ?_
  refine hx_newa (atype := .int) (cA := cs 0) (N' := 60) (a0 := (60, .inl (fun _ => 0))) hx hb (htg _ (gw_mem (i := 151) (by decide +kernel) rfl)) hK hS 0 rfl rfl (by decide) (by decide) (show 60 * 4 ≤ 536870912 by decide) hc hs d_Md_init_123 (fun H1 hat hz1 ho hS => ?_)
  have hN := hP.2.2
  replace hP := hP.new hxN hat hz1 ho
  rw [hN]
  refine hx_putF (ty := .array (.int)) (v := .ref (N + 14)) hx hb htg iMd tMd tMd_ok nMd hown hK hP.1 hS (Or.inl rfl) rfl 18 (by decide) (htg _ (gw_mem (i := 1016) (by decide +kernel) rfl)) (fun _ h9 => h9) rfl hin rfl (by decide +kernel) rfl rfl (Nat.le_of_ble_eq_true rfl) d_Md_init_125 (fun H locs hat hz2 ho hS => ?_)
  exact kk H locs (hP.put hxN hat hz2 ho) hS
set_option maxRecDepth 100000 in
theorem mi_15 {p : Program} {l : Launch} {e : Env} {R : Room} {s : State} {m : MethodId} {args : Array Value} {below : List Frame} {meth : Method} {c : Code} {H : Heap} {locs : List Loc} {Q : State → Prop} {D : va_G} {cs : Nat → ClassId} {N x : Nat} {ls : Array Slot} (C : mdC p s m args meth c D cs) (hxN : x < N) (hS : va_S (fun q : Nat => q = x ∨ N ≤ q) s.heap H locs) (hP : mdP D cs N x 15 [.int 0, .int 0, .ref (N + 0), .int 0, .ref (N + 1), .ref (N + 2), .ref (N + 3), .ref (N + 4), .ref (N + 5), .ref (N + 6), .ref (N + 7), .ref (N + 8), .ref (N + 9), .ref (N + 10), .ref (N + 11), .ref (N + 12), .int 0, .ref (N + 13), .ref (N + 14), .null, .null, .null, .int 0, .null, .null, .int 0, .null, .null] H) (hl : lv_has ls 2 [(0, .ref x)]) (hc : 16 ≤ R.cells) (hs : 3624 ≤ R.slots) (kk : ∀ (H : Heap) (locs : List Loc), mdP D cs N x 16 [.int 0, .int 0, .ref (N + 0), .int 0, .ref (N + 1), .ref (N + 2), .ref (N + 3), .ref (N + 4), .ref (N + 5), .ref (N + 6), .ref (N + 7), .ref (N + 8), .ref (N + 9), .ref (N + 10), .ref (N + 11), .ref (N + 12), .int 0, .ref (N + 13), .ref (N + 14), .ref (N + 15), .null, .null, .int 0, .null, .null, .int 0, .null, .null] H → va_S (fun q : Nat => q = x ∨ N ≤ q) s.heap H locs → W p l e R s m args below meth c H locs 16 3624 Q (F0 m 136 ls [])) : W p l e R s m args below meth c H locs 15 3564 Q (F0 m 128 ls []) := by
  obtain ⟨hx, hb, hown, hin, htg, hK⟩ := C
  refine lv_aload_n hx hb d_Md_init_128 rfl (lv_at hl 0 rfl) ?_
  refine lv_bipush (v := 60) hx hb d_Md_init_129 (by decide) ?_
  refine hx_newa (atype := .int) (cA := cs 0) (N' := 60) (a0 := (60, .inl (fun _ => 0))) hx hb (htg _ (gw_mem (i := 151) (by decide +kernel) rfl)) hK hS 0 rfl rfl (by decide) (by decide) (show 60 * 4 ≤ 536870912 by decide) hc hs d_Md_init_131 (fun H1 hat hz1 ho hS => ?_)
  have hN := hP.2.2
  replace hP := hP.new hxN hat hz1 ho
  rw [hN]
  refine hx_putF (ty := .array (.int)) (v := .ref (N + 15)) hx hb htg iMd tMd tMd_ok nMd hown hK hP.1 hS (Or.inl rfl) rfl 19 (by decide) (htg _ (gw_mem (i := 1017) (by decide +kernel) rfl)) (fun _ h9 => h9) rfl hin rfl (by decide +kernel) rfl rfl (Nat.le_of_ble_eq_true rfl) d_Md_init_133 (fun H locs hat hz2 ho hS => ?_)
  exact kk H locs (hP.put hxN hat hz2 ho) hS
set_option maxRecDepth 100000 in
theorem mi_16 {p : Program} {l : Launch} {e : Env} {R : Room} {s : State} {m : MethodId} {args : Array Value} {below : List Frame} {meth : Method} {c : Code} {H : Heap} {locs : List Loc} {Q : State → Prop} {D : va_G} {cs : Nat → ClassId} {N x : Nat} {ls : Array Slot} (C : mdC p s m args meth c D cs) (hxN : x < N) (hS : va_S (fun q : Nat => q = x ∨ N ≤ q) s.heap H locs) (hP : mdP D cs N x 16 [.int 0, .int 0, .ref (N + 0), .int 0, .ref (N + 1), .ref (N + 2), .ref (N + 3), .ref (N + 4), .ref (N + 5), .ref (N + 6), .ref (N + 7), .ref (N + 8), .ref (N + 9), .ref (N + 10), .ref (N + 11), .ref (N + 12), .int 0, .ref (N + 13), .ref (N + 14), .ref (N + 15), .null, .null, .int 0, .null, .null, .int 0, .null, .null] H) (hl : lv_has ls 2 [(0, .ref x)]) (hc : 17 ≤ R.cells) (hs : 3684 ≤ R.slots) (kk : ∀ (H : Heap) (locs : List Loc), mdP D cs N x 17 [.int 0, .int 0, .ref (N + 0), .int 0, .ref (N + 1), .ref (N + 2), .ref (N + 3), .ref (N + 4), .ref (N + 5), .ref (N + 6), .ref (N + 7), .ref (N + 8), .ref (N + 9), .ref (N + 10), .ref (N + 11), .ref (N + 12), .int 0, .ref (N + 13), .ref (N + 14), .ref (N + 15), .ref (N + 16), .null, .int 0, .null, .null, .int 0, .null, .null] H → va_S (fun q : Nat => q = x ∨ N ≤ q) s.heap H locs → W p l e R s m args below meth c H locs 17 3684 Q (F0 m 144 ls [])) : W p l e R s m args below meth c H locs 16 3624 Q (F0 m 136 ls []) := by
  obtain ⟨hx, hb, hown, hin, htg, hK⟩ := C
  refine lv_aload_n hx hb d_Md_init_136 rfl (lv_at hl 0 rfl) ?_
  refine lv_bipush (v := 60) hx hb d_Md_init_137 (by decide) ?_
  refine hx_newa (atype := .int) (cA := cs 0) (N' := 60) (a0 := (60, .inl (fun _ => 0))) hx hb (htg _ (gw_mem (i := 151) (by decide +kernel) rfl)) hK hS 0 rfl rfl (by decide) (by decide) (show 60 * 4 ≤ 536870912 by decide) hc hs d_Md_init_139 (fun H1 hat hz1 ho hS => ?_)
  have hN := hP.2.2
  replace hP := hP.new hxN hat hz1 ho
  rw [hN]
  refine hx_putF (ty := .array (.int)) (v := .ref (N + 16)) hx hb htg iMd tMd tMd_ok nMd hown hK hP.1 hS (Or.inl rfl) rfl 20 (by decide) (htg _ (gw_mem (i := 1018) (by decide +kernel) rfl)) (fun _ h9 => h9) rfl hin rfl (by decide +kernel) rfl rfl (Nat.le_of_ble_eq_true rfl) d_Md_init_141 (fun H locs hat hz2 ho hS => ?_)
  exact kk H locs (hP.put hxN hat hz2 ho) hS
set_option maxRecDepth 100000 in
theorem mi_17 {p : Program} {l : Launch} {e : Env} {R : Room} {s : State} {m : MethodId} {args : Array Value} {below : List Frame} {meth : Method} {c : Code} {H : Heap} {locs : List Loc} {Q : State → Prop} {D : va_G} {cs : Nat → ClassId} {N x : Nat} {ls : Array Slot} (C : mdC p s m args meth c D cs) (hxN : x < N) (hS : va_S (fun q : Nat => q = x ∨ N ≤ q) s.heap H locs) (hP : mdP D cs N x 17 [.int 0, .int 0, .ref (N + 0), .int 0, .ref (N + 1), .ref (N + 2), .ref (N + 3), .ref (N + 4), .ref (N + 5), .ref (N + 6), .ref (N + 7), .ref (N + 8), .ref (N + 9), .ref (N + 10), .ref (N + 11), .ref (N + 12), .int 0, .ref (N + 13), .ref (N + 14), .ref (N + 15), .ref (N + 16), .null, .int 0, .null, .null, .int 0, .null, .null] H) (hl : lv_has ls 2 [(0, .ref x)]) (hc : 18 ≤ R.cells) (hs : 3708 ≤ R.slots) (kk : ∀ (H : Heap) (locs : List Loc), mdP D cs N x 18 [.int 0, .int 0, .ref (N + 0), .int 0, .ref (N + 1), .ref (N + 2), .ref (N + 3), .ref (N + 4), .ref (N + 5), .ref (N + 6), .ref (N + 7), .ref (N + 8), .ref (N + 9), .ref (N + 10), .ref (N + 11), .ref (N + 12), .int 0, .ref (N + 13), .ref (N + 14), .ref (N + 15), .ref (N + 16), .ref (N + 17), .int 0, .null, .null, .int 0, .null, .null] H → va_S (fun q : Nat => q = x ∨ N ≤ q) s.heap H locs → W p l e R s m args below meth c H locs 18 3708 Q (F0 m 152 ls [])) : W p l e R s m args below meth c H locs 17 3684 Q (F0 m 144 ls []) := by
  obtain ⟨hx, hb, hown, hin, htg, hK⟩ := C
  refine lv_aload_n hx hb d_Md_init_144 rfl (lv_at hl 0 rfl) ?_
  refine lv_bipush (v := 24) hx hb d_Md_init_145 (by decide) ?_
  refine hx_newa (atype := .int) (cA := cs 0) (N' := 24) (a0 := (24, .inl (fun _ => 0))) hx hb (htg _ (gw_mem (i := 151) (by decide +kernel) rfl)) hK hS 0 rfl rfl (by decide) (by decide) (show 24 * 4 ≤ 536870912 by decide) hc hs d_Md_init_147 (fun H1 hat hz1 ho hS => ?_)
  have hN := hP.2.2
  replace hP := hP.new hxN hat hz1 ho
  rw [hN]
  refine hx_putF (ty := .array (.int)) (v := .ref (N + 17)) hx hb htg iMd tMd tMd_ok nMd hown hK hP.1 hS (Or.inl rfl) rfl 21 (by decide) (htg _ (gw_mem (i := 1019) (by decide +kernel) rfl)) (fun _ h9 => h9) rfl hin rfl (by decide +kernel) rfl rfl (Nat.le_of_ble_eq_true rfl) d_Md_init_149 (fun H locs hat hz2 ho hS => ?_)
  exact kk H locs (hP.put hxN hat hz2 ho) hS
set_option maxRecDepth 100000 in
theorem mi_18 {p : Program} {l : Launch} {e : Env} {R : Room} {s : State} {m : MethodId} {args : Array Value} {below : List Frame} {meth : Method} {c : Code} {H : Heap} {locs : List Loc} {Q : State → Prop} {D : va_G} {cs : Nat → ClassId} {N x : Nat} {ls : Array Slot} (C : mdC p s m args meth c D cs) (hxN : x < N) (hS : va_S (fun q : Nat => q = x ∨ N ≤ q) s.heap H locs) (hP : mdP D cs N x 18 [.int 0, .int 0, .ref (N + 0), .int 0, .ref (N + 1), .ref (N + 2), .ref (N + 3), .ref (N + 4), .ref (N + 5), .ref (N + 6), .ref (N + 7), .ref (N + 8), .ref (N + 9), .ref (N + 10), .ref (N + 11), .ref (N + 12), .int 0, .ref (N + 13), .ref (N + 14), .ref (N + 15), .ref (N + 16), .ref (N + 17), .int 0, .null, .null, .int 0, .null, .null] H) (hl : lv_has ls 2 [(0, .ref x)]) (hc : 19 ≤ R.cells) (hs : 3984 ≤ R.slots) (kk : ∀ (H : Heap) (locs : List Loc), mdP D cs N x 19 [.int 0, .int 0, .ref (N + 0), .int 0, .ref (N + 1), .ref (N + 2), .ref (N + 3), .ref (N + 4), .ref (N + 5), .ref (N + 6), .ref (N + 7), .ref (N + 8), .ref (N + 9), .ref (N + 10), .ref (N + 11), .ref (N + 12), .int 0, .ref (N + 13), .ref (N + 14), .ref (N + 15), .ref (N + 16), .ref (N + 17), .int 0, .ref (N + 18), .null, .int 0, .null, .null] H → va_S (fun q : Nat => q = x ∨ N ≤ q) s.heap H locs → W p l e R s m args below meth c H locs 19 3984 Q (F0 m 161 ls [])) : W p l e R s m args below meth c H locs 18 3708 Q (F0 m 152 ls []) := by
  obtain ⟨hx, hb, hown, hin, htg, hK⟩ := C
  refine lv_aload_n hx hb d_Md_init_152 rfl (lv_at hl 0 rfl) ?_
  refine lv_sipush (v := 276) hx hb d_Md_init_153 (by decide) ?_
  refine hx_newa (atype := .int) (cA := cs 0) (N' := 276) (a0 := (276, .inl (fun _ => 0))) hx hb (htg _ (gw_mem (i := 151) (by decide +kernel) rfl)) hK hS 0 rfl rfl (by decide) (by decide) (show 276 * 4 ≤ 536870912 by decide) hc hs d_Md_init_156 (fun H1 hat hz1 ho hS => ?_)
  have hN := hP.2.2
  replace hP := hP.new hxN hat hz1 ho
  rw [hN]
  refine hx_putF (ty := .array (.int)) (v := .ref (N + 18)) hx hb htg iMd tMd tMd_ok nMd hown hK hP.1 hS (Or.inl rfl) rfl 23 (by decide) (htg _ (gw_mem (i := 1021) (by decide +kernel) rfl)) (fun _ h9 => h9) rfl hin rfl (by decide +kernel) rfl rfl (Nat.le_of_ble_eq_true rfl) d_Md_init_158 (fun H locs hat hz2 ho hS => ?_)
  exact kk H locs (hP.put hxN hat hz2 ho) hS
set_option maxRecDepth 100000 in
theorem mi_19 {p : Program} {l : Launch} {e : Env} {R : Room} {s : State} {m : MethodId} {args : Array Value} {below : List Frame} {meth : Method} {c : Code} {H : Heap} {locs : List Loc} {Q : State → Prop} {D : va_G} {cs : Nat → ClassId} {N x : Nat} {ls : Array Slot} (C : mdC p s m args meth c D cs) (hxN : x < N) (hS : va_S (fun q : Nat => q = x ∨ N ≤ q) s.heap H locs) (hP : mdP D cs N x 19 [.int 0, .int 0, .ref (N + 0), .int 0, .ref (N + 1), .ref (N + 2), .ref (N + 3), .ref (N + 4), .ref (N + 5), .ref (N + 6), .ref (N + 7), .ref (N + 8), .ref (N + 9), .ref (N + 10), .ref (N + 11), .ref (N + 12), .int 0, .ref (N + 13), .ref (N + 14), .ref (N + 15), .ref (N + 16), .ref (N + 17), .int 0, .ref (N + 18), .null, .int 0, .null, .null] H) (hl : lv_has ls 2 [(0, .ref x)]) (hc : 20 ≤ R.cells) (hs : 4260 ≤ R.slots) (kk : ∀ (H : Heap) (locs : List Loc), mdP D cs N x 20 [.int 0, .int 0, .ref (N + 0), .int 0, .ref (N + 1), .ref (N + 2), .ref (N + 3), .ref (N + 4), .ref (N + 5), .ref (N + 6), .ref (N + 7), .ref (N + 8), .ref (N + 9), .ref (N + 10), .ref (N + 11), .ref (N + 12), .int 0, .ref (N + 13), .ref (N + 14), .ref (N + 15), .ref (N + 16), .ref (N + 17), .int 0, .ref (N + 18), .ref (N + 19), .int 0, .null, .null] H → va_S (fun q : Nat => q = x ∨ N ≤ q) s.heap H locs → W p l e R s m args below meth c H locs 20 4260 Q (F0 m 170 ls [])) : W p l e R s m args below meth c H locs 19 3984 Q (F0 m 161 ls []) := by
  obtain ⟨hx, hb, hown, hin, htg, hK⟩ := C
  refine lv_aload_n hx hb d_Md_init_161 rfl (lv_at hl 0 rfl) ?_
  refine lv_sipush (v := 276) hx hb d_Md_init_162 (by decide) ?_
  refine hx_newa (atype := .int) (cA := cs 0) (N' := 276) (a0 := (276, .inl (fun _ => 0))) hx hb (htg _ (gw_mem (i := 151) (by decide +kernel) rfl)) hK hS 0 rfl rfl (by decide) (by decide) (show 276 * 4 ≤ 536870912 by decide) hc hs d_Md_init_165 (fun H1 hat hz1 ho hS => ?_)
  have hN := hP.2.2
  replace hP := hP.new hxN hat hz1 ho
  rw [hN]
  refine hx_putF (ty := .array (.int)) (v := .ref (N + 19)) hx hb htg iMd tMd tMd_ok nMd hown hK hP.1 hS (Or.inl rfl) rfl 24 (by decide) (htg _ (gw_mem (i := 1022) (by decide +kernel) rfl)) (fun _ h9 => h9) rfl hin rfl (by decide +kernel) rfl rfl (Nat.le_of_ble_eq_true rfl) d_Md_init_167 (fun H locs hat hz2 ho hS => ?_)
  exact kk H locs (hP.put hxN hat hz2 ho) hS
set_option maxRecDepth 100000 in
theorem mi_20 {p : Program} {l : Launch} {e : Env} {R : Room} {s : State} {m : MethodId} {args : Array Value} {below : List Frame} {meth : Method} {c : Code} {H : Heap} {locs : List Loc} {Q : State → Prop} {D : va_G} {cs : Nat → ClassId} {N x : Nat} {ls : Array Slot} (C : mdC p s m args meth c D cs) (hxN : x < N) (hS : va_S (fun q : Nat => q = x ∨ N ≤ q) s.heap H locs) (hP : mdP D cs N x 20 [.int 0, .int 0, .ref (N + 0), .int 0, .ref (N + 1), .ref (N + 2), .ref (N + 3), .ref (N + 4), .ref (N + 5), .ref (N + 6), .ref (N + 7), .ref (N + 8), .ref (N + 9), .ref (N + 10), .ref (N + 11), .ref (N + 12), .int 0, .ref (N + 13), .ref (N + 14), .ref (N + 15), .ref (N + 16), .ref (N + 17), .int 0, .ref (N + 18), .ref (N + 19), .int 0, .null, .null] H) (hl : lv_has ls 2 [(0, .ref x)]) (hc : 21 ≤ R.cells) (hs : 4284 ≤ R.slots) (kk : ∀ (H : Heap) (locs : List Loc), mdP D cs N x 21 [.int 0, .int 0, .ref (N + 0), .int 0, .ref (N + 1), .ref (N + 2), .ref (N + 3), .ref (N + 4), .ref (N + 5), .ref (N + 6), .ref (N + 7), .ref (N + 8), .ref (N + 9), .ref (N + 10), .ref (N + 11), .ref (N + 12), .int 0, .ref (N + 13), .ref (N + 14), .ref (N + 15), .ref (N + 16), .ref (N + 17), .int 0, .ref (N + 18), .ref (N + 19), .int 0, .ref (N + 20), .null] H → va_S (fun q : Nat => q = x ∨ N ≤ q) s.heap H locs → W p l e R s m args below meth c H locs 21 4284 Q (F0 m 178 ls [])) : W p l e R s m args below meth c H locs 20 4260 Q (F0 m 170 ls []) := by
  obtain ⟨hx, hb, hown, hin, htg, hK⟩ := C
  refine lv_aload_n hx hb d_Md_init_170 rfl (lv_at hl 0 rfl) ?_
  refine lv_bipush (v := 24) hx hb d_Md_init_171 (by decide) ?_
  refine hx_newa (atype := .int) (cA := cs 0) (N' := 24) (a0 := (24, .inl (fun _ => 0))) hx hb (htg _ (gw_mem (i := 151) (by decide +kernel) rfl)) hK hS 0 rfl rfl (by decide) (by decide) (show 24 * 4 ≤ 536870912 by decide) hc hs d_Md_init_173 (fun H1 hat hz1 ho hS => ?_)
  have hN := hP.2.2
  replace hP := hP.new hxN hat hz1 ho
  rw [hN]
  refine hx_putF (ty := .array (.int)) (v := .ref (N + 20)) hx hb htg iMd tMd tMd_ok nMd hown hK hP.1 hS (Or.inl rfl) rfl 26 (by decide) (htg _ (gw_mem (i := 1024) (by decide +kernel) rfl)) (fun _ h9 => h9) rfl hin rfl (by decide +kernel) rfl rfl (Nat.le_of_ble_eq_true rfl) d_Md_init_175 (fun H locs hat hz2 ho hS => ?_)
  exact kk H locs (hP.put hxN hat hz2 ho) hS
set_option maxRecDepth 100000 in
theorem mi_21 {p : Program} {l : Launch} {e : Env} {R : Room} {s : State} {m : MethodId} {args : Array Value} {below : List Frame} {meth : Method} {c : Code} {H : Heap} {locs : List Loc} {Q : State → Prop} {D : va_G} {cs : Nat → ClassId} {N x : Nat} {ls : Array Slot} (C : mdC p s m args meth c D cs) (hxN : x < N) (hS : va_S (fun q : Nat => q = x ∨ N ≤ q) s.heap H locs) (hP : mdP D cs N x 21 [.int 0, .int 0, .ref (N + 0), .int 0, .ref (N + 1), .ref (N + 2), .ref (N + 3), .ref (N + 4), .ref (N + 5), .ref (N + 6), .ref (N + 7), .ref (N + 8), .ref (N + 9), .ref (N + 10), .ref (N + 11), .ref (N + 12), .int 0, .ref (N + 13), .ref (N + 14), .ref (N + 15), .ref (N + 16), .ref (N + 17), .int 0, .ref (N + 18), .ref (N + 19), .int 0, .ref (N + 20), .null] H) (hl : lv_has ls 2 [(0, .ref x)]) (hc : 22 ≤ R.cells) (hs : 4453 ≤ R.slots) (kk : ∀ (H : Heap) (locs : List Loc), mdP D cs N x 22 [.int 0, .int 0, .ref (N + 0), .int 0, .ref (N + 1), .ref (N + 2), .ref (N + 3), .ref (N + 4), .ref (N + 5), .ref (N + 6), .ref (N + 7), .ref (N + 8), .ref (N + 9), .ref (N + 10), .ref (N + 11), .ref (N + 12), .int 0, .ref (N + 13), .ref (N + 14), .ref (N + 15), .ref (N + 16), .ref (N + 17), .int 0, .ref (N + 18), .ref (N + 19), .int 0, .ref (N + 20), .ref (N + 21)] H → va_S (fun q : Nat => q = x ∨ N ≤ q) s.heap H locs → W p l e R s m args below meth c H locs 22 4453 Q (F0 m 187 ls [])) : W p l e R s m args below meth c H locs 21 4284 Q (F0 m 178 ls []) := by
  obtain ⟨hx, hb, hown, hin, htg, hK⟩ := C
  refine lv_aload_n hx hb d_Md_init_178 rfl (lv_at hl 0 rfl) ?_
  refine lv_sipush (v := 169) hx hb d_Md_init_179 (by decide) ?_
  refine hx_newa (atype := .int) (cA := cs 0) (N' := 169) (a0 := (169, .inl (fun _ => 0))) hx hb (htg _ (gw_mem (i := 151) (by decide +kernel) rfl)) hK hS 0 rfl rfl (by decide) (by decide) (show 169 * 4 ≤ 536870912 by decide) hc hs d_Md_init_182 (fun H1 hat hz1 ho hS => ?_)
  have hN := hP.2.2
  replace hP := hP.new hxN hat hz1 ho
  rw [hN]
  refine hx_putF (ty := .array (.int)) (v := .ref (N + 21)) hx hb htg iMd tMd tMd_ok nMd hown hK hP.1 hS (Or.inl rfl) rfl 27 (by decide) (htg _ (gw_mem (i := 1025) (by decide +kernel) rfl)) (fun _ h9 => h9) rfl hin rfl (by decide +kernel) rfl rfl (Nat.le_of_ble_eq_true rfl) d_Md_init_184 (fun H locs hat hz2 ho hS => ?_)
  exact kk H locs (hP.put hxN hat hz2 ho) hS
set_option maxHeartbeats 4000000 in
set_option maxRecDepth 100000 in
theorem c_Md_init (l : Launch) (D : va_G) (cs : Nat → ClassId) (N0 N : Nat) (H : Heap) (x : Nat) (hN : H.size = N) (hO : va_at D vwCl (x, .inr (0, [.int 0, .int 0, .null, .int 0, .null, .null, .null, .null, .null, .null, .null, .null, .null, .null, .null, .null, .int 0, .null, .null, .null, .null, .null, .int 0, .null, .null, .int 0, .null, .null])) H) : Met l y_Md_init w_Md_init ({ frames := 1, cells := 22, slots := 4453, locals := 12 }) (hPre D cs N0 [.ref x] H) (hQv (fun H' => (∃ f9 : Nat → Nat → Int32, md_I D cs H' x (fun k => N + k) (fun _ => 0) f9 ∧ (∀ k, k < 24 → f9 8 k = -1) ∧ ∀ q, q ≠ 8 → f9 q = fun _ => 0) ∧ H'.size = N + 22) (fun q : Nat => q = x ∨ N ≤ q)) 22 4453 (fun q : Nat => q = x ∨ N ≤ q) := by
  refine Met.ofW (cc := prog_7_method_1_code) (maxL := 2) (ret := none) (by decide) rfl ?_
  intro p e s m args below meth c s₁ B hml hv
  obtain ⟨rfl, rfl, hB⟩ := hv
  have hx := B.exec
  have hb := B.bytes
  have hr := B.returns
  have hts := atoms_spec (ws := w_Md_init) B.pre
  have htg : ∀ w ∈ gw, w.before _ s = true := fun w h => hts w (List.mem_cons_of_mem _ h)
  have hown : s.vm.findClass "NameMergesModel" = some m.cls := findClass_of_methodNamed B.named
  have hlocks := B.notSynchronized
  have hin : meth.name = "<init>" := (name_of_methodNamed B.named B.method).1
  have hK := hB.1
  have hxN : x < N := by rw [← hN]; exact hx_lt hO
  obtain ⟨H, hH⟩ : ∃ z : Heap, z = s.heap := ⟨_, rfl⟩
  rw [← hH] at hO hN
  have hS : va_S (fun q : Nat => q = x ∨ N ≤ q) s.heap H [] := by rw [hH]; exact va_S.rf
  have hl := lv_entry ([.ref x]) (n := 2) (Nat.le_of_ble_eq_true rfl)
  rw [lg_entry_eq, ← hH]
  generalize (lg_sl ([.ref x]) ++ List.replicate (2 - (lg_sl ([.ref x])).length) Slot.unset).toArray = ls at hl ⊢
  have hl : lv_has ls 2 [(0, .ref x)] := hl
  refine lv_aload_n hx hb d_Md_init_0 rfl (lv_at hl 0 rfl) ?_
  refine W.objInit hx hb hown (htg _ (gw_mem (i := 997) (by decide +kernel) rfl)) (htg _ (gw_mem (i := 65) (by decide +kernel) rfl)) (htg _ (gw_mem (i := 66) (by decide +kernel) rfl)) rfl (by rw [hml]; exact hl.1) rfl d_Md_init_1 (Nat.le_of_ble_eq_true rfl) (Nat.le_of_ble_eq_true rfl) ?_
  refine W.eq (g2 := F0 m 4 ls []) rfl ?_
  have hAr : ∀ j, j < 0 → va_at D vwCl (N + j, .inl (cs (md_ty j), (md_len j, .inl (fun _ => 0)))) H := fun j hj => absurd hj (Nat.not_lt_zero j)
  have hC : mdC p s m _ meth c D cs := ⟨hx, hb, hown, hin, htg, hK⟩
  have hP : mdP D cs N x 0 [.int 0, .int 0, .null, .int 0, .null, .null, .null, .null, .null, .null, .null, .null, .null, .null, .null, .null, .int 0, .null, .null, .null, .null, .null, .int 0, .null, .null, .int 0, .null, .null] H := ⟨hO, hAr, hN⟩
  clear hO hAr
  refine mi_0 hC hxN hS hP hl (Nat.le_of_ble_eq_true rfl) (Nat.le_of_ble_eq_true rfl) (fun H locs hP hS => ?_)
  refine mi_1 hC hxN hS hP hl (Nat.le_of_ble_eq_true rfl) (Nat.le_of_ble_eq_true rfl) (fun H locs hP hS => ?_)
  refine mi_2 hC hxN hS hP hl (Nat.le_of_ble_eq_true rfl) (Nat.le_of_ble_eq_true rfl) (fun H locs hP hS => ?_)
  refine mi_3 hC hxN hS hP hl (Nat.le_of_ble_eq_true rfl) (Nat.le_of_ble_eq_true rfl) (fun H locs hP hS => ?_)
  refine mi_4 hC hxN hS hP hl (Nat.le_of_ble_eq_true rfl) (Nat.le_of_ble_eq_true rfl) (fun H locs hP hS => ?_)
  refine mi_5 hC hxN hS hP hl (Nat.le_of_ble_eq_true rfl) (Nat.le_of_ble_eq_true rfl) (fun H locs hP hS => ?_)
  refine mi_6 hC hxN hS hP hl (Nat.le_of_ble_eq_true rfl) (Nat.le_of_ble_eq_true rfl) (fun H locs hP hS => ?_)
  refine mi_7 hC hxN hS hP hl (Nat.le_of_ble_eq_true rfl) (Nat.le_of_ble_eq_true rfl) (fun H locs hP hS => ?_)
  refine mi_8 hC hxN hS hP hl (Nat.le_of_ble_eq_true rfl) (Nat.le_of_ble_eq_true rfl) (fun H locs hP hS => ?_)
  refine mi_9 hC hxN hS hP hl (Nat.le_of_ble_eq_true rfl) (Nat.le_of_ble_eq_true rfl) (fun H locs hP hS => ?_)
  refine mi_10 hC hxN hS hP hl (Nat.le_of_ble_eq_true rfl) (Nat.le_of_ble_eq_true rfl) (fun H locs hP hS => ?_)
  refine mi_11 hC hxN hS hP hl (Nat.le_of_ble_eq_true rfl) (Nat.le_of_ble_eq_true rfl) (fun H locs hP hS => ?_)
  refine mi_12 hC hxN hS hP hl (Nat.le_of_ble_eq_true rfl) (Nat.le_of_ble_eq_true rfl) (fun H locs hP hS => ?_)
  refine mi_13 hC hxN hS hP hl (Nat.le_of_ble_eq_true rfl) (Nat.le_of_ble_eq_true rfl) (fun H locs hP hS => ?_)
  refine mi_14 hC hxN hS hP hl (Nat.le_of_ble_eq_true rfl) (Nat.le_of_ble_eq_true rfl) (fun H locs hP hS => ?_)
  refine mi_15 hC hxN hS hP hl (Nat.le_of_ble_eq_true rfl) (Nat.le_of_ble_eq_true rfl) (fun H locs hP hS => ?_)
  refine mi_16 hC hxN hS hP hl (Nat.le_of_ble_eq_true rfl) (Nat.le_of_ble_eq_true rfl) (fun H locs hP hS => ?_)
  refine mi_17 hC hxN hS hP hl (Nat.le_of_ble_eq_true rfl) (Nat.le_of_ble_eq_true rfl) (fun H locs hP hS => ?_)
  refine mi_18 hC hxN hS hP hl (Nat.le_of_ble_eq_true rfl) (Nat.le_of_ble_eq_true rfl) (fun H locs hP hS => ?_)
  refine mi_19 hC hxN hS hP hl (Nat.le_of_ble_eq_true rfl) (Nat.le_of_ble_eq_true rfl) (fun H locs hP hS => ?_)
  refine mi_20 hC hxN hS hP hl (Nat.le_of_ble_eq_true rfl) (Nat.le_of_ble_eq_true rfl) (fun H locs hP hS => ?_)
  refine mi_21 hC hxN hS hP hl (Nat.le_of_ble_eq_true rfl) (Nat.le_of_ble_eq_true rfl) (fun H locs hP hS => ?_)
  obtain ⟨hO, hAr, hN⟩ := hP
  have hsep : md_sep 0 x (fun k => N + k) := ⟨Nat.zero_le _, fun k hk => ⟨show N + k ≠ x by omega, Nat.zero_le _⟩, fun j k hj hk e9 => by have e8 : N + j = N + k := e9; omega⟩
  have hI : md_I D cs H x (fun k => N + k) (fun _ => 0) (fun _ _ => 0) := ⟨hO, fun k hk => hAr k hk⟩
  refine lv_iconst (v := 0) hx hb d_Md_init_187 (by decide) ?_
  refine lv_istore_n (lv' := [(1, .int 0), (0, .ref x)]) hx hb d_Md_init_188 rfl hl (by decide) rfl (fun ls hl => ?_)
  have loop189 : ∀ (fuel : Nat) (F1 : Nat → Nat → Int32) (k : Nat), 24 - k < fuel → k ≤ 24 → (∀ j, j < k → F1 8 j = -1) → (∀ q, q ≠ 8 → F1 q = fun _ => 0) → ∀ (H : Heap) (locs : List Loc), md_I D cs H x (fun k => N + k) (fun _ => 0) F1 → H.size = N + 22 → va_S (fun q : Nat => q = x ∨ N ≤ q) s.heap H locs → ∀ (ls : Array Slot), lv_has ls 2 [(0, .ref x), (1, .int (nI k))] → W p l e (headSpec w_Md_init ({ frames := 1, cells := 22, slots := 4453, locals := 12 })).room s m ([.ref x] : List Value).toArray below meth c H locs 22 4453 (MQ below (hQv (fun H' => (∃ f9 : Nat → Nat → Int32, md_I D cs H' x (fun k => N + k) (fun _ => 0) f9 ∧ (∀ k, k < 24 → f9 8 k = -1) ∧ ∀ q, q ≠ 8 → f9 q = fun _ => 0) ∧ H'.size = N + 22) (fun q : Nat => q = x ∨ N ≤ q)) ([.ref x] : List Value).toArray s 22 4453 (fun q : Nat => q = x ∨ N ≤ q)) (F0 m 189 ls []) := by
    intro fuel
    induction fuel with
    | zero => intro F1 k hn; exact absurd hn (Nat.not_lt_zero _)
    | succ fuel ih =>
      intro F1 k hn hk hR hF H locs hI hN hS ls hl
      refine lv_iload_n hx hb d_Md_init_189 rfl (lv_at hl 1 rfl) ?_
      refine lv_bipush (v := 24) hx hb d_Md_init_190 (by decide) ?_
      refine lv_icmp_ge (x := nI k) (y := 24) (tgt := 208) hx hb d_Md_init_192 (by decide) (fun c192 => ?_) (fun c192 => ?_)
      · replace c192 : 24 ≤ k := (nI_leI (a := 24) (b := k) (by omega) (by omega)).mp c192
        exact W.vret hx hb hr (fun t ht hW => ⟨⟨H, rfl, ⟨⟨F1, hI, fun j hj => hR j (by omega), hF⟩, hN⟩, ht⟩, hS.F ht⟩) hS.2.2 d_Md_init_208
      · replace c192 : ¬ (24 ≤ k) := fun z9 => c192 ((nI_leI (a := 24) (b := k) (by omega) (by omega)).mpr z9)
        refine lv_aload_n hx hb d_Md_init_195 rfl (lv_at hl 0 rfl) ?_
        refine hx_get (v := .ref (N + 8)) hx hb htg iMd hown hK hI.1 rfl 11 (by decide) (htg _ (gw_mem (i := 1009) (by decide +kernel) rfl)) (fun _ h9 => h9) rfl d_Md_init_196 ?_
        refine lv_iload_n hx hb d_Md_init_199 rfl (lv_at hl 1 rfl) ?_
        refine lv_iconst (v := -1) hx hb d_Md_init_200 (by decide) ?_
        refine hx_iast hx hb hK hS (Or.inr (show N ≤ N + 8 by omega)) 0 (hI.2 8 (by decide)) rfl (show vp_in (nI k) 24 from vp_in_nI (n := k) (by omega) (by decide)) d_Md_init_201 (fun H locs hat hz ho hS => ?_)
        replace hI : md_I D cs H x (fun k => N + k) (fun _ => 0) (updA F1 8 k (-1)) := md_I.puta hI hsep (by decide) (by rw [show (nI k : Int32).toNatClampNeg = k from nI_clamp (n := k) (by omega)] at hat; exact hat) ho
        refine lv_iinc (v := nI (k + 1)) (lv' := [(1, .int (nI (k + 1))), (0, .ref x)]) hx hb d_Md_init_202 hl (k := 1) rfl (nI_1 k) (by decide) rfl (fun ls hl => ?_)
        refine lv_goto (tgt := 189) hx hb d_Md_init_205 (by decide) ?_
        exact ih _ (k + 1) (by omega) (by omega) (by rw [updA_self]; exact upd_lt (G := fun _ => -1) hR rfl) (fun q hq => (updA_ne hq).trans (hF q hq)) _ _ hI (by rw [hz]; exact hN) hS ls (lv_sub hl [1, 0] rfl)
  exact loop189 (24 - 0 + 1) _ 0 (Nat.lt_succ_self _) (by decide) (fun j hj => absurd hj (Nat.not_lt_zero j)) (fun _ _ => rfl) _ _ hI hN hS ls (lv_sub hl [1, 0] rfl)
