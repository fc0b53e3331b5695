theorem upd_upd {f : Nat → Int32} {k : Nat} {v w : Int32} : upd (upd f k v) k w = upd f k w := by
  funext j
  by_cases e : j = k
  · subst e; rw [upd_self, upd_self]
  · rw [upd_ne e, upd_ne e, upd_ne e]
def selL (Q : Nat → Bool) (m : Nat) : List Nat := (List.range m).filter Q
theorem sel_hit {Q : Nat → Bool} {m : Nat} (h : Q m = true) : selL Q (m + 1) = selL Q m ++ [m] := by
  unfold selL
  rw [List.range_succ, List.filter_append]
  simp [h]
theorem sel_miss {Q : Nat → Bool} {m : Nat} (h : Q m = false) : selL Q (m + 1) = selL Q m := by
  unfold selL
  rw [List.range_succ, List.filter_append]
  simp [h]
theorem sel_skip {Q : Nat → Bool} {m : Nat} : ∀ d, (∀ p, m ≤ p → p < m + d → Q p = false) → selL Q (m + d) = selL Q m := by
  intro d
  induction d with
  | zero => intro _; rfl
  | succ d ih =>
    intro h
    rw [show m + (d + 1) = (m + d) + 1 by omega, sel_miss (h (m + d) (by omega) (by omega))]
    exact ih (fun p h1 h2 => h p h1 (by omega))
theorem sel_len {Q T : Nat → Bool} {m M : Nat} (hm : m ≤ M) (h : ∀ p, Q p = true → T p = true) : (selL Q m).length ≤ (selL T M).length := by
  have h1 : (selL Q m).length ≤ (selL T m).length := by
    unfold selL
    rw [← List.countP_eq_length_filter, ← List.countP_eq_length_filter]
    exact List.countP_mono_left (fun p _ hp => h p hp)
  have h2 : ∀ d, (selL T m).length ≤ (selL T (m + d)).length := by
    intro d
    induction d with
    | zero => exact Nat.le_refl _
    | succ d ih =>
      rw [show m + (d + 1) = (m + d) + 1 by omega]
      cases e : T (m + d) with
      | true => rw [sel_hit e, List.length_append]; simp; omega
      | false => rw [sel_miss e]; exact ih
  have h3 := h2 (M - m)
  rw [show m + (M - m) = M by omega] at h3
  omega
def clI (Q : Nat → Bool) (m : Nat) (A B : Nat → Int32) (c : Nat) : Prop := c = (selL Q m).length ∧ ∀ k p, (selL Q m)[k]? = some p → A k = nI (p / 24) ∧ B k = nI (p % 24)
theorem clI.miss {Q : Nat → Bool} {m c : Nat} {A B : Nat → Int32} (h : clI Q m A B c) (hq : Q m = false) : clI Q (m + 1) A B c := by
  unfold clI; rw [sel_miss hq]; exact h
theorem clI.skip {Q : Nat → Bool} {m m' c : Nat} {A B : Nat → Int32} (h : clI Q m A B c) (hm : m ≤ m') (hq : ∀ p, m ≤ p → p < m' → Q p = false) : clI Q m' A B c := by
  have e := sel_skip (Q := Q) (m := m) (m' - m) (fun p h1 h2 => hq p h1 (by omega))
  rw [show m + (m' - m) = m' by omega] at e
  unfold clI; rw [e]; exact h
theorem clI.hit {Q : Nat → Bool} {a b c : Nat} {A B : Nat → Int32} (h : clI Q (24 * a + b) A B c) (hq : Q (24 * a + b) = true) (hb : b < 24) : clI Q (24 * a + b + 1) (upd A c (nI a)) (upd B c (nI b)) (c + 1) := by
  unfold clI
  rw [sel_hit hq]
  refine ⟨by rw [List.length_append, ← h.1]; rfl, fun k p hk => ?_⟩
  by_cases e : k < (selL Q (24 * a + b)).length
  · rw [List.getElem?_append_left e] at hk
    rw [upd_ne (by rw [h.1]; omega), upd_ne (by rw [h.1]; omega)]
    exact h.2 k p hk
  · rw [List.getElem?_append_right (by omega)] at hk
    have e2 : k - (selL Q (24 * a + b)).length < 1 := (List.getElem?_eq_some_iff.mp hk).1
    have e3 : k = c := by rw [h.1]; omega
    rw [show k - (selL Q (24 * a + b)).length = 0 by omega] at hk
    cases hk
    subst e3
    rw [upd_self, upd_self, show (24 * a + b) / 24 = a by omega, show (24 * a + b) % 24 = b by omega]
    exact ⟨rfl, rfl⟩
def triB : Nat → Bool := fun p => decide (p / 24 < p % 24)
theorem tri_276 : (selL triB 576).length = 276 := by decide +kernel
theorem clI.lt {Q : Nat → Bool} {m c : Nat} {A B : Nat → Int32} (h : clI Q m A B c) (hq : Q m = true) (hm : m < 576) (ht : ∀ p, Q p = true → triB p = true) : c < 276 := by
  have h1 := sel_len (Q := Q) (T := triB) (m := m + 1) (M := 576) (by omega) ht
  rw [sel_hit hq, List.length_append, ← h.1, tri_276] at h1
  have h2 : ([m] : List Nat).length = 1 := rfl
  omega
noncomputable def canQ (f : Nat → Nat → Int32) (ln mn mo mt : Nat → Nat) (mg n : Nat) (lq : Int32) : Nat → Bool := fun p => triB p && (decide (p % 24 < n) && (decide (f 9 p = 0) && (!oneB mo mt (holdB f 100000) mg (p / 24) (p % 24) && !decide (likeV f ln mn (p / 24) (p % 24) < lq))))
theorem canQ_tri {f : Nat → Nat → Int32} {ln mn mo mt : Nat → Nat} {mg n : Nat} {lq : Int32} (p : Nat) (h : canQ f ln mn mo mt mg n lq p = true) : triB p = true := by
  unfold canQ at h
  cases e : triB p with
  | true => rfl
  | false => rw [e] at h; exact absurd h (by simp)
theorem canQ_at {f : Nat → Nat → Int32} {ln mn mo mt : Nat → Nat} {mg n a b : Nat} {lq : Int32} (hab : a < b) (hbn : b < n) (hn : n ≤ 24) : canQ f ln mn mo mt mg n lq (24 * a + b) = (decide (f 9 (24 * a + b) = 0) && (!oneB mo mt (holdB f 100000) mg a b && !decide (likeV f ln mn a b < lq))) := by
  unfold canQ triB
  rw [show (24 * a + b) / 24 = a by omega, show (24 * a + b) % 24 = b by omega, decide_eq_true hab, decide_eq_true hbn]
  rfl
theorem canQ_no {f : Nat → Nat → Int32} {ln mn mo mt : Nat → Nat} {mg n p : Nat} {lq : Int32} (h : p % 24 ≤ p / 24 ∨ n ≤ p % 24) : canQ f ln mn mo mt mg n lq p = false := by
  unfold canQ triB
  rcases h with h | h
  · rw [decide_eq_false (by omega)]; rfl
  · rw [decide_eq_false (p := p % 24 < n) (by omega)]; simp
theorem agr.of4 {F f : Nat → Nat → Int32} (h : ∀ q, q ≠ 17 → q ≠ 18 → q ≠ 19 → q ≠ 21 → F q = f q) : agr F f := ⟨h 1 (by decide) (by decide) (by decide) (by decide), h 2 (by decide) (by decide) (by decide) (by decide), h 3 (by decide) (by decide) (by decide) (by decide), h 4 (by decide) (by decide) (by decide) (by decide), h 7 (by decide) (by decide) (by decide) (by decide), h 8 (by decide) (by decide) (by decide) (by decide)⟩
def y_Md_candidates : MethodName := ⟨"NameMergesModel", "candidates", "(I)I"⟩
abbrev w_Md_candidates : List Cond := Cond.code y_Md_candidates prog_7_method_15_code 4 (Option.some Jvm.ClassFile.FieldType.int) :: gw
theorem d_Md_candidates_0 : decode prog_7_method_15_code 0 = .ok (.aload_n 0, 1) := by decide +kernel
theorem d_Md_candidates_1 : decode prog_7_method_15_code 1 = .ok (.iconst 0, 1) := by decide +kernel
theorem d_Md_candidates_2 : decode prog_7_method_15_code 2 = .ok (.putfield 77, 3) := by decide +kernel
theorem d_Md_candidates_5 : decode prog_7_method_15_code 5 = .ok (.aload_n 0, 1) := by decide +kernel
theorem d_Md_candidates_6 : decode prog_7_method_15_code 6 = .ok (.ldc 84, 2) := by decide +kernel
theorem d_Md_candidates_8 : decode prog_7_method_15_code 8 = .ok (.invokevirtual 109, 3) := by decide +kernel
theorem d_Md_candidates_11 : decode prog_7_method_15_code 11 = .ok (.aload_n 0, 1) := by decide +kernel
theorem d_Md_candidates_12 : decode prog_7_method_15_code 12 = .ok (.iconst 0, 1) := by decide +kernel
theorem d_Md_candidates_13 : decode prog_7_method_15_code 13 = .ok (.putfield 113, 3) := by decide +kernel
theorem d_Md_candidates_16 : decode prog_7_method_15_code 16 = .ok (.iconst 0, 1) := by decide +kernel
theorem d_Md_candidates_17 : decode prog_7_method_15_code 17 = .ok (.istore_n 2, 1) := by decide +kernel
theorem d_Md_candidates_18 : decode prog_7_method_15_code 18 = .ok (.iload_n 2, 1) := by decide +kernel
theorem d_Md_candidates_19 : decode prog_7_method_15_code 19 = .ok (.aload_n 0, 1) := by decide +kernel
theorem d_Md_candidates_20 : decode prog_7_method_15_code 20 = .ok (.getfield 81, 3) := by decide +kernel
theorem d_Md_candidates_23 : decode prog_7_method_15_code 23 = .ok (.if_icmp .ge 96, 3) := by decide +kernel
theorem d_Md_candidates_26 : decode prog_7_method_15_code 26 = .ok (.iload_n 2, 1) := by decide +kernel
theorem d_Md_candidates_27 : decode prog_7_method_15_code 27 = .ok (.iconst 1, 1) := by decide +kernel
theorem d_Md_candidates_28 : decode prog_7_method_15_code 28 = .ok (.iadd, 1) := by decide +kernel
theorem d_Md_candidates_29 : decode prog_7_method_15_code 29 = .ok (.istore_n 3, 1) := by decide +kernel
theorem d_Md_candidates_30 : decode prog_7_method_15_code 30 = .ok (.iload_n 3, 1) := by decide +kernel
theorem d_Md_candidates_31 : decode prog_7_method_15_code 31 = .ok (.aload_n 0, 1) := by decide +kernel
theorem d_Md_candidates_32 : decode prog_7_method_15_code 32 = .ok (.getfield 81, 3) := by decide +kernel
theorem d_Md_candidates_35 : decode prog_7_method_15_code 35 = .ok (.if_icmp .ge 78, 3) := by decide +kernel
theorem d_Md_candidates_38 : decode prog_7_method_15_code 38 = .ok (.aload_n 0, 1) := by decide +kernel
theorem d_Md_candidates_39 : decode prog_7_method_15_code 39 = .ok (.getfield 37, 3) := by decide +kernel
theorem d_Md_candidates_42 : decode prog_7_method_15_code 42 = .ok (.bipush 24, 2) := by decide +kernel
theorem d_Md_candidates_44 : decode prog_7_method_15_code 44 = .ok (.iload_n 2, 1) := by decide +kernel
theorem d_Md_candidates_45 : decode prog_7_method_15_code 45 = .ok (.imul, 1) := by decide +kernel
theorem d_Md_candidates_46 : decode prog_7_method_15_code 46 = .ok (.iload_n 3, 1) := by decide +kernel
theorem d_Md_candidates_47 : decode prog_7_method_15_code 47 = .ok (.iadd, 1) := by decide +kernel
theorem d_Md_candidates_48 : decode prog_7_method_15_code 48 = .ok (.iaload, 1) := by decide +kernel
theorem d_Md_candidates_49 : decode prog_7_method_15_code 49 = .ok (.ifCond .ne 58, 3) := by decide +kernel
theorem d_Md_candidates_52 : decode prog_7_method_15_code 52 = .ok (.aload_n 0, 1) := by decide +kernel
theorem d_Md_candidates_53 : decode prog_7_method_15_code 53 = .ok (.getfield 62, 3) := by decide +kernel
theorem d_Md_candidates_56 : decode prog_7_method_15_code 56 = .ok (.iload_n 2, 1) := by decide +kernel
theorem d_Md_candidates_57 : decode prog_7_method_15_code 57 = .ok (.iaload, 1) := by decide +kernel
theorem d_Md_candidates_58 : decode prog_7_method_15_code 58 = .ok (.aload_n 0, 1) := by decide +kernel
theorem d_Md_candidates_59 : decode prog_7_method_15_code 59 = .ok (.getfield 62, 3) := by decide +kernel
theorem d_Md_candidates_62 : decode prog_7_method_15_code 62 = .ok (.iload_n 3, 1) := by decide +kernel
theorem d_Md_candidates_63 : decode prog_7_method_15_code 63 = .ok (.iaload, 1) := by decide +kernel
theorem d_Md_candidates_64 : decode prog_7_method_15_code 64 = .ok (.if_icmp .eq 43, 3) := by decide +kernel
theorem d_Md_candidates_67 : decode prog_7_method_15_code 67 = .ok (.aload_n 0, 1) := by decide +kernel
theorem d_Md_candidates_68 : decode prog_7_method_15_code 68 = .ok (.iload_n 2, 1) := by decide +kernel
theorem d_Md_candidates_69 : decode prog_7_method_15_code 69 = .ok (.iload_n 3, 1) := by decide +kernel
theorem d_Md_candidates_70 : decode prog_7_method_15_code 70 = .ok (.invokevirtual 103, 3) := by decide +kernel
theorem d_Md_candidates_73 : decode prog_7_method_15_code 73 = .ok (.iload_n 1, 1) := by decide +kernel
theorem d_Md_candidates_74 : decode prog_7_method_15_code 74 = .ok (.if_icmp .lt 33, 3) := by decide +kernel
theorem d_Md_candidates_77 : decode prog_7_method_15_code 77 = .ok (.aload_n 0, 1) := by decide +kernel
theorem d_Md_candidates_78 : decode prog_7_method_15_code 78 = .ok (.getfield 65, 3) := by decide +kernel
theorem d_Md_candidates_81 : decode prog_7_method_15_code 81 = .ok (.aload_n 0, 1) := by decide +kernel
theorem d_Md_candidates_82 : decode prog_7_method_15_code 82 = .ok (.getfield 113, 3) := by decide +kernel
theorem d_Md_candidates_85 : decode prog_7_method_15_code 85 = .ok (.iload_n 2, 1) := by decide +kernel
theorem d_Md_candidates_86 : decode prog_7_method_15_code 86 = .ok (.iastore, 1) := by decide +kernel
theorem d_Md_candidates_87 : decode prog_7_method_15_code 87 = .ok (.aload_n 0, 1) := by decide +kernel
theorem d_Md_candidates_88 : decode prog_7_method_15_code 88 = .ok (.getfield 68, 3) := by decide +kernel
theorem d_Md_candidates_91 : decode prog_7_method_15_code 91 = .ok (.aload_n 0, 1) := by decide +kernel
theorem d_Md_candidates_92 : decode prog_7_method_15_code 92 = .ok (.getfield 113, 3) := by decide +kernel
theorem d_Md_candidates_95 : decode prog_7_method_15_code 95 = .ok (.iload_n 3, 1) := by decide +kernel
theorem d_Md_candidates_96 : decode prog_7_method_15_code 96 = .ok (.iastore, 1) := by decide +kernel
theorem d_Md_candidates_97 : decode prog_7_method_15_code 97 = .ok (.aload_n 0, 1) := by decide +kernel
theorem d_Md_candidates_98 : decode prog_7_method_15_code 98 = .ok (.dup, 1) := by decide +kernel
theorem d_Md_candidates_99 : decode prog_7_method_15_code 99 = .ok (.getfield 113, 3) := by decide +kernel
theorem d_Md_candidates_102 : decode prog_7_method_15_code 102 = .ok (.iconst 1, 1) := by decide +kernel
theorem d_Md_candidates_103 : decode prog_7_method_15_code 103 = .ok (.iadd, 1) := by decide +kernel
theorem d_Md_candidates_104 : decode prog_7_method_15_code 104 = .ok (.putfield 113, 3) := by decide +kernel
theorem d_Md_candidates_107 : decode prog_7_method_15_code 107 = .ok (.iinc 3 1, 3) := by decide +kernel
theorem d_Md_candidates_110 : decode prog_7_method_15_code 110 = .ok (.goto (-80), 3) := by decide +kernel
theorem d_Md_candidates_113 : decode prog_7_method_15_code 113 = .ok (.iinc 2 1, 3) := by decide +kernel
theorem d_Md_candidates_116 : decode prog_7_method_15_code 116 = .ok (.goto (-98), 3) := by decide +kernel
theorem d_Md_candidates_119 : decode prog_7_method_15_code 119 = .ok (.aload_n 0, 1) := by decide +kernel
theorem d_Md_candidates_120 : decode prog_7_method_15_code 120 = .ok (.getfield 113, 3) := by decide +kernel
theorem d_Md_candidates_123 : decode prog_7_method_15_code 123 = .ok (.ireturn, 1) := by decide +kernel
set_option maxHeartbeats 4000000 in
set_option maxRecDepth 100000 in
theorem c_Md_candidates (l : Launch) (D : va_G) (cs : Nat → ClassId) (N0 : Nat) (H : Heap) (x : Nat) (g : Nat → Nat) (i : Nat → Int32) (f : Nat → Nat → Int32) (lq : Int32) (hsep : md_sep N0 x g) (hI : md_I D cs H x g i f) (n : Nat) (hn : i 2 = nI n) (hn24 : n ≤ 24) (mg : Nat) (hmg : i 3 = nI mg) (hmg60 : mg ≤ 60) (mo mt : Nat → Nat) (hone : ∀ k, k < mg → f 13 k = nI (mo k) ∧ mo k < 24) (hoth : ∀ k, k < mg → f 14 k = nI (mt k) ∧ mt k < 24) (mn ln : Nat → Nat) (hV : wfV f mn ln) : Met l y_Md_candidates w_Md_candidates ({ frames := 2, cells := 0, slots := 0, locals := 52 }) (hPre D cs N0 [.ref x, .int lq] H) (hQi (fun r H' => ∃ (c9 : Nat) (F9 : Nat → Nat → Int32), md_I D cs H' x g (upd (upd i 0 0) 4 (nI c9)) F9 ∧ r = nI c9 ∧ clI (canQ f ln mn mo mt mg n lq) 576 (F9 18) (F9 19) c9 ∧ ∀ q, q ≠ 17 → q ≠ 18 → q ≠ 19 → q ≠ 21 → F9 q = f q) (md_A x g)) 0 0 (md_A x g) := by
  refine Met.ofW (cc := prog_7_method_15_code) (maxL := 4) (ret := (Option.some Jvm.ClassFile.FieldType.int)) (by decide) rfl ?_
  intro p e s m args below meth c s₁ B hml hv
  obtain ⟨rfl, rfl, hB⟩ := hv
  have hx := B.exec
  have hb := B.bytes
  have hr := B.returns
  have hts := atoms_spec (ws := w_Md_candidates) B.pre
  have htg : ∀ w ∈ gw, w.before _ s = true := fun w h => hts w (List.mem_cons_of_mem _ h)
  have hown : s.vm.findClass "NameMergesModel" = some m.cls := findClass_of_methodNamed B.named
  have hlocks := B.notSynchronized
  have hK := hB.1
  have hS : va_S (md_A x g) s.heap s.heap [] := va_S.rf
  obtain ⟨H, hH⟩ : ∃ z : Heap, z = s.heap := ⟨_, rfl⟩
  rw [← hH] at hI
  have hS : va_S (md_A x g) s.heap H [] := by rw [hH]; exact va_S.rf
  have hl := lv_entry ([.ref x, .int lq]) (n := 4) (Nat.le_of_ble_eq_true rfl)
  rw [lg_entry_eq, ← hH]
  generalize (lg_sl ([.ref x, .int lq]) ++ List.replicate (4 - (lg_sl ([.ref x, .int lq])).length) Slot.unset).toArray = ls at hl ⊢
  have hl : lv_has ls 4 [(0, .ref x), (1, .int lq)] := hl
  refine lv_aload_n hx hb d_Md_candidates_0 rfl (lv_at hl 0 rfl) ?_
  refine lv_iconst (v := 0) hx hb d_Md_candidates_1 (by decide) ?_
  refine hx_put (ty := .int) (v := .int 0) hx hb htg iMd tMd tMd_ok nMd hown hK hI.1 hS (Or.inl rfl) rfl 0 (by decide) (htg _ (gw_mem (i := 998) (by decide +kernel) rfl)) (fun _ h9 => h9) rfl (by decide +kernel) rfl rfl (Nat.le_of_ble_eq_true rfl) d_Md_candidates_2 (fun H locs hat hz ho hS => ?_)
  replace hI : md_I D cs H x g (upd i 0 (0)) f := md_I.puti hI hsep hat ho rfl
  refine lv_aload_n hx hb d_Md_candidates_5 rfl (lv_at hl 0 rfl) ?_
  refine lv_ldc (v := 100000) hx hb hown (htg _ (gw_mem (i := 1115) (by decide +kernel) rfl)) d_Md_candidates_6 ?_
  refine h_callv (va_runV (As := [.int 100000]) (rest := []) ⟨hx, hb, hml, hown, htg⟩ (c_Md_join l D cs N0 H x g ((upd i 0 (0))) f 100000 hsep hI mg hmg hmg60 mo mt hone hoth) (cwV 1 htg (gw_V (gw_mem (i := 1136) (by decide +kernel) rfl) (gw_mem (i := 1138) (by decide +kernel) rfl) (gw_mem (i := 22) (by decide +kernel) rfl) (gw_mem (i := 38) (by decide +kernel) rfl) (gw_mem (i := 1139) (by decide +kernel) rfl)) rfl rfl rfl (by decide +kernel) ⟨Nat.le_of_ble_eq_true rfl, Nat.le_of_ble_eq_true rfl⟩) ⟨hPre.blind, hx_recv hK (ci := 0) rfl hI.1, hPre.at hB hS hsep.A⟩ rfl rfl hl.1 rfl (lv_room (Nat.le_of_ble_eq_true rfl)) d_Md_candidates_8 ⟨Nat.zero_le _, Nat.zero_le _⟩) hS (fun _ h => h) (fun  H locs hp hz hk hS => ?_)
  obtain ⟨G, gl, hI, hGgl, hCgl⟩ := hp
  refine lv_aload_n hx hb d_Md_candidates_11 rfl (lv_at hl 0 rfl) ?_
  refine lv_iconst (v := 0) hx hb d_Md_candidates_12 (by decide) ?_
  refine hx_put (ty := .int) (v := .int 0) hx hb htg iMd tMd tMd_ok nMd hown hK hI.1 hS (Or.inl rfl) rfl 22 (by decide) (htg _ (gw_mem (i := 1020) (by decide +kernel) rfl)) (fun _ h9 => h9) rfl (by decide +kernel) rfl rfl (Nat.le_of_ble_eq_true rfl) d_Md_candidates_13 (fun H locs hat hz ho hS => ?_)
  replace hI : md_I D cs H x g (upd (upd i 0 (0)) 4 (0)) (setA f 17 G) := md_I.puti hI hsep hat ho rfl
  refine lv_iconst (v := 0) hx hb d_Md_candidates_16 (by decide) ?_
  refine lv_istore_n (lv' := [(2, .int 0), (0, .ref x), (1, .int lq)]) hx hb d_Md_candidates_17 rfl hl (by decide) rfl (fun ls hl => ?_)
  have loop18 : ∀ (fuel : Nat) (F2 : Nat → Nat → Int32) (c9 : Nat) (a : Nat), n - a < fuel → (a ≤ n) → (∀ q, q ≠ 17 → q ≠ 18 → q ≠ 19 → q ≠ 21 → F2 q = f q) → (F2 17 = G) → (clI (canQ f ln mn mo mt mg n lq) (24 * a) (F2 18) (F2 19) c9) → ∀ (H : Heap) (locs : List Loc), md_I D cs H x g (upd (upd i 0 0) 4 (nI c9)) F2 → va_S (md_A x g) s.heap H locs → ∀ (ls : Array Slot), lv_has ls 4 [(0, .ref x), (1, .int lq), (2, .int (nI a))] → W p l e (headSpec w_Md_candidates ({ frames := 2, cells := 0, slots := 0, locals := 52 })).room s m ([.ref x, .int lq] : List Value).toArray below meth c H locs 0 0 (MQ below (hQi (fun r H' => ∃ (c9 : Nat) (F9 : Nat → Nat → Int32), md_I D cs H' x g (upd (upd i 0 0) 4 (nI c9)) F9 ∧ r = nI c9 ∧ clI (canQ f ln mn mo mt mg n lq) 576 (F9 18) (F9 19) c9 ∧ ∀ q, q ≠ 17 → q ≠ 18 → q ≠ 19 → q ≠ 21 → F9 q = f q) (md_A x g)) ([.ref x, .int lq] : List Value).toArray s 0 0 (md_A x g)) (F0 m 18 ls []) := by
    intro fuel18
    induction fuel18 with
    | zero => intro F2 c9 a hn; exact absurd hn (Nat.not_lt_zero _)
    | succ fuel18 ih18 =>
      intro F2 c9 a hn18 ha hF2 hG2 hL2 H locs hI hS ls hl
      refine lv_iload_n hx hb d_Md_candidates_18 rfl (lv_at hl 2 rfl) ?_
      refine lv_aload_n hx hb d_Md_candidates_19 rfl (lv_at hl 0 rfl) ?_
      refine hx_get (v := .int ((upd (upd i 0 0) 4 (nI c9)) 2)) hx hb htg iMd hown hK hI.1 rfl 3 (by decide) (htg _ (gw_mem (i := 1001) (by decide +kernel) rfl)) (fun _ h9 => h9) rfl d_Md_candidates_20 ?_
      refine lv_eqi (y := (nI n)) hn ?_
      refine lv_icmp_ge (x := (nI a)) (y := (nI n)) (tgt := 119) hx hb d_Md_candidates_23 (by decide) (fun c23 => ?_) (fun c23 => ?_)
      · skip
        replace c23 : n ≤ a := (nI_leI (a := n) (b := a) (by omega) (by omega)).mp c23
        refine lv_aload_n hx hb d_Md_candidates_119 rfl (lv_at hl 0 rfl) ?_
        refine hx_get (v := .int (nI c9)) hx hb htg iMd hown hK hI.1 rfl 22 (by decide) (htg _ (gw_mem (i := 1020) (by decide +kernel) rfl)) (fun _ h9 => h9) rfl d_Md_candidates_120 ?_
        exact W.iret (v := (nI c9)) hx hb hr (fun t ht hW => ⟨⟨(nI c9), H, rfl, ⟨c9, F2, hI, rfl, hL2.skip (by omega) (fun p h1 h2 => canQ_no (by omega)), hF2⟩, ht⟩, hS.F ht⟩) hS.2.2 d_Md_candidates_123
      · skip
        replace c23 : ¬ (n ≤ a) := fun z9 => c23 ((nI_leI (a := n) (b := a) (by omega) (by omega)).mpr z9)
        refine lv_iload_n hx hb d_Md_candidates_26 rfl (lv_at hl 2 rfl) ?_
        refine lv_iconst (v := 1) hx hb d_Md_candidates_27 (by decide) ?_
        refine lv_iadd (x := (nI a)) (y := 1) hx hb d_Md_candidates_28 ?_
        refine lv_eqi (y := (nI (a + 1))) (nI_add a 1) ?_
        refine lv_istore_n (lv' := [(3, .int (nI (a + 1))), (0, .ref x), (1, .int lq), (2, .int (nI a))]) hx hb d_Md_candidates_29 rfl hl (by decide) rfl (fun ls hl => ?_)
        have loop30 : ∀ (fuel : Nat) (F3 : Nat → Nat → Int32) (c8 : Nat) (b : Nat), n - b < fuel → (b ≤ n) → (a < b) → (∀ q, q ≠ 17 → q ≠ 18 → q ≠ 19 → q ≠ 21 → F3 q = f q) → (F3 17 = G) → (clI (canQ f ln mn mo mt mg n lq) (24 * a + b) (F3 18) (F3 19) c8) → ∀ (H : Heap) (locs : List Loc), md_I D cs H x g (upd (upd i 0 0) 4 (nI c8)) F3 → va_S (md_A x g) s.heap H locs → ∀ (ls : Array Slot), lv_has ls 4 [(0, .ref x), (1, .int lq), (2, .int (nI a)), (3, .int (nI b))] → W p l e (headSpec w_Md_candidates ({ frames := 2, cells := 0, slots := 0, locals := 52 })).room s m ([.ref x, .int lq] : List Value).toArray below meth c H locs 0 0 (MQ below (hQi (fun r H' => ∃ (c9 : Nat) (F9 : Nat → Nat → Int32), md_I D cs H' x g (upd (upd i 0 0) 4 (nI c9)) F9 ∧ r = nI c9 ∧ clI (canQ f ln mn mo mt mg n lq) 576 (F9 18) (F9 19) c9 ∧ ∀ q, q ≠ 17 → q ≠ 18 → q ≠ 19 → q ≠ 21 → F9 q = f q) (md_A x g)) ([.ref x, .int lq] : List Value).toArray s 0 0 (md_A x g)) (F0 m 30 ls []) := by
          intro fuel30
          induction fuel30 with
          | zero => intro F3 c8 b hn; exact absurd hn (Nat.not_lt_zero _)
          | succ fuel30 ih30 =>
            intro F3 c8 b hn30 hb9 hab hF3 hG3 hL3 H locs hI hS ls hl
            refine lv_iload_n hx hb d_Md_candidates_30 rfl (lv_at hl 3 rfl) ?_
            refine lv_aload_n hx hb d_Md_candidates_31 rfl (lv_at hl 0 rfl) ?_
            refine hx_get (v := .int ((upd (upd i 0 0) 4 (nI c8)) 2)) hx hb htg iMd hown hK hI.1 rfl 3 (by decide) (htg _ (gw_mem (i := 1001) (by decide +kernel) rfl)) (fun _ h9 => h9) rfl d_Md_candidates_32 ?_
            refine lv_eqi (y := (nI n)) hn ?_
            refine lv_icmp_ge (x := (nI b)) (y := (nI n)) (tgt := 113) hx hb d_Md_candidates_35 (by decide) (fun c35 => ?_) (fun c35 => ?_)
            · skip
              replace c35 : n ≤ b := (nI_leI (a := n) (b := b) (by omega) (by omega)).mp c35
              refine lv_iinc (v := (nI (a + 1))) (lv' := [(2, .int (nI (a + 1))), (0, .ref x), (1, .int lq), (3, .int (nI b))]) hx hb d_Md_candidates_113 hl (k := 2) rfl (nI_1 a) (by decide) rfl (fun ls hl => ?_)
              refine lv_goto (tgt := 18) hx hb d_Md_candidates_116 (by decide) ?_
              exact ih18  _ c8 (a + 1) (by omega) (by omega) hF3 hG3 (hL3.skip (by omega) (fun p h1 h2 => canQ_no (by omega))) _ _ hI hS ls (lv_sub hl [1, 2, 0] rfl)
            · skip
              replace c35 : ¬ (n ≤ b) := fun z9 => c35 ((nI_leI (a := n) (b := b) (by omega) (by omega)).mpr z9)
              have hga := (hGgl a (by omega)).2.1
              have hgb := (hGgl b (by omega)).2.1
              refine lv_aload_n hx hb d_Md_candidates_38 rfl (lv_at hl 0 rfl) ?_
              refine hx_get (v := .ref (g 9)) hx hb htg iMd hown hK hI.1 rfl 12 (by decide) (htg _ (gw_mem (i := 1010) (by decide +kernel) rfl)) (fun _ h9 => h9) rfl d_Md_candidates_39 ?_
              refine lv_bipush (v := 24) hx hb d_Md_candidates_42 (by decide) ?_
              refine lv_iload_n hx hb d_Md_candidates_44 rfl (lv_at hl 2 rfl) ?_
              refine lv_imul (x := 24) (y := (nI a)) hx hb d_Md_candidates_45 ?_
              refine lv_eqi (y := (nI (24 * a))) (pk_mul 24 a) ?_
              refine lv_iload_n hx hb d_Md_candidates_46 rfl (lv_at hl 3 rfl) ?_
              refine lv_iadd (x := (nI (24 * a))) (y := (nI b)) hx hb d_Md_candidates_47 ?_
              refine lv_eqi (y := (nI (24 * a + b))) (nI_add (24 * a) b) ?_
              refine hx_iald hx hb hK 0 (hI.2 9 (by decide)) rfl (show vp_in (nI (24 * a + b)) 576 from vp_in_nI (n := 24 * a + b) (by omega) (by decide)) d_Md_candidates_48 ?_
              refine lv_eqi (y := (F3 9 (24 * a + b))) (show F3 9 (nI (24 * a + b)).toNatClampNeg = _ by rw [nI_clamp (by omega)]) ?_
              refine lv_eqi (y := (f 9 (24 * a + b))) (by rw [hF3 9 (by decide) (by decide) (by decide) (by decide)]) ?_
              refine lv_if_ne (x := (f 9 (24 * a + b))) (tgt := 107) hx hb d_Md_candidates_49 (by decide) (fun c49 => ?_) (fun c49 => ?_)
              · skip
                refine lv_iinc (v := (nI (b + 1))) (lv' := [(3, .int (nI (b + 1))), (0, .ref x), (1, .int lq), (2, .int (nI a))]) hx hb d_Md_candidates_107 hl (k := 3) rfl (nI_1 b) (by decide) rfl (fun ls hl => ?_)
                refine lv_goto (tgt := 30) hx hb d_Md_candidates_110 (by decide) ?_
                exact ih30  _ c8 (b + 1) (by omega) (by omega) (by omega) hF3 hG3 (hL3.miss (by rw [canQ_at hab (by omega) hn24, decide_eq_false c49]; simp)) _ _ hI hS ls (lv_sub hl [1, 2, 3, 0] rfl)
              · skip
                refine lv_aload_n hx hb d_Md_candidates_52 rfl (lv_at hl 0 rfl) ?_
                refine hx_get (v := .ref (g 17)) hx hb htg iMd hown hK hI.1 rfl 21 (by decide) (htg _ (gw_mem (i := 1019) (by decide +kernel) rfl)) (fun _ h9 => h9) rfl d_Md_candidates_53 ?_
                refine lv_iload_n hx hb d_Md_candidates_56 rfl (lv_at hl 2 rfl) ?_
                refine hx_iald hx hb hK 0 (hI.2 17 (by decide)) rfl (show vp_in (nI a) 24 from vp_in_nI (n := a) (by omega) (by decide)) d_Md_candidates_57 ?_
                refine lv_eqi (y := (F3 17 a)) (show F3 17 (nI a).toNatClampNeg = _ by rw [nI_clamp (by omega)]) ?_
                refine lv_eqi (y := (nI (gl a))) (by rw [hG3]; exact (hGgl a (by omega)).1) ?_
                refine lv_aload_n hx hb d_Md_candidates_58 rfl (lv_at hl 0 rfl) ?_
                refine hx_get (v := .ref (g 17)) hx hb htg iMd hown hK hI.1 rfl 21 (by decide) (htg _ (gw_mem (i := 1019) (by decide +kernel) rfl)) (fun _ h9 => h9) rfl d_Md_candidates_59 ?_
                refine lv_iload_n hx hb d_Md_candidates_62 rfl (lv_at hl 3 rfl) ?_
                refine hx_iald hx hb hK 0 (hI.2 17 (by decide)) rfl (show vp_in (nI b) 24 from vp_in_nI (n := b) (by omega) (by decide)) d_Md_candidates_63 ?_
                refine lv_eqi (y := (F3 17 b)) (show F3 17 (nI b).toNatClampNeg = _ by rw [nI_clamp (by omega)]) ?_
                refine lv_eqi (y := (nI (gl b))) (by rw [hG3]; exact (hGgl b (by omega)).1) ?_
                refine lv_icmp_eq (x := (nI (gl a))) (y := (nI (gl b))) (tgt := 107) hx hb d_Md_candidates_64 (by decide) (fun c64 => ?_) (fun c64 => ?_)
                · skip
                  replace c64 : (gl a) = (gl b) := (nI_eq (a := (gl a)) (b := (gl b)) (by omega) (by omega)).mp c64
                  refine lv_iinc (v := (nI (b + 1))) (lv' := [(3, .int (nI (b + 1))), (0, .ref x), (1, .int lq), (2, .int (nI a))]) hx hb d_Md_candidates_107 hl (k := 3) rfl (nI_1 b) (by decide) rfl (fun ls hl => ?_)
                  refine lv_goto (tgt := 30) hx hb d_Md_candidates_110 (by decide) ?_
                  exact ih30  _ c8 (b + 1) (by omega) (by omega) (by omega) hF3 hG3 (hL3.miss (by rw [canQ_at hab (by omega) hn24, decide_eq_true c49, oneB_t hGgl hCgl (by omega) (by omega) c64]; simp)) _ _ hI hS ls (lv_sub hl [1, 2, 3, 0] rfl)
                · skip
                  replace c64 : ¬ ((gl a) = (gl b)) := fun z9 => c64 ((nI_eq (a := (gl a)) (b := (gl b)) (by omega) (by omega)).mpr z9)
                  refine lv_aload_n hx hb d_Md_candidates_67 rfl (lv_at hl 0 rfl) ?_
                  refine lv_iload_n hx hb d_Md_candidates_68 rfl (lv_at hl 2 rfl) ?_
                  refine lv_iload_n hx hb d_Md_candidates_69 rfl (lv_at hl 3 rfl) ?_
                  refine h_calli (va_runV (As := [.int (nI a), .int (nI b)]) (rest := []) ⟨hx, hb, hml, hown, htg⟩ (c_Md_likeness l D cs N0 H x g ((upd (upd i 0 0) 4 (nI c8))) F3 a b hsep hI mn ln ((agr.of4 hF3).wf hV) (by omega) (by omega)) (cwV 2 htg (gw_V (gw_mem (i := 1124) (by decide +kernel) rfl) (gw_mem (i := 1126) (by decide +kernel) rfl) (gw_mem (i := 20) (by decide +kernel) rfl) (gw_mem (i := 38) (by decide +kernel) rfl) (gw_mem (i := 1127) (by decide +kernel) rfl)) rfl rfl rfl (by decide +kernel) ⟨Nat.le_of_ble_eq_true rfl, Nat.le_of_ble_eq_true rfl⟩) ⟨hPre.blind, hx_recv hK (ci := 0) rfl hI.1, hPre.at hB hS hsep.A⟩ rfl rfl hl.1 rfl (lv_room (Nat.le_of_ble_eq_true rfl)) d_Md_candidates_70 ⟨Nat.zero_le _, Nat.zero_le _⟩) hS (fun _ h => h) (fun r70 H locs hp hz hk hS => ?_)
                  obtain ⟨R, hI, er70⟩ := hp
                  refine lv_eqi (y := (likeV f ln mn a b)) (er70.trans (agr.of4 hF3).like) ?_
                  refine lv_iload_n hx hb d_Md_candidates_73 rfl (lv_at hl 1 rfl) ?_
                  refine lv_icmp_lt (x := (likeV f ln mn a b)) (y := lq) (tgt := 107) hx hb d_Md_candidates_74 (by decide) (fun c74 => ?_) (fun c74 => ?_)
                  · skip
                    refine lv_iinc (v := (nI (b + 1))) (lv' := [(3, .int (nI (b + 1))), (0, .ref x), (1, .int lq), (2, .int (nI a))]) hx hb d_Md_candidates_107 hl (k := 3) rfl (nI_1 b) (by decide) rfl (fun ls hl => ?_)
                    refine lv_goto (tgt := 30) hx hb d_Md_candidates_110 (by decide) ?_
                    exact ih30  _ c8 (b + 1) (by omega) (by omega) (by omega) (fun q h1 h2 h3 h4 => (setA_ne h4).trans (hF3 q h1 h2 h3 h4)) ((setA_ne (by decide)).trans hG3) (by rw [setA_ne (by decide), setA_ne (by decide)]; exact hL3.miss (by rw [canQ_at hab (by omega) hn24, decide_eq_true c49, oneB_f hGgl hCgl (by omega) (by omega) c64, decide_eq_true c74]; simp)) _ _ hI hS ls (lv_sub hl [1, 2, 3, 0] rfl)
                  · skip
                    have hQ9 : (canQ f ln mn mo mt mg n lq) (24 * a + b) = true := by rw [canQ_at hab (by omega) hn24, decide_eq_true c49, oneB_f hGgl hCgl (by omega) (by omega) c64, decide_eq_false c74]; rfl
                    have hc276 := hL3.lt hQ9 (by omega) canQ_tri
                    refine lv_aload_n hx hb d_Md_candidates_77 rfl (lv_at hl 0 rfl) ?_
                    refine hx_get (v := .ref (g 18)) hx hb htg iMd hown hK hI.1 rfl 23 (by decide) (htg _ (gw_mem (i := 1021) (by decide +kernel) rfl)) (fun _ h9 => h9) rfl d_Md_candidates_78 ?_
                    refine lv_aload_n hx hb d_Md_candidates_81 rfl (lv_at hl 0 rfl) ?_
                    refine hx_get (v := .int (nI c8)) hx hb htg iMd hown hK hI.1 rfl 22 (by decide) (htg _ (gw_mem (i := 1020) (by decide +kernel) rfl)) (fun _ h9 => h9) rfl d_Md_candidates_82 ?_
                    refine lv_iload_n hx hb d_Md_candidates_85 rfl (lv_at hl 2 rfl) ?_
                    refine hx_iast hx hb hK hS (Or.inr ⟨18, by decide, rfl⟩) 0 (hI.2 18 (by decide)) rfl (show vp_in (nI c8) 276 from vp_in_nI (n := c8) (by omega) (by decide)) d_Md_candidates_86 (fun H locs hat hz ho hS => ?_)
                    replace hI : md_I D cs H x g (upd (upd i 0 0) 4 (nI c8)) (updA (setA F3 21 R) 18 c8 ((nI a))) := md_I.puta hI hsep (by decide) (by rw [show ((nI c8) : Int32).toNatClampNeg = c8 from nI_clamp (n := c8) (by omega)] at hat; exact hat) ho
                    refine lv_aload_n hx hb d_Md_candidates_87 rfl (lv_at hl 0 rfl) ?_
                    refine hx_get (v := .ref (g 19)) hx hb htg iMd hown hK hI.1 rfl 24 (by decide) (htg _ (gw_mem (i := 1022) (by decide +kernel) rfl)) (fun _ h9 => h9) rfl d_Md_candidates_88 ?_
                    refine lv_aload_n hx hb d_Md_candidates_91 rfl (lv_at hl 0 rfl) ?_
                    refine hx_get (v := .int (nI c8)) hx hb htg iMd hown hK hI.1 rfl 22 (by decide) (htg _ (gw_mem (i := 1020) (by decide +kernel) rfl)) (fun _ h9 => h9) rfl d_Md_candidates_92 ?_
                    refine lv_iload_n hx hb d_Md_candidates_95 rfl (lv_at hl 3 rfl) ?_
                    refine hx_iast hx hb hK hS (Or.inr ⟨19, by decide, rfl⟩) 0 (hI.2 19 (by decide)) rfl (show vp_in (nI c8) 276 from vp_in_nI (n := c8) (by omega) (by decide)) d_Md_candidates_96 (fun H locs hat hz ho hS => ?_)
                    replace hI : md_I D cs H x g (upd (upd i 0 0) 4 (nI c8)) (updA (updA (setA F3 21 R) 18 c8 ((nI a))) 19 c8 ((nI b))) := md_I.puta hI hsep (by decide) (by rw [show ((nI c8) : Int32).toNatClampNeg = c8 from nI_clamp (n := c8) (by omega)] at hat; exact hat) ho
                    refine lv_aload_n hx hb d_Md_candidates_97 rfl (lv_at hl 0 rfl) ?_
                    refine lv_dup hx hb d_Md_candidates_98 rfl ?_
                    refine hx_get (v := .int (nI c8)) hx hb htg iMd hown hK hI.1 rfl 22 (by decide) (htg _ (gw_mem (i := 1020) (by decide +kernel) rfl)) (fun _ h9 => h9) rfl d_Md_candidates_99 ?_
                    refine lv_iconst (v := 1) hx hb d_Md_candidates_102 (by decide) ?_
                    refine lv_iadd (x := (nI c8)) (y := 1) hx hb d_Md_candidates_103 ?_
                    refine lv_eqi (y := (nI (c8 + 1))) (nI_add c8 1) ?_
                    refine hx_put (ty := .int) (v := .int (nI (c8 + 1))) hx hb htg iMd tMd tMd_ok nMd hown hK hI.1 hS (Or.inl rfl) rfl 22 (by decide) (htg _ (gw_mem (i := 1020) (by decide +kernel) rfl)) (fun _ h9 => h9) rfl (by decide +kernel) rfl rfl (Nat.le_of_ble_eq_true rfl) d_Md_candidates_104 (fun H locs hat hz ho hS => ?_)
                    replace hI : md_I D cs H x g (upd (upd (upd i 0 0) 4 (nI c8)) 4 ((nI (c8 + 1)))) (updA (updA (setA F3 21 R) 18 c8 ((nI a))) 19 c8 ((nI b))) := md_I.puti hI hsep hat ho rfl
                    refine lv_iinc (v := (nI (b + 1))) (lv' := [(3, .int (nI (b + 1))), (0, .ref x), (1, .int lq), (2, .int (nI a))]) hx hb d_Md_candidates_107 hl (k := 3) rfl (nI_1 b) (by decide) rfl (fun ls hl => ?_)
                    refine lv_goto (tgt := 30) hx hb d_Md_candidates_110 (by decide) ?_
                    rw [upd_upd] at hI
                    obtain ⟨F4, eF4⟩ : ∃ z9 : Nat → Nat → Int32, z9 = (updA (updA (setA F3 21 R) 18 c8 ((nI a))) 19 c8 ((nI b))) := ⟨_, rfl⟩
                    rw [← eF4] at hI
                    have e18 : F4 18 = upd (F3 18) c8 (nI a) := by rw [eF4, updA_ne (by decide), updA_self, setA_ne (by decide)]
                    have e19 : F4 19 = upd (F3 19) c8 (nI b) := by rw [eF4, updA_self, updA_ne (by decide), setA_ne (by decide)]
                    exact ih30  F4 (c8 + 1) (b + 1) (by omega) (by omega) (by omega) (fun q h1 h2 h3 h4 => by rw [eF4, updA_ne h3, updA_ne h2, setA_ne h4]; exact hF3 q h1 h2 h3 h4) (by rw [eF4, updA_ne (by decide), updA_ne (by decide), setA_ne (by decide)]; exact hG3) (by rw [e18, e19]; exact hL3.hit hQ9 (by omega)) _ _ hI hS ls (lv_sub hl [1, 2, 3, 0] rfl)
        exact loop30 ((n - (a + 1)) + 1) _ c9 (a + 1) (Nat.lt_succ_self _) (by omega) (by omega) hF2 hG2 (hL2.skip (by omega) (fun p h1 h2 => canQ_no (by omega))) _ _ hI hS ls (lv_sub hl [1, 2, 3, 0] rfl)
  exact loop18 ((n - 0) + 1) _ 0 0 (Nat.lt_succ_self _) (Nat.zero_le _) (fun q h1 h2 h3 h4 => setA_ne h1) (setA_self _ _ _) (⟨rfl, fun k p hk => by simp [selL] at hk⟩) _ _ hI hS ls (lv_sub hl [1, 2, 0] rfl)
