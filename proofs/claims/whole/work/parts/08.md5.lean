def conn (mo mt : Nat → Nat) (hd : Nat → Bool) (mg : Nat) (a b : Nat) : Prop := ∀ S : Nat → Prop, (∀ k, k < mg → hd k = true → (S (mo k) ↔ S (mt k))) → S a → S b
theorem conn.rf {mo mt : Nat → Nat} {hd : Nat → Bool} {mg a : Nat} : conn mo mt hd mg a a := fun _ _ h => h
theorem conn.tr {mo mt : Nat → Nat} {hd : Nat → Bool} {mg a b c : Nat} (h1 : conn mo mt hd mg a b) (h2 : conn mo mt hd mg b c) : conn mo mt hd mg a c := fun S hS h => h2 S hS (h1 S hS h)
theorem conn.sy {mo mt : Nat → Nat} {hd : Nat → Bool} {mg a b : Nat} (h : conn mo mt hd mg a b) : conn mo mt hd mg b a := fun S hS => h (fun x => S x → S a) (fun k hk hh => ⟨fun q z => q ((hS k hk hh).mpr z), fun q z => q ((hS k hk hh).mp z)⟩) (fun z => z)
theorem conn.ed {mo mt : Nat → Nat} {hd : Nat → Bool} {mg k : Nat} (hk : k < mg) (hh : hd k = true) : conn mo mt hd mg (mo k) (mt k) := fun _ hS h => (hS k hk hh).mp h
def glI (mo mt : Nat → Nat) (hd : Nat → Bool) (mg : Nat) (G : Nat → Int32) (gl : Nat → Nat) : Prop := ∀ n, n < 24 → G n = nI (gl n) ∧ gl n ≤ n ∧ conn mo mt hd mg n (gl n)
def glC (mo mt : Nat → Nat) (hd : Nat → Bool) (mg : Nat) (gl : Nat → Nat) : Prop := ∀ j, j < mg → hd j = true → gl (mo j) = gl (mt j)
theorem gl_conn {mo mt : Nat → Nat} {hd : Nat → Bool} {mg : Nat} {G : Nat → Int32} {gl : Nat → Nat} (hG : glI mo mt hd mg G gl) (hC : glC mo mt hd mg gl) {a b : Nat} (ha : a < 24) (hb : b < 24) : gl a = gl b ↔ conn mo mt hd mg a b := by
  constructor
  · intro h
    have h1 := (hG a ha).2.2
    have h2 := (hG b hb).2.2
    rw [← h] at h2
    exact h1.tr h2.sy
  · intro h
    exact (h (fun x => gl x = gl a) (fun k hk hh => by rw [hC k hk hh]) rfl).symm
theorem gl_least {mo mt : Nat → Nat} {hd : Nat → Bool} {mg : Nat} {G : Nat → Int32} {gl : Nat → Nat} (hG : glI mo mt hd mg G gl) (hC : glC mo mt hd mg gl) (ho : ∀ k, k < mg → mo k < 24 ∧ mt k < 24) {a : Nat} (ha : a < 24) : conn mo mt hd mg a (gl a) ∧ ∀ y, conn mo mt hd mg a y → gl a ≤ y := by
  refine ⟨(hG a ha).2.2, fun y h => ?_⟩
  have hy : y < 24 := h (fun x => x < 24) (fun k hk _ => ⟨fun _ => (ho k hk).2, fun _ => (ho k hk).1⟩) ha
  rw [(gl_conn hG hC ha hy).mpr h]
  exact (hG y hy).2.1
def updN (g : Nat → Nat) (k v : Nat) : Nat → Nat := fun j => if j = k then v else g j
theorem sum_updN (g : Nat → Nat) (k v : Nat) : ∀ n, (k < n → sumTo (updN g k v) n + g k = sumTo g n + v) ∧ (n ≤ k → sumTo (updN g k v) n = sumTo g n) := by
  intro n
  induction n with
  | zero => exact ⟨fun h => absurd h (Nat.not_lt_zero _), fun _ => rfl⟩
  | succ n ih =>
    refine ⟨fun h => ?_, fun h => ?_⟩
    · by_cases e : k = n
      · subst e
        have h1 := ih.2 (Nat.le_refl _)
        show sumTo (updN g k v) k + updN g k v k + g k = sumTo g k + g k + v
        rw [h1, show updN g k v k = v from if_pos rfl]
        omega
      · have h1 := ih.1 (by omega)
        show sumTo (updN g k v) n + updN g k v n + g k = sumTo g n + g n + v
        rw [show updN g k v n = g n from if_neg (fun z => e z.symm)]
        omega
    · have h1 := ih.2 (by omega)
      show sumTo (updN g k v) n + updN g k v n = sumTo g n + g n
      rw [h1, show updN g k v n = g n from if_neg (by omega)]
theorem gl_put {mo mt : Nat → Nat} {hd : Nat → Bool} {mg k m : Nat} {G : Nat → Int32} {gl : Nat → Nat} (hG : glI mo mt hd mg G gl) (hk : k < mg) (hh : hd k = true) (h1 : mo k < 24) (h2 : mt k < 24) (hne : ¬ gl (mo k) = gl (mt k)) (hm : (m = gl (mo k) ∧ gl (mo k) < gl (mt k)) ∨ (m = gl (mt k) ∧ gl (mt k) < gl (mo k))) :
    glI mo mt hd mg (upd (upd G (mo k) (nI m)) (mt k) (nI m)) (updN (updN gl (mo k) m) (mt k) m) ∧ sumTo (updN (updN gl (mo k) m) (mt k) m) 24 + 1 ≤ sumTo gl 24 := by
  have hab : mo k ≠ mt k := fun z => hne (by rw [z])
  have c1 := (hG (mo k) h1).2.2
  have c2 := (hG (mt k) h2).2.2
  have e1 := conn.ed (mo := mo) (mt := mt) (hd := hd) hk hh
  have l1 := (hG (mo k) h1).2.1
  have l2 := (hG (mt k) h2).2.1
  have hcm : conn mo mt hd mg (mo k) m ∧ conn mo mt hd mg (mt k) m ∧ m ≤ mo k ∧ m ≤ mt k := by
    rcases hm with ⟨rfl, hlt⟩ | ⟨rfl, hlt⟩
    · exact ⟨c1, e1.sy.tr c1, l1, by omega⟩
    · exact ⟨e1.tr c2, c2, by omega, l2⟩
  refine ⟨fun n hn => ?_, ?_⟩
  · by_cases q2 : n = mt k
    · subst q2
      rw [upd_self, show updN (updN gl (mo k) m) (mt k) m (mt k) = m from if_pos rfl]
      exact ⟨rfl, hcm.2.2.2, hcm.2.1⟩
    · rw [upd_ne q2, show updN (updN gl (mo k) m) (mt k) m n = updN gl (mo k) m n from if_neg q2]
      by_cases q1 : n = mo k
      · subst q1
        rw [upd_self, show updN gl (mo k) m (mo k) = m from if_pos rfl]
        exact ⟨rfl, hcm.2.2.1, hcm.1⟩
      · rw [upd_ne q1, show updN gl (mo k) m n = gl n from if_neg q1]
        exact hG n hn
  · have s1 := (sum_updN gl (mo k) m 24).1 h1
    have s2 := (sum_updN (updN gl (mo k) m) (mt k) m 24).1 h2
    rw [show updN gl (mo k) m (mt k) = gl (mt k) from if_neg (fun z => hab z.symm)] at s2
    rcases hm with ⟨rfl, hlt⟩ | ⟨rfl, hlt⟩ <;> omega
def holdB (f : Nat → Nat → Int32) (dy : Int32) : Nat → Bool := fun k => !decide (dy < f 15 k) && (decide (f 16 k = -1) || !decide (f 16 k ≤ dy))
def b01 (b : Bool) : Nat := if b = true then 1 else 0
def y_Md_join : MethodName := ⟨"NameMergesModel", "join", "(I)V"⟩
abbrev w_Md_join : List Cond := Cond.code y_Md_join prog_7_method_14_code 6 (Option.none : Option Jvm.ClassFile.FieldType) :: gw
theorem d_Md_join_0 : decode prog_7_method_14_code 0 = .ok (.iconst 0, 1) := by decide +kernel
theorem d_Md_join_1 : decode prog_7_method_14_code 1 = .ok (.istore_n 2, 1) := by decide +kernel
theorem d_Md_join_2 : decode prog_7_method_14_code 2 = .ok (.iload_n 2, 1) := by decide +kernel
theorem d_Md_join_3 : decode prog_7_method_14_code 3 = .ok (.bipush 24, 2) := by decide +kernel
theorem d_Md_join_5 : decode prog_7_method_14_code 5 = .ok (.if_icmp .ge 16, 3) := by decide +kernel
theorem d_Md_join_8 : decode prog_7_method_14_code 8 = .ok (.aload_n 0, 1) := by decide +kernel
theorem d_Md_join_9 : decode prog_7_method_14_code 9 = .ok (.getfield 62, 3) := by decide +kernel
theorem d_Md_join_12 : decode prog_7_method_14_code 12 = .ok (.iload_n 2, 1) := by decide +kernel
theorem d_Md_join_13 : decode prog_7_method_14_code 13 = .ok (.iload_n 2, 1) := by decide +kernel
theorem d_Md_join_14 : decode prog_7_method_14_code 14 = .ok (.iastore, 1) := by decide +kernel
theorem d_Md_join_15 : decode prog_7_method_14_code 15 = .ok (.iinc 2 1, 3) := by decide +kernel
theorem d_Md_join_18 : decode prog_7_method_14_code 18 = .ok (.goto (-16), 3) := by decide +kernel
theorem d_Md_join_21 : decode prog_7_method_14_code 21 = .ok (.iconst 1, 1) := by decide +kernel
theorem d_Md_join_22 : decode prog_7_method_14_code 22 = .ok (.istore_n 2, 1) := by decide +kernel
theorem d_Md_join_23 : decode prog_7_method_14_code 23 = .ok (.iload_n 2, 1) := by decide +kernel
theorem d_Md_join_24 : decode prog_7_method_14_code 24 = .ok (.ifCond .eq 139, 3) := by decide +kernel
theorem d_Md_join_27 : decode prog_7_method_14_code 27 = .ok (.iconst 0, 1) := by decide +kernel
theorem d_Md_join_28 : decode prog_7_method_14_code 28 = .ok (.istore_n 2, 1) := by decide +kernel
theorem d_Md_join_29 : decode prog_7_method_14_code 29 = .ok (.iconst 0, 1) := by decide +kernel
theorem d_Md_join_30 : decode prog_7_method_14_code 30 = .ok (.istore_n 3, 1) := by decide +kernel
theorem d_Md_join_31 : decode prog_7_method_14_code 31 = .ok (.iload_n 3, 1) := by decide +kernel
theorem d_Md_join_32 : decode prog_7_method_14_code 32 = .ok (.aload_n 0, 1) := by decide +kernel
theorem d_Md_join_33 : decode prog_7_method_14_code 33 = .ok (.getfield 106, 3) := by decide +kernel
theorem d_Md_join_36 : decode prog_7_method_14_code 36 = .ok (.if_icmp .ge 124, 3) := by decide +kernel
theorem d_Md_join_39 : decode prog_7_method_14_code 39 = .ok (.aload_n 0, 1) := by decide +kernel
theorem d_Md_join_40 : decode prog_7_method_14_code 40 = .ok (.getfield 62, 3) := by decide +kernel
theorem d_Md_join_43 : decode prog_7_method_14_code 43 = .ok (.aload_n 0, 1) := by decide +kernel
theorem d_Md_join_44 : decode prog_7_method_14_code 44 = .ok (.getfield 50, 3) := by decide +kernel
theorem d_Md_join_47 : decode prog_7_method_14_code 47 = .ok (.iload_n 3, 1) := by decide +kernel
theorem d_Md_join_48 : decode prog_7_method_14_code 48 = .ok (.iaload, 1) := by decide +kernel
theorem d_Md_join_49 : decode prog_7_method_14_code 49 = .ok (.iaload, 1) := by decide +kernel
theorem d_Md_join_50 : decode prog_7_method_14_code 50 = .ok (.istore 4, 2) := by decide +kernel
theorem d_Md_join_52 : decode prog_7_method_14_code 52 = .ok (.aload_n 0, 1) := by decide +kernel
theorem d_Md_join_53 : decode prog_7_method_14_code 53 = .ok (.getfield 62, 3) := by decide +kernel
theorem d_Md_join_56 : decode prog_7_method_14_code 56 = .ok (.aload_n 0, 1) := by decide +kernel
theorem d_Md_join_57 : decode prog_7_method_14_code 57 = .ok (.getfield 53, 3) := by decide +kernel
theorem d_Md_join_60 : decode prog_7_method_14_code 60 = .ok (.iload_n 3, 1) := by decide +kernel
theorem d_Md_join_61 : decode prog_7_method_14_code 61 = .ok (.iaload, 1) := by decide +kernel
theorem d_Md_join_62 : decode prog_7_method_14_code 62 = .ok (.iaload, 1) := by decide +kernel
theorem d_Md_join_63 : decode prog_7_method_14_code 63 = .ok (.istore 5, 2) := by decide +kernel
theorem d_Md_join_65 : decode prog_7_method_14_code 65 = .ok (.aload_n 0, 1) := by decide +kernel
theorem d_Md_join_66 : decode prog_7_method_14_code 66 = .ok (.getfield 56, 3) := by decide +kernel
theorem d_Md_join_69 : decode prog_7_method_14_code 69 = .ok (.iload_n 3, 1) := by decide +kernel
theorem d_Md_join_70 : decode prog_7_method_14_code 70 = .ok (.iaload, 1) := by decide +kernel
theorem d_Md_join_71 : decode prog_7_method_14_code 71 = .ok (.iload_n 1, 1) := by decide +kernel
theorem d_Md_join_72 : decode prog_7_method_14_code 72 = .ok (.if_icmp .gt 82, 3) := by decide +kernel
theorem d_Md_join_75 : decode prog_7_method_14_code 75 = .ok (.aload_n 0, 1) := by decide +kernel
theorem d_Md_join_76 : decode prog_7_method_14_code 76 = .ok (.getfield 59, 3) := by decide +kernel
theorem d_Md_join_79 : decode prog_7_method_14_code 79 = .ok (.iload_n 3, 1) := by decide +kernel
theorem d_Md_join_80 : decode prog_7_method_14_code 80 = .ok (.iaload, 1) := by decide +kernel
theorem d_Md_join_81 : decode prog_7_method_14_code 81 = .ok (.iconst (-1), 1) := by decide +kernel
theorem d_Md_join_82 : decode prog_7_method_14_code 82 = .ok (.if_icmp .eq 13, 3) := by decide +kernel
theorem d_Md_join_85 : decode prog_7_method_14_code 85 = .ok (.iload_n 1, 1) := by decide +kernel
theorem d_Md_join_86 : decode prog_7_method_14_code 86 = .ok (.aload_n 0, 1) := by decide +kernel
theorem d_Md_join_87 : decode prog_7_method_14_code 87 = .ok (.getfield 59, 3) := by decide +kernel
theorem d_Md_join_90 : decode prog_7_method_14_code 90 = .ok (.iload_n 3, 1) := by decide +kernel
theorem d_Md_join_91 : decode prog_7_method_14_code 91 = .ok (.iaload, 1) := by decide +kernel
theorem d_Md_join_92 : decode prog_7_method_14_code 92 = .ok (.if_icmp .ge 62, 3) := by decide +kernel
theorem d_Md_join_95 : decode prog_7_method_14_code 95 = .ok (.iload 4, 2) := by decide +kernel
theorem d_Md_join_97 : decode prog_7_method_14_code 97 = .ok (.iload 5, 2) := by decide +kernel
theorem d_Md_join_99 : decode prog_7_method_14_code 99 = .ok (.if_icmp .eq 55, 3) := by decide +kernel
theorem d_Md_join_102 : decode prog_7_method_14_code 102 = .ok (.aload_n 0, 1) := by decide +kernel
theorem d_Md_join_103 : decode prog_7_method_14_code 103 = .ok (.getfield 62, 3) := by decide +kernel
theorem d_Md_join_106 : decode prog_7_method_14_code 106 = .ok (.aload_n 0, 1) := by decide +kernel
theorem d_Md_join_107 : decode prog_7_method_14_code 107 = .ok (.getfield 50, 3) := by decide +kernel
theorem d_Md_join_110 : decode prog_7_method_14_code 110 = .ok (.iload_n 3, 1) := by decide +kernel
theorem d_Md_join_111 : decode prog_7_method_14_code 111 = .ok (.iaload, 1) := by decide +kernel
theorem d_Md_join_112 : decode prog_7_method_14_code 112 = .ok (.iload 4, 2) := by decide +kernel
theorem d_Md_join_114 : decode prog_7_method_14_code 114 = .ok (.iload 5, 2) := by decide +kernel
theorem d_Md_join_116 : decode prog_7_method_14_code 116 = .ok (.if_icmp .ge 8, 3) := by decide +kernel
theorem d_Md_join_119 : decode prog_7_method_14_code 119 = .ok (.iload 4, 2) := by decide +kernel
theorem d_Md_join_121 : decode prog_7_method_14_code 121 = .ok (.goto 5, 3) := by decide +kernel
theorem d_Md_join_124 : decode prog_7_method_14_code 124 = .ok (.iload 5, 2) := by decide +kernel
theorem d_Md_join_126 : decode prog_7_method_14_code 126 = .ok (.iastore, 1) := by decide +kernel
theorem d_Md_join_127 : decode prog_7_method_14_code 127 = .ok (.aload_n 0, 1) := by decide +kernel
theorem d_Md_join_128 : decode prog_7_method_14_code 128 = .ok (.getfield 62, 3) := by decide +kernel
theorem d_Md_join_131 : decode prog_7_method_14_code 131 = .ok (.aload_n 0, 1) := by decide +kernel
theorem d_Md_join_132 : decode prog_7_method_14_code 132 = .ok (.getfield 53, 3) := by decide +kernel
theorem d_Md_join_135 : decode prog_7_method_14_code 135 = .ok (.iload_n 3, 1) := by decide +kernel
theorem d_Md_join_136 : decode prog_7_method_14_code 136 = .ok (.iaload, 1) := by decide +kernel
theorem d_Md_join_137 : decode prog_7_method_14_code 137 = .ok (.iload 4, 2) := by decide +kernel
theorem d_Md_join_139 : decode prog_7_method_14_code 139 = .ok (.iload 5, 2) := by decide +kernel
theorem d_Md_join_141 : decode prog_7_method_14_code 141 = .ok (.if_icmp .ge 8, 3) := by decide +kernel
theorem d_Md_join_144 : decode prog_7_method_14_code 144 = .ok (.iload 4, 2) := by decide +kernel
theorem d_Md_join_146 : decode prog_7_method_14_code 146 = .ok (.goto 5, 3) := by decide +kernel
theorem d_Md_join_149 : decode prog_7_method_14_code 149 = .ok (.iload 5, 2) := by decide +kernel
theorem d_Md_join_151 : decode prog_7_method_14_code 151 = .ok (.iastore, 1) := by decide +kernel
theorem d_Md_join_152 : decode prog_7_method_14_code 152 = .ok (.iconst 1, 1) := by decide +kernel
theorem d_Md_join_153 : decode prog_7_method_14_code 153 = .ok (.istore_n 2, 1) := by decide +kernel
theorem d_Md_join_154 : decode prog_7_method_14_code 154 = .ok (.iinc 3 1, 3) := by decide +kernel
theorem d_Md_join_157 : decode prog_7_method_14_code 157 = .ok (.goto (-126), 3) := by decide +kernel
theorem d_Md_join_160 : decode prog_7_method_14_code 160 = .ok (.goto (-137), 3) := by decide +kernel
theorem d_Md_join_163 : decode prog_7_method_14_code 163 = .ok (.return_, 1) := by decide +kernel
set_option maxHeartbeats 4000000 in
set_option maxRecDepth 100000 in
theorem c_Md_join (l : Launch) (D : va_G) (cs : Nat → ClassId) (N0 : Nat) (H : Heap) (x : Nat) (g : Nat → Nat) (i : Nat → Int32) (f : Nat → Nat → Int32) (dy : Int32) (hsep : md_sep N0 x g) (hI : md_I D cs H x g i f) (mg : Nat) (hmg : i 3 = nI mg) (hmg60 : mg ≤ 60) (mo mt : Nat → Nat) (hone : ∀ k, k < mg → f 13 k = nI (mo k) ∧ mo k < 24) (hoth : ∀ k, k < mg → f 14 k = nI (mt k) ∧ mt k < 24) : Met l y_Md_join w_Md_join ({ frames := 0, cells := 0, slots := 0, locals := 0 }) (hPre D cs N0 [.ref x, .int dy] H) (hQv (fun H' => ∃ (G : Nat → Int32) (gl : Nat → Nat), md_I D cs H' x g i (setA f 17 G) ∧ glI mo mt (holdB f dy) mg G gl ∧ glC mo mt (holdB f dy) mg gl) (md_A x g)) 0 0 (md_A x g) := by
  refine Met.ofW (cc := prog_7_method_14_code) (maxL := 6) (ret := (Option.none : Option Jvm.ClassFile.FieldType)) (by decide) rfl ?_
  intro p e s m args below meth c s₁ B hml hv
  obtain ⟨rfl, rfl, hB⟩ := hv
  have hx := B.exec
  have hb := B.bytes
  have hr := B.returns
  have hts := atoms_spec (ws := w_Md_join) B.pre
  have htg : ∀ w ∈ gw, w.before _ s = true := fun w h => hts w (List.mem_cons_of_mem _ h)
  have hown : s.vm.findClass "NameMergesModel" = some m.cls := findClass_of_methodNamed B.named
  have hlocks := B.notSynchronized
  have hK := hB.1
  have hS : va_S (md_A x g) s.heap s.heap [] := va_S.rf
  obtain ⟨H, hH⟩ : ∃ z : Heap, z = s.heap := ⟨_, rfl⟩
  rw [← hH] at hI
  have hS : va_S (md_A x g) s.heap H [] := by rw [hH]; exact va_S.rf
  have hl := lv_entry ([.ref x, .int dy]) (n := 6) (Nat.le_of_ble_eq_true rfl)
  rw [lg_entry_eq, ← hH]
  generalize (lg_sl ([.ref x, .int dy]) ++ List.replicate (6 - (lg_sl ([.ref x, .int dy])).length) Slot.unset).toArray = ls at hl ⊢
  have hl : lv_has ls 6 [(0, .ref x), (1, .int dy)] := hl
  refine lv_iconst (v := 0) hx hb d_Md_join_0 (by decide) ?_
  refine lv_istore_n (lv' := [(2, .int 0), (0, .ref x), (1, .int dy)]) hx hb d_Md_join_1 rfl hl (by decide) rfl (fun ls hl => ?_)
  have loop2 : ∀ (fuel : Nat) (F1 : Nat → Nat → Int32) (k : Nat), 24 - k < fuel → (k ≤ 24) → (∀ a, a ≠ 17 → F1 a = f a) → (∀ j, j < k → F1 17 j = nI j) → ∀ (H : Heap) (locs : List Loc), md_I D cs H x g i F1 → va_S (md_A x g) s.heap H locs → ∀ (ls : Array Slot), lv_has ls 6 [(0, .ref x), (1, .int dy), (2, .int (nI k))] → W p l e (headSpec w_Md_join ({ frames := 0, cells := 0, slots := 0, locals := 0 })).room s m ([.ref x, .int dy] : List Value).toArray below meth c H locs 0 0 (MQ below (hQv (fun H' => ∃ (G : Nat → Int32) (gl : Nat → Nat), md_I D cs H' x g i (setA f 17 G) ∧ glI mo mt (holdB f dy) mg G gl ∧ glC mo mt (holdB f dy) mg gl) (md_A x g)) ([.ref x, .int dy] : List Value).toArray s 0 0 (md_A x g)) (F0 m 2 ls []) := by
    intro fuel2
    induction fuel2 with
    | zero => intro F1 k hn; exact absurd hn (Nat.not_lt_zero _)
    | succ fuel2 ih2 =>
      intro F1 k hn2 hk hF hR H locs hI hS ls hl
      refine lv_iload_n hx hb d_Md_join_2 rfl (lv_at hl 2 rfl) ?_
      refine lv_bipush (v := 24) hx hb d_Md_join_3 (by decide) ?_
      refine lv_icmp_ge (x := (nI k)) (y := 24) (tgt := 21) hx hb d_Md_join_5 (by decide) (fun c5 => ?_) (fun c5 => ?_)
      · skip
        replace c5 : 24 ≤ k := (nI_leI (a := 24) (b := k) (by omega) (by omega)).mp c5
        refine lv_iconst (v := 1) hx hb d_Md_join_21 (by decide) ?_
        refine lv_istore_n (lv' := [(2, .int 1), (0, .ref x), (1, .int dy)]) hx hb d_Md_join_22 rfl hl (by decide) rfl (fun ls hl => ?_)
        have loop23 : ∀ (fuel : Nat) (F2 : Nat → Nat → Int32) (gl : Nat → Nat) (w : Bool), 2 * sumTo gl 24 + b01 w < fuel → (∀ a, a ≠ 17 → F2 a = f a) → (glI mo mt (holdB f dy) mg (F2 17) gl) → (w = false → glC mo mt (holdB f dy) mg gl) → ∀ (H : Heap) (locs : List Loc), md_I D cs H x g i F2 → va_S (md_A x g) s.heap H locs → ∀ (ls : Array Slot), lv_has ls 6 [(0, .ref x), (1, .int dy), (2, .int (bI w))] → W p l e (headSpec w_Md_join ({ frames := 0, cells := 0, slots := 0, locals := 0 })).room s m ([.ref x, .int dy] : List Value).toArray below meth c H locs 0 0 (MQ below (hQv (fun H' => ∃ (G : Nat → Int32) (gl : Nat → Nat), md_I D cs H' x g i (setA f 17 G) ∧ glI mo mt (holdB f dy) mg G gl ∧ glC mo mt (holdB f dy) mg gl) (md_A x g)) ([.ref x, .int dy] : List Value).toArray s 0 0 (md_A x g)) (F0 m 23 ls []) := by
          intro fuel23
          induction fuel23 with
          | zero => intro F2 gl w hn; exact absurd hn (Nat.not_lt_zero _)
          | succ fuel23 ih23 =>
            intro F2 gl w hn23 hF2 hG2 hC2 H locs hI hS ls hl
            refine lv_iload_n hx hb d_Md_join_23 rfl (lv_at hl 2 rfl) ?_
            refine lv_if_eq (x := (bI w)) (tgt := 163) hx hb d_Md_join_24 (by decide) (fun c24 => ?_) (fun c24 => ?_)
            · skip
              replace c24 : w = false := bI_0 c24
              exact W.vret hx hb hr (fun t ht hW => ⟨⟨H, rfl, ⟨F2 17, gl, setA_of hF2 ▸ hI, hG2, hC2 c24⟩, ht⟩, hS.F ht⟩) hS.2.2 d_Md_join_163
            · skip
              replace c24 : w = true := bI_1 c24
              refine lv_iconst (v := 0) hx hb d_Md_join_27 (by decide) ?_
              refine lv_istore_n (lv' := [(2, .int 0), (0, .ref x), (1, .int dy)]) hx hb d_Md_join_28 rfl hl (by decide) rfl (fun ls hl => ?_)
              refine lv_iconst (v := 0) hx hb d_Md_join_29 (by decide) ?_
              refine lv_istore_n (lv' := [(3, .int 0), (2, .int 0), (0, .ref x), (1, .int dy)]) hx hb d_Md_join_30 rfl hl (by decide) rfl (fun ls hl => ?_)
              have loop31 : ∀ (fuel : Nat) (F3 : Nat → Nat → Int32) (gl3 : Nat → Nat) (w : Bool) (k : Nat), mg - k < fuel → (k ≤ mg) → (∀ a, a ≠ 17 → F3 a = f a) → (glI mo mt (holdB f dy) mg (F3 17) gl3) → (w = false → glC mo mt (holdB f dy) k gl3) → (sumTo gl3 24 + b01 w ≤ sumTo gl 24) → ∀ (H : Heap) (locs : List Loc), md_I D cs H x g i F3 → va_S (md_A x g) s.heap H locs → ∀ (ls : Array Slot), lv_has ls 6 [(0, .ref x), (1, .int dy), (2, .int (bI w)), (3, .int (nI k))] → W p l e (headSpec w_Md_join ({ frames := 0, cells := 0, slots := 0, locals := 0 })).room s m ([.ref x, .int dy] : List Value).toArray below meth c H locs 0 0 (MQ below (hQv (fun H' => ∃ (G : Nat → Int32) (gl : Nat → Nat), md_I D cs H' x g i (setA f 17 G) ∧ glI mo mt (holdB f dy) mg G gl ∧ glC mo mt (holdB f dy) mg gl) (md_A x g)) ([.ref x, .int dy] : List Value).toArray s 0 0 (md_A x g)) (F0 m 31 ls []) := by
                intro fuel31
                induction fuel31 with
                | zero => intro F3 gl3 w k hn; exact absurd hn (Nat.not_lt_zero _)
                | succ fuel31 ih31 =>
                  intro F3 gl3 w k hn31 hk hF3 hG3 hC3 hs3 H locs hI hS ls hl
                  refine lv_iload_n hx hb d_Md_join_31 rfl (lv_at hl 3 rfl) ?_
                  refine lv_aload_n hx hb d_Md_join_32 rfl (lv_at hl 0 rfl) ?_
                  refine hx_get (v := .int (i 3)) hx hb htg iMd hown hK hI.1 rfl 16 (by decide) (htg _ (gw_mem (i := 1014) (by decide +kernel) rfl)) (fun _ h9 => h9) rfl d_Md_join_33 ?_
                  refine lv_eqi (y := (nI mg)) hmg ?_
                  refine lv_icmp_ge (x := (nI k)) (y := (nI mg)) (tgt := 160) hx hb d_Md_join_36 (by decide) (fun c36 => ?_) (fun c36 => ?_)
                  · skip
                    replace c36 : mg ≤ k := (nI_leI (a := mg) (b := k) (by omega) (by omega)).mp c36
                    refine lv_goto (tgt := 23) hx hb d_Md_join_160 (by decide) ?_
                    exact ih23  _ gl3 w (by have e8 := hs3; rw [c24] at hn23; simp only [b01] at hn23 e8 ⊢; split <;> simp_all <;> omega) hF3 hG3 (fun z9 => by have e9 : k = mg := (by omega); subst e9; exact hC3 z9) _ _ hI hS ls (lv_sub hl [0, 1, 2] rfl)
                  · skip
                    replace c36 : ¬ (mg ≤ k) := fun z9 => c36 ((nI_leI (a := mg) (b := k) (by omega) (by omega)).mpr z9)
                    have hmo := hone k (by omega)
                    have hmt := hoth k (by omega)
                    have hg1 := (hG3 (mo k) hmo.2).2.1
                    have hg2 := (hG3 (mt k) hmt.2).2.1
                    refine lv_aload_n hx hb d_Md_join_39 rfl (lv_at hl 0 rfl) ?_
                    refine hx_get (v := .ref (g 17)) hx hb htg iMd hown hK hI.1 rfl 21 (by decide) (htg _ (gw_mem (i := 1019) (by decide +kernel) rfl)) (fun _ h9 => h9) rfl d_Md_join_40 ?_
                    refine lv_aload_n hx hb d_Md_join_43 rfl (lv_at hl 0 rfl) ?_
                    refine hx_get (v := .ref (g 13)) hx hb htg iMd hown hK hI.1 rfl 17 (by decide) (htg _ (gw_mem (i := 1015) (by decide +kernel) rfl)) (fun _ h9 => h9) rfl d_Md_join_44 ?_
                    refine lv_iload_n hx hb d_Md_join_47 rfl (lv_at hl 3 rfl) ?_
                    refine hx_iald hx hb hK 0 (hI.2 13 (by decide)) rfl (show vp_in (nI k) 60 from vp_in_nI (n := k) (by omega) (by decide)) d_Md_join_48 ?_
                    refine lv_eqi (y := (F3 13 k)) (show F3 13 (nI k).toNatClampNeg = _ by rw [nI_clamp (by omega)]) ?_
                    refine lv_eqi (y := (nI (mo k))) (by rw [hF3 13 (by decide)]; exact hmo.1) ?_
                    refine hx_iald hx hb hK 0 (hI.2 17 (by decide)) rfl (show vp_in (nI (mo k)) 24 from vp_in_nI (n := mo k) (by omega) (by decide)) d_Md_join_49 ?_
                    refine lv_eqi (y := (F3 17 (mo k))) (show F3 17 (nI (mo k)).toNatClampNeg = _ by rw [nI_clamp (by omega)]) ?_
                    refine lv_eqi (y := (nI (gl3 (mo k)))) (hG3 (mo k) hmo.2).1 ?_
                    refine lv_istore (lv' := [(4, .int (nI (gl3 (mo k)))), (0, .ref x), (1, .int dy), (2, .int (bI w)), (3, .int (nI k))]) hx hb d_Md_join_50 hl (by decide) rfl (fun ls hl => ?_)
                    refine lv_aload_n hx hb d_Md_join_52 rfl (lv_at hl 1 rfl) ?_
                    refine hx_get (v := .ref (g 17)) hx hb htg iMd hown hK hI.1 rfl 21 (by decide) (htg _ (gw_mem (i := 1019) (by decide +kernel) rfl)) (fun _ h9 => h9) rfl d_Md_join_53 ?_
                    refine lv_aload_n hx hb d_Md_join_56 rfl (lv_at hl 1 rfl) ?_
                    refine hx_get (v := .ref (g 14)) hx hb htg iMd hown hK hI.1 rfl 18 (by decide) (htg _ (gw_mem (i := 1016) (by decide +kernel) rfl)) (fun _ h9 => h9) rfl d_Md_join_57 ?_
                    refine lv_iload_n hx hb d_Md_join_60 rfl (lv_at hl 4 rfl) ?_
                    refine hx_iald hx hb hK 0 (hI.2 14 (by decide)) rfl (show vp_in (nI k) 60 from vp_in_nI (n := k) (by omega) (by decide)) d_Md_join_61 ?_
                    refine lv_eqi (y := (F3 14 k)) (show F3 14 (nI k).toNatClampNeg = _ by rw [nI_clamp (by omega)]) ?_
                    refine lv_eqi (y := (nI (mt k))) (by rw [hF3 14 (by decide)]; exact hmt.1) ?_
                    refine hx_iald hx hb hK 0 (hI.2 17 (by decide)) rfl (show vp_in (nI (mt k)) 24 from vp_in_nI (n := mt k) (by omega) (by decide)) d_Md_join_62 ?_
                    refine lv_eqi (y := (F3 17 (mt k))) (show F3 17 (nI (mt k)).toNatClampNeg = _ by rw [nI_clamp (by omega)]) ?_
                    refine lv_eqi (y := (nI (gl3 (mt k)))) (hG3 (mt k) hmt.2).1 ?_
                    refine lv_istore (lv' := [(5, .int (nI (gl3 (mt k)))), (4, .int (nI (gl3 (mo k)))), (0, .ref x), (1, .int dy), (2, .int (bI w)), (3, .int (nI k))]) hx hb d_Md_join_63 hl (by decide) rfl (fun ls hl => ?_)
                    refine lv_aload_n hx hb d_Md_join_65 rfl (lv_at hl 2 rfl) ?_
                    refine hx_get (v := .ref (g 15)) hx hb htg iMd hown hK hI.1 rfl 19 (by decide) (htg _ (gw_mem (i := 1017) (by decide +kernel) rfl)) (fun _ h9 => h9) rfl d_Md_join_66 ?_
                    refine lv_iload_n hx hb d_Md_join_69 rfl (lv_at hl 5 rfl) ?_
                    refine hx_iald hx hb hK 0 (hI.2 15 (by decide)) rfl (show vp_in (nI k) 60 from vp_in_nI (n := k) (by omega) (by decide)) d_Md_join_70 ?_
                    refine lv_eqi (y := (F3 15 k)) (show F3 15 (nI k).toNatClampNeg = _ by rw [nI_clamp (by omega)]) ?_
                    refine lv_eqi (y := (f 15 k)) (by rw [hF3 15 (by decide)]) ?_
                    refine lv_iload_n hx hb d_Md_join_71 rfl (lv_at hl 3 rfl) ?_
                    refine lv_icmp_gt (x := (f 15 k)) (y := dy) (tgt := 154) hx hb d_Md_join_72 (by decide) (fun c72 => ?_) (fun c72 => ?_)
                    · skip
                      refine lv_iinc (v := (nI (k + 1))) (lv' := [(3, .int (nI (k + 1))), (5, .int (nI (gl3 (mt k)))), (4, .int (nI (gl3 (mo k)))), (0, .ref x), (1, .int dy), (2, .int (bI w))]) hx hb d_Md_join_154 hl (k := 5) rfl (nI_1 k) (by decide) rfl (fun ls hl => ?_)
                      refine lv_goto (tgt := 31) hx hb d_Md_join_157 (by decide) ?_
                      exact ih31  _ gl3 w (k + 1) (by omega) (by omega) hF3 hG3 (fun z9 j hj hh => by by_cases e9 : j = k; (· subst e9; exact absurd hh (by simp [holdB, c72])); (· exact hC3 z9 j (by omega) hh)) hs3 _ _ hI hS ls (lv_sub hl [3, 4, 5, 0] rfl)
                    · skip
                      refine lv_aload_n hx hb d_Md_join_75 rfl (lv_at hl 2 rfl) ?_
                      refine hx_get (v := .ref (g 16)) hx hb htg iMd hown hK hI.1 rfl 20 (by decide) (htg _ (gw_mem (i := 1018) (by decide +kernel) rfl)) (fun _ h9 => h9) rfl d_Md_join_76 ?_
                      refine lv_iload_n hx hb d_Md_join_79 rfl (lv_at hl 5 rfl) ?_
                      refine hx_iald hx hb hK 0 (hI.2 16 (by decide)) rfl (show vp_in (nI k) 60 from vp_in_nI (n := k) (by omega) (by decide)) d_Md_join_80 ?_
                      refine lv_eqi (y := (F3 16 k)) (show F3 16 (nI k).toNatClampNeg = _ by rw [nI_clamp (by omega)]) ?_
                      refine lv_eqi (y := (f 16 k)) (by rw [hF3 16 (by decide)]) ?_
                      refine lv_iconst (v := (-1)) hx hb d_Md_join_81 (by decide) ?_
                      refine lv_icmp_eq (x := (f 16 k)) (y := (-1)) (tgt := 95) hx hb d_Md_join_82 (by decide) (fun c82 => ?_) (fun c82 => ?_)
                      · skip
                        refine lv_iload hx hb d_Md_join_95 (lv_at hl 1 rfl) ?_
                        refine lv_iload hx hb d_Md_join_97 (lv_at hl 0 rfl) ?_
                        refine lv_icmp_eq (x := (nI (gl3 (mo k)))) (y := (nI (gl3 (mt k)))) (tgt := 154) hx hb d_Md_join_99 (by decide) (fun c99 => ?_) (fun c99 => ?_)
                        · skip
                          replace c99 : (gl3 (mo k)) = (gl3 (mt k)) := (nI_eq (a := (gl3 (mo k))) (b := (gl3 (mt k))) (by omega) (by omega)).mp c99
                          refine lv_iinc (v := (nI (k + 1))) (lv' := [(3, .int (nI (k + 1))), (5, .int (nI (gl3 (mt k)))), (4, .int (nI (gl3 (mo k)))), (0, .ref x), (1, .int dy), (2, .int (bI w))]) hx hb d_Md_join_154 hl (k := 5) rfl (nI_1 k) (by decide) rfl (fun ls hl => ?_)
                          refine lv_goto (tgt := 31) hx hb d_Md_join_157 (by decide) ?_
                          exact ih31  _ gl3 w (k + 1) (by omega) (by omega) hF3 hG3 (fun z9 j hj hh => by by_cases e9 : j = k; (· subst e9; exact c99); (· exact hC3 z9 j (by omega) hh)) hs3 _ _ hI hS ls (lv_sub hl [3, 4, 5, 0] rfl)
                        · skip
                          replace c99 : ¬ ((gl3 (mo k)) = (gl3 (mt k))) := fun z9 => c99 ((nI_eq (a := (gl3 (mo k))) (b := (gl3 (mt k))) (by omega) (by omega)).mpr z9)
                          refine lv_aload_n hx hb d_Md_join_102 rfl (lv_at hl 2 rfl) ?_
                          refine hx_get (v := .ref (g 17)) hx hb htg iMd hown hK hI.1 rfl 21 (by decide) (htg _ (gw_mem (i := 1019) (by decide +kernel) rfl)) (fun _ h9 => h9) rfl d_Md_join_103 ?_
                          refine lv_aload_n hx hb d_Md_join_106 rfl (lv_at hl 2 rfl) ?_
                          refine hx_get (v := .ref (g 13)) hx hb htg iMd hown hK hI.1 rfl 17 (by decide) (htg _ (gw_mem (i := 1015) (by decide +kernel) rfl)) (fun _ h9 => h9) rfl d_Md_join_107 ?_
                          refine lv_iload_n hx hb d_Md_join_110 rfl (lv_at hl 5 rfl) ?_
                          refine hx_iald hx hb hK 0 (hI.2 13 (by decide)) rfl (show vp_in (nI k) 60 from vp_in_nI (n := k) (by omega) (by decide)) d_Md_join_111 ?_
                          refine lv_eqi (y := (F3 13 k)) (show F3 13 (nI k).toNatClampNeg = _ by rw [nI_clamp (by omega)]) ?_
                          refine lv_eqi (y := (nI (mo k))) (by rw [hF3 13 (by decide)]; exact hmo.1) ?_
                          refine lv_iload hx hb d_Md_join_112 (lv_at hl 1 rfl) ?_
                          refine lv_iload hx hb d_Md_join_114 (lv_at hl 0 rfl) ?_
                          refine lv_icmp_ge (x := (nI (gl3 (mo k)))) (y := (nI (gl3 (mt k)))) (tgt := 124) hx hb d_Md_join_116 (by decide) (fun c116 => ?_) (fun c116 => ?_)
                          · skip
                            replace c116 : (gl3 (mt k)) ≤ (gl3 (mo k)) := (nI_leI (a := (gl3 (mt k))) (b := (gl3 (mo k))) (by omega) (by omega)).mp c116
                            refine lv_iload hx hb d_Md_join_124 (lv_at hl 0 rfl) ?_
                            refine hx_iast hx hb hK hS (Or.inr ⟨17, by decide, rfl⟩) 0 (hI.2 17 (by decide)) rfl (show vp_in (nI (mo k)) 24 from vp_in_nI (n := mo k) (by omega) (by decide)) d_Md_join_126 (fun H locs hat hz ho hS => ?_)
                            replace hI : md_I D cs H x g i (updA F3 17 (mo k) ((nI (gl3 (mt k))))) := md_I.puta hI hsep (by decide) (by rw [show ((nI (mo k)) : Int32).toNatClampNeg = mo k from nI_clamp (n := mo k) (by omega)] at hat; exact hat) ho
                            refine lv_aload_n hx hb d_Md_join_127 rfl (lv_at hl 2 rfl) ?_
                            refine hx_get (v := .ref (g 17)) hx hb htg iMd hown hK hI.1 rfl 21 (by decide) (htg _ (gw_mem (i := 1019) (by decide +kernel) rfl)) (fun _ h9 => h9) rfl d_Md_join_128 ?_
                            refine lv_aload_n hx hb d_Md_join_131 rfl (lv_at hl 2 rfl) ?_
                            refine hx_get (v := .ref (g 14)) hx hb htg iMd hown hK hI.1 rfl 18 (by decide) (htg _ (gw_mem (i := 1016) (by decide +kernel) rfl)) (fun _ h9 => h9) rfl d_Md_join_132 ?_
                            refine lv_iload_n hx hb d_Md_join_135 rfl (lv_at hl 5 rfl) ?_
                            refine hx_iald hx hb hK 0 (hI.2 14 (by decide)) rfl (show vp_in (nI k) 60 from vp_in_nI (n := k) (by omega) (by decide)) d_Md_join_136 ?_
                            refine lv_eqi (y := ((updA F3 17 (mo k) ((nI (gl3 (mt k))))) 14 k)) (show (updA F3 17 (mo k) ((nI (gl3 (mt k))))) 14 (nI k).toNatClampNeg = _ by rw [nI_clamp (by omega)]) ?_
                            refine lv_eqi (y := (nI (mt k))) (by rw [updA_ne (by decide), hF3 14 (by decide)]; exact hmt.1) ?_
                            refine lv_iload hx hb d_Md_join_137 (lv_at hl 1 rfl) ?_
                            refine lv_iload hx hb d_Md_join_139 (lv_at hl 0 rfl) ?_
                            refine lv_icmp_ge (x := (nI (gl3 (mo k)))) (y := (nI (gl3 (mt k)))) (tgt := 149) hx hb d_Md_join_141 (by decide) (fun c141 => ?_) (fun c141 => ?_)
                            · skip
                              replace c141 : (gl3 (mt k)) ≤ (gl3 (mo k)) := (nI_leI (a := (gl3 (mt k))) (b := (gl3 (mo k))) (by omega) (by omega)).mp c141
                              refine lv_iload hx hb d_Md_join_149 (lv_at hl 0 rfl) ?_
                              refine hx_iast hx hb hK hS (Or.inr ⟨17, by decide, rfl⟩) 0 (hI.2 17 (by decide)) rfl (show vp_in (nI (mt k)) 24 from vp_in_nI (n := mt k) (by omega) (by decide)) d_Md_join_151 (fun H locs hat hz ho hS => ?_)
                              replace hI : md_I D cs H x g i (updA (updA F3 17 (mo k) ((nI (gl3 (mt k))))) 17 (mt k) ((nI (gl3 (mt k))))) := md_I.puta hI hsep (by decide) (by rw [show ((nI (mt k)) : Int32).toNatClampNeg = mt k from nI_clamp (n := mt k) (by omega)] at hat; exact hat) ho
                              refine lv_iconst (v := 1) hx hb d_Md_join_152 (by decide) ?_
                              refine lv_istore_n (lv' := [(2, .int 1), (5, .int (nI (gl3 (mt k)))), (4, .int (nI (gl3 (mo k)))), (0, .ref x), (1, .int dy), (3, .int (nI k))]) hx hb d_Md_join_153 rfl hl (by decide) rfl (fun ls hl => ?_)
                              refine lv_iinc (v := (nI (k + 1))) (lv' := [(3, .int (nI (k + 1))), (2, .int 1), (5, .int (nI (gl3 (mt k)))), (4, .int (nI (gl3 (mo k)))), (0, .ref x), (1, .int dy)]) hx hb d_Md_join_154 hl (k := 5) rfl (nI_1 k) (by decide) rfl (fun ls hl => ?_)
                              refine lv_goto (tgt := 31) hx hb d_Md_join_157 (by decide) ?_
                              have hh9 : holdB f dy k = true := by simp [holdB, c72, c82]
                              obtain ⟨p1, p2⟩ := gl_put (m := gl3 (mt k)) hG3 (by omega) hh9 hmo.2 hmt.2 c99 (by omega)
                              exact ih31  _ _ true (k + 1) (by omega) (by omega) (fun a ha => ((updA_ne ha).trans (updA_ne ha)).trans (hF3 a ha)) (by rw [updA_self, updA_self]; exact p1) (fun z9 => absurd z9 (by decide)) (by simp only [b01] at hs3 ⊢; split at hs3 <;> simp_all <;> omega) _ _ hI hS ls (lv_sub hl [4, 5, 1, 0] rfl)
                            · skip
                              replace c141 : ¬ ((gl3 (mt k)) ≤ (gl3 (mo k))) := fun z9 => c141 ((nI_leI (a := (gl3 (mt k))) (b := (gl3 (mo k))) (by omega) (by omega)).mpr z9)
                              exact absurd c116 c141
                          · skip
                            replace c116 : ¬ ((gl3 (mt k)) ≤ (gl3 (mo k))) := fun z9 => c116 ((nI_leI (a := (gl3 (mt k))) (b := (gl3 (mo k))) (by omega) (by omega)).mpr z9)
                            refine lv_iload hx hb d_Md_join_119 (lv_at hl 1 rfl) ?_
                            refine lv_goto (tgt := 126) hx hb d_Md_join_121 (by decide) ?_
                            refine hx_iast hx hb hK hS (Or.inr ⟨17, by decide, rfl⟩) 0 (hI.2 17 (by decide)) rfl (show vp_in (nI (mo k)) 24 from vp_in_nI (n := mo k) (by omega) (by decide)) d_Md_join_126 (fun H locs hat hz ho hS => ?_)
                            replace hI : md_I D cs H x g i (updA F3 17 (mo k) ((nI (gl3 (mo k))))) := md_I.puta hI hsep (by decide) (by rw [show ((nI (mo k)) : Int32).toNatClampNeg = mo k from nI_clamp (n := mo k) (by omega)] at hat; exact hat) ho
                            refine lv_aload_n hx hb d_Md_join_127 rfl (lv_at hl 2 rfl) ?_
                            refine hx_get (v := .ref (g 17)) hx hb htg iMd hown hK hI.1 rfl 21 (by decide) (htg _ (gw_mem (i := 1019) (by decide +kernel) rfl)) (fun _ h9 => h9) rfl d_Md_join_128 ?_
                            refine lv_aload_n hx hb d_Md_join_131 rfl (lv_at hl 2 rfl) ?_
                            refine hx_get (v := .ref (g 14)) hx hb htg iMd hown hK hI.1 rfl 18 (by decide) (htg _ (gw_mem (i := 1016) (by decide +kernel) rfl)) (fun _ h9 => h9) rfl d_Md_join_132 ?_
                            refine lv_iload_n hx hb d_Md_join_135 rfl (lv_at hl 5 rfl) ?_
                            refine hx_iald hx hb hK 0 (hI.2 14 (by decide)) rfl (show vp_in (nI k) 60 from vp_in_nI (n := k) (by omega) (by decide)) d_Md_join_136 ?_
                            refine lv_eqi (y := ((updA F3 17 (mo k) ((nI (gl3 (mo k))))) 14 k)) (show (updA F3 17 (mo k) ((nI (gl3 (mo k))))) 14 (nI k).toNatClampNeg = _ by rw [nI_clamp (by omega)]) ?_
                            refine lv_eqi (y := (nI (mt k))) (by rw [updA_ne (by decide), hF3 14 (by decide)]; exact hmt.1) ?_
                            refine lv_iload hx hb d_Md_join_137 (lv_at hl 1 rfl) ?_
                            refine lv_iload hx hb d_Md_join_139 (lv_at hl 0 rfl) ?_
                            refine lv_icmp_ge (x := (nI (gl3 (mo k)))) (y := (nI (gl3 (mt k)))) (tgt := 149) hx hb d_Md_join_141 (by decide) (fun c141 => ?_) (fun c141 => ?_)
                            · skip
                              replace c141 : (gl3 (mt k)) ≤ (gl3 (mo k)) := (nI_leI (a := (gl3 (mt k))) (b := (gl3 (mo k))) (by omega) (by omega)).mp c141
                              exact absurd c141 c116
                            · skip
                              replace c141 : ¬ ((gl3 (mt k)) ≤ (gl3 (mo k))) := fun z9 => c141 ((nI_leI (a := (gl3 (mt k))) (b := (gl3 (mo k))) (by omega) (by omega)).mpr z9)
                              refine lv_iload hx hb d_Md_join_144 (lv_at hl 1 rfl) ?_
                              refine lv_goto (tgt := 151) hx hb d_Md_join_146 (by decide) ?_
                              refine hx_iast hx hb hK hS (Or.inr ⟨17, by decide, rfl⟩) 0 (hI.2 17 (by decide)) rfl (show vp_in (nI (mt k)) 24 from vp_in_nI (n := mt k) (by omega) (by decide)) d_Md_join_151 (fun H locs hat hz ho hS => ?_)
                              replace hI : md_I D cs H x g i (updA (updA F3 17 (mo k) ((nI (gl3 (mo k))))) 17 (mt k) ((nI (gl3 (mo k))))) := md_I.puta hI hsep (by decide) (by rw [show ((nI (mt k)) : Int32).toNatClampNeg = mt k from nI_clamp (n := mt k) (by omega)] at hat; exact hat) ho
                              refine lv_iconst (v := 1) hx hb d_Md_join_152 (by decide) ?_
                              refine lv_istore_n (lv' := [(2, .int 1), (5, .int (nI (gl3 (mt k)))), (4, .int (nI (gl3 (mo k)))), (0, .ref x), (1, .int dy), (3, .int (nI k))]) hx hb d_Md_join_153 rfl hl (by decide) rfl (fun ls hl => ?_)
                              refine lv_iinc (v := (nI (k + 1))) (lv' := [(3, .int (nI (k + 1))), (2, .int 1), (5, .int (nI (gl3 (mt k)))), (4, .int (nI (gl3 (mo k)))), (0, .ref x), (1, .int dy)]) hx hb d_Md_join_154 hl (k := 5) rfl (nI_1 k) (by decide) rfl (fun ls hl => ?_)
                              refine lv_goto (tgt := 31) hx hb d_Md_join_157 (by decide) ?_
                              have hh9 : holdB f dy k = true := by simp [holdB, c72, c82]
                              obtain ⟨p1, p2⟩ := gl_put (m := gl3 (mo k)) hG3 (by omega) hh9 hmo.2 hmt.2 c99 (by omega)
                              exact ih31  _ _ true (k + 1) (by omega) (by omega) (fun a ha => ((updA_ne ha).trans (updA_ne ha)).trans (hF3 a ha)) (by rw [updA_self, updA_self]; exact p1) (fun z9 => absurd z9 (by decide)) (by simp only [b01] at hs3 ⊢; split at hs3 <;> simp_all <;> omega) _ _ hI hS ls (lv_sub hl [4, 5, 1, 0] rfl)
                      · skip
                        refine lv_iload_n hx hb d_Md_join_85 rfl (lv_at hl 3 rfl) ?_
                        refine lv_aload_n hx hb d_Md_join_86 rfl (lv_at hl 2 rfl) ?_
                        refine hx_get (v := .ref (g 16)) hx hb htg iMd hown hK hI.1 rfl 20 (by decide) (htg _ (gw_mem (i := 1018) (by decide +kernel) rfl)) (fun _ h9 => h9) rfl d_Md_join_87 ?_
                        refine lv_iload_n hx hb d_Md_join_90 rfl (lv_at hl 5 rfl) ?_
                        refine hx_iald hx hb hK 0 (hI.2 16 (by decide)) rfl (show vp_in (nI k) 60 from vp_in_nI (n := k) (by omega) (by decide)) d_Md_join_91 ?_
                        refine lv_eqi (y := (F3 16 k)) (show F3 16 (nI k).toNatClampNeg = _ by rw [nI_clamp (by omega)]) ?_
                        refine lv_eqi (y := (f 16 k)) (by rw [hF3 16 (by decide)]) ?_
                        refine lv_icmp_ge (x := dy) (y := (f 16 k)) (tgt := 154) hx hb d_Md_join_92 (by decide) (fun c92 => ?_) (fun c92 => ?_)
                        · skip
                          refine lv_iinc (v := (nI (k + 1))) (lv' := [(3, .int (nI (k + 1))), (5, .int (nI (gl3 (mt k)))), (4, .int (nI (gl3 (mo k)))), (0, .ref x), (1, .int dy), (2, .int (bI w))]) hx hb d_Md_join_154 hl (k := 5) rfl (nI_1 k) (by decide) rfl (fun ls hl => ?_)
                          refine lv_goto (tgt := 31) hx hb d_Md_join_157 (by decide) ?_
                          exact ih31  _ gl3 w (k + 1) (by omega) (by omega) hF3 hG3 (fun z9 j hj hh => by by_cases e9 : j = k; (· subst e9; exact absurd hh (by simp [holdB, c72, c82, c92])); (· exact hC3 z9 j (by omega) hh)) hs3 _ _ hI hS ls (lv_sub hl [3, 4, 5, 0] rfl)
                        · skip
                          refine lv_iload hx hb d_Md_join_95 (lv_at hl 1 rfl) ?_
                          refine lv_iload hx hb d_Md_join_97 (lv_at hl 0 rfl) ?_
                          refine lv_icmp_eq (x := (nI (gl3 (mo k)))) (y := (nI (gl3 (mt k)))) (tgt := 154) hx hb d_Md_join_99 (by decide) (fun c99 => ?_) (fun c99 => ?_)
                          · skip
                            replace c99 : (gl3 (mo k)) = (gl3 (mt k)) := (nI_eq (a := (gl3 (mo k))) (b := (gl3 (mt k))) (by omega) (by omega)).mp c99
                            refine lv_iinc (v := (nI (k + 1))) (lv' := [(3, .int (nI (k + 1))), (5, .int (nI (gl3 (mt k)))), (4, .int (nI (gl3 (mo k)))), (0, .ref x), (1, .int dy), (2, .int (bI w))]) hx hb d_Md_join_154 hl (k := 5) rfl (nI_1 k) (by decide) rfl (fun ls hl => ?_)
                            refine lv_goto (tgt := 31) hx hb d_Md_join_157 (by decide) ?_
                            exact ih31  _ gl3 w (k + 1) (by omega) (by omega) hF3 hG3 (fun z9 j hj hh => by by_cases e9 : j = k; (· subst e9; exact c99); (· exact hC3 z9 j (by omega) hh)) hs3 _ _ hI hS ls (lv_sub hl [3, 4, 5, 0] rfl)
                          · skip
                            replace c99 : ¬ ((gl3 (mo k)) = (gl3 (mt k))) := fun z9 => c99 ((nI_eq (a := (gl3 (mo k))) (b := (gl3 (mt k))) (by omega) (by omega)).mpr z9)
                            refine lv_aload_n hx hb d_Md_join_102 rfl (lv_at hl 2 rfl) ?_
                            refine hx_get (v := .ref (g 17)) hx hb htg iMd hown hK hI.1 rfl 21 (by decide) (htg _ (gw_mem (i := 1019) (by decide +kernel) rfl)) (fun _ h9 => h9) rfl d_Md_join_103 ?_
                            refine lv_aload_n hx hb d_Md_join_106 rfl (lv_at hl 2 rfl) ?_
                            refine hx_get (v := .ref (g 13)) hx hb htg iMd hown hK hI.1 rfl 17 (by decide) (htg _ (gw_mem (i := 1015) (by decide +kernel) rfl)) (fun _ h9 => h9) rfl d_Md_join_107 ?_
                            refine lv_iload_n hx hb d_Md_join_110 rfl (lv_at hl 5 rfl) ?_
                            refine hx_iald hx hb hK 0 (hI.2 13 (by decide)) rfl (show vp_in (nI k) 60 from vp_in_nI (n := k) (by omega) (by decide)) d_Md_join_111 ?_
                            refine lv_eqi (y := (F3 13 k)) (show F3 13 (nI k).toNatClampNeg = _ by rw [nI_clamp (by omega)]) ?_
                            refine lv_eqi (y := (nI (mo k))) (by rw [hF3 13 (by decide)]; exact hmo.1) ?_
                            refine lv_iload hx hb d_Md_join_112 (lv_at hl 1 rfl) ?_
                            refine lv_iload hx hb d_Md_join_114 (lv_at hl 0 rfl) ?_
                            refine lv_icmp_ge (x := (nI (gl3 (mo k)))) (y := (nI (gl3 (mt k)))) (tgt := 124) hx hb d_Md_join_116 (by decide) (fun c116 => ?_) (fun c116 => ?_)
                            · skip
                              replace c116 : (gl3 (mt k)) ≤ (gl3 (mo k)) := (nI_leI (a := (gl3 (mt k))) (b := (gl3 (mo k))) (by omega) (by omega)).mp c116
                              refine lv_iload hx hb d_Md_join_124 (lv_at hl 0 rfl) ?_
                              refine hx_iast hx hb hK hS (Or.inr ⟨17, by decide, rfl⟩) 0 (hI.2 17 (by decide)) rfl (show vp_in (nI (mo k)) 24 from vp_in_nI (n := mo k) (by omega) (by decide)) d_Md_join_126 (fun H locs hat hz ho hS => ?_)
                              replace hI : md_I D cs H x g i (updA F3 17 (mo k) ((nI (gl3 (mt k))))) := md_I.puta hI hsep (by decide) (by rw [show ((nI (mo k)) : Int32).toNatClampNeg = mo k from nI_clamp (n := mo k) (by omega)] at hat; exact hat) ho
                              refine lv_aload_n hx hb d_Md_join_127 rfl (lv_at hl 2 rfl) ?_
                              refine hx_get (v := .ref (g 17)) hx hb htg iMd hown hK hI.1 rfl 21 (by decide) (htg _ (gw_mem (i := 1019) (by decide +kernel) rfl)) (fun _ h9 => h9) rfl d_Md_join_128 ?_
                              refine lv_aload_n hx hb d_Md_join_131 rfl (lv_at hl 2 rfl) ?_
                              refine hx_get (v := .ref (g 14)) hx hb htg iMd hown hK hI.1 rfl 18 (by decide) (htg _ (gw_mem (i := 1016) (by decide +kernel) rfl)) (fun _ h9 => h9) rfl d_Md_join_132 ?_
                              refine lv_iload_n hx hb d_Md_join_135 rfl (lv_at hl 5 rfl) ?_
                              refine hx_iald hx hb hK 0 (hI.2 14 (by decide)) rfl (show vp_in (nI k) 60 from vp_in_nI (n := k) (by omega) (by decide)) d_Md_join_136 ?_
                              refine lv_eqi (y := ((updA F3 17 (mo k) ((nI (gl3 (mt k))))) 14 k)) (show (updA F3 17 (mo k) ((nI (gl3 (mt k))))) 14 (nI k).toNatClampNeg = _ by rw [nI_clamp (by omega)]) ?_
                              refine lv_eqi (y := (nI (mt k))) (by rw [updA_ne (by decide), hF3 14 (by decide)]; exact hmt.1) ?_
                              refine lv_iload hx hb d_Md_join_137 (lv_at hl 1 rfl) ?_
                              refine lv_iload hx hb d_Md_join_139 (lv_at hl 0 rfl) ?_
                              refine lv_icmp_ge (x := (nI (gl3 (mo k)))) (y := (nI (gl3 (mt k)))) (tgt := 149) hx hb d_Md_join_141 (by decide) (fun c141 => ?_) (fun c141 => ?_)
                              · skip
                                replace c141 : (gl3 (mt k)) ≤ (gl3 (mo k)) := (nI_leI (a := (gl3 (mt k))) (b := (gl3 (mo k))) (by omega) (by omega)).mp c141
                                refine lv_iload hx hb d_Md_join_149 (lv_at hl 0 rfl) ?_
                                refine hx_iast hx hb hK hS (Or.inr ⟨17, by decide, rfl⟩) 0 (hI.2 17 (by decide)) rfl (show vp_in (nI (mt k)) 24 from vp_in_nI (n := mt k) (by omega) (by decide)) d_Md_join_151 (fun H locs hat hz ho hS => ?_)
                                replace hI : md_I D cs H x g i (updA (updA F3 17 (mo k) ((nI (gl3 (mt k))))) 17 (mt k) ((nI (gl3 (mt k))))) := md_I.puta hI hsep (by decide) (by rw [show ((nI (mt k)) : Int32).toNatClampNeg = mt k from nI_clamp (n := mt k) (by omega)] at hat; exact hat) ho
                                refine lv_iconst (v := 1) hx hb d_Md_join_152 (by decide) ?_
                                refine lv_istore_n (lv' := [(2, .int 1), (5, .int (nI (gl3 (mt k)))), (4, .int (nI (gl3 (mo k)))), (0, .ref x), (1, .int dy), (3, .int (nI k))]) hx hb d_Md_join_153 rfl hl (by decide) rfl (fun ls hl => ?_)
                                refine lv_iinc (v := (nI (k + 1))) (lv' := [(3, .int (nI (k + 1))), (2, .int 1), (5, .int (nI (gl3 (mt k)))), (4, .int (nI (gl3 (mo k)))), (0, .ref x), (1, .int dy)]) hx hb d_Md_join_154 hl (k := 5) rfl (nI_1 k) (by decide) rfl (fun ls hl => ?_)
                                refine lv_goto (tgt := 31) hx hb d_Md_join_157 (by decide) ?_
                                have hh9 : holdB f dy k = true := by simp [holdB, c72, c82, c92]
                                obtain ⟨p1, p2⟩ := gl_put (m := gl3 (mt k)) hG3 (by omega) hh9 hmo.2 hmt.2 c99 (by omega)
                                exact ih31  _ _ true (k + 1) (by omega) (by omega) (fun a ha => ((updA_ne ha).trans (updA_ne ha)).trans (hF3 a ha)) (by rw [updA_self, updA_self]; exact p1) (fun z9 => absurd z9 (by decide)) (by simp only [b01] at hs3 ⊢; split at hs3 <;> simp_all <;> omega) _ _ hI hS ls (lv_sub hl [4, 5, 1, 0] rfl)
                              · skip
                                replace c141 : ¬ ((gl3 (mt k)) ≤ (gl3 (mo k))) := fun z9 => c141 ((nI_leI (a := (gl3 (mt k))) (b := (gl3 (mo k))) (by omega) (by omega)).mpr z9)
                                exact absurd c116 c141
                            · skip
                              replace c116 : ¬ ((gl3 (mt k)) ≤ (gl3 (mo k))) := fun z9 => c116 ((nI_leI (a := (gl3 (mt k))) (b := (gl3 (mo k))) (by omega) (by omega)).mpr z9)
                              refine lv_iload hx hb d_Md_join_119 (lv_at hl 1 rfl) ?_
                              refine lv_goto (tgt := 126) hx hb d_Md_join_121 (by decide) ?_
                              refine hx_iast hx hb hK hS (Or.inr ⟨17, by decide, rfl⟩) 0 (hI.2 17 (by decide)) rfl (show vp_in (nI (mo k)) 24 from vp_in_nI (n := mo k) (by omega) (by decide)) d_Md_join_126 (fun H locs hat hz ho hS => ?_)
                              replace hI : md_I D cs H x g i (updA F3 17 (mo k) ((nI (gl3 (mo k))))) := md_I.puta hI hsep (by decide) (by rw [show ((nI (mo k)) : Int32).toNatClampNeg = mo k from nI_clamp (n := mo k) (by omega)] at hat; exact hat) ho
                              refine lv_aload_n hx hb d_Md_join_127 rfl (lv_at hl 2 rfl) ?_
                              refine hx_get (v := .ref (g 17)) hx hb htg iMd hown hK hI.1 rfl 21 (by decide) (htg _ (gw_mem (i := 1019) (by decide +kernel) rfl)) (fun _ h9 => h9) rfl d_Md_join_128 ?_
                              refine lv_aload_n hx hb d_Md_join_131 rfl (lv_at hl 2 rfl) ?_
                              refine hx_get (v := .ref (g 14)) hx hb htg iMd hown hK hI.1 rfl 18 (by decide) (htg _ (gw_mem (i := 1016) (by decide +kernel) rfl)) (fun _ h9 => h9) rfl d_Md_join_132 ?_
                              refine lv_iload_n hx hb d_Md_join_135 rfl (lv_at hl 5 rfl) ?_
                              refine hx_iald hx hb hK 0 (hI.2 14 (by decide)) rfl (show vp_in (nI k) 60 from vp_in_nI (n := k) (by omega) (by decide)) d_Md_join_136 ?_
                              refine lv_eqi (y := ((updA F3 17 (mo k) ((nI (gl3 (mo k))))) 14 k)) (show (updA F3 17 (mo k) ((nI (gl3 (mo k))))) 14 (nI k).toNatClampNeg = _ by rw [nI_clamp (by omega)]) ?_
                              refine lv_eqi (y := (nI (mt k))) (by rw [updA_ne (by decide), hF3 14 (by decide)]; exact hmt.1) ?_
                              refine lv_iload hx hb d_Md_join_137 (lv_at hl 1 rfl) ?_
                              refine lv_iload hx hb d_Md_join_139 (lv_at hl 0 rfl) ?_
                              refine lv_icmp_ge (x := (nI (gl3 (mo k)))) (y := (nI (gl3 (mt k)))) (tgt := 149) hx hb d_Md_join_141 (by decide) (fun c141 => ?_) (fun c141 => ?_)
                              · skip
                                replace c141 : (gl3 (mt k)) ≤ (gl3 (mo k)) := (nI_leI (a := (gl3 (mt k))) (b := (gl3 (mo k))) (by omega) (by omega)).mp c141
                                exact absurd c141 c116
                              · skip
                                replace c141 : ¬ ((gl3 (mt k)) ≤ (gl3 (mo k))) := fun z9 => c141 ((nI_leI (a := (gl3 (mt k))) (b := (gl3 (mo k))) (by omega) (by omega)).mpr z9)
                                refine lv_iload hx hb d_Md_join_144 (lv_at hl 1 rfl) ?_
                                refine lv_goto (tgt := 151) hx hb d_Md_join_146 (by decide) ?_
                                refine hx_iast hx hb hK hS (Or.inr ⟨17, by decide, rfl⟩) 0 (hI.2 17 (by decide)) rfl (show vp_in (nI (mt k)) 24 from vp_in_nI (n := mt k) (by omega) (by decide)) d_Md_join_151 (fun H locs hat hz ho hS => ?_)
                                replace hI : md_I D cs H x g i (updA (updA F3 17 (mo k) ((nI (gl3 (mo k))))) 17 (mt k) ((nI (gl3 (mo k))))) := md_I.puta hI hsep (by decide) (by rw [show ((nI (mt k)) : Int32).toNatClampNeg = mt k from nI_clamp (n := mt k) (by omega)] at hat; exact hat) ho
                                refine lv_iconst (v := 1) hx hb d_Md_join_152 (by decide) ?_
                                refine lv_istore_n (lv' := [(2, .int 1), (5, .int (nI (gl3 (mt k)))), (4, .int (nI (gl3 (mo k)))), (0, .ref x), (1, .int dy), (3, .int (nI k))]) hx hb d_Md_join_153 rfl hl (by decide) rfl (fun ls hl => ?_)
                                refine lv_iinc (v := (nI (k + 1))) (lv' := [(3, .int (nI (k + 1))), (2, .int 1), (5, .int (nI (gl3 (mt k)))), (4, .int (nI (gl3 (mo k)))), (0, .ref x), (1, .int dy)]) hx hb d_Md_join_154 hl (k := 5) rfl (nI_1 k) (by decide) rfl (fun ls hl => ?_)
                                refine lv_goto (tgt := 31) hx hb d_Md_join_157 (by decide) ?_
                                have hh9 : holdB f dy k = true := by simp [holdB, c72, c82, c92]
                                obtain ⟨p1, p2⟩ := gl_put (m := gl3 (mo k)) hG3 (by omega) hh9 hmo.2 hmt.2 c99 (by omega)
                                exact ih31  _ _ true (k + 1) (by omega) (by omega) (fun a ha => ((updA_ne ha).trans (updA_ne ha)).trans (hF3 a ha)) (by rw [updA_self, updA_self]; exact p1) (fun z9 => absurd z9 (by decide)) (by simp only [b01] at hs3 ⊢; split at hs3 <;> simp_all <;> omega) _ _ hI hS ls (lv_sub hl [4, 5, 1, 0] rfl)
              exact loop31 ((mg - 0) + 1) _ gl false 0 (Nat.lt_succ_self _) (Nat.zero_le _) hF2 hG2 (fun _ j hj => absurd hj (Nat.not_lt_zero j)) (by simp [b01]) _ _ hI hS ls (lv_sub hl [2, 3, 1, 0] rfl)
        exact loop23 ((2 * sumTo (fun n => n) 24 + b01 true) + 1) _ (fun n => n) true (Nat.lt_succ_self _) hF (fun n hn => ⟨hR n (by omega), Nat.le_refl _, conn.rf⟩) (fun z9 => absurd z9 (by decide)) _ _ hI hS ls (lv_sub hl [1, 2, 0] rfl)
      · skip
        replace c5 : ¬ (24 ≤ k) := fun z9 => c5 ((nI_leI (a := 24) (b := k) (by omega) (by omega)).mpr z9)
        refine lv_aload_n hx hb d_Md_join_8 rfl (lv_at hl 0 rfl) ?_
        refine hx_get (v := .ref (g 17)) hx hb htg iMd hown hK hI.1 rfl 21 (by decide) (htg _ (gw_mem (i := 1019) (by decide +kernel) rfl)) (fun _ h9 => h9) rfl d_Md_join_9 ?_
        refine lv_iload_n hx hb d_Md_join_12 rfl (lv_at hl 2 rfl) ?_
        refine lv_iload_n hx hb d_Md_join_13 rfl (lv_at hl 2 rfl) ?_
        refine hx_iast hx hb hK hS (Or.inr ⟨17, by decide, rfl⟩) 0 (hI.2 17 (by decide)) rfl (show vp_in (nI k) 24 from vp_in_nI (n := k) (by omega) (by decide)) d_Md_join_14 (fun H locs hat hz ho hS => ?_)
        replace hI : md_I D cs H x g i (updA F1 17 k ((nI k))) := md_I.puta hI hsep (by decide) (by rw [show ((nI k) : Int32).toNatClampNeg = k from nI_clamp (n := k) (by omega)] at hat; exact hat) ho
        refine lv_iinc (v := (nI (k + 1))) (lv' := [(2, .int (nI (k + 1))), (0, .ref x), (1, .int dy)]) hx hb d_Md_join_15 hl (k := 2) rfl (nI_1 k) (by decide) rfl (fun ls hl => ?_)
        refine lv_goto (tgt := 2) hx hb d_Md_join_18 (by decide) ?_
        exact ih2  _ (k + 1) (by omega) (by omega) (fun a ha => (updA_ne ha).trans (hF a ha)) (by rw [updA_self]; exact upd_lt (G := fun j => nI j) hR rfl) _ _ hI hS ls (lv_sub hl [1, 2, 0] rfl)
  exact loop2 ((24 - 0) + 1) f 0 (Nat.lt_succ_self _) (by decide) (fun _ _ => rfl) (fun j hj => absurd hj (Nat.not_lt_zero j)) _ _ hI hS ls (lv_sub hl [1, 2, 0] rfl)
