theorem nmv_15 {z : Nat → Nat → Nat} {n j : Nat} (hn : n < z 3 0) (hj : j < z 11 n) (h4 : z 11 n ≤ 4) : nmv z 15 (n * 4 + j) := by
  show (n * 4 + j) / 4 < z 3 0 ∧ (n * 4 + j) % 4 < z 11 ((n * 4 + j) / 4)
  rw [show (n * 4 + j) / 4 = n by omega, show (n * 4 + j) % 4 = j by omega]
  exact ⟨hn, hj⟩
theorem nmv_16 {z : Nat → Nat → Nat} {n j : Nat} (hn : n < z 3 0) (hj : j < z 11 n) (h4 : z 11 n ≤ 4) : nmv z 16 (n * 4 + j) := nmv_15 hn hj h4
theorem nmv_17 {z : Nat → Nat → Nat} {n j : Nat} (hn : n < z 3 0) (hj : j < z 11 n) (h4 : z 11 n ≤ 4) : nmv z 17 (n * 4 + j) := nmv_15 hn hj h4
theorem nmv_18 {z : Nat → Nat → Nat} {n j : Nat} (hn : n < z 3 0) (hj : j < z 11 n) (h4 : z 11 n ≤ 4) : nmv z 18 (n * 4 + j) := nmv_15 hn hj h4
theorem c_AL_get2 (l : Launch) (D : va_G) (cs : Nat → ClassId) (N0 : Nat) (H : Heap) (x ea n cap j : Nat) (mc : Int32) (el : Nat → Option Nat) (y9 : Option Nat) (hy : el j = y9) (h1 : va_at D vwCl (x, .inr (6, [.ref ea, .int (nI n), .int mc])) H) (h2 : va_at D vwCl (ea, .inl (cs 4, (cap, .inr (.inr (.inr (.inr el)))))) H) (hj : j < n) (hnc : n ≤ cap) (hc : cap < 2147483648) : Met l y_AL_get w_AL_get ({ frames := 2, cells := 0, slots := 0, locals := 43 }) (hPre D cs N0 [.ref x, .int (nI j)] H) (hQq (fun r H' => H' = H ∧ r = y9) noA) 0 0 noA := by
  subst hy
  exact c_AL_get l D cs N0 H x ea n cap j mc el h1 h2 hj hnc hc
section NML
variable {D : va_G} {cs : Nat → ClassId} {N0 : Nat} {H : Heap} {o z : Nat → Nat → Nat} {K : Nat → Nat → Nat → Int32} {r : Nat → Nat × Nat}
theorem nm_list {x sz ad : Nat} {mc : Int32} (h : va_at D vwCl (x, .inr (6, [.ref (nmL cs sz ad), .int (nI sz), .int mc])) H) (h0 : 0 < sz) : va_at D vwCl (x, .inr (6, [.ref ad, .int (nI sz), .int mc])) H := by
  rw [show nmL cs sz ad = ad from if_neg (by omega)] at h
  exact h
theorem nm_empty {x sz ad : Nat} {mc : Int32} (h : va_at D vwCl (x, .inr (6, [.ref (nmL cs sz ad), .int (nI sz), .int mc])) H) (h0 : sz = 0) : va_at D vwCl (x, .inr (6, [.ref (cs 9), .int 0, .int mc])) H := by
  subst h0
  rw [show nmL cs 0 ad = cs 9 from if_pos rfl] at h
  exact h
end NML
theorem c_names_get (l : Launch) (D : va_G) (cs : Nat → ClassId) (N0 : Nat) (H : Heap) (o z : Nat → Nat → Nat) (K : Nat → Nat → Nat → Int32) (r : Nat → Nat × Nat) (j : Nat) (hI : nmP D cs N0 H o z K r) (hj : j < z 3 0) : Met l y_AL_get w_AL_get ({ frames := 2, cells := 0, slots := 0, locals := 43 }) (hPre D cs N0 [.ref (o 3 0), .int (nI j)] H) (hQq (fun r H' => H' = H ∧ r = some (o 10 j)) noA) 0 0 noA := by
  obtain ⟨hb0, hb1, hb3, hb5, hb4, hb6, hb11, hb17⟩ := hI.2.2.1
  exact c_AL_get2 l D cs N0 H (o 3 0) (o 4 0) (z 3 0) (z 4 0) j (K 3 0 0) (fun j => if j < z 3 0 then some (o 10 j) else none) _ (if_pos hj) (nm_list (hI.at (k := 3) (n := 0) rfl) (by omega)) (hI.at (k := 4) (n := 0) ⟨rfl, by omega⟩) hj (by omega) (by omega)
theorem c_merges_get (l : Launch) (D : va_G) (cs : Nat → ClassId) (N0 : Nat) (H : Heap) (o z : Nat → Nat → Nat) (K : Nat → Nat → Nat → Int32) (r : Nat → Nat × Nat) (j : Nat) (hI : nmP D cs N0 H o z K r) (hj : j < z 5 0) : Met l y_AL_get w_AL_get ({ frames := 2, cells := 0, slots := 0, locals := 43 }) (hPre D cs N0 [.ref (o 5 0), .int (nI j)] H) (hQq (fun r H' => H' = H ∧ r = some (o 19 j)) noA) 0 0 noA := by
  obtain ⟨hb0, hb1, hb3, hb5, hb4, hb6, hb11, hb17⟩ := hI.2.2.1
  exact c_AL_get2 l D cs N0 H (o 5 0) (o 6 0) (z 5 0) (z 6 0) j (K 5 0 0) (fun j => if j < z 5 0 then some (o 19 j) else none) _ (if_pos hj) (nm_list (hI.at (k := 5) (n := 0) rfl) (by omega)) (hI.at (k := 6) (n := 0) ⟨rfl, by omega⟩) hj (by omega) (by omega)
theorem c_vars_get (l : Launch) (D : va_G) (cs : Nat → ClassId) (N0 : Nat) (H : Heap) (o z : Nat → Nat → Nat) (K : Nat → Nat → Nat → Int32) (r : Nat → Nat × Nat) (n j : Nat) (hI : nmP D cs N0 H o z K r) (hn : n < z 3 0) (hj : j < z 11 n) : Met l y_AL_get w_AL_get ({ frames := 2, cells := 0, slots := 0, locals := 43 }) (hPre D cs N0 [.ref (o 11 n), .int (nI j)] H) (hQq (fun r H' => H' = H ∧ r = some (o 15 (n * 4 + j))) noA) 0 0 noA := by
  have hb := hI.2.2.1.2.2.2.2.2.2.1 n
  exact c_AL_get2 l D cs N0 H (o 11 n) (o 12 n) (z 11 n) 10 j (K 11 n 0) (fun j => if j < z 11 n then some (o 15 (n * 4 + j)) else none) _ (if_pos hj) (nm_list (hI.at (k := 11) (n := n) hn) (by omega)) (hI.at (k := 12) (n := n) ⟨hn, by omega⟩) hj (by omega) (by omega)
def upt {α : Type} (f : α → Nat → α) : Nat → α → α
  | 0, a => a
  | n + 1, a => f (upt f n a) n
theorem any_at {P : Nat → Bool} {i n : Nat} (hi : i < n) (h : P i = true) : anyTo P n = true := by
  induction n with
  | zero => omega
  | succ n ih =>
    by_cases h2 : i = n
    · subst h2
      simp [anyTo, h]
    · simp [anyTo, ih (by omega)]
def owS (K : Nat → Nat → Nat → Int32) (day g : Int32) (i : Nat) : Int32 := if holdV (K 19 i 1) (K 19 i 2) day = true ∧ ¬ (g &&& K 19 i 0 = 0) then g ||| K 19 i 0 else g
def owF (m : Nat) (K : Nat → Nat → Nat → Int32) (day g : Int32) : Int32 := upt (owS K day) m g
def owR (F : Int32 → Int32) : Nat → Int32 → Int32 → Int32
  | 0, g, _ => g
  | n + 1, g, b => if g = b then g else owR F n (F g) g
theorem owR_eq {F : Int32 → Int32} {n : Nat} {g b : Int32} (h : g = b) : owR F n g b = g := by
  cases n with
  | zero => rfl
  | succ n => exact if_pos h
theorem owR_ne {F : Int32 → Int32} {n : Nat} {g b : Int32} (h : ¬ g = b) : owR F (n + 1) g b = owR F n (F g) g := if_neg h
def owV (z : Nat → Nat → Nat) (K : Nat → Nat → Nat → Int32) (q day : Int32) : Int32 := owR (owF (z 5 0) K day) 24 ((1 : Int32) <<< (q &&& 31)) 0
def y_Nm_oneWith : MethodName := ⟨"NameMerges", "oneWith", "(II)I"⟩
abbrev w_Nm_oneWith : List Cond := Cond.code y_Nm_oneWith prog_1_method_37_code 8 (Option.some Jvm.ClassFile.FieldType.int) :: gw
theorem d_Nm_oneWith_0 : decode prog_1_method_37_code 0 = .ok (.iconst 1, 1) := by decide +kernel
theorem d_Nm_oneWith_1 : decode prog_1_method_37_code 1 = .ok (.iload_n 1, 1) := by decide +kernel
theorem d_Nm_oneWith_2 : decode prog_1_method_37_code 2 = .ok (.ishl, 1) := by decide +kernel
theorem d_Nm_oneWith_3 : decode prog_1_method_37_code 3 = .ok (.istore_n 3, 1) := by decide +kernel
theorem d_Nm_oneWith_4 : decode prog_1_method_37_code 4 = .ok (.iconst 0, 1) := by decide +kernel
theorem d_Nm_oneWith_5 : decode prog_1_method_37_code 5 = .ok (.istore 4, 2) := by decide +kernel
theorem d_Nm_oneWith_7 : decode prog_1_method_37_code 7 = .ok (.iconst 0, 1) := by decide +kernel
theorem d_Nm_oneWith_8 : decode prog_1_method_37_code 8 = .ok (.istore 5, 2) := by decide +kernel
theorem d_Nm_oneWith_10 : decode prog_1_method_37_code 10 = .ok (.iload 5, 2) := by decide +kernel
theorem d_Nm_oneWith_12 : decode prog_1_method_37_code 12 = .ok (.bipush 24, 2) := by decide +kernel
theorem d_Nm_oneWith_14 : decode prog_1_method_37_code 14 = .ok (.if_icmp .ge 80, 3) := by decide +kernel
theorem d_Nm_oneWith_17 : decode prog_1_method_37_code 17 = .ok (.iload_n 3, 1) := by decide +kernel
theorem d_Nm_oneWith_18 : decode prog_1_method_37_code 18 = .ok (.iload 4, 2) := by decide +kernel
theorem d_Nm_oneWith_20 : decode prog_1_method_37_code 20 = .ok (.if_icmp .eq 74, 3) := by decide +kernel
theorem d_Nm_oneWith_23 : decode prog_1_method_37_code 23 = .ok (.iload_n 3, 1) := by decide +kernel
theorem d_Nm_oneWith_24 : decode prog_1_method_37_code 24 = .ok (.istore 4, 2) := by decide +kernel
theorem d_Nm_oneWith_26 : decode prog_1_method_37_code 26 = .ok (.iconst 0, 1) := by decide +kernel
theorem d_Nm_oneWith_27 : decode prog_1_method_37_code 27 = .ok (.istore 6, 2) := by decide +kernel
theorem d_Nm_oneWith_29 : decode prog_1_method_37_code 29 = .ok (.iload 6, 2) := by decide +kernel
theorem d_Nm_oneWith_31 : decode prog_1_method_37_code 31 = .ok (.aload_n 0, 1) := by decide +kernel
theorem d_Nm_oneWith_32 : decode prog_1_method_37_code 32 = .ok (.getfield 23, 3) := by decide +kernel
theorem d_Nm_oneWith_35 : decode prog_1_method_37_code 35 = .ok (.invokevirtual 67, 3) := by decide +kernel
theorem d_Nm_oneWith_38 : decode prog_1_method_37_code 38 = .ok (.if_icmp .ge 50, 3) := by decide +kernel
theorem d_Nm_oneWith_41 : decode prog_1_method_37_code 41 = .ok (.aload_n 0, 1) := by decide +kernel
theorem d_Nm_oneWith_42 : decode prog_1_method_37_code 42 = .ok (.getfield 23, 3) := by decide +kernel
theorem d_Nm_oneWith_45 : decode prog_1_method_37_code 45 = .ok (.iload 6, 2) := by decide +kernel
theorem d_Nm_oneWith_47 : decode prog_1_method_37_code 47 = .ok (.invokevirtual 82, 3) := by decide +kernel
theorem d_Nm_oneWith_50 : decode prog_1_method_37_code 50 = .ok (.checkcast 176, 3) := by decide +kernel
theorem d_Nm_oneWith_53 : decode prog_1_method_37_code 53 = .ok (.astore 7, 2) := by decide +kernel
theorem d_Nm_oneWith_55 : decode prog_1_method_37_code 55 = .ok (.aload 7, 2) := by decide +kernel
theorem d_Nm_oneWith_57 : decode prog_1_method_37_code 57 = .ok (.iload_n 2, 1) := by decide +kernel
theorem d_Nm_oneWith_58 : decode prog_1_method_37_code 58 = .ok (.invokevirtual 289, 3) := by decide +kernel
theorem d_Nm_oneWith_61 : decode prog_1_method_37_code 61 = .ok (.ifCond .eq 21, 3) := by decide +kernel
theorem d_Nm_oneWith_64 : decode prog_1_method_37_code 64 = .ok (.iload_n 3, 1) := by decide +kernel
theorem d_Nm_oneWith_65 : decode prog_1_method_37_code 65 = .ok (.aload 7, 2) := by decide +kernel
theorem d_Nm_oneWith_67 : decode prog_1_method_37_code 67 = .ok (.getfield 182, 3) := by decide +kernel
theorem d_Nm_oneWith_70 : decode prog_1_method_37_code 70 = .ok (.iand, 1) := by decide +kernel
theorem d_Nm_oneWith_71 : decode prog_1_method_37_code 71 = .ok (.ifCond .eq 11, 3) := by decide +kernel
theorem d_Nm_oneWith_74 : decode prog_1_method_37_code 74 = .ok (.iload_n 3, 1) := by decide +kernel
theorem d_Nm_oneWith_75 : decode prog_1_method_37_code 75 = .ok (.aload 7, 2) := by decide +kernel
theorem d_Nm_oneWith_77 : decode prog_1_method_37_code 77 = .ok (.getfield 182, 3) := by decide +kernel
theorem d_Nm_oneWith_80 : decode prog_1_method_37_code 80 = .ok (.ior, 1) := by decide +kernel
theorem d_Nm_oneWith_81 : decode prog_1_method_37_code 81 = .ok (.istore_n 3, 1) := by decide +kernel
theorem d_Nm_oneWith_82 : decode prog_1_method_37_code 82 = .ok (.iinc 6 1, 3) := by decide +kernel
theorem d_Nm_oneWith_85 : decode prog_1_method_37_code 85 = .ok (.goto (-56), 3) := by decide +kernel
theorem d_Nm_oneWith_88 : decode prog_1_method_37_code 88 = .ok (.iinc 5 1, 3) := by decide +kernel
theorem d_Nm_oneWith_91 : decode prog_1_method_37_code 91 = .ok (.goto (-81), 3) := by decide +kernel
theorem d_Nm_oneWith_94 : decode prog_1_method_37_code 94 = .ok (.iload_n 3, 1) := by decide +kernel
theorem d_Nm_oneWith_95 : decode prog_1_method_37_code 95 = .ok (.ireturn, 1) := by decide +kernel
set_option maxHeartbeats 4000000 in
set_option maxRecDepth 100000 in
theorem c_Nm_oneWith (l : Launch) (D : va_G) (cs : Nat → ClassId) (N0 : Nat) (H : Heap) (o z : Nat → Nat → Nat) (K : Nat → Nat → Nat → Int32) (r : Nat → Nat × Nat) (q day : Int32) (hI : nmP D cs N0 H o z K r) : Met l y_Nm_oneWith w_Nm_oneWith ({ frames := 3, cells := 0, slots := 0, locals := 64 }) (hPre D cs N0 [.ref (o 0 0), .int q, .int day] H) (hQi (fun r H' => H' = H ∧ r = owV z K q day) noA) 0 0 noA := by
  refine Met.ofW (cc := prog_1_method_37_code) (maxL := 8) (ret := (Option.some Jvm.ClassFile.FieldType.int)) (by decide) rfl ?_
  intro p e s m args below meth c s₁ B hml hv
  obtain ⟨rfl, rfl, hB⟩ := hv
  have hx := B.exec
  have hb := B.bytes
  have hr := B.returns
  have hts := atoms_spec (ws := w_Nm_oneWith) B.pre
  have htg : ∀ w ∈ gw, w.before _ s = true := fun w h => hts w (List.mem_cons_of_mem _ h)
  have hown : s.vm.findClass "NameMerges" = some m.cls := findClass_of_methodNamed B.named
  have hlocks := B.notSynchronized
  have hK := hB.1
  obtain ⟨H, hH⟩ : ∃ z : Heap, z = s.heap := ⟨_, rfl⟩
  have hz0 : H.size = s.heap.size := by rw [hH]
  have hN0 := hB.2.1
  rw [← hH] at hI
  have hS : va_S noA s.heap H [] := by rw [hH]; exact va_S.rf
  have hl := lv_entry ([.ref (o 0 0), .int q, .int day]) (n := 8) (Nat.le_of_ble_eq_true rfl)
  rw [lg_entry_eq, ← hH]
  generalize (lg_sl ([.ref (o 0 0), .int q, .int day]) ++ List.replicate (8 - (lg_sl ([.ref (o 0 0), .int q, .int day])).length) Slot.unset).toArray = ls at hl ⊢
  have hl : lv_has ls 8 [(0, .ref (o 0 0)), (1, .int q), (2, .int day)] := hl
  obtain ⟨hb0, hb1, hb3, hb5, hb4, hb6, hb11, hb17⟩ := hI.2.2.1
  refine lv_iconst (v := 1) hx hb d_Nm_oneWith_0 (by decide) ?_
  refine lv_iload_n hx hb d_Nm_oneWith_1 rfl (lv_at hl 1 rfl) ?_
  refine lv_ishl (x := 1) (y := q) hx hb d_Nm_oneWith_2 ?_
  refine lv_istore_n (lv' := [(3, .int (1 <<< (q &&& 31))), (0, .ref (o 0 0)), (1, .int q), (2, .int day)]) hx hb d_Nm_oneWith_3 rfl hl (by decide) rfl (fun ls hl => ?_)
  refine lv_iconst (v := 0) hx hb d_Nm_oneWith_4 (by decide) ?_
  refine lv_istore (lv' := [(4, .int 0), (3, .int (1 <<< (q &&& 31))), (0, .ref (o 0 0)), (1, .int q), (2, .int day)]) hx hb d_Nm_oneWith_5 hl (by decide) rfl (fun ls hl => ?_)
  refine lv_iconst (v := 0) hx hb d_Nm_oneWith_7 (by decide) ?_
  refine lv_istore (lv' := [(5, .int 0), (4, .int 0), (3, .int (1 <<< (q &&& 31))), (0, .ref (o 0 0)), (1, .int q), (2, .int day)]) hx hb d_Nm_oneWith_8 hl (by decide) rfl (fun ls hl => ?_)
  have loop10 : ∀ (fuel : Nat) (rd : Nat) (gr : Int32) (bf : Int32), 24 - rd < fuel → (rd ≤ 24) → (owR (owF (z 5 0) K day) (24 - rd) gr bf = owV z K q day) → ∀ (locs : List Loc), va_S noA s.heap H locs → ∀ (ls : Array Slot), lv_has ls 8 [(0, .ref (o 0 0)), (1, .int q), (2, .int day), (3, .int gr), (4, .int bf), (5, .int (nI rd))] → W p l e (headSpec w_Nm_oneWith ({ frames := 3, cells := 0, slots := 0, locals := 64 })).room s m ([.ref (o 0 0), .int q, .int day] : List Value).toArray below meth c H locs 0 0 (MQ below (hQi (fun r H' => H' = H ∧ r = owV z K q day) noA) ([.ref (o 0 0), .int q, .int day] : List Value).toArray s 0 0 noA) (F0 m 10 ls []) := by
    intro fuel10
    induction fuel10 with
    | zero => intro rd gr bf hn; exact absurd hn (Nat.not_lt_zero _)
    | succ fuel10 ih10 =>
      intro rd gr bf hn10 hrd he locs hS ls hl
      refine lv_iload hx hb d_Nm_oneWith_10 (lv_at hl 5 rfl) ?_
      refine lv_bipush (v := 24) hx hb d_Nm_oneWith_12 (by decide) ?_
      refine lv_icmp_ge (x := (nI rd)) (y := 24) (tgt := 94) hx hb d_Nm_oneWith_14 (by decide) (fun c14 => ?_) (fun c14 => ?_)
      · skip
        replace c14 : 24 ≤ rd := (nI_leI (a := 24) (b := rd) (by omega) (by omega)).mp c14
        refine lv_iload_n hx hb d_Nm_oneWith_94 rfl (lv_at hl 3 rfl) ?_
        exact W.iret (v := gr) hx hb hr (fun t ht hW => ⟨⟨gr, H, rfl, ⟨rfl, by rw [← he, show 24 - rd = 0 by omega]; rfl⟩, ht⟩, hS.F ht⟩) hS.2.2 d_Nm_oneWith_95
      · skip
        replace c14 : ¬ (24 ≤ rd) := fun z9 => c14 ((nI_leI (a := 24) (b := rd) (by omega) (by omega)).mpr z9)
        refine lv_iload_n hx hb d_Nm_oneWith_17 rfl (lv_at hl 3 rfl) ?_
        refine lv_iload hx hb d_Nm_oneWith_18 (lv_at hl 4 rfl) ?_
        refine lv_icmp_eq (x := gr) (y := bf) (tgt := 94) hx hb d_Nm_oneWith_20 (by decide) (fun c20 => ?_) (fun c20 => ?_)
        · skip
          refine lv_iload_n hx hb d_Nm_oneWith_94 rfl (lv_at hl 3 rfl) ?_
          exact W.iret (v := gr) hx hb hr (fun t ht hW => ⟨⟨gr, H, rfl, ⟨rfl, by rw [← he]; exact (owR_eq c20).symm⟩, ht⟩, hS.F ht⟩) hS.2.2 d_Nm_oneWith_95
        · skip
          refine lv_iload_n hx hb d_Nm_oneWith_23 rfl (lv_at hl 3 rfl) ?_
          refine lv_istore (lv' := [(4, .int gr), (0, .ref (o 0 0)), (1, .int q), (2, .int day), (3, .int gr), (5, .int (nI rd))]) hx hb d_Nm_oneWith_24 hl (by decide) rfl (fun ls hl => ?_)
          refine lv_iconst (v := 0) hx hb d_Nm_oneWith_26 (by decide) ?_
          refine lv_istore (lv' := [(6, .int 0), (4, .int gr), (0, .ref (o 0 0)), (1, .int q), (2, .int day), (3, .int gr), (5, .int (nI rd))]) hx hb d_Nm_oneWith_27 hl (by decide) rfl (fun ls hl => ?_)
          have loop29 : ∀ (fuel : Nat) (i : Nat) (g1 : Int32), z 5 0 - i < fuel → (i ≤ z 5 0) → (g1 = upt (owS K day) i gr) → ∀ (locs : List Loc), va_S noA s.heap H locs → ∀ (ls : Array Slot), lv_has ls 8 [(0, .ref (o 0 0)), (1, .int q), (2, .int day), (3, .int g1), (4, .int gr), (5, .int (nI rd)), (6, .int (nI i))] → W p l e (headSpec w_Nm_oneWith ({ frames := 3, cells := 0, slots := 0, locals := 64 })).room s m ([.ref (o 0 0), .int q, .int day] : List Value).toArray below meth c H locs 0 0 (MQ below (hQi (fun r H' => H' = H ∧ r = owV z K q day) noA) ([.ref (o 0 0), .int q, .int day] : List Value).toArray s 0 0 noA) (F0 m 29 ls []) := by
            intro fuel29
            induction fuel29 with
            | zero => intro i g1 hn; exact absurd hn (Nat.not_lt_zero _)
            | succ fuel29 ih29 =>
              intro i g1 hn29 hi hg locs hS ls hl
              refine lv_iload hx hb d_Nm_oneWith_29 (lv_at hl 6 rfl) ?_
              refine lv_aload_n hx hb d_Nm_oneWith_31 rfl (lv_at hl 0 rfl) ?_
              refine hx_get (ref := "NameMerges") (v := .ref (o 5 0)) hx hb htg iNm hown hK (show va_at D vwCl (o 0 0, .inr (1, [.ref (o 1 0), .ref (o 3 0), .ref (o 5 0), .ref (o 7 0), .ref (o 8 0), .int (nI (z 0 0)), .int (K 0 0 0), .ref (o 9 0)])) H from hI.at (k := 0) (n := 0) (show nmv z 0 0 from rfl)) rfl 2 (by decide) (htg _ (gw_mem (i := 128) (by decide +kernel) rfl)) (fun _ h9 => h9) rfl d_Nm_oneWith_32 ?_
              refine h_purei (va_runV (As := []) (rest := [.int (nI i)]) ⟨hx, hb, hml, hown, htg⟩ (c_AL_size l D cs N0 H (o 5 0) (nmL cs (z 5 0) (o 6 0)) (z 5 0) (K 5 0 0) (show va_at D vwCl (o 5 0, .inr (6, [.ref (nmL cs (z 5 0) (o 6 0)), .int (nI (z 5 0)), .int (K 5 0 0)])) H from hI.at (k := 5) (n := 0) (show nmv z 5 0 from rfl))) ⟨x_cwB 0 htg (gw_mem (i := 503) (by decide +kernel) rfl) (gw_mem (i := 37) (by decide +kernel) rfl) (gw_mem (i := 500) (by decide +kernel) rfl) (by decide +kernel) ⟨Nat.le_of_ble_eq_true rfl, Nat.le_of_ble_eq_true rfl⟩, htg _ (gw_mem (i := 501) (by decide +kernel) rfl), htg _ (gw_mem (i := 502) (by decide +kernel) rfl)⟩ ⟨hPre.blind, hx_recv hK (ci := 6) rfl (show va_at D vwCl (o 5 0, .inr (6, [.ref (nmL cs (z 5 0) (o 6 0)), .int (nI (z 5 0)), .int (K 5 0 0)])) H from hI.at (k := 5) (n := 0) (show nmv z 5 0 from rfl)), hPre.at hB hS noA_in⟩ rfl rfl hl.1 rfl (lv_room (Nat.le_of_ble_eq_true rfl)) d_Nm_oneWith_35 ⟨Nat.le_of_ble_eq_true rfl, Nat.le_of_ble_eq_true rfl⟩) hS (fun locs hS => ?_)
              refine lv_icmp_ge (x := (nI i)) (y := (nI (z 5 0))) (tgt := 88) hx hb d_Nm_oneWith_38 (by decide) (fun c38 => ?_) (fun c38 => ?_)
              · skip
                replace c38 : (z 5 0) ≤ i := (nI_leI (a := (z 5 0)) (b := i) (by omega) (by omega)).mp c38
                refine lv_iinc (v := (nI (rd + 1))) (lv' := [(5, .int (nI (rd + 1))), (0, .ref (o 0 0)), (1, .int q), (2, .int day), (3, .int g1), (4, .int gr), (6, .int (nI i))]) hx hb d_Nm_oneWith_88 hl (k := 5) rfl (nI_1 rd) (by decide) rfl (fun ls hl => ?_)
                refine lv_goto (tgt := 10) hx hb d_Nm_oneWith_91 (by decide) ?_
                exact ih10  (rd + 1) g1 gr (by omega) (by omega) (by rw [← he, show 24 - rd = (24 - (rd + 1)) + 1 by omega, owR_ne c20]; exact congrArg (fun w => owR (owF (z 5 0) K day) (24 - (rd + 1)) w gr) (hg.trans (by rw [show i = z 5 0 by omega]; rfl))) _ hS ls (lv_sub hl [1, 2, 3, 4, 5, 0] rfl)
              · skip
                replace c38 : ¬ ((z 5 0) ≤ i) := fun z9 => c38 ((nI_leI (a := (z 5 0)) (b := i) (by omega) (by omega)).mpr z9)
                refine lv_aload_n hx hb d_Nm_oneWith_41 rfl (lv_at hl 0 rfl) ?_
                refine hx_get (ref := "NameMerges") (v := .ref (o 5 0)) hx hb htg iNm hown hK (show va_at D vwCl (o 0 0, .inr (1, [.ref (o 1 0), .ref (o 3 0), .ref (o 5 0), .ref (o 7 0), .ref (o 8 0), .int (nI (z 0 0)), .int (K 0 0 0), .ref (o 9 0)])) H from hI.at (k := 0) (n := 0) (show nmv z 0 0 from rfl)) rfl 2 (by decide) (htg _ (gw_mem (i := 128) (by decide +kernel) rfl)) (fun _ h9 => h9) rfl d_Nm_oneWith_42 ?_
                refine lv_iload hx hb d_Nm_oneWith_45 (lv_at hl 6 rfl) ?_
                refine h_pureq (va_runV (As := [.int (nI i)]) (rest := []) ⟨hx, hb, hml, hown, htg⟩ (c_merges_get l D cs N0 H o z K r i hI (show i < z 5 0 by omega)) ⟨x_cwB 1 htg (gw_mem (i := 512) (by decide +kernel) rfl) (gw_mem (i := 37) (by decide +kernel) rfl) (gw_mem (i := 509) (by decide +kernel) rfl) (by decide +kernel) ⟨Nat.le_of_ble_eq_true rfl, Nat.le_of_ble_eq_true rfl⟩, htg _ (gw_mem (i := 510) (by decide +kernel) rfl), htg _ (gw_mem (i := 511) (by decide +kernel) rfl)⟩ ⟨hPre.blind, hx_recv hK (ci := 6) rfl (show va_at D vwCl (o 5 0, .inr (6, [.ref (nmL cs (z 5 0) (o 6 0)), .int (nI (z 5 0)), .int (K 5 0 0)])) H from hI.at (k := 5) (n := 0) (show nmv z 5 0 from rfl)), hPre.at hB hS noA_in⟩ rfl rfl hl.1 rfl (lv_room (Nat.le_of_ble_eq_true rfl)) d_Nm_oneWith_47 ⟨Nat.le_of_ble_eq_true rfl, Nat.le_of_ble_eq_true rfl⟩) hS (fun locs hS => ?_)
                refine lv_eqv (y := .ref (o 19 i)) rfl ?_
                refine va_castS hx hb hown (htg _ (gw_mem (i := 523) (by decide +kernel) rfl)) (x_at hK (ci := 5) rfl) (hx_recv hK (ci := 5) rfl (show va_at D vwCl (o 19 i, .inr (5, [.int (K 19 i 0), .int (K 19 i 1), .int (K 19 i 2)])) H from hI.at (k := 19) (n := i) (show nmv z 19 i from (show i < z 5 0 by omega)))) d_Nm_oneWith_50 ?_
                refine lv_astore (lv' := [(7, .ref (o 19 i)), (0, .ref (o 0 0)), (1, .int q), (2, .int day), (3, .int g1), (4, .int gr), (5, .int (nI rd)), (6, .int (nI i))]) hx hb d_Nm_oneWith_53 hl (by decide) rfl (fun ls hl => ?_)
                refine lv_aload hx hb d_Nm_oneWith_55 (lv_at hl 0 rfl) ?_
                refine lv_iload_n hx hb d_Nm_oneWith_57 rfl (lv_at hl 3 rfl) ?_
                refine h_purei (va_runV (As := [.int day]) (rest := []) ⟨hx, hb, hml, hown, htg⟩ (c_Me_holdsOn l D cs N0 H (o 19 i) (K 19 i 0) (K 19 i 1) (K 19 i 2) day (show va_at D vwCl (o 19 i, .inr (5, [.int (K 19 i 0), .int (K 19 i 1), .int (K 19 i 2)])) H from hI.at (k := 19) (n := i) (show nmv z 19 i from (show i < z 5 0 by omega)))) ⟨x_cwB 1 htg (gw_mem (i := 527) (by decide +kernel) rfl) (gw_mem (i := 58) (by decide +kernel) rfl) (gw_mem (i := 524) (by decide +kernel) rfl) (by decide +kernel) ⟨Nat.le_of_ble_eq_true rfl, Nat.le_of_ble_eq_true rfl⟩, htg _ (gw_mem (i := 525) (by decide +kernel) rfl), htg _ (gw_mem (i := 526) (by decide +kernel) rfl)⟩ ⟨hPre.blind, hx_recv hK (ci := 5) rfl (show va_at D vwCl (o 19 i, .inr (5, [.int (K 19 i 0), .int (K 19 i 1), .int (K 19 i 2)])) H from hI.at (k := 19) (n := i) (show nmv z 19 i from (show i < z 5 0 by omega))), hPre.at hB hS noA_in⟩ rfl rfl hl.1 rfl (lv_room (Nat.le_of_ble_eq_true rfl)) d_Nm_oneWith_58 ⟨Nat.le_of_ble_eq_true rfl, Nat.le_of_ble_eq_true rfl⟩) hS (fun locs hS => ?_)
                refine lv_if_eq (x := (bI (holdV (K 19 i 1) (K 19 i 2) day))) (tgt := 82) hx hb d_Nm_oneWith_61 (by decide) (fun c61 => ?_) (fun c61 => ?_)
                · skip
                  replace c61 : (holdV (K 19 i 1) (K 19 i 2) day) = false := bI_0 c61
                  refine lv_iinc (v := (nI (i + 1))) (lv' := [(6, .int (nI (i + 1))), (7, .ref (o 19 i)), (0, .ref (o 0 0)), (1, .int q), (2, .int day), (3, .int g1), (4, .int gr), (5, .int (nI rd))]) hx hb d_Nm_oneWith_82 hl (k := 7) rfl (nI_1 i) (by decide) rfl (fun ls hl => ?_)
                  refine lv_goto (tgt := 29) hx hb d_Nm_oneWith_85 (by decide) ?_
                  exact ih29  (i + 1) g1 (by omega) (by omega) (by rw [show upt (owS K day) (i + 1) gr = owS K day (upt (owS K day) i gr) i from rfl, ← hg]; simp [owS, c61]) _ hS ls (lv_sub hl [2, 3, 4, 5, 6, 7, 0] rfl)
                · skip
                  replace c61 : (holdV (K 19 i 1) (K 19 i 2) day) = true := bI_1 c61
                  refine lv_iload_n hx hb d_Nm_oneWith_64 rfl (lv_at hl 4 rfl) ?_
                  refine lv_aload hx hb d_Nm_oneWith_65 (lv_at hl 0 rfl) ?_
                  refine hx_get (ref := "NameMerges$Merge") (v := .int (K 19 i 0)) hx hb htg iMe hown hK (show va_at D vwCl (o 19 i, .inr (5, [.int (K 19 i 0), .int (K 19 i 1), .int (K 19 i 2)])) H from hI.at (k := 19) (n := i) (show nmv z 19 i from (show i < z 5 0 by omega))) rfl 0 (by decide) (htg _ (gw_mem (i := 860) (by decide +kernel) rfl)) (fun _ h9 => h9) rfl d_Nm_oneWith_67 ?_
                  refine lv_iand (x := g1) (y := (K 19 i 0)) hx hb d_Nm_oneWith_70 ?_
                  refine lv_if_eq (x := (g1 &&& (K 19 i 0))) (tgt := 82) hx hb d_Nm_oneWith_71 (by decide) (fun c71 => ?_) (fun c71 => ?_)
                  · skip
                    refine lv_iinc (v := (nI (i + 1))) (lv' := [(6, .int (nI (i + 1))), (7, .ref (o 19 i)), (0, .ref (o 0 0)), (1, .int q), (2, .int day), (3, .int g1), (4, .int gr), (5, .int (nI rd))]) hx hb d_Nm_oneWith_82 hl (k := 7) rfl (nI_1 i) (by decide) rfl (fun ls hl => ?_)
                    refine lv_goto (tgt := 29) hx hb d_Nm_oneWith_85 (by decide) ?_
                    exact ih29  (i + 1) g1 (by omega) (by omega) (by rw [show upt (owS K day) (i + 1) gr = owS K day (upt (owS K day) i gr) i from rfl, ← hg]; simp [owS, c61, c71]) _ hS ls (lv_sub hl [2, 3, 4, 5, 6, 7, 0] rfl)
                  · skip
                    refine lv_iload_n hx hb d_Nm_oneWith_74 rfl (lv_at hl 4 rfl) ?_
                    refine lv_aload hx hb d_Nm_oneWith_75 (lv_at hl 0 rfl) ?_
                    refine hx_get (ref := "NameMerges$Merge") (v := .int (K 19 i 0)) hx hb htg iMe hown hK (show va_at D vwCl (o 19 i, .inr (5, [.int (K 19 i 0), .int (K 19 i 1), .int (K 19 i 2)])) H from hI.at (k := 19) (n := i) (show nmv z 19 i from (show i < z 5 0 by omega))) rfl 0 (by decide) (htg _ (gw_mem (i := 860) (by decide +kernel) rfl)) (fun _ h9 => h9) rfl d_Nm_oneWith_77 ?_
                    refine lv_ior (x := g1) (y := (K 19 i 0)) hx hb d_Nm_oneWith_80 ?_
                    refine lv_istore_n (lv' := [(3, .int (g1 ||| (K 19 i 0))), (7, .ref (o 19 i)), (0, .ref (o 0 0)), (1, .int q), (2, .int day), (4, .int gr), (5, .int (nI rd)), (6, .int (nI i))]) hx hb d_Nm_oneWith_81 rfl hl (by decide) rfl (fun ls hl => ?_)
                    refine lv_iinc (v := (nI (i + 1))) (lv' := [(6, .int (nI (i + 1))), (3, .int (g1 ||| (K 19 i 0))), (7, .ref (o 19 i)), (0, .ref (o 0 0)), (1, .int q), (2, .int day), (4, .int gr), (5, .int (nI rd))]) hx hb d_Nm_oneWith_82 hl (k := 7) rfl (nI_1 i) (by decide) rfl (fun ls hl => ?_)
                    refine lv_goto (tgt := 29) hx hb d_Nm_oneWith_85 (by decide) ?_
                    exact ih29  (i + 1) (g1 ||| (K 19 i 0)) (by omega) (by omega) (by rw [show upt (owS K day) (i + 1) gr = owS K day (upt (owS K day) i gr) i from rfl, ← hg]; simp [owS, c61, c71]) _ hS ls (lv_sub hl [3, 4, 5, 1, 6, 7, 0] rfl)
          exact loop29 ((z 5 0 - 0) + 1) 0 gr (Nat.lt_succ_self _) (Nat.zero_le _) rfl _ hS ls (lv_sub hl [2, 3, 4, 5, 1, 6, 0] rfl)
  exact loop10 ((24 - 0) + 1) 0 ((1 : Int32) <<< (q &&& 31)) 0 (Nat.lt_succ_self _) (Nat.zero_le _) rfl _ hS ls (lv_sub hl [3, 4, 5, 2, 1, 0] rfl)
def aofP (z : Nat → Nat → Nat) (K : Nat → Nat → Nat → Int32) (a b day : Int32) (i : Nat) : Bool := !decide (K 19 i 1 ≤ day) && hasB (owV z K a (K 19 i 1)) b
def aofB (z : Nat → Nat → Nat) (K : Nat → Nat → Nat → Int32) (a b day : Int32) : Bool := hasB (owV z K a day) b || anyTo (aofP z K a b day) (z 5 0)
def y_Nm_areOneFrom : MethodName := ⟨"NameMerges", "areOneFrom", "(III)Z"⟩
abbrev w_Nm_areOneFrom : List Cond := Cond.code y_Nm_areOneFrom prog_1_method_38_code 6 (Option.some Jvm.ClassFile.FieldType.boolean) :: gw
theorem d_Nm_areOneFrom_0 : decode prog_1_method_38_code 0 = .ok (.aload_n 0, 1) := by decide +kernel
theorem d_Nm_areOneFrom_1 : decode prog_1_method_38_code 1 = .ok (.iload_n 1, 1) := by decide +kernel
theorem d_Nm_areOneFrom_2 : decode prog_1_method_38_code 2 = .ok (.iload_n 3, 1) := by decide +kernel
theorem d_Nm_areOneFrom_3 : decode prog_1_method_38_code 3 = .ok (.invokevirtual 137, 3) := by decide +kernel
theorem d_Nm_areOneFrom_6 : decode prog_1_method_38_code 6 = .ok (.iload_n 2, 1) := by decide +kernel
theorem d_Nm_areOneFrom_7 : decode prog_1_method_38_code 7 = .ok (.invokestatic 141, 3) := by decide +kernel
theorem d_Nm_areOneFrom_10 : decode prog_1_method_38_code 10 = .ok (.ifCond .eq 5, 3) := by decide +kernel
theorem d_Nm_areOneFrom_13 : decode prog_1_method_38_code 13 = .ok (.iconst 1, 1) := by decide +kernel
theorem d_Nm_areOneFrom_14 : decode prog_1_method_38_code 14 = .ok (.ireturn, 1) := by decide +kernel
theorem d_Nm_areOneFrom_15 : decode prog_1_method_38_code 15 = .ok (.iconst 0, 1) := by decide +kernel
theorem d_Nm_areOneFrom_16 : decode prog_1_method_38_code 16 = .ok (.istore 4, 2) := by decide +kernel
theorem d_Nm_areOneFrom_18 : decode prog_1_method_38_code 18 = .ok (.iload 4, 2) := by decide +kernel
theorem d_Nm_areOneFrom_20 : decode prog_1_method_38_code 20 = .ok (.aload_n 0, 1) := by decide +kernel
theorem d_Nm_areOneFrom_21 : decode prog_1_method_38_code 21 = .ok (.getfield 23, 3) := by decide +kernel
theorem d_Nm_areOneFrom_24 : decode prog_1_method_38_code 24 = .ok (.invokevirtual 67, 3) := by decide +kernel
theorem d_Nm_areOneFrom_27 : decode prog_1_method_38_code 27 = .ok (.if_icmp .ge 48, 3) := by decide +kernel
theorem d_Nm_areOneFrom_30 : decode prog_1_method_38_code 30 = .ok (.aload_n 0, 1) := by decide +kernel
theorem d_Nm_areOneFrom_31 : decode prog_1_method_38_code 31 = .ok (.getfield 23, 3) := by decide +kernel
theorem d_Nm_areOneFrom_34 : decode prog_1_method_38_code 34 = .ok (.iload 4, 2) := by decide +kernel
theorem d_Nm_areOneFrom_36 : decode prog_1_method_38_code 36 = .ok (.invokevirtual 82, 3) := by decide +kernel
theorem d_Nm_areOneFrom_39 : decode prog_1_method_38_code 39 = .ok (.checkcast 176, 3) := by decide +kernel
theorem d_Nm_areOneFrom_42 : decode prog_1_method_38_code 42 = .ok (.getfield 189, 3) := by decide +kernel
theorem d_Nm_areOneFrom_45 : decode prog_1_method_38_code 45 = .ok (.istore 5, 2) := by decide +kernel
theorem d_Nm_areOneFrom_47 : decode prog_1_method_38_code 47 = .ok (.iload 5, 2) := by decide +kernel
theorem d_Nm_areOneFrom_49 : decode prog_1_method_38_code 49 = .ok (.iload_n 3, 1) := by decide +kernel
theorem d_Nm_areOneFrom_50 : decode prog_1_method_38_code 50 = .ok (.if_icmp .le 19, 3) := by decide +kernel
theorem d_Nm_areOneFrom_53 : decode prog_1_method_38_code 53 = .ok (.aload_n 0, 1) := by decide +kernel
theorem d_Nm_areOneFrom_54 : decode prog_1_method_38_code 54 = .ok (.iload_n 1, 1) := by decide +kernel
theorem d_Nm_areOneFrom_55 : decode prog_1_method_38_code 55 = .ok (.iload 5, 2) := by decide +kernel
theorem d_Nm_areOneFrom_57 : decode prog_1_method_38_code 57 = .ok (.invokevirtual 137, 3) := by decide +kernel
theorem d_Nm_areOneFrom_60 : decode prog_1_method_38_code 60 = .ok (.iload_n 2, 1) := by decide +kernel
theorem d_Nm_areOneFrom_61 : decode prog_1_method_38_code 61 = .ok (.invokestatic 141, 3) := by decide +kernel
theorem d_Nm_areOneFrom_64 : decode prog_1_method_38_code 64 = .ok (.ifCond .eq 5, 3) := by decide +kernel
theorem d_Nm_areOneFrom_67 : decode prog_1_method_38_code 67 = .ok (.iconst 1, 1) := by decide +kernel
theorem d_Nm_areOneFrom_68 : decode prog_1_method_38_code 68 = .ok (.ireturn, 1) := by decide +kernel
theorem d_Nm_areOneFrom_69 : decode prog_1_method_38_code 69 = .ok (.iinc 4 1, 3) := by decide +kernel
theorem d_Nm_areOneFrom_72 : decode prog_1_method_38_code 72 = .ok (.goto (-54), 3) := by decide +kernel
theorem d_Nm_areOneFrom_75 : decode prog_1_method_38_code 75 = .ok (.iconst 0, 1) := by decide +kernel
theorem d_Nm_areOneFrom_76 : decode prog_1_method_38_code 76 = .ok (.ireturn, 1) := by decide +kernel
set_option maxHeartbeats 4000000 in
set_option maxRecDepth 100000 in
theorem c_Nm_areOneFrom (l : Launch) (D : va_G) (cs : Nat → ClassId) (N0 : Nat) (H : Heap) (o z : Nat → Nat → Nat) (K : Nat → Nat → Nat → Int32) (r : Nat → Nat × Nat) (a b day : Int32) (hI : nmP D cs N0 H o z K r) : Met l y_Nm_areOneFrom w_Nm_areOneFrom ({ frames := 4, cells := 0, slots := 0, locals := 91 }) (hPre D cs N0 [.ref (o 0 0), .int a, .int b, .int day] H) (hQi (fun r H' => H' = H ∧ r = bI (aofB z K a b day)) noA) 0 0 noA := by
  refine Met.ofW (cc := prog_1_method_38_code) (maxL := 6) (ret := (Option.some Jvm.ClassFile.FieldType.boolean)) (by decide) rfl ?_
  intro p e s m args below meth c s₁ B hml hv
  obtain ⟨rfl, rfl, hB⟩ := hv
  have hx := B.exec
  have hb := B.bytes
  have hr := B.returns
  have hts := atoms_spec (ws := w_Nm_areOneFrom) B.pre
  have htg : ∀ w ∈ gw, w.before _ s = true := fun w h => hts w (List.mem_cons_of_mem _ h)
  have hown : s.vm.findClass "NameMerges" = some m.cls := findClass_of_methodNamed B.named
  have hlocks := B.notSynchronized
  have hK := hB.1
  obtain ⟨H, hH⟩ : ∃ z : Heap, z = s.heap := ⟨_, rfl⟩
  have hz0 : H.size = s.heap.size := by rw [hH]
  have hN0 := hB.2.1
  rw [← hH] at hI
  have hS : va_S noA s.heap H [] := by rw [hH]; exact va_S.rf
  have hl := lv_entry ([.ref (o 0 0), .int a, .int b, .int day]) (n := 6) (Nat.le_of_ble_eq_true rfl)
  rw [lg_entry_eq, ← hH]
  generalize (lg_sl ([.ref (o 0 0), .int a, .int b, .int day]) ++ List.replicate (6 - (lg_sl ([.ref (o 0 0), .int a, .int b, .int day])).length) Slot.unset).toArray = ls at hl ⊢
  have hl : lv_has ls 6 [(0, .ref (o 0 0)), (1, .int a), (2, .int b), (3, .int day)] := hl
  obtain ⟨hb0, hb1, hb3, hb5, hb4, hb6, hb11, hb17⟩ := hI.2.2.1
  refine lv_aload_n hx hb d_Nm_areOneFrom_0 rfl (lv_at hl 0 rfl) ?_
  refine lv_iload_n hx hb d_Nm_areOneFrom_1 rfl (lv_at hl 1 rfl) ?_
  refine lv_iload_n hx hb d_Nm_areOneFrom_2 rfl (lv_at hl 3 rfl) ?_
  refine h_purei (va_runV (As := [.int a, .int day]) (rest := []) ⟨hx, hb, hml, hown, htg⟩ (c_Nm_oneWith l D cs N0 H o z K r a day hI) ⟨x_cwB 2 htg (gw_mem (i := 508) (by decide +kernel) rfl) (gw_mem (i := 30) (by decide +kernel) rfl) (gw_mem (i := 505) (by decide +kernel) rfl) (by decide +kernel) ⟨Nat.le_of_ble_eq_true rfl, Nat.le_of_ble_eq_true rfl⟩, htg _ (gw_mem (i := 507) (by decide +kernel) rfl), htg _ (gw_mem (i := 1) (by decide +kernel) rfl)⟩ ⟨hPre.blind, hx_recv hK (ci := 1) rfl (show va_at D vwCl (o 0 0, .inr (1, [.ref (o 1 0), .ref (o 3 0), .ref (o 5 0), .ref (o 7 0), .ref (o 8 0), .int (nI (z 0 0)), .int (K 0 0 0), .ref (o 9 0)])) H from hI.at (k := 0) (n := 0) (show nmv z 0 0 from rfl)), hPre.at hB hS noA_in⟩ rfl rfl hl.1 rfl (lv_room (Nat.le_of_ble_eq_true rfl)) d_Nm_areOneFrom_3 ⟨Nat.le_of_ble_eq_true rfl, Nat.le_of_ble_eq_true rfl⟩) hS (fun locs hS => ?_)
  refine lv_iload_n hx hb d_Nm_areOneFrom_6 rfl (lv_at hl 2 rfl) ?_
  refine h_purei (va_runS (As := [.int (owV z K a day), .int b]) (rest := []) ⟨hx, hb, hml, hown, htg⟩ (c_Nm_has l D cs N0 H (owV z K a day) b) ⟨x_cwB 2 htg (gw_mem (i := 530) (by decide +kernel) rfl) (gw_mem (i := 30) (by decide +kernel) rfl) (gw_mem (i := 528) (by decide +kernel) rfl) (by decide +kernel) ⟨Nat.le_of_ble_eq_true rfl, Nat.le_of_ble_eq_true rfl⟩, htg _ (gw_mem (i := 529) (by decide +kernel) rfl)⟩ ⟨hPre.blind, hPre.at hB hS noA_in⟩ rfl rfl hl.1 rfl (lv_room (Nat.le_of_ble_eq_true rfl)) d_Nm_areOneFrom_7 ⟨Nat.le_of_ble_eq_true rfl, Nat.le_of_ble_eq_true rfl⟩) hS (fun locs hS => ?_)
  refine lv_if_eq (x := (bI (hasB (owV z K a day) b))) (tgt := 15) hx hb d_Nm_areOneFrom_10 (by decide) (fun c10 => ?_) (fun c10 => ?_)
  · skip
    replace c10 : (hasB (owV z K a day) b) = false := bI_0 c10
    refine lv_iconst (v := 0) hx hb d_Nm_areOneFrom_15 (by decide) ?_
    refine lv_istore (lv' := [(4, .int 0), (0, .ref (o 0 0)), (1, .int a), (2, .int b), (3, .int day)]) hx hb d_Nm_areOneFrom_16 hl (by decide) rfl (fun ls hl => ?_)
    have loop18 : ∀ (fuel : Nat) (i : Nat), z 5 0 - i < fuel → (i ≤ z 5 0) → (anyTo (aofP z K a b day) i = false) → ∀ (locs : List Loc), va_S noA s.heap H locs → ∀ (ls : Array Slot), lv_has ls 6 [(0, .ref (o 0 0)), (1, .int a), (2, .int b), (3, .int day), (4, .int (nI i))] → W p l e (headSpec w_Nm_areOneFrom ({ frames := 4, cells := 0, slots := 0, locals := 91 })).room s m ([.ref (o 0 0), .int a, .int b, .int day] : List Value).toArray below meth c H locs 0 0 (MQ below (hQi (fun r H' => H' = H ∧ r = bI (aofB z K a b day)) noA) ([.ref (o 0 0), .int a, .int b, .int day] : List Value).toArray s 0 0 noA) (F0 m 18 ls []) := by
      intro fuel18
      induction fuel18 with
      | zero => intro i hn; exact absurd hn (Nat.not_lt_zero _)
      | succ fuel18 ih18 =>
        intro i hn18 hi hp locs hS ls hl
        refine lv_iload hx hb d_Nm_areOneFrom_18 (lv_at hl 4 rfl) ?_
        refine lv_aload_n hx hb d_Nm_areOneFrom_20 rfl (lv_at hl 0 rfl) ?_
        refine hx_get (ref := "NameMerges") (v := .ref (o 5 0)) hx hb htg iNm hown hK (show va_at D vwCl (o 0 0, .inr (1, [.ref (o 1 0), .ref (o 3 0), .ref (o 5 0), .ref (o 7 0), .ref (o 8 0), .int (nI (z 0 0)), .int (K 0 0 0), .ref (o 9 0)])) H from hI.at (k := 0) (n := 0) (show nmv z 0 0 from rfl)) rfl 2 (by decide) (htg _ (gw_mem (i := 128) (by decide +kernel) rfl)) (fun _ h9 => h9) rfl d_Nm_areOneFrom_21 ?_
        refine h_purei (va_runV (As := []) (rest := [.int (nI i)]) ⟨hx, hb, hml, hown, htg⟩ (c_AL_size l D cs N0 H (o 5 0) (nmL cs (z 5 0) (o 6 0)) (z 5 0) (K 5 0 0) (show va_at D vwCl (o 5 0, .inr (6, [.ref (nmL cs (z 5 0) (o 6 0)), .int (nI (z 5 0)), .int (K 5 0 0)])) H from hI.at (k := 5) (n := 0) (show nmv z 5 0 from rfl))) ⟨x_cwB 0 htg (gw_mem (i := 503) (by decide +kernel) rfl) (gw_mem (i := 37) (by decide +kernel) rfl) (gw_mem (i := 500) (by decide +kernel) rfl) (by decide +kernel) ⟨Nat.le_of_ble_eq_true rfl, Nat.le_of_ble_eq_true rfl⟩, htg _ (gw_mem (i := 501) (by decide +kernel) rfl), htg _ (gw_mem (i := 502) (by decide +kernel) rfl)⟩ ⟨hPre.blind, hx_recv hK (ci := 6) rfl (show va_at D vwCl (o 5 0, .inr (6, [.ref (nmL cs (z 5 0) (o 6 0)), .int (nI (z 5 0)), .int (K 5 0 0)])) H from hI.at (k := 5) (n := 0) (show nmv z 5 0 from rfl)), hPre.at hB hS noA_in⟩ rfl rfl hl.1 rfl (lv_room (Nat.le_of_ble_eq_true rfl)) d_Nm_areOneFrom_24 ⟨Nat.le_of_ble_eq_true rfl, Nat.le_of_ble_eq_true rfl⟩) hS (fun locs hS => ?_)
        refine lv_icmp_ge (x := (nI i)) (y := (nI (z 5 0))) (tgt := 75) hx hb d_Nm_areOneFrom_27 (by decide) (fun c27 => ?_) (fun c27 => ?_)
        · skip
          replace c27 : (z 5 0) ≤ i := (nI_leI (a := (z 5 0)) (b := i) (by omega) (by omega)).mp c27
          refine lv_iconst (v := 0) hx hb d_Nm_areOneFrom_75 (by decide) ?_
          exact W.zret (v := 0) hx hb hr (by decide) (fun t ht hW => ⟨⟨0, H, rfl, ⟨rfl, by rw [aofB, c10, show z 5 0 = i by omega, hp]; rfl⟩, ht⟩, hS.F ht⟩) hS.2.2 d_Nm_areOneFrom_76
        · skip
          replace c27 : ¬ ((z 5 0) ≤ i) := fun z9 => c27 ((nI_leI (a := (z 5 0)) (b := i) (by omega) (by omega)).mpr z9)
          refine lv_aload_n hx hb d_Nm_areOneFrom_30 rfl (lv_at hl 0 rfl) ?_
          refine hx_get (ref := "NameMerges") (v := .ref (o 5 0)) hx hb htg iNm hown hK (show va_at D vwCl (o 0 0, .inr (1, [.ref (o 1 0), .ref (o 3 0), .ref (o 5 0), .ref (o 7 0), .ref (o 8 0), .int (nI (z 0 0)), .int (K 0 0 0), .ref (o 9 0)])) H from hI.at (k := 0) (n := 0) (show nmv z 0 0 from rfl)) rfl 2 (by decide) (htg _ (gw_mem (i := 128) (by decide +kernel) rfl)) (fun _ h9 => h9) rfl d_Nm_areOneFrom_31 ?_
          refine lv_iload hx hb d_Nm_areOneFrom_34 (lv_at hl 4 rfl) ?_
          refine h_pureq (va_runV (As := [.int (nI i)]) (rest := []) ⟨hx, hb, hml, hown, htg⟩ (c_merges_get l D cs N0 H o z K r i hI (show i < z 5 0 by omega)) ⟨x_cwB 1 htg (gw_mem (i := 512) (by decide +kernel) rfl) (gw_mem (i := 37) (by decide +kernel) rfl) (gw_mem (i := 509) (by decide +kernel) rfl) (by decide +kernel) ⟨Nat.le_of_ble_eq_true rfl, Nat.le_of_ble_eq_true rfl⟩, htg _ (gw_mem (i := 510) (by decide +kernel) rfl), htg _ (gw_mem (i := 511) (by decide +kernel) rfl)⟩ ⟨hPre.blind, hx_recv hK (ci := 6) rfl (show va_at D vwCl (o 5 0, .inr (6, [.ref (nmL cs (z 5 0) (o 6 0)), .int (nI (z 5 0)), .int (K 5 0 0)])) H from hI.at (k := 5) (n := 0) (show nmv z 5 0 from rfl)), hPre.at hB hS noA_in⟩ rfl rfl hl.1 rfl (lv_room (Nat.le_of_ble_eq_true rfl)) d_Nm_areOneFrom_36 ⟨Nat.le_of_ble_eq_true rfl, Nat.le_of_ble_eq_true rfl⟩) hS (fun locs hS => ?_)
          refine lv_eqv (y := .ref (o 19 i)) rfl ?_
          refine va_castS hx hb hown (htg _ (gw_mem (i := 523) (by decide +kernel) rfl)) (x_at hK (ci := 5) rfl) (hx_recv hK (ci := 5) rfl (show va_at D vwCl (o 19 i, .inr (5, [.int (K 19 i 0), .int (K 19 i 1), .int (K 19 i 2)])) H from hI.at (k := 19) (n := i) (show nmv z 19 i from (show i < z 5 0 by omega)))) d_Nm_areOneFrom_39 ?_
          refine hx_get (ref := "NameMerges$Merge") (v := .int (K 19 i 1)) hx hb htg iMe hown hK (show va_at D vwCl (o 19 i, .inr (5, [.int (K 19 i 0), .int (K 19 i 1), .int (K 19 i 2)])) H from hI.at (k := 19) (n := i) (show nmv z 19 i from (show i < z 5 0 by omega))) rfl 1 (by decide) (htg _ (gw_mem (i := 862) (by decide +kernel) rfl)) (fun _ h9 => h9) rfl d_Nm_areOneFrom_42 ?_
          refine lv_istore (lv' := [(5, .int (K 19 i 1)), (0, .ref (o 0 0)), (1, .int a), (2, .int b), (3, .int day), (4, .int (nI i))]) hx hb d_Nm_areOneFrom_45 hl (by decide) rfl (fun ls hl => ?_)
          refine lv_iload hx hb d_Nm_areOneFrom_47 (lv_at hl 0 rfl) ?_
          refine lv_iload_n hx hb d_Nm_areOneFrom_49 rfl (lv_at hl 4 rfl) ?_
          refine lv_icmp_le (x := (K 19 i 1)) (y := day) (tgt := 69) hx hb d_Nm_areOneFrom_50 (by decide) (fun c50 => ?_) (fun c50 => ?_)
          · skip
            refine lv_iinc (v := (nI (i + 1))) (lv' := [(4, .int (nI (i + 1))), (5, .int (K 19 i 1)), (0, .ref (o 0 0)), (1, .int a), (2, .int b), (3, .int day)]) hx hb d_Nm_areOneFrom_69 hl (k := 5) rfl (nI_1 i) (by decide) rfl (fun ls hl => ?_)
            refine lv_goto (tgt := 18) hx hb d_Nm_areOneFrom_72 (by decide) ?_
            exact ih18  (i + 1) (by omega) (by omega) (by rw [anyTo, hp]; simp [aofP, c50]) _ hS ls (lv_sub hl [2, 3, 4, 5, 0] rfl)
          · skip
            refine lv_aload_n hx hb d_Nm_areOneFrom_53 rfl (lv_at hl 1 rfl) ?_
            refine lv_iload_n hx hb d_Nm_areOneFrom_54 rfl (lv_at hl 2 rfl) ?_
            refine lv_iload hx hb d_Nm_areOneFrom_55 (lv_at hl 0 rfl) ?_
            refine h_purei (va_runV (As := [.int a, .int (K 19 i 1)]) (rest := []) ⟨hx, hb, hml, hown, htg⟩ (c_Nm_oneWith l D cs N0 H o z K r a (K 19 i 1) hI) ⟨x_cwB 2 htg (gw_mem (i := 508) (by decide +kernel) rfl) (gw_mem (i := 30) (by decide +kernel) rfl) (gw_mem (i := 505) (by decide +kernel) rfl) (by decide +kernel) ⟨Nat.le_of_ble_eq_true rfl, Nat.le_of_ble_eq_true rfl⟩, htg _ (gw_mem (i := 507) (by decide +kernel) rfl), htg _ (gw_mem (i := 1) (by decide +kernel) rfl)⟩ ⟨hPre.blind, hx_recv hK (ci := 1) rfl (show va_at D vwCl (o 0 0, .inr (1, [.ref (o 1 0), .ref (o 3 0), .ref (o 5 0), .ref (o 7 0), .ref (o 8 0), .int (nI (z 0 0)), .int (K 0 0 0), .ref (o 9 0)])) H from hI.at (k := 0) (n := 0) (show nmv z 0 0 from rfl)), hPre.at hB hS noA_in⟩ rfl rfl hl.1 rfl (lv_room (Nat.le_of_ble_eq_true rfl)) d_Nm_areOneFrom_57 ⟨Nat.le_of_ble_eq_true rfl, Nat.le_of_ble_eq_true rfl⟩) hS (fun locs hS => ?_)
            refine lv_iload_n hx hb d_Nm_areOneFrom_60 rfl (lv_at hl 3 rfl) ?_
            refine h_purei (va_runS (As := [.int (owV z K a (K 19 i 1)), .int b]) (rest := []) ⟨hx, hb, hml, hown, htg⟩ (c_Nm_has l D cs N0 H ((owV z K a (K 19 i 1))) b) ⟨x_cwB 2 htg (gw_mem (i := 530) (by decide +kernel) rfl) (gw_mem (i := 30) (by decide +kernel) rfl) (gw_mem (i := 528) (by decide +kernel) rfl) (by decide +kernel) ⟨Nat.le_of_ble_eq_true rfl, Nat.le_of_ble_eq_true rfl⟩, htg _ (gw_mem (i := 529) (by decide +kernel) rfl)⟩ ⟨hPre.blind, hPre.at hB hS noA_in⟩ rfl rfl hl.1 rfl (lv_room (Nat.le_of_ble_eq_true rfl)) d_Nm_areOneFrom_61 ⟨Nat.le_of_ble_eq_true rfl, Nat.le_of_ble_eq_true rfl⟩) hS (fun locs hS => ?_)
            refine lv_if_eq (x := (bI (hasB ((owV z K a (K 19 i 1))) b))) (tgt := 69) hx hb d_Nm_areOneFrom_64 (by decide) (fun c64 => ?_) (fun c64 => ?_)
            · skip
              replace c64 : (hasB ((owV z K a (K 19 i 1))) b) = false := bI_0 c64
              refine lv_iinc (v := (nI (i + 1))) (lv' := [(4, .int (nI (i + 1))), (5, .int (K 19 i 1)), (0, .ref (o 0 0)), (1, .int a), (2, .int b), (3, .int day)]) hx hb d_Nm_areOneFrom_69 hl (k := 5) rfl (nI_1 i) (by decide) rfl (fun ls hl => ?_)
              refine lv_goto (tgt := 18) hx hb d_Nm_areOneFrom_72 (by decide) ?_
              exact ih18  (i + 1) (by omega) (by omega) (by rw [anyTo, hp]; simp [aofP, c50, c64]) _ hS ls (lv_sub hl [2, 3, 4, 5, 0] rfl)
            · skip
              replace c64 : (hasB ((owV z K a (K 19 i 1))) b) = true := bI_1 c64
              refine lv_iconst (v := 1) hx hb d_Nm_areOneFrom_67 (by decide) ?_
              exact W.zret (v := 1) hx hb hr (by decide) (fun t ht hW => ⟨⟨1, H, rfl, ⟨rfl, by rw [aofB, any_at (i := i) (by omega) (show aofP z K a b day i = true by simp [aofP, c50, c64])]; simp [bI]⟩, ht⟩, hS.F ht⟩) hS.2.2 d_Nm_areOneFrom_68
    exact loop18 ((z 5 0 - 0) + 1) 0 (Nat.lt_succ_self _) (Nat.zero_le _) rfl _ hS ls (lv_sub hl [1, 2, 3, 4, 0] rfl)
  · skip
    replace c10 : (hasB (owV z K a day) b) = true := bI_1 c10
    refine lv_iconst (v := 1) hx hb d_Nm_areOneFrom_13 (by decide) ?_
    exact W.zret (v := 1) hx hb hr (by decide) (fun t ht hW => ⟨⟨1, H, rfl, ⟨rfl, by simp [aofB, bI, c10]⟩, ht⟩, hS.F ht⟩) hS.2.2 d_Nm_areOneFrom_14
def frs (P : Nat → Bool) : Nat → Nat → Int32
  | 0, _ => -1
  | f + 1, i => if P i = true then nI i else frs P f (i + 1)
def ownV (z : Nat → Nat → Nat) (K : Nat → Nat → Nat → Int32) (st : Nat) (q : Int32) : Int32 := if numB q = true then frs (fun n => decide (K 13 n st = q)) (z 3 0) 0 else -1
def y_Nm_ownerOf : MethodName := ⟨"NameMerges", "ownerOf", "(II)I"⟩
abbrev w_Nm_ownerOf : List Cond := Cond.code y_Nm_ownerOf prog_1_method_41_code 4 (Option.some Jvm.ClassFile.FieldType.int) :: gw
theorem d_Nm_ownerOf_0 : decode prog_1_method_41_code 0 = .ok (.iload_n 2, 1) := by decide +kernel
theorem d_Nm_ownerOf_1 : decode prog_1_method_41_code 1 = .ok (.invokestatic 219, 3) := by decide +kernel
theorem d_Nm_ownerOf_4 : decode prog_1_method_41_code 4 = .ok (.ifCond .ne 5, 3) := by decide +kernel
theorem d_Nm_ownerOf_7 : decode prog_1_method_41_code 7 = .ok (.iconst (-1), 1) := by decide +kernel
theorem d_Nm_ownerOf_8 : decode prog_1_method_41_code 8 = .ok (.ireturn, 1) := by decide +kernel
theorem d_Nm_ownerOf_9 : decode prog_1_method_41_code 9 = .ok (.iconst 0, 1) := by decide +kernel
theorem d_Nm_ownerOf_10 : decode prog_1_method_41_code 10 = .ok (.istore_n 3, 1) := by decide +kernel
theorem d_Nm_ownerOf_11 : decode prog_1_method_41_code 11 = .ok (.iload_n 3, 1) := by decide +kernel
theorem d_Nm_ownerOf_12 : decode prog_1_method_41_code 12 = .ok (.aload_n 0, 1) := by decide +kernel
theorem d_Nm_ownerOf_13 : decode prog_1_method_41_code 13 = .ok (.getfield 19, 3) := by decide +kernel
theorem d_Nm_ownerOf_16 : decode prog_1_method_41_code 16 = .ok (.invokevirtual 67, 3) := by decide +kernel
theorem d_Nm_ownerOf_19 : decode prog_1_method_41_code 19 = .ok (.if_icmp .ge 31, 3) := by decide +kernel
theorem d_Nm_ownerOf_22 : decode prog_1_method_41_code 22 = .ok (.aload_n 0, 1) := by decide +kernel
theorem d_Nm_ownerOf_23 : decode prog_1_method_41_code 23 = .ok (.getfield 19, 3) := by decide +kernel
theorem d_Nm_ownerOf_26 : decode prog_1_method_41_code 26 = .ok (.iload_n 3, 1) := by decide +kernel
theorem d_Nm_ownerOf_27 : decode prog_1_method_41_code 27 = .ok (.invokevirtual 82, 3) := by decide +kernel
theorem d_Nm_ownerOf_30 : decode prog_1_method_41_code 30 = .ok (.checkcast 72, 3) := by decide +kernel
theorem d_Nm_ownerOf_33 : decode prog_1_method_41_code 33 = .ok (.getfield 228, 3) := by decide +kernel
theorem d_Nm_ownerOf_36 : decode prog_1_method_41_code 36 = .ok (.iload_n 1, 1) := by decide +kernel
theorem d_Nm_ownerOf_37 : decode prog_1_method_41_code 37 = .ok (.iaload, 1) := by decide +kernel
theorem d_Nm_ownerOf_38 : decode prog_1_method_41_code 38 = .ok (.iload_n 2, 1) := by decide +kernel
theorem d_Nm_ownerOf_39 : decode prog_1_method_41_code 39 = .ok (.if_icmp .ne 5, 3) := by decide +kernel
theorem d_Nm_ownerOf_42 : decode prog_1_method_41_code 42 = .ok (.iload_n 3, 1) := by decide +kernel
theorem d_Nm_ownerOf_43 : decode prog_1_method_41_code 43 = .ok (.ireturn, 1) := by decide +kernel
theorem d_Nm_ownerOf_44 : decode prog_1_method_41_code 44 = .ok (.iinc 3 1, 3) := by decide +kernel
theorem d_Nm_ownerOf_47 : decode prog_1_method_41_code 47 = .ok (.goto (-36), 3) := by decide +kernel
theorem d_Nm_ownerOf_50 : decode prog_1_method_41_code 50 = .ok (.iconst (-1), 1) := by decide +kernel
theorem d_Nm_ownerOf_51 : decode prog_1_method_41_code 51 = .ok (.ireturn, 1) := by decide +kernel
set_option maxHeartbeats 4000000 in
set_option maxRecDepth 100000 in
theorem c_Nm_ownerOf (l : Launch) (D : va_G) (cs : Nat → ClassId) (N0 : Nat) (H : Heap) (o z : Nat → Nat → Nat) (K : Nat → Nat → Nat → Int32) (r : Nat → Nat × Nat) (st : Nat) (q : Int32) (hI : nmP D cs N0 H o z K r) (hst : st < 4) : Met l y_Nm_ownerOf w_Nm_ownerOf ({ frames := 3, cells := 0, slots := 0, locals := 64 }) (hPre D cs N0 [.ref (o 0 0), .int (nI st), .int q] H) (hQi (fun r H' => H' = H ∧ r = ownV z K st q) noA) 0 0 noA := by
  refine Met.ofW (cc := prog_1_method_41_code) (maxL := 4) (ret := (Option.some Jvm.ClassFile.FieldType.int)) (by decide) rfl ?_
  intro p e s m args below meth c s₁ B hml hv
  obtain ⟨rfl, rfl, hB⟩ := hv
  have hx := B.exec
  have hb := B.bytes
  have hr := B.returns
  have hts := atoms_spec (ws := w_Nm_ownerOf) B.pre
  have htg : ∀ w ∈ gw, w.before _ s = true := fun w h => hts w (List.mem_cons_of_mem _ h)
  have hown : s.vm.findClass "NameMerges" = some m.cls := findClass_of_methodNamed B.named
  have hlocks := B.notSynchronized
  have hK := hB.1
  obtain ⟨H, hH⟩ : ∃ z : Heap, z = s.heap := ⟨_, rfl⟩
  have hz0 : H.size = s.heap.size := by rw [hH]
  have hN0 := hB.2.1
  rw [← hH] at hI
  have hS : va_S noA s.heap H [] := by rw [hH]; exact va_S.rf
  have hl := lv_entry ([.ref (o 0 0), .int (nI st), .int q]) (n := 4) (Nat.le_of_ble_eq_true rfl)
  rw [lg_entry_eq, ← hH]
  generalize (lg_sl ([.ref (o 0 0), .int (nI st), .int q]) ++ List.replicate (4 - (lg_sl ([.ref (o 0 0), .int (nI st), .int q])).length) Slot.unset).toArray = ls at hl ⊢
  have hl : lv_has ls 4 [(0, .ref (o 0 0)), (1, .int (nI st)), (2, .int q)] := hl
  obtain ⟨hb0, hb1, hb3, hb5, hb4, hb6, hb11, hb17⟩ := hI.2.2.1
  refine lv_iload_n hx hb d_Nm_ownerOf_0 rfl (lv_at hl 2 rfl) ?_
  refine h_purei (va_runS (As := [.int q]) (rest := []) ⟨hx, hb, hml, hown, htg⟩ (c_Nm_isNumber l D cs N0 H q) ⟨x_cwB 1 htg (gw_mem (i := 958) (by decide +kernel) rfl) (gw_mem (i := 30) (by decide +kernel) rfl) (gw_mem (i := 956) (by decide +kernel) rfl) (by decide +kernel) ⟨Nat.le_of_ble_eq_true rfl, Nat.le_of_ble_eq_true rfl⟩, htg _ (gw_mem (i := 957) (by decide +kernel) rfl)⟩ ⟨hPre.blind, hPre.at hB hS noA_in⟩ rfl rfl hl.1 rfl (lv_room (Nat.le_of_ble_eq_true rfl)) d_Nm_ownerOf_1 ⟨Nat.le_of_ble_eq_true rfl, Nat.le_of_ble_eq_true rfl⟩) hS (fun locs hS => ?_)
  refine lv_if_ne (x := (bI (numB q))) (tgt := 9) hx hb d_Nm_ownerOf_4 (by decide) (fun c4 => ?_) (fun c4 => ?_)
  · skip
    replace c4 : (numB q) = true := bI_1 c4
    refine lv_iconst (v := 0) hx hb d_Nm_ownerOf_9 (by decide) ?_
    refine lv_istore_n (lv' := [(3, .int 0), (0, .ref (o 0 0)), (1, .int (nI st)), (2, .int q)]) hx hb d_Nm_ownerOf_10 rfl hl (by decide) rfl (fun ls hl => ?_)
    have loop11 : ∀ (fuel : Nat) (i : Nat), z 3 0 - i < fuel → (i ≤ z 3 0) → (frs (fun n => decide (K 13 n st = q)) (z 3 0 - i) i = frs (fun n => decide (K 13 n st = q)) (z 3 0) 0) → ∀ (locs : List Loc), va_S noA s.heap H locs → ∀ (ls : Array Slot), lv_has ls 4 [(0, .ref (o 0 0)), (1, .int (nI st)), (2, .int q), (3, .int (nI i))] → W p l e (headSpec w_Nm_ownerOf ({ frames := 3, cells := 0, slots := 0, locals := 64 })).room s m ([.ref (o 0 0), .int (nI st), .int q] : List Value).toArray below meth c H locs 0 0 (MQ below (hQi (fun r H' => H' = H ∧ r = ownV z K st q) noA) ([.ref (o 0 0), .int (nI st), .int q] : List Value).toArray s 0 0 noA) (F0 m 11 ls []) := by
      intro fuel11
      induction fuel11 with
      | zero => intro i hn; exact absurd hn (Nat.not_lt_zero _)
      | succ fuel11 ih11 =>
        intro i hn11 hi he locs hS ls hl
        refine lv_iload_n hx hb d_Nm_ownerOf_11 rfl (lv_at hl 3 rfl) ?_
        refine lv_aload_n hx hb d_Nm_ownerOf_12 rfl (lv_at hl 0 rfl) ?_
        refine hx_get (ref := "NameMerges") (v := .ref (o 3 0)) hx hb htg iNm hown hK (show va_at D vwCl (o 0 0, .inr (1, [.ref (o 1 0), .ref (o 3 0), .ref (o 5 0), .ref (o 7 0), .ref (o 8 0), .int (nI (z 0 0)), .int (K 0 0 0), .ref (o 9 0)])) H from hI.at (k := 0) (n := 0) (show nmv z 0 0 from rfl)) rfl 1 (by decide) (htg _ (gw_mem (i := 127) (by decide +kernel) rfl)) (fun _ h9 => h9) rfl d_Nm_ownerOf_13 ?_
        refine h_purei (va_runV (As := []) (rest := [.int (nI i)]) ⟨hx, hb, hml, hown, htg⟩ (c_AL_size l D cs N0 H (o 3 0) (nmL cs (z 3 0) (o 4 0)) (z 3 0) (K 3 0 0) (show va_at D vwCl (o 3 0, .inr (6, [.ref (nmL cs (z 3 0) (o 4 0)), .int (nI (z 3 0)), .int (K 3 0 0)])) H from hI.at (k := 3) (n := 0) (show nmv z 3 0 from rfl))) ⟨x_cwB 0 htg (gw_mem (i := 503) (by decide +kernel) rfl) (gw_mem (i := 37) (by decide +kernel) rfl) (gw_mem (i := 500) (by decide +kernel) rfl) (by decide +kernel) ⟨Nat.le_of_ble_eq_true rfl, Nat.le_of_ble_eq_true rfl⟩, htg _ (gw_mem (i := 501) (by decide +kernel) rfl), htg _ (gw_mem (i := 502) (by decide +kernel) rfl)⟩ ⟨hPre.blind, hx_recv hK (ci := 6) rfl (show va_at D vwCl (o 3 0, .inr (6, [.ref (nmL cs (z 3 0) (o 4 0)), .int (nI (z 3 0)), .int (K 3 0 0)])) H from hI.at (k := 3) (n := 0) (show nmv z 3 0 from rfl)), hPre.at hB hS noA_in⟩ rfl rfl hl.1 rfl (lv_room (Nat.le_of_ble_eq_true rfl)) d_Nm_ownerOf_16 ⟨Nat.le_of_ble_eq_true rfl, Nat.le_of_ble_eq_true rfl⟩) hS (fun locs hS => ?_)
        refine lv_icmp_ge (x := (nI i)) (y := (nI (z 3 0))) (tgt := 50) hx hb d_Nm_ownerOf_19 (by decide) (fun c19 => ?_) (fun c19 => ?_)
        · skip
          replace c19 : (z 3 0) ≤ i := (nI_leI (a := (z 3 0)) (b := i) (by omega) (by omega)).mp c19
          refine lv_iconst (v := (-1)) hx hb d_Nm_ownerOf_50 (by decide) ?_
          exact W.iret (v := (-1)) hx hb hr (fun t ht hW => ⟨⟨(-1), H, rfl, ⟨rfl, by rw [ownV, if_pos c4, ← he, show z 3 0 - i = 0 by omega]; rfl⟩, ht⟩, hS.F ht⟩) hS.2.2 d_Nm_ownerOf_51
        · skip
          replace c19 : ¬ ((z 3 0) ≤ i) := fun z9 => c19 ((nI_leI (a := (z 3 0)) (b := i) (by omega) (by omega)).mpr z9)
          refine lv_aload_n hx hb d_Nm_ownerOf_22 rfl (lv_at hl 0 rfl) ?_
          refine hx_get (ref := "NameMerges") (v := .ref (o 3 0)) hx hb htg iNm hown hK (show va_at D vwCl (o 0 0, .inr (1, [.ref (o 1 0), .ref (o 3 0), .ref (o 5 0), .ref (o 7 0), .ref (o 8 0), .int (nI (z 0 0)), .int (K 0 0 0), .ref (o 9 0)])) H from hI.at (k := 0) (n := 0) (show nmv z 0 0 from rfl)) rfl 1 (by decide) (htg _ (gw_mem (i := 127) (by decide +kernel) rfl)) (fun _ h9 => h9) rfl d_Nm_ownerOf_23 ?_
          refine lv_iload_n hx hb d_Nm_ownerOf_26 rfl (lv_at hl 3 rfl) ?_
          refine h_pureq (va_runV (As := [.int (nI i)]) (rest := []) ⟨hx, hb, hml, hown, htg⟩ (c_names_get l D cs N0 H o z K r i hI (show i < z 3 0 by omega)) ⟨x_cwB 1 htg (gw_mem (i := 512) (by decide +kernel) rfl) (gw_mem (i := 37) (by decide +kernel) rfl) (gw_mem (i := 509) (by decide +kernel) rfl) (by decide +kernel) ⟨Nat.le_of_ble_eq_true rfl, Nat.le_of_ble_eq_true rfl⟩, htg _ (gw_mem (i := 510) (by decide +kernel) rfl), htg _ (gw_mem (i := 511) (by decide +kernel) rfl)⟩ ⟨hPre.blind, hx_recv hK (ci := 6) rfl (show va_at D vwCl (o 3 0, .inr (6, [.ref (nmL cs (z 3 0) (o 4 0)), .int (nI (z 3 0)), .int (K 3 0 0)])) H from hI.at (k := 3) (n := 0) (show nmv z 3 0 from rfl)), hPre.at hB hS noA_in⟩ rfl rfl hl.1 rfl (lv_room (Nat.le_of_ble_eq_true rfl)) d_Nm_ownerOf_27 ⟨Nat.le_of_ble_eq_true rfl, Nat.le_of_ble_eq_true rfl⟩) hS (fun locs hS => ?_)
          refine lv_eqv (y := .ref (o 10 i)) rfl ?_
          refine va_castS hx hb hown (htg _ (gw_mem (i := 536) (by decide +kernel) rfl)) (x_at hK (ci := 2) rfl) (hx_recv hK (ci := 2) rfl (show va_at D vwCl (o 10 i, .inr (2, [.ref (o 11 i), .ref (o 13 i), va_rf (if z 14 i = 0 then none else some (o 14 i)), .int (K 10 i 0), .int (K 10 i 1), .int (K 10 i 2), .int (K 10 i 3)])) H from hI.at (k := 10) (n := i) (show nmv z 10 i from (show i < z 3 0 by omega)))) d_Nm_ownerOf_30 ?_
          refine hx_get (ref := "NameMerges$Name") (v := .ref (o 13 i)) hx hb htg iNa hown hK (show va_at D vwCl (o 10 i, .inr (2, [.ref (o 11 i), .ref (o 13 i), va_rf (if z 14 i = 0 then none else some (o 14 i)), .int (K 10 i 0), .int (K 10 i 1), .int (K 10 i 2), .int (K 10 i 3)])) H from hI.at (k := 10) (n := i) (show nmv z 10 i from (show i < z 3 0 by omega))) rfl 1 (by decide) (htg _ (gw_mem (i := 655) (by decide +kernel) rfl)) (fun _ h9 => h9) rfl d_Nm_ownerOf_33 ?_
          refine lv_iload_n hx hb d_Nm_ownerOf_36 rfl (lv_at hl 1 rfl) ?_
          refine hx_iald hx hb hK 0 (show va_at D vwCl (o 13 i, .inl (cs 0, (4, .inl (K 13 i)))) H from hI.at (k := 13) (n := i) (show nmv z 13 i from (show i < z 3 0 by omega))) rfl (show vp_in (nI st) 4 from vp_in_nI (n := st) (by omega) (by omega)) d_Nm_ownerOf_37 ?_
          refine lv_eqi (y := ((K 13 i) st)) (show (K 13 i) (nI st).toNatClampNeg = _ by rw [nI_clamp (by omega)]) ?_
          refine lv_iload_n hx hb d_Nm_ownerOf_38 rfl (lv_at hl 2 rfl) ?_
          refine lv_icmp_ne (x := ((K 13 i) st)) (y := q) (tgt := 44) hx hb d_Nm_ownerOf_39 (by decide) (fun c39 => ?_) (fun c39 => ?_)
          · skip
            refine lv_iinc (v := (nI (i + 1))) (lv' := [(3, .int (nI (i + 1))), (0, .ref (o 0 0)), (1, .int (nI st)), (2, .int q)]) hx hb d_Nm_ownerOf_44 hl (k := 3) rfl (nI_1 i) (by decide) rfl (fun ls hl => ?_)
            refine lv_goto (tgt := 11) hx hb d_Nm_ownerOf_47 (by decide) ?_
            exact ih11  (i + 1) (by omega) (by omega) (by rw [← he, show z 3 0 - i = (z 3 0 - (i + 1)) + 1 by omega, frs, if_neg (by simp [c39])]) _ hS ls (lv_sub hl [1, 2, 3, 0] rfl)
          · skip
            refine lv_iload_n hx hb d_Nm_ownerOf_42 rfl (lv_at hl 3 rfl) ?_
            exact W.iret (v := (nI i)) hx hb hr (fun t ht hW => ⟨⟨(nI i), H, rfl, ⟨rfl, by rw [ownV, if_pos c4, ← he, show z 3 0 - i = (z 3 0 - (i + 1)) + 1 by omega, frs, if_pos (decide_eq_true c39)]⟩, ht⟩, hS.F ht⟩) hS.2.2 d_Nm_ownerOf_43
    exact loop11 ((z 3 0 - 0) + 1) 0 (Nat.lt_succ_self _) (Nat.zero_le _) rfl _ hS ls (lv_sub hl [1, 2, 3, 0] rfl)
  · skip
    replace c4 : (numB q) = false := bI_0 c4
    refine lv_iconst (v := (-1)) hx hb d_Nm_ownerOf_7 (by decide) ?_
    exact W.iret (v := (-1)) hx hb hr (fun t ht hW => ⟨⟨(-1), H, rfl, ⟨rfl, by rw [ownV, c4]; rfl⟩, ht⟩, hS.F ht⟩) hS.2.2 d_Nm_ownerOf_8
def cvS (z : Nat → Nat → Nat) (a : Int32) (n : Nat) : Int32 := a + nI (z 11 n)
def y_Nm_countVariants : MethodName := ⟨"NameMerges", "countVariants", "()I"⟩
abbrev w_Nm_countVariants : List Cond := Cond.code y_Nm_countVariants prog_1_method_42_code 3 (Option.some Jvm.ClassFile.FieldType.int) :: gw
theorem d_Nm_countVariants_0 : decode prog_1_method_42_code 0 = .ok (.iconst 0, 1) := by decide +kernel
theorem d_Nm_countVariants_1 : decode prog_1_method_42_code 1 = .ok (.istore_n 1, 1) := by decide +kernel
theorem d_Nm_countVariants_2 : decode prog_1_method_42_code 2 = .ok (.iconst 0, 1) := by decide +kernel
theorem d_Nm_countVariants_3 : decode prog_1_method_42_code 3 = .ok (.istore_n 2, 1) := by decide +kernel
theorem d_Nm_countVariants_4 : decode prog_1_method_42_code 4 = .ok (.iload_n 2, 1) := by decide +kernel
theorem d_Nm_countVariants_5 : decode prog_1_method_42_code 5 = .ok (.aload_n 0, 1) := by decide +kernel
theorem d_Nm_countVariants_6 : decode prog_1_method_42_code 6 = .ok (.getfield 19, 3) := by decide +kernel
theorem d_Nm_countVariants_9 : decode prog_1_method_42_code 9 = .ok (.invokevirtual 67, 3) := by decide +kernel
theorem d_Nm_countVariants_12 : decode prog_1_method_42_code 12 = .ok (.if_icmp .ge 29, 3) := by decide +kernel
theorem d_Nm_countVariants_15 : decode prog_1_method_42_code 15 = .ok (.iload_n 1, 1) := by decide +kernel
theorem d_Nm_countVariants_16 : decode prog_1_method_42_code 16 = .ok (.aload_n 0, 1) := by decide +kernel
theorem d_Nm_countVariants_17 : decode prog_1_method_42_code 17 = .ok (.getfield 19, 3) := by decide +kernel
theorem d_Nm_countVariants_20 : decode prog_1_method_42_code 20 = .ok (.iload_n 2, 1) := by decide +kernel
theorem d_Nm_countVariants_21 : decode prog_1_method_42_code 21 = .ok (.invokevirtual 82, 3) := by decide +kernel
theorem d_Nm_countVariants_24 : decode prog_1_method_42_code 24 = .ok (.checkcast 72, 3) := by decide +kernel
theorem d_Nm_countVariants_27 : decode prog_1_method_42_code 27 = .ok (.getfield 86, 3) := by decide +kernel
theorem d_Nm_countVariants_30 : decode prog_1_method_42_code 30 = .ok (.invokevirtual 67, 3) := by decide +kernel
theorem d_Nm_countVariants_33 : decode prog_1_method_42_code 33 = .ok (.iadd, 1) := by decide +kernel
theorem d_Nm_countVariants_34 : decode prog_1_method_42_code 34 = .ok (.istore_n 1, 1) := by decide +kernel
theorem d_Nm_countVariants_35 : decode prog_1_method_42_code 35 = .ok (.iinc 2 1, 3) := by decide +kernel
theorem d_Nm_countVariants_38 : decode prog_1_method_42_code 38 = .ok (.goto (-34), 3) := by decide +kernel
theorem d_Nm_countVariants_41 : decode prog_1_method_42_code 41 = .ok (.iload_n 1, 1) := by decide +kernel
theorem d_Nm_countVariants_42 : decode prog_1_method_42_code 42 = .ok (.ireturn, 1) := by decide +kernel
set_option maxHeartbeats 4000000 in
set_option maxRecDepth 100000 in
theorem c_Nm_countVariants (l : Launch) (D : va_G) (cs : Nat → ClassId) (N0 : Nat) (H : Heap) (o z : Nat → Nat → Nat) (K : Nat → Nat → Nat → Int32) (r : Nat → Nat × Nat) (hI : nmP D cs N0 H o z K r) : Met l y_Nm_countVariants w_Nm_countVariants ({ frames := 3, cells := 0, slots := 0, locals := 64 }) (hPre D cs N0 [.ref (o 0 0)] H) (hQi (fun r H' => H' = H ∧ r = upt (cvS z) (z 3 0) 0) noA) 0 0 noA := by
  refine Met.ofW (cc := prog_1_method_42_code) (maxL := 3) (ret := (Option.some Jvm.ClassFile.FieldType.int)) (by decide) rfl ?_
  intro p e s m args below meth c s₁ B hml hv
  obtain ⟨rfl, rfl, hB⟩ := hv
  have hx := B.exec
  have hb := B.bytes
  have hr := B.returns
  have hts := atoms_spec (ws := w_Nm_countVariants) B.pre
  have htg : ∀ w ∈ gw, w.before _ s = true := fun w h => hts w (List.mem_cons_of_mem _ h)
  have hown : s.vm.findClass "NameMerges" = some m.cls := findClass_of_methodNamed B.named
  have hlocks := B.notSynchronized
  have hK := hB.1
  obtain ⟨H, hH⟩ : ∃ z : Heap, z = s.heap := ⟨_, rfl⟩
  have hz0 : H.size = s.heap.size := by rw [hH]
  have hN0 := hB.2.1
  rw [← hH] at hI
  have hS : va_S noA s.heap H [] := by rw [hH]; exact va_S.rf
  have hl := lv_entry ([.ref (o 0 0)]) (n := 3) (Nat.le_of_ble_eq_true rfl)
  rw [lg_entry_eq, ← hH]
  generalize (lg_sl ([.ref (o 0 0)]) ++ List.replicate (3 - (lg_sl ([.ref (o 0 0)])).length) Slot.unset).toArray = ls at hl ⊢
  have hl : lv_has ls 3 [(0, .ref (o 0 0))] := hl
  obtain ⟨hb0, hb1, hb3, hb5, hb4, hb6, hb11, hb17⟩ := hI.2.2.1
  refine lv_iconst (v := 0) hx hb d_Nm_countVariants_0 (by decide) ?_
  refine lv_istore_n (lv' := [(1, .int 0), (0, .ref (o 0 0))]) hx hb d_Nm_countVariants_1 rfl hl (by decide) rfl (fun ls hl => ?_)
  refine lv_iconst (v := 0) hx hb d_Nm_countVariants_2 (by decide) ?_
  refine lv_istore_n (lv' := [(2, .int 0), (1, .int 0), (0, .ref (o 0 0))]) hx hb d_Nm_countVariants_3 rfl hl (by decide) rfl (fun ls hl => ?_)
  have loop4 : ∀ (fuel : Nat) (i : Nat) (sm : Int32), z 3 0 - i < fuel → (i ≤ z 3 0) → (sm = upt (cvS z) i 0) → ∀ (locs : List Loc), va_S noA s.heap H locs → ∀ (ls : Array Slot), lv_has ls 3 [(0, .ref (o 0 0)), (1, .int sm), (2, .int (nI i))] → W p l e (headSpec w_Nm_countVariants ({ frames := 3, cells := 0, slots := 0, locals := 64 })).room s m ([.ref (o 0 0)] : List Value).toArray below meth c H locs 0 0 (MQ below (hQi (fun r H' => H' = H ∧ r = upt (cvS z) (z 3 0) 0) noA) ([.ref (o 0 0)] : List Value).toArray s 0 0 noA) (F0 m 4 ls []) := by
    intro fuel4
    induction fuel4 with
    | zero => intro i sm hn; exact absurd hn (Nat.not_lt_zero _)
    | succ fuel4 ih4 =>
      intro i sm hn4 hi hs locs hS ls hl
      refine lv_iload_n hx hb d_Nm_countVariants_4 rfl (lv_at hl 2 rfl) ?_
      refine lv_aload_n hx hb d_Nm_countVariants_5 rfl (lv_at hl 0 rfl) ?_
      refine hx_get (ref := "NameMerges") (v := .ref (o 3 0)) hx hb htg iNm hown hK (show va_at D vwCl (o 0 0, .inr (1, [.ref (o 1 0), .ref (o 3 0), .ref (o 5 0), .ref (o 7 0), .ref (o 8 0), .int (nI (z 0 0)), .int (K 0 0 0), .ref (o 9 0)])) H from hI.at (k := 0) (n := 0) (show nmv z 0 0 from rfl)) rfl 1 (by decide) (htg _ (gw_mem (i := 127) (by decide +kernel) rfl)) (fun _ h9 => h9) rfl d_Nm_countVariants_6 ?_
      refine h_purei (va_runV (As := []) (rest := [.int (nI i)]) ⟨hx, hb, hml, hown, htg⟩ (c_AL_size l D cs N0 H (o 3 0) (nmL cs (z 3 0) (o 4 0)) (z 3 0) (K 3 0 0) (show va_at D vwCl (o 3 0, .inr (6, [.ref (nmL cs (z 3 0) (o 4 0)), .int (nI (z 3 0)), .int (K 3 0 0)])) H from hI.at (k := 3) (n := 0) (show nmv z 3 0 from rfl))) ⟨x_cwB 0 htg (gw_mem (i := 503) (by decide +kernel) rfl) (gw_mem (i := 37) (by decide +kernel) rfl) (gw_mem (i := 500) (by decide +kernel) rfl) (by decide +kernel) ⟨Nat.le_of_ble_eq_true rfl, Nat.le_of_ble_eq_true rfl⟩, htg _ (gw_mem (i := 501) (by decide +kernel) rfl), htg _ (gw_mem (i := 502) (by decide +kernel) rfl)⟩ ⟨hPre.blind, hx_recv hK (ci := 6) rfl (show va_at D vwCl (o 3 0, .inr (6, [.ref (nmL cs (z 3 0) (o 4 0)), .int (nI (z 3 0)), .int (K 3 0 0)])) H from hI.at (k := 3) (n := 0) (show nmv z 3 0 from rfl)), hPre.at hB hS noA_in⟩ rfl rfl hl.1 rfl (lv_room (Nat.le_of_ble_eq_true rfl)) d_Nm_countVariants_9 ⟨Nat.le_of_ble_eq_true rfl, Nat.le_of_ble_eq_true rfl⟩) hS (fun locs hS => ?_)
      refine lv_icmp_ge (x := (nI i)) (y := (nI (z 3 0))) (tgt := 41) hx hb d_Nm_countVariants_12 (by decide) (fun c12 => ?_) (fun c12 => ?_)
      · skip
        replace c12 : (z 3 0) ≤ i := (nI_leI (a := (z 3 0)) (b := i) (by omega) (by omega)).mp c12
        refine lv_iload_n hx hb d_Nm_countVariants_41 rfl (lv_at hl 1 rfl) ?_
        exact W.iret (v := sm) hx hb hr (fun t ht hW => ⟨⟨sm, H, rfl, ⟨rfl, by rw [hs, show i = z 3 0 by omega]⟩, ht⟩, hS.F ht⟩) hS.2.2 d_Nm_countVariants_42
      · skip
        replace c12 : ¬ ((z 3 0) ≤ i) := fun z9 => c12 ((nI_leI (a := (z 3 0)) (b := i) (by omega) (by omega)).mpr z9)
        refine lv_iload_n hx hb d_Nm_countVariants_15 rfl (lv_at hl 1 rfl) ?_
        refine lv_aload_n hx hb d_Nm_countVariants_16 rfl (lv_at hl 0 rfl) ?_
        refine hx_get (ref := "NameMerges") (v := .ref (o 3 0)) hx hb htg iNm hown hK (show va_at D vwCl (o 0 0, .inr (1, [.ref (o 1 0), .ref (o 3 0), .ref (o 5 0), .ref (o 7 0), .ref (o 8 0), .int (nI (z 0 0)), .int (K 0 0 0), .ref (o 9 0)])) H from hI.at (k := 0) (n := 0) (show nmv z 0 0 from rfl)) rfl 1 (by decide) (htg _ (gw_mem (i := 127) (by decide +kernel) rfl)) (fun _ h9 => h9) rfl d_Nm_countVariants_17 ?_
        refine lv_iload_n hx hb d_Nm_countVariants_20 rfl (lv_at hl 2 rfl) ?_
        refine h_pureq (va_runV (As := [.int (nI i)]) (rest := [.int sm]) ⟨hx, hb, hml, hown, htg⟩ (c_names_get l D cs N0 H o z K r i hI (show i < z 3 0 by omega)) ⟨x_cwB 1 htg (gw_mem (i := 512) (by decide +kernel) rfl) (gw_mem (i := 37) (by decide +kernel) rfl) (gw_mem (i := 509) (by decide +kernel) rfl) (by decide +kernel) ⟨Nat.le_of_ble_eq_true rfl, Nat.le_of_ble_eq_true rfl⟩, htg _ (gw_mem (i := 510) (by decide +kernel) rfl), htg _ (gw_mem (i := 511) (by decide +kernel) rfl)⟩ ⟨hPre.blind, hx_recv hK (ci := 6) rfl (show va_at D vwCl (o 3 0, .inr (6, [.ref (nmL cs (z 3 0) (o 4 0)), .int (nI (z 3 0)), .int (K 3 0 0)])) H from hI.at (k := 3) (n := 0) (show nmv z 3 0 from rfl)), hPre.at hB hS noA_in⟩ rfl rfl hl.1 rfl (lv_room (Nat.le_of_ble_eq_true rfl)) d_Nm_countVariants_21 ⟨Nat.le_of_ble_eq_true rfl, Nat.le_of_ble_eq_true rfl⟩) hS (fun locs hS => ?_)
        refine lv_eqv (y := .ref (o 10 i)) rfl ?_
        refine va_castS hx hb hown (htg _ (gw_mem (i := 536) (by decide +kernel) rfl)) (x_at hK (ci := 2) rfl) (hx_recv hK (ci := 2) rfl (show va_at D vwCl (o 10 i, .inr (2, [.ref (o 11 i), .ref (o 13 i), va_rf (if z 14 i = 0 then none else some (o 14 i)), .int (K 10 i 0), .int (K 10 i 1), .int (K 10 i 2), .int (K 10 i 3)])) H from hI.at (k := 10) (n := i) (show nmv z 10 i from (show i < z 3 0 by omega)))) d_Nm_countVariants_24 ?_
        refine hx_get (ref := "NameMerges$Name") (v := .ref (o 11 i)) hx hb htg iNa hown hK (show va_at D vwCl (o 10 i, .inr (2, [.ref (o 11 i), .ref (o 13 i), va_rf (if z 14 i = 0 then none else some (o 14 i)), .int (K 10 i 0), .int (K 10 i 1), .int (K 10 i 2), .int (K 10 i 3)])) H from hI.at (k := 10) (n := i) (show nmv z 10 i from (show i < z 3 0 by omega))) rfl 0 (by decide) (htg _ (gw_mem (i := 653) (by decide +kernel) rfl)) (fun _ h9 => h9) rfl d_Nm_countVariants_27 ?_
        refine h_purei (va_runV (As := []) (rest := [.int sm]) ⟨hx, hb, hml, hown, htg⟩ (c_AL_size l D cs N0 H (o 11 i) (nmL cs (z 11 i) (o 12 i)) (z 11 i) (K 11 i 0) (show va_at D vwCl (o 11 i, .inr (6, [.ref (nmL cs (z 11 i) (o 12 i)), .int (nI (z 11 i)), .int (K 11 i 0)])) H from hI.at (k := 11) (n := i) (show nmv z 11 i from (show i < z 3 0 by omega)))) ⟨x_cwB 0 htg (gw_mem (i := 503) (by decide +kernel) rfl) (gw_mem (i := 37) (by decide +kernel) rfl) (gw_mem (i := 500) (by decide +kernel) rfl) (by decide +kernel) ⟨Nat.le_of_ble_eq_true rfl, Nat.le_of_ble_eq_true rfl⟩, htg _ (gw_mem (i := 501) (by decide +kernel) rfl), htg _ (gw_mem (i := 502) (by decide +kernel) rfl)⟩ ⟨hPre.blind, hx_recv hK (ci := 6) rfl (show va_at D vwCl (o 11 i, .inr (6, [.ref (nmL cs (z 11 i) (o 12 i)), .int (nI (z 11 i)), .int (K 11 i 0)])) H from hI.at (k := 11) (n := i) (show nmv z 11 i from (show i < z 3 0 by omega))), hPre.at hB hS noA_in⟩ rfl rfl hl.1 rfl (lv_room (Nat.le_of_ble_eq_true rfl)) d_Nm_countVariants_30 ⟨Nat.le_of_ble_eq_true rfl, Nat.le_of_ble_eq_true rfl⟩) hS (fun locs hS => ?_)
        refine lv_iadd (x := sm) (y := (nI (z 11 i))) hx hb d_Nm_countVariants_33 ?_
        refine lv_istore_n (lv' := [(1, .int (sm + (nI (z 11 i)))), (0, .ref (o 0 0)), (2, .int (nI i))]) hx hb d_Nm_countVariants_34 rfl hl (by decide) rfl (fun ls hl => ?_)
        refine lv_iinc (v := (nI (i + 1))) (lv' := [(2, .int (nI (i + 1))), (1, .int (sm + (nI (z 11 i)))), (0, .ref (o 0 0))]) hx hb d_Nm_countVariants_35 hl (k := 2) rfl (nI_1 i) (by decide) rfl (fun ls hl => ?_)
        refine lv_goto (tgt := 4) hx hb d_Nm_countVariants_38 (by decide) ?_
        exact ih4  (i + 1) (sm + (nI (z 11 i))) (by omega) (by omega) (by rw [show upt (cvS z) (i + 1) 0 = (cvS z) (upt (cvS z) i 0) i from rfl, ← hs]; rfl) _ hS ls (lv_sub hl [2, 1, 0] rfl)
  exact loop4 ((z 3 0 - 0) + 1) 0 0 (Nat.lt_succ_self _) (Nat.zero_le _) rfl _ hS ls (lv_sub hl [2, 1, 0] rfl)
def cdS (K : Nat → Nat → Nat → Int32) (a : Int32) (i : Nat) : Int32 := if K 7 0 i = 0 then a else a + 1
def y_Nm_countDecided : MethodName := ⟨"NameMerges", "countDecided", "()I"⟩
abbrev w_Nm_countDecided : List Cond := Cond.code y_Nm_countDecided prog_1_method_43_code 6 (Option.some Jvm.ClassFile.FieldType.int) :: gw
theorem d_Nm_countDecided_0 : decode prog_1_method_43_code 0 = .ok (.iconst 0, 1) := by decide +kernel
theorem d_Nm_countDecided_1 : decode prog_1_method_43_code 1 = .ok (.istore_n 1, 1) := by decide +kernel
theorem d_Nm_countDecided_2 : decode prog_1_method_43_code 2 = .ok (.aload_n 0, 1) := by decide +kernel
theorem d_Nm_countDecided_3 : decode prog_1_method_43_code 3 = .ok (.getfield 26, 3) := by decide +kernel
theorem d_Nm_countDecided_6 : decode prog_1_method_43_code 6 = .ok (.astore_n 2, 1) := by decide +kernel
theorem d_Nm_countDecided_7 : decode prog_1_method_43_code 7 = .ok (.aload_n 2, 1) := by decide +kernel
theorem d_Nm_countDecided_8 : decode prog_1_method_43_code 8 = .ok (.arraylength, 1) := by decide +kernel
theorem d_Nm_countDecided_9 : decode prog_1_method_43_code 9 = .ok (.istore_n 3, 1) := by decide +kernel
theorem d_Nm_countDecided_10 : decode prog_1_method_43_code 10 = .ok (.iconst 0, 1) := by decide +kernel
theorem d_Nm_countDecided_11 : decode prog_1_method_43_code 11 = .ok (.istore 4, 2) := by decide +kernel
theorem d_Nm_countDecided_13 : decode prog_1_method_43_code 13 = .ok (.iload 4, 2) := by decide +kernel
theorem d_Nm_countDecided_15 : decode prog_1_method_43_code 15 = .ok (.iload_n 3, 1) := by decide +kernel
theorem d_Nm_countDecided_16 : decode prog_1_method_43_code 16 = .ok (.if_icmp .ge 23, 3) := by decide +kernel
theorem d_Nm_countDecided_19 : decode prog_1_method_43_code 19 = .ok (.aload_n 2, 1) := by decide +kernel
theorem d_Nm_countDecided_20 : decode prog_1_method_43_code 20 = .ok (.iload 4, 2) := by decide +kernel
theorem d_Nm_countDecided_22 : decode prog_1_method_43_code 22 = .ok (.iaload, 1) := by decide +kernel
theorem d_Nm_countDecided_23 : decode prog_1_method_43_code 23 = .ok (.istore 5, 2) := by decide +kernel
theorem d_Nm_countDecided_25 : decode prog_1_method_43_code 25 = .ok (.iload 5, 2) := by decide +kernel
theorem d_Nm_countDecided_27 : decode prog_1_method_43_code 27 = .ok (.ifCond .eq 6, 3) := by decide +kernel
theorem d_Nm_countDecided_30 : decode prog_1_method_43_code 30 = .ok (.iinc 1 1, 3) := by decide +kernel
theorem d_Nm_countDecided_33 : decode prog_1_method_43_code 33 = .ok (.iinc 4 1, 3) := by decide +kernel
theorem d_Nm_countDecided_36 : decode prog_1_method_43_code 36 = .ok (.goto (-23), 3) := by decide +kernel
theorem d_Nm_countDecided_39 : decode prog_1_method_43_code 39 = .ok (.iload_n 1, 1) := by decide +kernel
theorem d_Nm_countDecided_40 : decode prog_1_method_43_code 40 = .ok (.ireturn, 1) := by decide +kernel
set_option maxHeartbeats 4000000 in
set_option maxRecDepth 100000 in
theorem c_Nm_countDecided (l : Launch) (D : va_G) (cs : Nat → ClassId) (N0 : Nat) (H : Heap) (o z : Nat → Nat → Nat) (K : Nat → Nat → Nat → Int32) (r : Nat → Nat × Nat) (hI : nmP D cs N0 H o z K r) : Met l y_Nm_countDecided w_Nm_countDecided ({ frames := 0, cells := 0, slots := 0, locals := 0 }) (hPre D cs N0 [.ref (o 0 0)] H) (hQi (fun r H' => H' = H ∧ r = upt (cdS K) 576 0) noA) 0 0 noA := by
  refine Met.ofW (cc := prog_1_method_43_code) (maxL := 6) (ret := (Option.some Jvm.ClassFile.FieldType.int)) (by decide) rfl ?_
  intro p e s m args below meth c s₁ B hml hv
  obtain ⟨rfl, rfl, hB⟩ := hv
  have hx := B.exec
  have hb := B.bytes
  have hr := B.returns
  have hts := atoms_spec (ws := w_Nm_countDecided) B.pre
  have htg : ∀ w ∈ gw, w.before _ s = true := fun w h => hts w (List.mem_cons_of_mem _ h)
  have hown : s.vm.findClass "NameMerges" = some m.cls := findClass_of_methodNamed B.named
  have hlocks := B.notSynchronized
  have hK := hB.1
  obtain ⟨H, hH⟩ : ∃ z : Heap, z = s.heap := ⟨_, rfl⟩
  have hz0 : H.size = s.heap.size := by rw [hH]
  have hN0 := hB.2.1
  rw [← hH] at hI
  have hS : va_S noA s.heap H [] := by rw [hH]; exact va_S.rf
  have hl := lv_entry ([.ref (o 0 0)]) (n := 6) (Nat.le_of_ble_eq_true rfl)
  rw [lg_entry_eq, ← hH]
  generalize (lg_sl ([.ref (o 0 0)]) ++ List.replicate (6 - (lg_sl ([.ref (o 0 0)])).length) Slot.unset).toArray = ls at hl ⊢
  have hl : lv_has ls 6 [(0, .ref (o 0 0))] := hl
  obtain ⟨hb0, hb1, hb3, hb5, hb4, hb6, hb11, hb17⟩ := hI.2.2.1
  refine lv_iconst (v := 0) hx hb d_Nm_countDecided_0 (by decide) ?_
  refine lv_istore_n (lv' := [(1, .int 0), (0, .ref (o 0 0))]) hx hb d_Nm_countDecided_1 rfl hl (by decide) rfl (fun ls hl => ?_)
  refine lv_aload_n hx hb d_Nm_countDecided_2 rfl (lv_at hl 1 rfl) ?_
  refine hx_get (ref := "NameMerges") (v := .ref (o 7 0)) hx hb htg iNm hown hK (show va_at D vwCl (o 0 0, .inr (1, [.ref (o 1 0), .ref (o 3 0), .ref (o 5 0), .ref (o 7 0), .ref (o 8 0), .int (nI (z 0 0)), .int (K 0 0 0), .ref (o 9 0)])) H from hI.at (k := 0) (n := 0) (show nmv z 0 0 from rfl)) rfl 3 (by decide) (htg _ (gw_mem (i := 129) (by decide +kernel) rfl)) (fun _ h9 => h9) rfl d_Nm_countDecided_3 ?_
  refine lv_astore_n (lv' := [(2, .ref (o 7 0)), (1, .int 0), (0, .ref (o 0 0))]) hx hb d_Nm_countDecided_6 rfl hl (by decide) rfl (fun ls hl => ?_)
  refine lv_aload_n hx hb d_Nm_countDecided_7 rfl (lv_at hl 0 rfl) ?_
  refine hx_alen (v := 576) hx hb hK 0 (show va_at D vwCl (o 7 0, .inl (cs 0, (576, .inl (K 7 0)))) H from hI.at (k := 7) (n := 0) (show nmv z 7 0 from rfl)) rfl rfl d_Nm_countDecided_8 ?_
  refine lv_istore_n (lv' := [(3, .int 576), (2, .ref (o 7 0)), (1, .int 0), (0, .ref (o 0 0))]) hx hb d_Nm_countDecided_9 rfl hl (by decide) rfl (fun ls hl => ?_)
  refine lv_iconst (v := 0) hx hb d_Nm_countDecided_10 (by decide) ?_
  refine lv_istore (lv' := [(4, .int 0), (3, .int 576), (2, .ref (o 7 0)), (1, .int 0), (0, .ref (o 0 0))]) hx hb d_Nm_countDecided_11 hl (by decide) rfl (fun ls hl => ?_)
  have loop13 : ∀ (fuel : Nat) (i : Nat) (sm : Int32), 576 - i < fuel → (i ≤ 576) → (sm = upt (cdS K) i 0) → ∀ (locs : List Loc), va_S noA s.heap H locs → ∀ (ls : Array Slot), lv_has ls 6 [(0, .ref (o 0 0)), (1, .int sm), (2, .ref (o 7 0)), (3, .int 576), (4, .int (nI i))] → W p l e (headSpec w_Nm_countDecided ({ frames := 0, cells := 0, slots := 0, locals := 0 })).room s m ([.ref (o 0 0)] : List Value).toArray below meth c H locs 0 0 (MQ below (hQi (fun r H' => H' = H ∧ r = upt (cdS K) 576 0) noA) ([.ref (o 0 0)] : List Value).toArray s 0 0 noA) (F0 m 13 ls []) := by
    intro fuel13
    induction fuel13 with
    | zero => intro i sm hn; exact absurd hn (Nat.not_lt_zero _)
    | succ fuel13 ih13 =>
      intro i sm hn13 hi hs locs hS ls hl
      refine lv_iload hx hb d_Nm_countDecided_13 (lv_at hl 4 rfl) ?_
      refine lv_iload_n hx hb d_Nm_countDecided_15 rfl (lv_at hl 3 rfl) ?_
      refine lv_icmp_ge (x := (nI i)) (y := 576) (tgt := 39) hx hb d_Nm_countDecided_16 (by decide) (fun c16 => ?_) (fun c16 => ?_)
      · skip
        replace c16 : 576 ≤ i := (nI_leI (a := 576) (b := i) (by omega) (by omega)).mp c16
        refine lv_iload_n hx hb d_Nm_countDecided_39 rfl (lv_at hl 1 rfl) ?_
        exact W.iret (v := sm) hx hb hr (fun t ht hW => ⟨⟨sm, H, rfl, ⟨rfl, by rw [hs, show i = 576 by omega]⟩, ht⟩, hS.F ht⟩) hS.2.2 d_Nm_countDecided_40
      · skip
        replace c16 : ¬ (576 ≤ i) := fun z9 => c16 ((nI_leI (a := 576) (b := i) (by omega) (by omega)).mpr z9)
        refine lv_aload_n hx hb d_Nm_countDecided_19 rfl (lv_at hl 2 rfl) ?_
        refine lv_iload hx hb d_Nm_countDecided_20 (lv_at hl 4 rfl) ?_
        refine hx_iald hx hb hK 0 (show va_at D vwCl (o 7 0, .inl (cs 0, (576, .inl (K 7 0)))) H from hI.at (k := 7) (n := 0) (show nmv z 7 0 from rfl)) rfl (show vp_in (nI i) 576 from vp_in_nI (n := i) (by omega) (by omega)) d_Nm_countDecided_22 ?_
        refine lv_eqi (y := ((K 7 0) i)) (show (K 7 0) (nI i).toNatClampNeg = _ by rw [nI_clamp (by omega)]) ?_
        refine lv_istore (lv' := [(5, .int ((K 7 0) i)), (0, .ref (o 0 0)), (1, .int sm), (2, .ref (o 7 0)), (3, .int 576), (4, .int (nI i))]) hx hb d_Nm_countDecided_23 hl (by decide) rfl (fun ls hl => ?_)
        refine lv_iload hx hb d_Nm_countDecided_25 (lv_at hl 0 rfl) ?_
        refine lv_if_eq (x := ((K 7 0) i)) (tgt := 33) hx hb d_Nm_countDecided_27 (by decide) (fun c27 => ?_) (fun c27 => ?_)
        · skip
          refine lv_iinc (v := (nI (i + 1))) (lv' := [(4, .int (nI (i + 1))), (5, .int ((K 7 0) i)), (0, .ref (o 0 0)), (1, .int sm), (2, .ref (o 7 0)), (3, .int 576)]) hx hb d_Nm_countDecided_33 hl (k := 5) rfl (nI_1 i) (by decide) rfl (fun ls hl => ?_)
          refine lv_goto (tgt := 13) hx hb d_Nm_countDecided_36 (by decide) ?_
          exact ih13  (i + 1) sm (by omega) (by omega) (by rw [show upt (cdS K) (i + 1) 0 = (cdS K) (upt (cdS K) i 0) i from rfl, ← hs]; simp [cdS, c27]) _ hS ls (lv_sub hl [2, 3, 4, 5, 0] rfl)
        · skip
          refine lv_iinc (v := (sm + 1)) (lv' := [(1, .int (sm + 1)), (5, .int ((K 7 0) i)), (0, .ref (o 0 0)), (2, .ref (o 7 0)), (3, .int 576), (4, .int (nI i))]) hx hb d_Nm_countDecided_30 hl (k := 2) rfl rfl (by decide) rfl (fun ls hl => ?_)
          refine lv_iinc (v := (nI (i + 1))) (lv' := [(4, .int (nI (i + 1))), (1, .int (sm + 1)), (5, .int ((K 7 0) i)), (0, .ref (o 0 0)), (2, .ref (o 7 0)), (3, .int 576)]) hx hb d_Nm_countDecided_33 hl (k := 5) rfl (nI_1 i) (by decide) rfl (fun ls hl => ?_)
          refine lv_goto (tgt := 13) hx hb d_Nm_countDecided_36 (by decide) ?_
          exact ih13  (i + 1) (sm + 1) (by omega) (by omega) (by rw [show upt (cdS K) (i + 1) 0 = (cdS K) (upt (cdS K) i 0) i from rfl, ← hs]; simp [cdS, c27]) _ hS ls (lv_sub hl [3, 1, 4, 5, 0] rfl)
  exact loop13 ((576 - 0) + 1) 0 0 (Nat.lt_succ_self _) (Nat.zero_le _) rfl _ hS ls (lv_sub hl [4, 3, 2, 1, 0] rfl)
def cbS (K : Nat → Nat → Nat → Int32) (a : Int32) (n : Nat) : Int32 := a + bcV (K 10 n 2)
def y_Nm_countBroader : MethodName := ⟨"NameMerges", "countBroader", "()I"⟩
abbrev w_Nm_countBroader : List Cond := Cond.code y_Nm_countBroader prog_1_method_44_code 3 (Option.some Jvm.ClassFile.FieldType.int) :: gw
theorem d_Nm_countBroader_0 : decode prog_1_method_44_code 0 = .ok (.iconst 0, 1) := by decide +kernel
theorem d_Nm_countBroader_1 : decode prog_1_method_44_code 1 = .ok (.istore_n 1, 1) := by decide +kernel
theorem d_Nm_countBroader_2 : decode prog_1_method_44_code 2 = .ok (.iconst 0, 1) := by decide +kernel
theorem d_Nm_countBroader_3 : decode prog_1_method_44_code 3 = .ok (.istore_n 2, 1) := by decide +kernel
theorem d_Nm_countBroader_4 : decode prog_1_method_44_code 4 = .ok (.iload_n 2, 1) := by decide +kernel
theorem d_Nm_countBroader_5 : decode prog_1_method_44_code 5 = .ok (.aload_n 0, 1) := by decide +kernel
theorem d_Nm_countBroader_6 : decode prog_1_method_44_code 6 = .ok (.getfield 19, 3) := by decide +kernel
theorem d_Nm_countBroader_9 : decode prog_1_method_44_code 9 = .ok (.invokevirtual 67, 3) := by decide +kernel
theorem d_Nm_countBroader_12 : decode prog_1_method_44_code 12 = .ok (.if_icmp .ge 29, 3) := by decide +kernel
theorem d_Nm_countBroader_15 : decode prog_1_method_44_code 15 = .ok (.iload_n 1, 1) := by decide +kernel
theorem d_Nm_countBroader_16 : decode prog_1_method_44_code 16 = .ok (.aload_n 0, 1) := by decide +kernel
theorem d_Nm_countBroader_17 : decode prog_1_method_44_code 17 = .ok (.getfield 19, 3) := by decide +kernel
theorem d_Nm_countBroader_20 : decode prog_1_method_44_code 20 = .ok (.iload_n 2, 1) := by decide +kernel
theorem d_Nm_countBroader_21 : decode prog_1_method_44_code 21 = .ok (.invokevirtual 82, 3) := by decide +kernel
theorem d_Nm_countBroader_24 : decode prog_1_method_44_code 24 = .ok (.checkcast 72, 3) := by decide +kernel
theorem d_Nm_countBroader_27 : decode prog_1_method_44_code 27 = .ok (.getfield 201, 3) := by decide +kernel
theorem d_Nm_countBroader_30 : decode prog_1_method_44_code 30 = .ok (.invokestatic 211, 3) := by decide +kernel
theorem d_Nm_countBroader_33 : decode prog_1_method_44_code 33 = .ok (.iadd, 1) := by decide +kernel
theorem d_Nm_countBroader_34 : decode prog_1_method_44_code 34 = .ok (.istore_n 1, 1) := by decide +kernel
theorem d_Nm_countBroader_35 : decode prog_1_method_44_code 35 = .ok (.iinc 2 1, 3) := by decide +kernel
theorem d_Nm_countBroader_38 : decode prog_1_method_44_code 38 = .ok (.goto (-34), 3) := by decide +kernel
theorem d_Nm_countBroader_41 : decode prog_1_method_44_code 41 = .ok (.iload_n 1, 1) := by decide +kernel
theorem d_Nm_countBroader_42 : decode prog_1_method_44_code 42 = .ok (.ireturn, 1) := by decide +kernel
set_option maxHeartbeats 4000000 in
set_option maxRecDepth 100000 in
theorem c_Nm_countBroader (l : Launch) (D : va_G) (cs : Nat → ClassId) (N0 : Nat) (H : Heap) (o z : Nat → Nat → Nat) (K : Nat → Nat → Nat → Int32) (r : Nat → Nat × Nat) (hI : nmP D cs N0 H o z K r) : Met l y_Nm_countBroader w_Nm_countBroader ({ frames := 3, cells := 0, slots := 0, locals := 64 }) (hPre D cs N0 [.ref (o 0 0)] H) (hQi (fun r H' => H' = H ∧ r = upt (cbS K) (z 3 0) 0) noA) 0 0 noA := by
  refine Met.ofW (cc := prog_1_method_44_code) (maxL := 3) (ret := (Option.some Jvm.ClassFile.FieldType.int)) (by decide) rfl ?_
  intro p e s m args below meth c s₁ B hml hv
  obtain ⟨rfl, rfl, hB⟩ := hv
  have hx := B.exec
  have hb := B.bytes
  have hr := B.returns
  have hts := atoms_spec (ws := w_Nm_countBroader) B.pre
  have htg : ∀ w ∈ gw, w.before _ s = true := fun w h => hts w (List.mem_cons_of_mem _ h)
  have hown : s.vm.findClass "NameMerges" = some m.cls := findClass_of_methodNamed B.named
  have hlocks := B.notSynchronized
  have hK := hB.1
  obtain ⟨H, hH⟩ : ∃ z : Heap, z = s.heap := ⟨_, rfl⟩
  have hz0 : H.size = s.heap.size := by rw [hH]
  have hN0 := hB.2.1
  rw [← hH] at hI
  have hS : va_S noA s.heap H [] := by rw [hH]; exact va_S.rf
  have hl := lv_entry ([.ref (o 0 0)]) (n := 3) (Nat.le_of_ble_eq_true rfl)
  rw [lg_entry_eq, ← hH]
  generalize (lg_sl ([.ref (o 0 0)]) ++ List.replicate (3 - (lg_sl ([.ref (o 0 0)])).length) Slot.unset).toArray = ls at hl ⊢
  have hl : lv_has ls 3 [(0, .ref (o 0 0))] := hl
  obtain ⟨hb0, hb1, hb3, hb5, hb4, hb6, hb11, hb17⟩ := hI.2.2.1
  refine lv_iconst (v := 0) hx hb d_Nm_countBroader_0 (by decide) ?_
  refine lv_istore_n (lv' := [(1, .int 0), (0, .ref (o 0 0))]) hx hb d_Nm_countBroader_1 rfl hl (by decide) rfl (fun ls hl => ?_)
  refine lv_iconst (v := 0) hx hb d_Nm_countBroader_2 (by decide) ?_
  refine lv_istore_n (lv' := [(2, .int 0), (1, .int 0), (0, .ref (o 0 0))]) hx hb d_Nm_countBroader_3 rfl hl (by decide) rfl (fun ls hl => ?_)
  have loop4 : ∀ (fuel : Nat) (i : Nat) (sm : Int32), z 3 0 - i < fuel → (i ≤ z 3 0) → (sm = upt (cbS K) i 0) → ∀ (locs : List Loc), va_S noA s.heap H locs → ∀ (ls : Array Slot), lv_has ls 3 [(0, .ref (o 0 0)), (1, .int sm), (2, .int (nI i))] → W p l e (headSpec w_Nm_countBroader ({ frames := 3, cells := 0, slots := 0, locals := 64 })).room s m ([.ref (o 0 0)] : List Value).toArray below meth c H locs 0 0 (MQ below (hQi (fun r H' => H' = H ∧ r = upt (cbS K) (z 3 0) 0) noA) ([.ref (o 0 0)] : List Value).toArray s 0 0 noA) (F0 m 4 ls []) := by
    intro fuel4
    induction fuel4 with
    | zero => intro i sm hn; exact absurd hn (Nat.not_lt_zero _)
    | succ fuel4 ih4 =>
      intro i sm hn4 hi hs locs hS ls hl
      refine lv_iload_n hx hb d_Nm_countBroader_4 rfl (lv_at hl 2 rfl) ?_
      refine lv_aload_n hx hb d_Nm_countBroader_5 rfl (lv_at hl 0 rfl) ?_
      refine hx_get (ref := "NameMerges") (v := .ref (o 3 0)) hx hb htg iNm hown hK (show va_at D vwCl (o 0 0, .inr (1, [.ref (o 1 0), .ref (o 3 0), .ref (o 5 0), .ref (o 7 0), .ref (o 8 0), .int (nI (z 0 0)), .int (K 0 0 0), .ref (o 9 0)])) H from hI.at (k := 0) (n := 0) (show nmv z 0 0 from rfl)) rfl 1 (by decide) (htg _ (gw_mem (i := 127) (by decide +kernel) rfl)) (fun _ h9 => h9) rfl d_Nm_countBroader_6 ?_
      refine h_purei (va_runV (As := []) (rest := [.int (nI i)]) ⟨hx, hb, hml, hown, htg⟩ (c_AL_size l D cs N0 H (o 3 0) (nmL cs (z 3 0) (o 4 0)) (z 3 0) (K 3 0 0) (show va_at D vwCl (o 3 0, .inr (6, [.ref (nmL cs (z 3 0) (o 4 0)), .int (nI (z 3 0)), .int (K 3 0 0)])) H from hI.at (k := 3) (n := 0) (show nmv z 3 0 from rfl))) ⟨x_cwB 0 htg (gw_mem (i := 503) (by decide +kernel) rfl) (gw_mem (i := 37) (by decide +kernel) rfl) (gw_mem (i := 500) (by decide +kernel) rfl) (by decide +kernel) ⟨Nat.le_of_ble_eq_true rfl, Nat.le_of_ble_eq_true rfl⟩, htg _ (gw_mem (i := 501) (by decide +kernel) rfl), htg _ (gw_mem (i := 502) (by decide +kernel) rfl)⟩ ⟨hPre.blind, hx_recv hK (ci := 6) rfl (show va_at D vwCl (o 3 0, .inr (6, [.ref (nmL cs (z 3 0) (o 4 0)), .int (nI (z 3 0)), .int (K 3 0 0)])) H from hI.at (k := 3) (n := 0) (show nmv z 3 0 from rfl)), hPre.at hB hS noA_in⟩ rfl rfl hl.1 rfl (lv_room (Nat.le_of_ble_eq_true rfl)) d_Nm_countBroader_9 ⟨Nat.le_of_ble_eq_true rfl, Nat.le_of_ble_eq_true rfl⟩) hS (fun locs hS => ?_)
      refine lv_icmp_ge (x := (nI i)) (y := (nI (z 3 0))) (tgt := 41) hx hb d_Nm_countBroader_12 (by decide) (fun c12 => ?_) (fun c12 => ?_)
      · skip
        replace c12 : (z 3 0) ≤ i := (nI_leI (a := (z 3 0)) (b := i) (by omega) (by omega)).mp c12
        refine lv_iload_n hx hb d_Nm_countBroader_41 rfl (lv_at hl 1 rfl) ?_
        exact W.iret (v := sm) hx hb hr (fun t ht hW => ⟨⟨sm, H, rfl, ⟨rfl, by rw [hs, show i = z 3 0 by omega]⟩, ht⟩, hS.F ht⟩) hS.2.2 d_Nm_countBroader_42
      · skip
        replace c12 : ¬ ((z 3 0) ≤ i) := fun z9 => c12 ((nI_leI (a := (z 3 0)) (b := i) (by omega) (by omega)).mpr z9)
        refine lv_iload_n hx hb d_Nm_countBroader_15 rfl (lv_at hl 1 rfl) ?_
        refine lv_aload_n hx hb d_Nm_countBroader_16 rfl (lv_at hl 0 rfl) ?_
        refine hx_get (ref := "NameMerges") (v := .ref (o 3 0)) hx hb htg iNm hown hK (show va_at D vwCl (o 0 0, .inr (1, [.ref (o 1 0), .ref (o 3 0), .ref (o 5 0), .ref (o 7 0), .ref (o 8 0), .int (nI (z 0 0)), .int (K 0 0 0), .ref (o 9 0)])) H from hI.at (k := 0) (n := 0) (show nmv z 0 0 from rfl)) rfl 1 (by decide) (htg _ (gw_mem (i := 127) (by decide +kernel) rfl)) (fun _ h9 => h9) rfl d_Nm_countBroader_17 ?_
        refine lv_iload_n hx hb d_Nm_countBroader_20 rfl (lv_at hl 2 rfl) ?_
        refine h_pureq (va_runV (As := [.int (nI i)]) (rest := [.int sm]) ⟨hx, hb, hml, hown, htg⟩ (c_names_get l D cs N0 H o z K r i hI (show i < z 3 0 by omega)) ⟨x_cwB 1 htg (gw_mem (i := 512) (by decide +kernel) rfl) (gw_mem (i := 37) (by decide +kernel) rfl) (gw_mem (i := 509) (by decide +kernel) rfl) (by decide +kernel) ⟨Nat.le_of_ble_eq_true rfl, Nat.le_of_ble_eq_true rfl⟩, htg _ (gw_mem (i := 510) (by decide +kernel) rfl), htg _ (gw_mem (i := 511) (by decide +kernel) rfl)⟩ ⟨hPre.blind, hx_recv hK (ci := 6) rfl (show va_at D vwCl (o 3 0, .inr (6, [.ref (nmL cs (z 3 0) (o 4 0)), .int (nI (z 3 0)), .int (K 3 0 0)])) H from hI.at (k := 3) (n := 0) (show nmv z 3 0 from rfl)), hPre.at hB hS noA_in⟩ rfl rfl hl.1 rfl (lv_room (Nat.le_of_ble_eq_true rfl)) d_Nm_countBroader_21 ⟨Nat.le_of_ble_eq_true rfl, Nat.le_of_ble_eq_true rfl⟩) hS (fun locs hS => ?_)
        refine lv_eqv (y := .ref (o 10 i)) rfl ?_
        refine va_castS hx hb hown (htg _ (gw_mem (i := 536) (by decide +kernel) rfl)) (x_at hK (ci := 2) rfl) (hx_recv hK (ci := 2) rfl (show va_at D vwCl (o 10 i, .inr (2, [.ref (o 11 i), .ref (o 13 i), va_rf (if z 14 i = 0 then none else some (o 14 i)), .int (K 10 i 0), .int (K 10 i 1), .int (K 10 i 2), .int (K 10 i 3)])) H from hI.at (k := 10) (n := i) (show nmv z 10 i from (show i < z 3 0 by omega)))) d_Nm_countBroader_24 ?_
        refine hx_get (ref := "NameMerges$Name") (v := .int (K 10 i 2)) hx hb htg iNa hown hK (show va_at D vwCl (o 10 i, .inr (2, [.ref (o 11 i), .ref (o 13 i), va_rf (if z 14 i = 0 then none else some (o 14 i)), .int (K 10 i 0), .int (K 10 i 1), .int (K 10 i 2), .int (K 10 i 3)])) H from hI.at (k := 10) (n := i) (show nmv z 10 i from (show i < z 3 0 by omega))) rfl 5 (by decide) (htg _ (gw_mem (i := 663) (by decide +kernel) rfl)) (fun _ h9 => h9) rfl d_Nm_countBroader_27 ?_
        refine h_purei (va_runS (As := [.int (K 10 i 2)]) (rest := [.int sm]) ⟨hx, hb, hml, hown, htg⟩ (c_In_bitCount l D cs N0 H (K 10 i 2)) ⟨x_cwB 1 htg (gw_mem (i := 933) (by decide +kernel) rfl) (gw_mem (i := 52) (by decide +kernel) rfl) (gw_mem (i := 931) (by decide +kernel) rfl) (by decide +kernel) ⟨Nat.le_of_ble_eq_true rfl, Nat.le_of_ble_eq_true rfl⟩, htg _ (gw_mem (i := 932) (by decide +kernel) rfl)⟩ ⟨hPre.blind, hPre.at hB hS noA_in⟩ rfl rfl hl.1 rfl (lv_room (Nat.le_of_ble_eq_true rfl)) d_Nm_countBroader_30 ⟨Nat.le_of_ble_eq_true rfl, Nat.le_of_ble_eq_true rfl⟩) hS (fun locs hS => ?_)
        refine lv_iadd (x := sm) (y := (bcV (K 10 i 2))) hx hb d_Nm_countBroader_33 ?_
        refine lv_istore_n (lv' := [(1, .int (sm + (bcV (K 10 i 2)))), (0, .ref (o 0 0)), (2, .int (nI i))]) hx hb d_Nm_countBroader_34 rfl hl (by decide) rfl (fun ls hl => ?_)
        refine lv_iinc (v := (nI (i + 1))) (lv' := [(2, .int (nI (i + 1))), (1, .int (sm + (bcV (K 10 i 2)))), (0, .ref (o 0 0))]) hx hb d_Nm_countBroader_35 hl (k := 2) rfl (nI_1 i) (by decide) rfl (fun ls hl => ?_)
        refine lv_goto (tgt := 4) hx hb d_Nm_countBroader_38 (by decide) ?_
        exact ih4  (i + 1) (sm + (bcV (K 10 i 2))) (by omega) (by omega) (by rw [show upt (cbS K) (i + 1) 0 = (cbS K) (upt (cbS K) i 0) i from rfl, ← hs]; rfl) _ hS ls (lv_sub hl [2, 1, 0] rfl)
  exact loop4 ((z 3 0 - 0) + 1) 0 0 (Nat.lt_succ_self _) (Nat.zero_le _) rfl _ hS ls (lv_sub hl [2, 1, 0] rfl)
def calP (z : Nat → Nat → Nat) (K : Nat → Nat → Nat → Int32) (n : Nat) (day : Int32) (k : Nat) (f : Nat → Int32) (j : Nat) : Bool := inB (K 18 (n * 4 + j) 0) (K 18 (n * 4 + j) 1) day && eqB (z 17 (n * 4 + j)) k (K 17 (n * 4 + j)) f
def calB (z : Nat → Nat → Nat) (K : Nat → Nat → Nat → Int32) (n : Nat) (day : Int32) (k : Nat) (f : Nat → Int32) : Bool := anyTo (calP z K n day k f) (z 11 n)
def y_Nm_isCalled : MethodName := ⟨"NameMerges", "isCalled", "(LNameMerges$Name;Ljava/lang/String;I)Z"⟩
abbrev w_Nm_isCalled : List Cond := Cond.code y_Nm_isCalled prog_1_method_40_code 5 (Option.some Jvm.ClassFile.FieldType.boolean) :: gw
theorem d_Nm_isCalled_0 : decode prog_1_method_40_code 0 = .ok (.iconst 0, 1) := by decide +kernel
theorem d_Nm_isCalled_1 : decode prog_1_method_40_code 1 = .ok (.istore_n 3, 1) := by decide +kernel
theorem d_Nm_isCalled_2 : decode prog_1_method_40_code 2 = .ok (.iload_n 3, 1) := by decide +kernel
theorem d_Nm_isCalled_3 : decode prog_1_method_40_code 3 = .ok (.aload_n 0, 1) := by decide +kernel
theorem d_Nm_isCalled_4 : decode prog_1_method_40_code 4 = .ok (.getfield 86, 3) := by decide +kernel
theorem d_Nm_isCalled_7 : decode prog_1_method_40_code 7 = .ok (.invokevirtual 67, 3) := by decide +kernel
theorem d_Nm_isCalled_10 : decode prog_1_method_40_code 10 = .ok (.if_icmp .ge 48, 3) := by decide +kernel
theorem d_Nm_isCalled_13 : decode prog_1_method_40_code 13 = .ok (.aload_n 0, 1) := by decide +kernel
theorem d_Nm_isCalled_14 : decode prog_1_method_40_code 14 = .ok (.getfield 86, 3) := by decide +kernel
theorem d_Nm_isCalled_17 : decode prog_1_method_40_code 17 = .ok (.iload_n 3, 1) := by decide +kernel
theorem d_Nm_isCalled_18 : decode prog_1_method_40_code 18 = .ok (.invokevirtual 82, 3) := by decide +kernel
theorem d_Nm_isCalled_21 : decode prog_1_method_40_code 21 = .ok (.checkcast 99, 3) := by decide +kernel
theorem d_Nm_isCalled_24 : decode prog_1_method_40_code 24 = .ok (.astore 4, 2) := by decide +kernel
theorem d_Nm_isCalled_26 : decode prog_1_method_40_code 26 = .ok (.aload 4, 2) := by decide +kernel
theorem d_Nm_isCalled_28 : decode prog_1_method_40_code 28 = .ok (.getfield 292, 3) := by decide +kernel
theorem d_Nm_isCalled_31 : decode prog_1_method_40_code 31 = .ok (.iload_n 2, 1) := by decide +kernel
theorem d_Nm_isCalled_32 : decode prog_1_method_40_code 32 = .ok (.invokevirtual 295, 3) := by decide +kernel
theorem d_Nm_isCalled_35 : decode prog_1_method_40_code 35 = .ok (.ifCond .eq 17, 3) := by decide +kernel
theorem d_Nm_isCalled_38 : decode prog_1_method_40_code 38 = .ok (.aload 4, 2) := by decide +kernel
theorem d_Nm_isCalled_40 : decode prog_1_method_40_code 40 = .ok (.getfield 268, 3) := by decide +kernel
theorem d_Nm_isCalled_43 : decode prog_1_method_40_code 43 = .ok (.aload_n 1, 1) := by decide +kernel
theorem d_Nm_isCalled_44 : decode prog_1_method_40_code 44 = .ok (.invokevirtual 298, 3) := by decide +kernel
theorem d_Nm_isCalled_47 : decode prog_1_method_40_code 47 = .ok (.ifCond .eq 5, 3) := by decide +kernel
theorem d_Nm_isCalled_50 : decode prog_1_method_40_code 50 = .ok (.iconst 1, 1) := by decide +kernel
theorem d_Nm_isCalled_51 : decode prog_1_method_40_code 51 = .ok (.ireturn, 1) := by decide +kernel
theorem d_Nm_isCalled_52 : decode prog_1_method_40_code 52 = .ok (.iinc 3 1, 3) := by decide +kernel
theorem d_Nm_isCalled_55 : decode prog_1_method_40_code 55 = .ok (.goto (-53), 3) := by decide +kernel
theorem d_Nm_isCalled_58 : decode prog_1_method_40_code 58 = .ok (.iconst 0, 1) := by decide +kernel
theorem d_Nm_isCalled_59 : decode prog_1_method_40_code 59 = .ok (.ireturn, 1) := by decide +kernel
set_option maxHeartbeats 4000000 in
set_option maxRecDepth 100000 in
theorem c_Nm_isCalled (l : Launch) (D : va_G) (cs : Nat → ClassId) (N0 : Nat) (H : Heap) (o z : Nat → Nat → Nat) (K : Nat → Nat → Nat → Int32) (r : Nat → Nat × Nat) (n w wb k : Nat) (day ws wz : Int32) (f : Nat → Int32) (hI : nmP D cs N0 H o z K r) (hn : n < z 3 0) (hw : va_at D vwCl (w, .inr (8, [.ref wb, .int 0, .int ws, .int wz])) H) (hwb : va_at D vwCl (wb, .inl (cs 2, (k, .inl f))) H) (hwo : ∀ m, nmv z 16 m → o 16 m ≠ w) (hk : k < 2147483648) : Met l y_Nm_isCalled w_Nm_isCalled ({ frames := 3, cells := 0, slots := 0, locals := 64 }) (hPre D cs N0 [.ref (o 10 n), .ref w, .int day] H) (hQi (fun r H' => H' = H ∧ r = bI (calB z K n day k f)) noA) 0 0 noA := by
  refine Met.ofW (cc := prog_1_method_40_code) (maxL := 5) (ret := (Option.some Jvm.ClassFile.FieldType.boolean)) (by decide) rfl ?_
  intro p e s m args below meth c s₁ B hml hv
  obtain ⟨rfl, rfl, hB⟩ := hv
  have hx := B.exec
  have hb := B.bytes
  have hr := B.returns
  have hts := atoms_spec (ws := w_Nm_isCalled) B.pre
  have htg : ∀ w ∈ gw, w.before _ s = true := fun w h => hts w (List.mem_cons_of_mem _ h)
  have hown : s.vm.findClass "NameMerges" = some m.cls := findClass_of_methodNamed B.named
  have hlocks := B.notSynchronized
  have hK := hB.1
  obtain ⟨H, hH⟩ : ∃ z : Heap, z = s.heap := ⟨_, rfl⟩
  have hz0 : H.size = s.heap.size := by rw [hH]
  have hN0 := hB.2.1
  rw [← hH] at hI hw hwb
  have hS : va_S noA s.heap H [] := by rw [hH]; exact va_S.rf
  have hl := lv_entry ([.ref (o 10 n), .ref w, .int day]) (n := 5) (Nat.le_of_ble_eq_true rfl)
  rw [lg_entry_eq, ← hH]
  generalize (lg_sl ([.ref (o 10 n), .ref w, .int day]) ++ List.replicate (5 - (lg_sl ([.ref (o 10 n), .ref w, .int day])).length) Slot.unset).toArray = ls at hl ⊢
  have hl : lv_has ls 5 [(0, .ref (o 10 n)), (1, .ref w), (2, .int day)] := hl
  obtain ⟨hb0, hb1, hb3, hb5, hb4, hb6, hb11, hb17⟩ := hI.2.2.1
  have h11 := hb11 n
  refine lv_iconst (v := 0) hx hb d_Nm_isCalled_0 (by decide) ?_
  refine lv_istore_n (lv' := [(3, .int 0), (0, .ref (o 10 n)), (1, .ref w), (2, .int day)]) hx hb d_Nm_isCalled_1 rfl hl (by decide) rfl (fun ls hl => ?_)
  have loop2 : ∀ (fuel : Nat) (j : Nat), z 11 n - j < fuel → (j ≤ z 11 n) → (anyTo (calP z K n day k f) j = false) → ∀ (locs : List Loc), va_S noA s.heap H locs → ∀ (ls : Array Slot), lv_has ls 5 [(0, .ref (o 10 n)), (1, .ref w), (2, .int day), (3, .int (nI j))] → W p l e (headSpec w_Nm_isCalled ({ frames := 3, cells := 0, slots := 0, locals := 64 })).room s m ([.ref (o 10 n), .ref w, .int day] : List Value).toArray below meth c H locs 0 0 (MQ below (hQi (fun r H' => H' = H ∧ r = bI (calB z K n day k f)) noA) ([.ref (o 10 n), .ref w, .int day] : List Value).toArray s 0 0 noA) (F0 m 2 ls []) := by
    intro fuel2
    induction fuel2 with
    | zero => intro j hn; exact absurd hn (Nat.not_lt_zero _)
    | succ fuel2 ih2 =>
      intro j hn2 hj hp locs hS ls hl
      refine lv_iload_n hx hb d_Nm_isCalled_2 rfl (lv_at hl 3 rfl) ?_
      refine lv_aload_n hx hb d_Nm_isCalled_3 rfl (lv_at hl 0 rfl) ?_
      refine hx_get (ref := "NameMerges$Name") (v := .ref (o 11 n)) hx hb htg iNa hown hK (show va_at D vwCl (o 10 n, .inr (2, [.ref (o 11 n), .ref (o 13 n), va_rf (if z 14 n = 0 then none else some (o 14 n)), .int (K 10 n 0), .int (K 10 n 1), .int (K 10 n 2), .int (K 10 n 3)])) H from hI.at (k := 10) (n := n) (show nmv z 10 n from (show n < z 3 0 by omega))) rfl 0 (by decide) (htg _ (gw_mem (i := 653) (by decide +kernel) rfl)) (fun _ h9 => h9) rfl d_Nm_isCalled_4 ?_
      refine h_purei (va_runV (As := []) (rest := [.int (nI j)]) ⟨hx, hb, hml, hown, htg⟩ (c_AL_size l D cs N0 H (o 11 n) (nmL cs (z 11 n) (o 12 n)) (z 11 n) (K 11 n 0) (show va_at D vwCl (o 11 n, .inr (6, [.ref (nmL cs (z 11 n) (o 12 n)), .int (nI (z 11 n)), .int (K 11 n 0)])) H from hI.at (k := 11) (n := n) (show nmv z 11 n from (show n < z 3 0 by omega)))) ⟨x_cwB 0 htg (gw_mem (i := 503) (by decide +kernel) rfl) (gw_mem (i := 37) (by decide +kernel) rfl) (gw_mem (i := 500) (by decide +kernel) rfl) (by decide +kernel) ⟨Nat.le_of_ble_eq_true rfl, Nat.le_of_ble_eq_true rfl⟩, htg _ (gw_mem (i := 501) (by decide +kernel) rfl), htg _ (gw_mem (i := 502) (by decide +kernel) rfl)⟩ ⟨hPre.blind, hx_recv hK (ci := 6) rfl (show va_at D vwCl (o 11 n, .inr (6, [.ref (nmL cs (z 11 n) (o 12 n)), .int (nI (z 11 n)), .int (K 11 n 0)])) H from hI.at (k := 11) (n := n) (show nmv z 11 n from (show n < z 3 0 by omega))), hPre.at hB hS noA_in⟩ rfl rfl hl.1 rfl (lv_room (Nat.le_of_ble_eq_true rfl)) d_Nm_isCalled_7 ⟨Nat.le_of_ble_eq_true rfl, Nat.le_of_ble_eq_true rfl⟩) hS (fun locs hS => ?_)
      refine lv_icmp_ge (x := (nI j)) (y := (nI (z 11 n))) (tgt := 58) hx hb d_Nm_isCalled_10 (by decide) (fun c10 => ?_) (fun c10 => ?_)
      · skip
        replace c10 : (z 11 n) ≤ j := (nI_leI (a := (z 11 n)) (b := j) (by omega) (by omega)).mp c10
        refine lv_iconst (v := 0) hx hb d_Nm_isCalled_58 (by decide) ?_
        exact W.zret (v := 0) hx hb hr (by decide) (fun t ht hW => ⟨⟨0, H, rfl, ⟨rfl, by rw [calB, show z 11 n = j by omega, hp]; rfl⟩, ht⟩, hS.F ht⟩) hS.2.2 d_Nm_isCalled_59
      · skip
        replace c10 : ¬ ((z 11 n) ≤ j) := fun z9 => c10 ((nI_leI (a := (z 11 n)) (b := j) (by omega) (by omega)).mpr z9)
        refine lv_aload_n hx hb d_Nm_isCalled_13 rfl (lv_at hl 0 rfl) ?_
        refine hx_get (ref := "NameMerges$Name") (v := .ref (o 11 n)) hx hb htg iNa hown hK (show va_at D vwCl (o 10 n, .inr (2, [.ref (o 11 n), .ref (o 13 n), va_rf (if z 14 n = 0 then none else some (o 14 n)), .int (K 10 n 0), .int (K 10 n 1), .int (K 10 n 2), .int (K 10 n 3)])) H from hI.at (k := 10) (n := n) (show nmv z 10 n from (show n < z 3 0 by omega))) rfl 0 (by decide) (htg _ (gw_mem (i := 653) (by decide +kernel) rfl)) (fun _ h9 => h9) rfl d_Nm_isCalled_14 ?_
        refine lv_iload_n hx hb d_Nm_isCalled_17 rfl (lv_at hl 3 rfl) ?_
        refine h_pureq (va_runV (As := [.int (nI j)]) (rest := []) ⟨hx, hb, hml, hown, htg⟩ (c_vars_get l D cs N0 H o z K r n j hI (show n < z 3 0 by omega) (show j < z 11 n by omega)) ⟨x_cwB 1 htg (gw_mem (i := 512) (by decide +kernel) rfl) (gw_mem (i := 37) (by decide +kernel) rfl) (gw_mem (i := 509) (by decide +kernel) rfl) (by decide +kernel) ⟨Nat.le_of_ble_eq_true rfl, Nat.le_of_ble_eq_true rfl⟩, htg _ (gw_mem (i := 510) (by decide +kernel) rfl), htg _ (gw_mem (i := 511) (by decide +kernel) rfl)⟩ ⟨hPre.blind, hx_recv hK (ci := 6) rfl (show va_at D vwCl (o 11 n, .inr (6, [.ref (nmL cs (z 11 n) (o 12 n)), .int (nI (z 11 n)), .int (K 11 n 0)])) H from hI.at (k := 11) (n := n) (show nmv z 11 n from (show n < z 3 0 by omega))), hPre.at hB hS noA_in⟩ rfl rfl hl.1 rfl (lv_room (Nat.le_of_ble_eq_true rfl)) d_Nm_isCalled_18 ⟨Nat.le_of_ble_eq_true rfl, Nat.le_of_ble_eq_true rfl⟩) hS (fun locs hS => ?_)
        refine lv_eqv (y := .ref (o 15 (n * 4 + j))) rfl ?_
        refine va_castS hx hb hown (htg _ (gw_mem (i := 545) (by decide +kernel) rfl)) (x_at hK (ci := 3) rfl) (hx_recv hK (ci := 3) rfl (show va_at D vwCl (o 15 (n * 4 + j), .inr (3, [.ref (o 16 (n * 4 + j)), .ref (o 18 (n * 4 + j))])) H from hI.at (k := 15) (n := n * 4 + j) (nmv_15 (n := n) (j := j) (by omega) (by omega) (hI.2.2.1.2.2.2.2.2.2.1 n)))) d_Nm_isCalled_21 ?_
        refine lv_astore (lv' := [(4, .ref (o 15 (n * 4 + j))), (0, .ref (o 10 n)), (1, .ref w), (2, .int day), (3, .int (nI j))]) hx hb d_Nm_isCalled_24 hl (by decide) rfl (fun ls hl => ?_)
        refine lv_aload hx hb d_Nm_isCalled_26 (lv_at hl 0 rfl) ?_
        refine hx_get (ref := "NameMerges$Variant") (v := .ref (o 18 (n * 4 + j))) hx hb htg iVa hown hK (show va_at D vwCl (o 15 (n * 4 + j), .inr (3, [.ref (o 16 (n * 4 + j)), .ref (o 18 (n * 4 + j))])) H from hI.at (k := 15) (n := n * 4 + j) (nmv_15 (n := n) (j := j) (by omega) (by omega) (hI.2.2.1.2.2.2.2.2.2.1 n))) rfl 1 (by decide) (htg _ (gw_mem (i := 787) (by decide +kernel) rfl)) (fun _ h9 => h9) rfl d_Nm_isCalled_28 ?_
        refine lv_iload_n hx hb d_Nm_isCalled_31 rfl (lv_at hl 3 rfl) ?_
        refine h_purei (va_runV (As := [.int day]) (rest := []) ⟨hx, hb, hml, hown, htg⟩ (c_Da_contain l D cs N0 H (o 18 (n * 4 + j)) ((K 18 (n * 4 + j) 0)) ((K 18 (n * 4 + j) 1)) day (show va_at D vwCl (o 18 (n * 4 + j), .inr (4, [.int (K 18 (n * 4 + j) 0), .int (K 18 (n * 4 + j) 1)])) H from hI.at (k := 18) (n := n * 4 + j) (nmv_18 (n := n) (j := j) (by omega) (by omega) (hI.2.2.1.2.2.2.2.2.2.1 n)))) ⟨x_cwB 1 htg (gw_mem (i := 922) (by decide +kernel) rfl) (gw_mem (i := 57) (by decide +kernel) rfl) (gw_mem (i := 919) (by decide +kernel) rfl) (by decide +kernel) ⟨Nat.le_of_ble_eq_true rfl, Nat.le_of_ble_eq_true rfl⟩, htg _ (gw_mem (i := 920) (by decide +kernel) rfl), htg _ (gw_mem (i := 921) (by decide +kernel) rfl)⟩ ⟨hPre.blind, hx_recv hK (ci := 4) rfl (show va_at D vwCl (o 18 (n * 4 + j), .inr (4, [.int (K 18 (n * 4 + j) 0), .int (K 18 (n * 4 + j) 1)])) H from hI.at (k := 18) (n := n * 4 + j) (nmv_18 (n := n) (j := j) (by omega) (by omega) (hI.2.2.1.2.2.2.2.2.2.1 n))), hPre.at hB hS noA_in⟩ rfl rfl hl.1 rfl (lv_room (Nat.le_of_ble_eq_true rfl)) d_Nm_isCalled_32 ⟨Nat.le_of_ble_eq_true rfl, Nat.le_of_ble_eq_true rfl⟩) hS (fun locs hS => ?_)
        refine lv_if_eq (x := (bI (inB ((K 18 (n * 4 + j) 0)) ((K 18 (n * 4 + j) 1)) day))) (tgt := 52) hx hb d_Nm_isCalled_35 (by decide) (fun c35 => ?_) (fun c35 => ?_)
        · skip
          replace c35 : (inB ((K 18 (n * 4 + j) 0)) ((K 18 (n * 4 + j) 1)) day) = false := bI_0 c35
          refine lv_iinc (v := (nI (j + 1))) (lv' := [(3, .int (nI (j + 1))), (4, .ref (o 15 (n * 4 + j))), (0, .ref (o 10 n)), (1, .ref w), (2, .int day)]) hx hb d_Nm_isCalled_52 hl (k := 4) rfl (nI_1 j) (by decide) rfl (fun ls hl => ?_)
          refine lv_goto (tgt := 2) hx hb d_Nm_isCalled_55 (by decide) ?_
          exact ih2  (j + 1) (by omega) (by omega) (by rw [anyTo, hp]; simp [calP, c35]) _ hS ls (lv_sub hl [2, 3, 4, 0] rfl)
        · skip
          replace c35 : (inB ((K 18 (n * 4 + j) 0)) ((K 18 (n * 4 + j) 1)) day) = true := bI_1 c35
          refine lv_aload hx hb d_Nm_isCalled_38 (lv_at hl 0 rfl) ?_
          refine hx_get (ref := "NameMerges$Variant") (v := .ref (o 16 (n * 4 + j))) hx hb htg iVa hown hK (show va_at D vwCl (o 15 (n * 4 + j), .inr (3, [.ref (o 16 (n * 4 + j)), .ref (o 18 (n * 4 + j))])) H from hI.at (k := 15) (n := n * 4 + j) (nmv_15 (n := n) (j := j) (by omega) (by omega) (hI.2.2.1.2.2.2.2.2.2.1 n))) rfl 0 (by decide) (htg _ (gw_mem (i := 785) (by decide +kernel) rfl)) (fun _ h9 => h9) rfl d_Nm_isCalled_40 ?_
          refine lv_aload_n hx hb d_Nm_isCalled_43 rfl (lv_at hl 2 rfl) ?_
          have h17 := hb17 (n * 4 + j)
          refine h_purei (va_runV (As := [.ref w]) (rest := []) ⟨hx, hb, hml, hown, htg⟩ (c_Sg_equals l D cs N0 H (o 16 (n * 4 + j)) (o 17 (n * 4 + j)) w wb (z 17 (n * 4 + j)) k ((K 16 (n * 4 + j) 0)) ((K 16 (n * 4 + j) 1)) ws wz (K 17 (n * 4 + j)) f (show va_at D vwCl (o 16 (n * 4 + j), .inr (8, [.ref (o 17 (n * 4 + j)), .int 0, .int (K 16 (n * 4 + j) 0), .int (K 16 (n * 4 + j) 1)])) H from hI.at (k := 16) (n := n * 4 + j) (nmv_16 (n := n) (j := j) (by omega) (by omega) (hI.2.2.1.2.2.2.2.2.2.1 n))) hw (show va_at D vwCl (o 17 (n * 4 + j), .inl (cs 2, (z 17 (n * 4 + j), .inl (K 17 (n * 4 + j))))) H from hI.at (k := 17) (n := n * 4 + j) (nmv_17 (n := n) (j := j) (by omega) (by omega) (hI.2.2.1.2.2.2.2.2.2.1 n))) hwb (hwo _ (nmv_16 (n := n) (j := j) (by omega) (by omega) (by omega))) (by omega) (by omega)) ⟨x_cwB 1 htg (gw_mem (i := 926) (by decide +kernel) rfl) (gw_mem (i := 33) (by decide +kernel) rfl) (gw_mem (i := 923) (by decide +kernel) rfl) (by decide +kernel) ⟨Nat.le_of_ble_eq_true rfl, Nat.le_of_ble_eq_true rfl⟩, htg _ (gw_mem (i := 924) (by decide +kernel) rfl), htg _ (gw_mem (i := 925) (by decide +kernel) rfl)⟩ ⟨hPre.blind, hx_recv hK (ci := 8) rfl (show va_at D vwCl (o 16 (n * 4 + j), .inr (8, [.ref (o 17 (n * 4 + j)), .int 0, .int (K 16 (n * 4 + j) 0), .int (K 16 (n * 4 + j) 1)])) H from hI.at (k := 16) (n := n * 4 + j) (nmv_16 (n := n) (j := j) (by omega) (by omega) (hI.2.2.1.2.2.2.2.2.2.1 n))), hPre.at hB hS noA_in⟩ rfl rfl hl.1 rfl (lv_room (Nat.le_of_ble_eq_true rfl)) d_Nm_isCalled_44 ⟨Nat.le_of_ble_eq_true rfl, Nat.le_of_ble_eq_true rfl⟩) hS (fun locs hS => ?_)
          refine lv_if_eq (x := (bI (eqB (z 17 (n * 4 + j)) k (K 17 (n * 4 + j)) f))) (tgt := 52) hx hb d_Nm_isCalled_47 (by decide) (fun c47 => ?_) (fun c47 => ?_)
          · skip
            replace c47 : (eqB (z 17 (n * 4 + j)) k (K 17 (n * 4 + j)) f) = false := bI_0 c47
            refine lv_iinc (v := (nI (j + 1))) (lv' := [(3, .int (nI (j + 1))), (4, .ref (o 15 (n * 4 + j))), (0, .ref (o 10 n)), (1, .ref w), (2, .int day)]) hx hb d_Nm_isCalled_52 hl (k := 4) rfl (nI_1 j) (by decide) rfl (fun ls hl => ?_)
            refine lv_goto (tgt := 2) hx hb d_Nm_isCalled_55 (by decide) ?_
            exact ih2  (j + 1) (by omega) (by omega) (by rw [anyTo, hp]; simp [calP, c35, c47]) _ hS ls (lv_sub hl [2, 3, 4, 0] rfl)
          · skip
            replace c47 : (eqB (z 17 (n * 4 + j)) k (K 17 (n * 4 + j)) f) = true := bI_1 c47
            refine lv_iconst (v := 1) hx hb d_Nm_isCalled_50 (by decide) ?_
            exact W.zret (v := 1) hx hb hr (by decide) (fun t ht hW => ⟨⟨1, H, rfl, ⟨rfl, by rw [calB, any_at (i := j) (by omega) (show calP z K n day k f j = true by simp [calP, c35, c47])]; rfl⟩, ht⟩, hS.F ht⟩) hS.2.2 d_Nm_isCalled_51
  exact loop2 ((z 11 n - 0) + 1) 0 (Nat.lt_succ_self _) (Nat.zero_le _) rfl _ hS ls (lv_sub hl [1, 2, 3, 0] rfl)
