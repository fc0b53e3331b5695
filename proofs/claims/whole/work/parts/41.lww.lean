def y_Lw_unit : MethodName := ⟨"NameMergesLaw", "unit", "(LNameMerges;I[J)I"⟩
abbrev w_Lw_unit : List Cond := Cond.codeWith y_Lw_unit method_3_code 4 (Option.some Jvm.ClassFile.FieldType.int) [(0, 9, 12, 13), (0, 9, 15, 15)] :: gw
theorem d_Lw_unit_0 : decode method_3_code 0 = .ok (.aload_n 2, 1) := by decide +kernel
theorem d_Lw_unit_1 : decode method_3_code 1 = .ok (.iconst 0, 1) := by decide +kernel
theorem d_Lw_unit_2 : decode method_3_code 2 = .ok (.aload_n 0, 1) := by decide +kernel
theorem d_Lw_unit_3 : decode method_3_code 3 = .ok (.iload_n 1, 1) := by decide +kernel
theorem d_Lw_unit_4 : decode method_3_code 4 = .ok (.invokevirtual 7, 3) := by decide +kernel
theorem d_Lw_unit_7 : decode method_3_code 7 = .ok (.i2l, 1) := by decide +kernel
theorem d_Lw_unit_8 : decode method_3_code 8 = .ok (.lastore, 1) := by decide +kernel
theorem d_Lw_unit_9 : decode method_3_code 9 = .ok (.goto 9, 3) := by decide +kernel
theorem d_Lw_unit_12 : decode method_3_code 12 = .ok (.astore_n 3, 1) := by decide +kernel
theorem d_Lw_unit_13 : decode method_3_code 13 = .ok (.iconst 1, 1) := by decide +kernel
theorem d_Lw_unit_14 : decode method_3_code 14 = .ok (.ireturn, 1) := by decide +kernel
theorem d_Lw_unit_15 : decode method_3_code 15 = .ok (.astore_n 3, 1) := by decide +kernel
theorem d_Lw_unit_16 : decode method_3_code 16 = .ok (.iconst 2, 1) := by decide +kernel
theorem d_Lw_unit_17 : decode method_3_code 17 = .ok (.ireturn, 1) := by decide +kernel
theorem d_Lw_unit_18 : decode method_3_code 18 = .ok (.iconst 0, 1) := by decide +kernel
theorem d_Lw_unit_19 : decode method_3_code 19 = .ok (.ireturn, 1) := by decide +kernel
set_option maxHeartbeats 4000000 in
set_option maxRecDepth 100000 in
theorem c_Lw_unit (l : Launch) (D : va_G) (cs : Nat → ClassId) (N0 : Nat) (H : Heap) (hl9 : l.stackTraces = false) (o z : Nat → Nat → Nat) (K : Nat → Nat → Nat → Int32) (r : Nat → Nat × Nat) (N : Nat) (out : Nat) (gl : Nat → Int64) (q : Int32) (hI : nmP D cs N0 H o z K r) (hN : N = H.size) (hout : va_at D vwCl (out, .inl (cs 3, (1, .inr (.inl gl)))) H) (hor : ¬ (r out).1 < 20) (ho0 : N0 ≤ out) : tMet l y_Lw_unit w_Lw_unit ({ frames := 7, cells := 1, slots := 6, locals := 103 }) (hPre D cs N0 [.ref (o 0 0), .int q, .ref out] H) (hT (fun v H' => (v = some (.int 0) ∧ ∃ (wv : Int32) (H1 : Heap), (fun (v : Option Value) (H' : Heap) => goV (decide (z 1 0 < 12)) (isSg q) true = 0 ∧ v = some (.int (nI (z 1 0 + 1))) ∧ nmP D cs N0 H' o (upZ z 1 0 (z 1 0 + 1)) (upK (upK K 1 0 (fun _ => K 1 0 0)) 2 0 (upd (K 2 0) (z 1 0) q)) r) (some (.int wv)) H1 ∧ va_at D vwCl (out, .inl (cs 3, (1, .inr (.inl (vp_updL gl 0 wv.toInt64))))) H' ∧ H'.size = H1.size ∧ ∀ q : Nat, q ≠ out → H'[q]? = H1[q]?) ∨ (v = some (.int (goV (decide (z 1 0 < 12)) (isSg q) true)) ∧ ¬ goV (decide (z 1 0 < 12)) (isSg q) true = 0 ∧ va_at D vwCl (out, .inl (cs 3, (1, .inr (.inl gl)))) H' ∧ H.size ≤ H'.size ∧ ∀ q : Nat, q < H.size → H'[q]? = H[q]?)) (fun _ => False) (fun q => nmA r N q ∨ q = out)) 1 6 (fun q => nmA r N q ∨ q = out) := by
  refine tMet.ofWH (hh := [(0, 9, 12, 13), (0, 9, 15, 15)]) (cc := method_3_code) (maxL := 4) (ret := (Option.some Jvm.ClassFile.FieldType.int)) (by decide) rfl ?_
  intro p e s m args below meth c s₁ B hml htab hv
  obtain ⟨rfl, rfl, hB⟩ := hv
  have hx := B.exec
  have hb := B.bytes
  have hr := B.returns
  have hts := atoms_spec (ws := w_Lw_unit) B.pre
  have htg : ∀ w ∈ gw, w.before _ s = true := fun w h => hts w (List.mem_cons_of_mem _ h)
  have hown : s.vm.findClass "NameMergesLaw" = some m.cls := findClass_of_methodNamed B.named
  have hlocks := B.notSynchronized
  have hAN : ∀ q, (fun q => nmA r N q ∨ q = out) q → N0 ≤ q := fun q9 h9 => h9.elim (fun h9 => h9.elim (hI.2.1 q9) (fun h9 => Nat.le_trans hB.2.1 (hN ▸ h9))) (fun h9 => h9 ▸ ho0)
  have hK := hB.1
  obtain ⟨H, hH⟩ : ∃ z : Heap, z = s.heap := ⟨_, rfl⟩
  have hz0 : H.size = s.heap.size := by rw [hH]
  have hN0 := hB.2.1
  rw [← hH] at hI hout
  have hS : va_S (fun q => nmA r N q ∨ q = out) s.heap H [] := by rw [hH]; exact va_S.rf
  have hl := lv_entry ([.ref (o 0 0), .int q, .ref out]) (n := 4) (Nat.le_of_ble_eq_true rfl)
  rw [lg_entry_eq, ← hH]
  generalize (lg_sl ([.ref (o 0 0), .int q, .ref out]) ++ List.replicate (4 - (lg_sl ([.ref (o 0 0), .int q, .ref out])).length) Slot.unset).toArray = ls at hl ⊢
  have hl : lv_has ls 4 [(0, .ref (o 0 0)), (1, .int q), (2, .ref out)] := hl
  refine lv_aload_n hx hb d_Lw_unit_0 rfl (lv_at hl 2 rfl) ?_
  refine lv_iconst (v := 0) hx hb d_Lw_unit_1 (by decide) ?_
  refine lv_aload_n hx hb d_Lw_unit_2 rfl (lv_at hl 0 rfl) ?_
  refine lv_iload_n hx hb d_Lw_unit_3 rfl (lv_at hl 1 rfl) ?_
  refine t_V (As := [.int q]) (rest := [.int 0, .ref out]) ⟨hx, hb, hml, hown, htg⟩ (c_Nm_unit l D cs N0 H hl9 o z K r N q hI (by omega)) ⟨x_cwB 1 htg (gw_mem (i := 604) (by decide +kernel) rfl) (gw_mem (i := 30) (by decide +kernel) rfl) (gw_mem (i := 601) (by decide +kernel) rfl) (by decide +kernel) ⟨Nat.le_of_ble_eq_true rfl, Nat.le_of_ble_eq_true rfl⟩, htg _ (gw_mem (i := 602) (by decide +kernel) rfl), htg _ (gw_mem (i := 603) (by decide +kernel) rfl)⟩ ⟨hPre.blind, hx_recv hK (ci := 1) rfl (show va_at D vwCl (o 0 0, .inr (1, [.ref (o 1 0), .ref (o 3 0), .ref (o 5 0), .ref (o 7 0), .ref (o 8 0), .int (nI (z 0 0)), .int (K 0 0 0), .ref (o 9 0)])) H from hI.at (k := 0) (n := 0) (show nmv z 0 0 from rfl)), hPre.at hB hS hAN⟩ rfl hl.1 rfl (lv_room (Nat.le_of_ble_eq_true rfl)) d_Lw_unit_4 ⟨Nat.le_of_ble_eq_true rfl, Nat.le_of_ble_eq_true rfl⟩ (fun x9 E9 ce9 H9 L9 hL9 hb9 hc9 hv9 hf9 hz9 hk9 => ?_) (fun v9 H9 L9 hL9 hp9 hz9 hk9 => ?_)
  · have hS9 : va_S (fun q => nmA r N q ∨ q = out) s.heap H9 ([] ++ L9) := x_app hS hz9 (fun q h1 h2 => hk9 q h1) (fun q hq => (fun q (h : nmA r N q) => Or.inl h) _ (hL9 q hq))
    have ho9 := hx_keep hout (hk9 _ (hx_lt hout))
    rcases hb9 with ⟨hE, hG⟩ | ⟨hE, hG⟩
    · subst hE
      refine t_catch (h := 12) hc9 hv9 ((Vm.findClass_spec hf9).elim fun k9 h9 => ⟨k9, h9.1⟩) (fun pl hpl => ct_T _ _ htab (ct_1 ⟨by decide, by decide⟩ (by decide) (ct_hit hB hown (htg _ (gw_mem (i := 599) (by decide +kernel) rfl)) (show ("java/lang/IllegalStateException", "java/lang/IllegalStateException") ∈ zCst by decide) hf9 pl hpl) rfl)) ?_
      refine lv_astore_n (lv' := [(3, .ref x9), (0, .ref (o 0 0)), (1, .int q), (2, .ref out)]) hx hb d_Lw_unit_12 rfl hl (by decide) rfl (fun ls hl => ?_)
      refine lv_iconst (v := 1) hx hb d_Lw_unit_13 (by decide) ?_
      exact t_ret (W.iret (v := 1) hx hb hr (fun t ht hW => Or.inl ⟨some (.int 1), rfl, (by rw [ht]; exact Or.inr ⟨by rw [hG], by rw [hG]; decide, ho9, hz9, hk9⟩), hS9.F ht⟩) hS9.2.2 d_Lw_unit_14)
    · subst hE
      refine t_catch (h := 15) hc9 hv9 ((Vm.findClass_spec hf9).elim fun k9 h9 => ⟨k9, h9.1⟩) (fun pl hpl => ct_T _ _ htab (ct_0 ⟨by decide, by decide⟩ (by decide) (ct_miss hB hown (htg _ (gw_mem (i := 599) (by decide +kernel) rfl)) (show ("java/lang/IllegalArgumentException", "java/lang/IllegalStateException") ∈ zNcs by decide) hf9 pl hpl) (ct_1 ⟨by decide, by decide⟩ (by decide) (ct_hit hB hown (htg _ (gw_mem (i := 600) (by decide +kernel) rfl)) (show ("java/lang/IllegalArgumentException", "java/lang/IllegalArgumentException") ∈ zCst by decide) hf9 pl hpl) rfl))) ?_
      refine lv_astore_n (lv' := [(3, .ref x9), (0, .ref (o 0 0)), (1, .int q), (2, .ref out)]) hx hb d_Lw_unit_15 rfl hl (by decide) rfl (fun ls hl => ?_)
      refine lv_iconst (v := 2) hx hb d_Lw_unit_16 (by decide) ?_
      exact t_ret (W.iret (v := 2) hx hb hr (fun t ht hW => Or.inl ⟨some (.int 2), rfl, (by rw [ht]; exact Or.inr ⟨by rw [hG], by rw [hG]; decide, ho9, hz9, hk9⟩), hS9.F ht⟩) hS9.2.2 d_Lw_unit_17)
  · obtain ⟨w9, hw9⟩ : ∃ w : Int32, v9 = some (.int w) := by
      first | exact ⟨_, hp9.2.2⟩ | exact ⟨_, hp9.2.1⟩ | (have h8 := hp9.2; split at h8 <;> first | exact ⟨_, h8.1⟩ | (split at h8 <;> exact ⟨_, h8.1⟩))
    subst hw9
    replace hS : va_S (fun q => nmA r N q ∨ q = out) s.heap H9 ([] ++ L9) := x_app hS hz9 (fun q h1 h2 => hk9 q h1 (fun h => h2 ((fun q (h : nmA r N q) => Or.inl h) _ h))) (fun q hq => (fun q (h : nmA r N q) => Or.inl h) _ (hL9 q hq))
    replace hout := hx_keep hout (hk9 _ (hx_lt hout) (fun h9 => h9.elim hor (fun h9 => by have := hx_lt hout; omega)))
    obtain ⟨H, hHe⟩ : ∃ X : Heap, X = H9 := ⟨_, rfl⟩
    rw [← hHe] at hS hout hp9
    rw [← hHe]
    refine W.eq (g2 := F0 m 7 ls [.int w9, .int 0, .ref out]) rfl ?_
    refine lv_i2l (v := w9.toInt64) hx hb d_Lw_unit_7 rfl ?_
    obtain ⟨H1, hH1⟩ : ∃ X : Heap, X = H := ⟨_, rfl⟩
    refine hx_last hx hb hK hS (Or.inr rfl) 3 hout rfl (show vp_in 0 1 from vp_in_nI (n := 0) (by decide) (by decide)) d_Lw_unit_8 (fun H locs hat hz ho hS => ?_)
    replace hout : va_at D vwCl (out, .inl (cs 3, (1, .inr (.inl (vp_updL gl 0 (w9.toInt64)))))) H := hat
    refine lv_goto (tgt := 18) hx hb d_Lw_unit_9 (by decide) ?_
    refine lv_iconst (v := 0) hx hb d_Lw_unit_18 (by decide) ?_
    refine t_ret ?_
    exact W.iret (v := 0) hx hb hr (fun t ht hW => Or.inl ⟨some (.int (0)), rfl, (by rw [ht]; exact Or.inl ⟨rfl, w9, H1, by rw [hH1]; exact hp9, hout, by rw [hH1]; exact hz, by rw [hH1]; exact ho⟩), hS.F ht⟩) hS.2.2 d_Lw_unit_19
def y_Lw_name : MethodName := ⟨"NameMergesLaw", "name", "(LNameMerges;[J)I"⟩
abbrev w_Lw_name : List Cond := Cond.codeWith y_Lw_name method_4_code 3 (Option.some Jvm.ClassFile.FieldType.int) [(0, 8, 11, 13)] :: gw
theorem d_Lw_name_0 : decode method_4_code 0 = .ok (.aload_n 1, 1) := by decide +kernel
theorem d_Lw_name_1 : decode method_4_code 1 = .ok (.iconst 0, 1) := by decide +kernel
theorem d_Lw_name_2 : decode method_4_code 2 = .ok (.aload_n 0, 1) := by decide +kernel
theorem d_Lw_name_3 : decode method_4_code 3 = .ok (.invokevirtual 17, 3) := by decide +kernel
theorem d_Lw_name_6 : decode method_4_code 6 = .ok (.i2l, 1) := by decide +kernel
theorem d_Lw_name_7 : decode method_4_code 7 = .ok (.lastore, 1) := by decide +kernel
theorem d_Lw_name_8 : decode method_4_code 8 = .ok (.goto 6, 3) := by decide +kernel
theorem d_Lw_name_11 : decode method_4_code 11 = .ok (.astore_n 2, 1) := by decide +kernel
theorem d_Lw_name_12 : decode method_4_code 12 = .ok (.iconst 1, 1) := by decide +kernel
theorem d_Lw_name_13 : decode method_4_code 13 = .ok (.ireturn, 1) := by decide +kernel
theorem d_Lw_name_14 : decode method_4_code 14 = .ok (.iconst 0, 1) := by decide +kernel
theorem d_Lw_name_15 : decode method_4_code 15 = .ok (.ireturn, 1) := by decide +kernel
set_option maxHeartbeats 4000000 in
set_option maxRecDepth 100000 in
theorem c_Lw_name (l : Launch) (D : va_G) (cs : Nat → ClassId) (N0 : Nat) (H : Heap) (hl9 : l.stackTraces = false) (o z : Nat → Nat → Nat) (K : Nat → Nat → Nat → Int32) (r : Nat → Nat × Nat) (N : Nat) (out : Nat) (gl : Nat → Int64) (hI : nmP D cs N0 H o z K r) (hN : N = H.size) (hout : va_at D vwCl (out, .inl (cs 3, (1, .inr (.inl gl)))) H) (hor : ¬ (r out).1 < 20) (ho0 : N0 ≤ out) : tMet l y_Lw_name w_Lw_name ({ frames := 8, cells := 4, slots := 214, locals := 191 }) (hPre D cs N0 [.ref (o 0 0), .ref out] H) (hT (fun v H' => (v = some (.int 0) ∧ ∃ (wv : Int32) (H1 : Heap), (fun (v : Option Value) (H' : Heap) => goV (decide (z 3 0 < 24)) true true = 0 ∧ v = some (.int (nI (z 3 0))) ∧ ∃ (a u w ea cap : Nat) (mc : Int32) (r' : Nat → Nat × Nat), nmP D cs N0 H' (upZ (upZ (upZ (upZ o 10 (z 3 0) a) 11 (z 3 0) u) 13 (z 3 0) w) 4 0 ea) (upZ (upZ (upZ (upZ z 11 (z 3 0) 0) 14 (z 3 0) 0) 4 0 cap) 3 0 (z 3 0 + 1)) (upK (upK (upK (upK K 10 (z 3 0) (fun _ => 0)) 11 (z 3 0) (fun _ => 0)) 13 (z 3 0) (fun _ => 0)) 3 0 (fun _ => mc)) r' ∧ ∀ q, q < N → r' q = r q) (some (.int wv)) H1 ∧ va_at D vwCl (out, .inl (cs 3, (1, .inr (.inl (vp_updL gl 0 wv.toInt64))))) H' ∧ H'.size = H1.size ∧ ∀ q : Nat, q ≠ out → H'[q]? = H1[q]?) ∨ (v = some (.int (goV (decide (z 3 0 < 24)) true true)) ∧ ¬ goV (decide (z 3 0 < 24)) true true = 0 ∧ va_at D vwCl (out, .inl (cs 3, (1, .inr (.inl gl)))) H' ∧ H.size ≤ H'.size ∧ ∀ q : Nat, q < H.size → H'[q]? = H[q]?)) (fun _ => False) (fun q => nmA r N q ∨ q = out)) 4 214 (fun q => nmA r N q ∨ q = out) := by
  refine tMet.ofWH (hh := [(0, 8, 11, 13)]) (cc := method_4_code) (maxL := 3) (ret := (Option.some Jvm.ClassFile.FieldType.int)) (by decide) rfl ?_
  intro p e s m args below meth c s₁ B hml htab hv
  obtain ⟨rfl, rfl, hB⟩ := hv
  have hx := B.exec
  have hb := B.bytes
  have hr := B.returns
  have hts := atoms_spec (ws := w_Lw_name) B.pre
  have htg : ∀ w ∈ gw, w.before _ s = true := fun w h => hts w (List.mem_cons_of_mem _ h)
  have hown : s.vm.findClass "NameMergesLaw" = some m.cls := findClass_of_methodNamed B.named
  have hlocks := B.notSynchronized
  have hAN : ∀ q, (fun q => nmA r N q ∨ q = out) q → N0 ≤ q := fun q9 h9 => h9.elim (fun h9 => h9.elim (hI.2.1 q9) (fun h9 => Nat.le_trans hB.2.1 (hN ▸ h9))) (fun h9 => h9 ▸ ho0)
  have hK := hB.1
  obtain ⟨H, hH⟩ : ∃ z : Heap, z = s.heap := ⟨_, rfl⟩
  have hz0 : H.size = s.heap.size := by rw [hH]
  have hN0 := hB.2.1
  rw [← hH] at hI hout
  have hS : va_S (fun q => nmA r N q ∨ q = out) s.heap H [] := by rw [hH]; exact va_S.rf
  have hl := lv_entry ([.ref (o 0 0), .ref out]) (n := 3) (Nat.le_of_ble_eq_true rfl)
  rw [lg_entry_eq, ← hH]
  generalize (lg_sl ([.ref (o 0 0), .ref out]) ++ List.replicate (3 - (lg_sl ([.ref (o 0 0), .ref out])).length) Slot.unset).toArray = ls at hl ⊢
  have hl : lv_has ls 3 [(0, .ref (o 0 0)), (1, .ref out)] := hl
  refine lv_aload_n hx hb d_Lw_name_0 rfl (lv_at hl 1 rfl) ?_
  refine lv_iconst (v := 0) hx hb d_Lw_name_1 (by decide) ?_
  refine lv_aload_n hx hb d_Lw_name_2 rfl (lv_at hl 0 rfl) ?_
  refine t_V (As := []) (rest := [.int 0, .ref out]) ⟨hx, hb, hml, hown, htg⟩ (c_Nm_name l D cs N0 H hl9 o z K r N  hI (by omega)) ⟨x_cwB 0 htg (gw_mem (i := 643) (by decide +kernel) rfl) (gw_mem (i := 30) (by decide +kernel) rfl) (gw_mem (i := 640) (by decide +kernel) rfl) (by decide +kernel) ⟨Nat.le_of_ble_eq_true rfl, Nat.le_of_ble_eq_true rfl⟩, htg _ (gw_mem (i := 641) (by decide +kernel) rfl), htg _ (gw_mem (i := 642) (by decide +kernel) rfl)⟩ ⟨hPre.blind, hx_recv hK (ci := 1) rfl (show va_at D vwCl (o 0 0, .inr (1, [.ref (o 1 0), .ref (o 3 0), .ref (o 5 0), .ref (o 7 0), .ref (o 8 0), .int (nI (z 0 0)), .int (K 0 0 0), .ref (o 9 0)])) H from hI.at (k := 0) (n := 0) (show nmv z 0 0 from rfl)), hPre.at hB hS hAN⟩ rfl hl.1 rfl (lv_room (Nat.le_of_ble_eq_true rfl)) d_Lw_name_3 ⟨Nat.le_of_ble_eq_true rfl, Nat.le_of_ble_eq_true rfl⟩ (fun x9 E9 ce9 H9 L9 hL9 hb9 hc9 hv9 hf9 hz9 hk9 => ?_) (fun v9 H9 L9 hL9 hp9 hz9 hk9 => ?_)
  · have hS9 : va_S (fun q => nmA r N q ∨ q = out) s.heap H9 ([] ++ L9) := x_app hS hz9 (fun q h1 h2 => hk9 q h1) (fun q hq => (fun q (h : nmA r N q) => Or.inl h) _ (hL9 q hq))
    have ho9 := hx_keep hout (hk9 _ (hx_lt hout))
    obtain ⟨hE, hG⟩ := hb9
    subst hE
    refine t_catch (h := 11) hc9 hv9 ((Vm.findClass_spec hf9).elim fun k9 h9 => ⟨k9, h9.1⟩) (fun pl hpl => ct_T _ _ htab (ct_1 ⟨by decide, by decide⟩ (by decide) (ct_hit hB hown (htg _ (gw_mem (i := 599) (by decide +kernel) rfl)) (show ("java/lang/IllegalStateException", "java/lang/IllegalStateException") ∈ zCst by decide) hf9 pl hpl) rfl)) ?_
    refine lv_astore_n (lv' := [(2, .ref x9), (0, .ref (o 0 0)), (1, .ref out)]) hx hb d_Lw_name_11 rfl hl (by decide) rfl (fun ls hl => ?_)
    refine lv_iconst (v := 1) hx hb d_Lw_name_12 (by decide) ?_
    exact t_ret (W.iret (v := 1) hx hb hr (fun t ht hW => Or.inl ⟨some (.int 1), rfl, (by rw [ht]; exact Or.inr ⟨by rw [hG], by rw [hG]; decide, ho9, hz9, hk9⟩), hS9.F ht⟩) hS9.2.2 d_Lw_name_13)
  · obtain ⟨w9, hw9⟩ : ∃ w : Int32, v9 = some (.int w) := by
      first | exact ⟨_, hp9.2.2⟩ | exact ⟨_, hp9.2.1⟩ | (have h8 := hp9.2; split at h8 <;> first | exact ⟨_, h8.1⟩ | (split at h8 <;> exact ⟨_, h8.1⟩))
    subst hw9
    replace hS : va_S (fun q => nmA r N q ∨ q = out) s.heap H9 ([] ++ L9) := x_app hS hz9 (fun q h1 h2 => hk9 q h1 (fun h => h2 ((fun q (h : nmA r N q) => Or.inl h) _ h))) (fun q hq => (fun q (h : nmA r N q) => Or.inl h) _ (hL9 q hq))
    replace hout := hx_keep hout (hk9 _ (hx_lt hout) (fun h9 => h9.elim hor (fun h9 => by have := hx_lt hout; omega)))
    obtain ⟨H, hHe⟩ : ∃ X : Heap, X = H9 := ⟨_, rfl⟩
    rw [← hHe] at hS hout hp9
    rw [← hHe]
    refine W.eq (g2 := F0 m 6 ls [.int w9, .int 0, .ref out]) rfl ?_
    refine lv_i2l (v := w9.toInt64) hx hb d_Lw_name_6 rfl ?_
    obtain ⟨H1, hH1⟩ : ∃ X : Heap, X = H := ⟨_, rfl⟩
    refine hx_last hx hb hK hS (Or.inr rfl) 3 hout rfl (show vp_in 0 1 from vp_in_nI (n := 0) (by decide) (by decide)) d_Lw_name_7 (fun H locs hat hz ho hS => ?_)
    replace hout : va_at D vwCl (out, .inl (cs 3, (1, .inr (.inl (vp_updL gl 0 (w9.toInt64)))))) H := hat
    refine lv_goto (tgt := 14) hx hb d_Lw_name_8 (by decide) ?_
    refine lv_iconst (v := 0) hx hb d_Lw_name_14 (by decide) ?_
    refine t_ret ?_
    exact W.iret (v := 0) hx hb hr (fun t ht hW => Or.inl ⟨some (.int (0)), rfl, (by rw [ht]; exact Or.inl ⟨rfl, w9, H1, by rw [hH1]; exact hp9, hout, by rw [hH1]; exact hz, by rw [hH1]; exact ho⟩), hS.F ht⟩) hS.2.2 d_Lw_name_15
def y_Lw_variant : MethodName := ⟨"NameMergesLaw", "variant", "(LNameMerges;IIII[J)I"⟩
abbrev w_Lw_variant : List Cond := Cond.codeWith y_Lw_variant method_5_code 7 (Option.some Jvm.ClassFile.FieldType.int) [(0, 14, 17, 25), (0, 14, 21, 13), (0, 14, 25, 15)] :: gw
theorem d_Lw_variant_0 : decode method_5_code 0 = .ok (.aload 5, 2) := by decide +kernel
theorem d_Lw_variant_2 : decode method_5_code 2 = .ok (.iconst 0, 1) := by decide +kernel
theorem d_Lw_variant_3 : decode method_5_code 3 = .ok (.aload_n 0, 1) := by decide +kernel
theorem d_Lw_variant_4 : decode method_5_code 4 = .ok (.iload_n 1, 1) := by decide +kernel
theorem d_Lw_variant_5 : decode method_5_code 5 = .ok (.iload_n 2, 1) := by decide +kernel
theorem d_Lw_variant_6 : decode method_5_code 6 = .ok (.iload_n 3, 1) := by decide +kernel
theorem d_Lw_variant_7 : decode method_5_code 7 = .ok (.iload 4, 2) := by decide +kernel
theorem d_Lw_variant_9 : decode method_5_code 9 = .ok (.invokevirtual 21, 3) := by decide +kernel
theorem d_Lw_variant_12 : decode method_5_code 12 = .ok (.i2l, 1) := by decide +kernel
theorem d_Lw_variant_13 : decode method_5_code 13 = .ok (.lastore, 1) := by decide +kernel
theorem d_Lw_variant_14 : decode method_5_code 14 = .ok (.goto 15, 3) := by decide +kernel
theorem d_Lw_variant_17 : decode method_5_code 17 = .ok (.astore 6, 2) := by decide +kernel
theorem d_Lw_variant_19 : decode method_5_code 19 = .ok (.iconst 1, 1) := by decide +kernel
theorem d_Lw_variant_20 : decode method_5_code 20 = .ok (.ireturn, 1) := by decide +kernel
theorem d_Lw_variant_21 : decode method_5_code 21 = .ok (.astore 6, 2) := by decide +kernel
theorem d_Lw_variant_23 : decode method_5_code 23 = .ok (.iconst 2, 1) := by decide +kernel
theorem d_Lw_variant_24 : decode method_5_code 24 = .ok (.ireturn, 1) := by decide +kernel
theorem d_Lw_variant_25 : decode method_5_code 25 = .ok (.astore 6, 2) := by decide +kernel
theorem d_Lw_variant_27 : decode method_5_code 27 = .ok (.iconst 3, 1) := by decide +kernel
theorem d_Lw_variant_28 : decode method_5_code 28 = .ok (.ireturn, 1) := by decide +kernel
theorem d_Lw_variant_29 : decode method_5_code 29 = .ok (.iconst 0, 1) := by decide +kernel
theorem d_Lw_variant_30 : decode method_5_code 30 = .ok (.ireturn, 1) := by decide +kernel
set_option maxHeartbeats 4000000 in
set_option maxRecDepth 100000 in
theorem c_Lw_variant (l : Launch) (D : va_G) (cs : Nat → ClassId) (N0 : Nat) (H : Heap) (hl9 : l.stackTraces = false) (o z : Nat → Nat → Nat) (K : Nat → Nat → Nat → Int32) (r : Nat → Nat × Nat) (N : Nat) (out : Nat) (gl : Nat → Int64) (q lg fr tw : Int32) (hI : nmP D cs N0 H o z K r) (hN : N = H.size) (hout : va_at D vwCl (out, .inl (cs 3, (1, .inr (.inl gl)))) H) (hor : ¬ (r out).1 < 20) (ho0 : N0 ≤ out) : tMet l y_Lw_variant w_Lw_variant ({ frames := 9, cells := 9, slots := 58, locals := 176 }) (hPre D cs N0 [.ref (o 0 0), .int q, .int lg, .int fr, .int tw, .ref out] H) (hT (fun v H' => (v = some (.int 0) ∧ ∃ (wv : Int32) (H1 : Heap), (fun (v : Option Value) (H' : Heap) => goV (isN (z 3 0) q) (isN (z 3 0) q && !decide (4 ≤ z 11 (tn q)) && !decide (z 1 0 ≤ 0)) (!decide (lg < 0) && !decide (6 ≤ lg) && daysB fr tw) = 0 ∧ v = some (.int (nI (z 11 (tn q) + 1))) ∧ ∃ (vr sg by9 dy ea : Nat) (mc ml : Int32) (r' : Nat → Nat × Nat), nmP D cs N0 H' (upZ (upZ (upZ (upZ (upZ o 15 ((tn q) * 4 + z 11 (tn q)) vr) 16 ((tn q) * 4 + z 11 (tn q)) sg) 17 ((tn q) * 4 + z 11 (tn q)) by9) 18 ((tn q) * 4 + z 11 (tn q)) dy) 12 (tn q) ea) (upZ (upZ (upZ z 17 ((tn q) * 4 + z 11 (tn q)) (z 1 0)) 11 (tn q) (z 11 (tn q) + 1)) 1 0 0) (upK (upK (upK (upK (upK (upK K 16 ((tn q) * 4 + z 11 (tn q)) (fun _ => 0)) 17 ((tn q) * 4 + z 11 (tn q)) (padF z K)) 18 ((tn q) * 4 + z 11 (tn q)) (fun i => if i = 0 then fr else tw)) 11 (tn q) (fun _ => mc)) 10 (tn q) (fun i => if i = 0 then K 10 (tn q) 0 ||| (1 : Int32) <<< (lg &&& 31) else if i = 1 then K 10 (tn q) 1 ||| (1 : Int32) <<< ((chV (K 2 0 0) - 97) &&& 31) else K 10 (tn q) i)) 1 0 (fun _ => ml)) r' ∧ ∀ q, q < N → r' q = r q) (some (.int wv)) H1 ∧ va_at D vwCl (out, .inl (cs 3, (1, .inr (.inl (vp_updL gl 0 wv.toInt64))))) H' ∧ H'.size = H1.size ∧ ∀ q : Nat, q ≠ out → H'[q]? = H1[q]?) ∨ (v = some (.int (goV (isN (z 3 0) q) (isN (z 3 0) q && !decide (4 ≤ z 11 (tn q)) && !decide (z 1 0 ≤ 0)) (!decide (lg < 0) && !decide (6 ≤ lg) && daysB fr tw))) ∧ ¬ goV (isN (z 3 0) q) (isN (z 3 0) q && !decide (4 ≤ z 11 (tn q)) && !decide (z 1 0 ≤ 0)) (!decide (lg < 0) && !decide (6 ≤ lg) && daysB fr tw) = 0 ∧ va_at D vwCl (out, .inl (cs 3, (1, .inr (.inl gl)))) H' ∧ H.size ≤ H'.size ∧ ∀ q : Nat, q < H.size → H'[q]? = H[q]?)) (fun _ => False) (fun q => nmA r N q ∨ q = out)) 9 58 (fun q => nmA r N q ∨ q = out) := by
  refine tMet.ofWH (hh := [(0, 14, 17, 25), (0, 14, 21, 13), (0, 14, 25, 15)]) (cc := method_5_code) (maxL := 7) (ret := (Option.some Jvm.ClassFile.FieldType.int)) (by decide) rfl ?_
  intro p e s m args below meth c s₁ B hml htab hv
  obtain ⟨rfl, rfl, hB⟩ := hv
  have hx := B.exec
  have hb := B.bytes
  have hr := B.returns
  have hts := atoms_spec (ws := w_Lw_variant) B.pre
  have htg : ∀ w ∈ gw, w.before _ s = true := fun w h => hts w (List.mem_cons_of_mem _ h)
  have hown : s.vm.findClass "NameMergesLaw" = some m.cls := findClass_of_methodNamed B.named
  have hlocks := B.notSynchronized
  have hAN : ∀ q, (fun q => nmA r N q ∨ q = out) q → N0 ≤ q := fun q9 h9 => h9.elim (fun h9 => h9.elim (hI.2.1 q9) (fun h9 => Nat.le_trans hB.2.1 (hN ▸ h9))) (fun h9 => h9 ▸ ho0)
  have hK := hB.1
  obtain ⟨H, hH⟩ : ∃ z : Heap, z = s.heap := ⟨_, rfl⟩
  have hz0 : H.size = s.heap.size := by rw [hH]
  have hN0 := hB.2.1
  rw [← hH] at hI hout
  have hS : va_S (fun q => nmA r N q ∨ q = out) s.heap H [] := by rw [hH]; exact va_S.rf
  have hl := lv_entry ([.ref (o 0 0), .int q, .int lg, .int fr, .int tw, .ref out]) (n := 7) (Nat.le_of_ble_eq_true rfl)
  rw [lg_entry_eq, ← hH]
  generalize (lg_sl ([.ref (o 0 0), .int q, .int lg, .int fr, .int tw, .ref out]) ++ List.replicate (7 - (lg_sl ([.ref (o 0 0), .int q, .int lg, .int fr, .int tw, .ref out])).length) Slot.unset).toArray = ls at hl ⊢
  have hl : lv_has ls 7 [(0, .ref (o 0 0)), (1, .int q), (2, .int lg), (3, .int fr), (4, .int tw), (5, .ref out)] := hl
  refine lv_aload hx hb d_Lw_variant_0 (lv_at hl 5 rfl) ?_
  refine lv_iconst (v := 0) hx hb d_Lw_variant_2 (by decide) ?_
  refine lv_aload_n hx hb d_Lw_variant_3 rfl (lv_at hl 0 rfl) ?_
  refine lv_iload_n hx hb d_Lw_variant_4 rfl (lv_at hl 1 rfl) ?_
  refine lv_iload_n hx hb d_Lw_variant_5 rfl (lv_at hl 2 rfl) ?_
  refine lv_iload_n hx hb d_Lw_variant_6 rfl (lv_at hl 3 rfl) ?_
  refine lv_iload hx hb d_Lw_variant_7 (lv_at hl 4 rfl) ?_
  refine t_V (As := [.int q, .int lg, .int fr, .int tw]) (rest := [.int 0, .ref out]) ⟨hx, hb, hml, hown, htg⟩ (c_Nm_variant l D cs N0 H hl9 o z K r N q lg fr tw hI (by omega)) ⟨x_cwB 4 htg (gw_mem (i := 734) (by decide +kernel) rfl) (gw_mem (i := 30) (by decide +kernel) rfl) (gw_mem (i := 731) (by decide +kernel) rfl) (by decide +kernel) ⟨Nat.le_of_ble_eq_true rfl, Nat.le_of_ble_eq_true rfl⟩, htg _ (gw_mem (i := 732) (by decide +kernel) rfl), htg _ (gw_mem (i := 733) (by decide +kernel) rfl)⟩ ⟨hPre.blind, hx_recv hK (ci := 1) rfl (show va_at D vwCl (o 0 0, .inr (1, [.ref (o 1 0), .ref (o 3 0), .ref (o 5 0), .ref (o 7 0), .ref (o 8 0), .int (nI (z 0 0)), .int (K 0 0 0), .ref (o 9 0)])) H from hI.at (k := 0) (n := 0) (show nmv z 0 0 from rfl)), hPre.at hB hS hAN⟩ rfl hl.1 rfl (lv_room (Nat.le_of_ble_eq_true rfl)) d_Lw_variant_9 ⟨Nat.le_of_ble_eq_true rfl, Nat.le_of_ble_eq_true rfl⟩ (fun x9 E9 ce9 H9 L9 hL9 hb9 hc9 hv9 hf9 hz9 hk9 => ?_) (fun v9 H9 L9 hL9 hp9 hz9 hk9 => ?_)
  · have hS9 : va_S (fun q => nmA r N q ∨ q = out) s.heap H9 ([] ++ L9) := x_app hS hz9 (fun q h1 h2 => hk9 q h1) (fun q hq => (fun q (h : nmA r N q) => Or.inl h) _ (hL9 q hq))
    have ho9 := hx_keep hout (hk9 _ (hx_lt hout))
    rcases hb9 with ⟨hE, hG⟩ | ⟨hE, hG⟩ | ⟨hE, hG⟩
    · subst hE
      refine t_catch (h := 17) hc9 hv9 ((Vm.findClass_spec hf9).elim fun k9 h9 => ⟨k9, h9.1⟩) (fun pl hpl => ct_T _ _ htab (ct_1 ⟨by decide, by decide⟩ (by decide) (ct_hit hB hown (htg _ (gw_mem (i := 730) (by decide +kernel) rfl)) (show ("java/lang/IndexOutOfBoundsException", "java/lang/IndexOutOfBoundsException") ∈ zCst by decide) hf9 pl hpl) rfl)) ?_
      refine lv_astore (lv' := [(6, .ref x9), (0, .ref (o 0 0)), (1, .int q), (2, .int lg), (3, .int fr), (4, .int tw), (5, .ref out)]) hx hb d_Lw_variant_17 hl (by decide) rfl (fun ls hl => ?_)
      refine lv_iconst (v := 1) hx hb d_Lw_variant_19 (by decide) ?_
      exact t_ret (W.iret (v := 1) hx hb hr (fun t ht hW => Or.inl ⟨some (.int 1), rfl, (by rw [ht]; exact Or.inr ⟨by rw [hG], by rw [hG]; decide, ho9, hz9, hk9⟩), hS9.F ht⟩) hS9.2.2 d_Lw_variant_20)
    · subst hE
      refine t_catch (h := 21) hc9 hv9 ((Vm.findClass_spec hf9).elim fun k9 h9 => ⟨k9, h9.1⟩) (fun pl hpl => ct_T _ _ htab (ct_0 ⟨by decide, by decide⟩ (by decide) (ct_miss hB hown (htg _ (gw_mem (i := 730) (by decide +kernel) rfl)) (show ("java/lang/IllegalStateException", "java/lang/IndexOutOfBoundsException") ∈ zNcs by decide) hf9 pl hpl) (ct_1 ⟨by decide, by decide⟩ (by decide) (ct_hit hB hown (htg _ (gw_mem (i := 599) (by decide +kernel) rfl)) (show ("java/lang/IllegalStateException", "java/lang/IllegalStateException") ∈ zCst by decide) hf9 pl hpl) rfl))) ?_
      refine lv_astore (lv' := [(6, .ref x9), (0, .ref (o 0 0)), (1, .int q), (2, .int lg), (3, .int fr), (4, .int tw), (5, .ref out)]) hx hb d_Lw_variant_21 hl (by decide) rfl (fun ls hl => ?_)
      refine lv_iconst (v := 2) hx hb d_Lw_variant_23 (by decide) ?_
      exact t_ret (W.iret (v := 2) hx hb hr (fun t ht hW => Or.inl ⟨some (.int 2), rfl, (by rw [ht]; exact Or.inr ⟨by rw [hG], by rw [hG]; decide, ho9, hz9, hk9⟩), hS9.F ht⟩) hS9.2.2 d_Lw_variant_24)
    · subst hE
      refine t_catch (h := 25) hc9 hv9 ((Vm.findClass_spec hf9).elim fun k9 h9 => ⟨k9, h9.1⟩) (fun pl hpl => ct_T _ _ htab (ct_0 ⟨by decide, by decide⟩ (by decide) (ct_miss hB hown (htg _ (gw_mem (i := 730) (by decide +kernel) rfl)) (show ("java/lang/IllegalArgumentException", "java/lang/IndexOutOfBoundsException") ∈ zNcs by decide) hf9 pl hpl) (ct_0 ⟨by decide, by decide⟩ (by decide) (ct_miss hB hown (htg _ (gw_mem (i := 599) (by decide +kernel) rfl)) (show ("java/lang/IllegalArgumentException", "java/lang/IllegalStateException") ∈ zNcs by decide) hf9 pl hpl) (ct_1 ⟨by decide, by decide⟩ (by decide) (ct_hit hB hown (htg _ (gw_mem (i := 600) (by decide +kernel) rfl)) (show ("java/lang/IllegalArgumentException", "java/lang/IllegalArgumentException") ∈ zCst by decide) hf9 pl hpl) rfl)))) ?_
      refine lv_astore (lv' := [(6, .ref x9), (0, .ref (o 0 0)), (1, .int q), (2, .int lg), (3, .int fr), (4, .int tw), (5, .ref out)]) hx hb d_Lw_variant_25 hl (by decide) rfl (fun ls hl => ?_)
      refine lv_iconst (v := 3) hx hb d_Lw_variant_27 (by decide) ?_
      exact t_ret (W.iret (v := 3) hx hb hr (fun t ht hW => Or.inl ⟨some (.int 3), rfl, (by rw [ht]; exact Or.inr ⟨by rw [hG], by rw [hG]; decide, ho9, hz9, hk9⟩), hS9.F ht⟩) hS9.2.2 d_Lw_variant_28)
  · obtain ⟨w9, hw9⟩ : ∃ w : Int32, v9 = some (.int w) := by
      first | exact ⟨_, hp9.2.2⟩ | exact ⟨_, hp9.2.1⟩ | (have h8 := hp9.2; split at h8 <;> first | exact ⟨_, h8.1⟩ | (split at h8 <;> exact ⟨_, h8.1⟩))
    subst hw9
    replace hS : va_S (fun q => nmA r N q ∨ q = out) s.heap H9 ([] ++ L9) := x_app hS hz9 (fun q h1 h2 => hk9 q h1 (fun h => h2 ((fun q (h : nmA r N q) => Or.inl h) _ h))) (fun q hq => (fun q (h : nmA r N q) => Or.inl h) _ (hL9 q hq))
    replace hout := hx_keep hout (hk9 _ (hx_lt hout) (fun h9 => h9.elim hor (fun h9 => by have := hx_lt hout; omega)))
    obtain ⟨H, hHe⟩ : ∃ X : Heap, X = H9 := ⟨_, rfl⟩
    rw [← hHe] at hS hout hp9
    rw [← hHe]
    refine W.eq (g2 := F0 m 12 ls [.int w9, .int 0, .ref out]) rfl ?_
    refine lv_i2l (v := w9.toInt64) hx hb d_Lw_variant_12 rfl ?_
    obtain ⟨H1, hH1⟩ : ∃ X : Heap, X = H := ⟨_, rfl⟩
    refine hx_last hx hb hK hS (Or.inr rfl) 3 hout rfl (show vp_in 0 1 from vp_in_nI (n := 0) (by decide) (by decide)) d_Lw_variant_13 (fun H locs hat hz ho hS => ?_)
    replace hout : va_at D vwCl (out, .inl (cs 3, (1, .inr (.inl (vp_updL gl 0 (w9.toInt64)))))) H := hat
    refine lv_goto (tgt := 29) hx hb d_Lw_variant_14 (by decide) ?_
    refine lv_iconst (v := 0) hx hb d_Lw_variant_29 (by decide) ?_
    refine t_ret ?_
    exact W.iret (v := 0) hx hb hr (fun t ht hW => Or.inl ⟨some (.int (0)), rfl, (by rw [ht]; exact Or.inl ⟨rfl, w9, H1, by rw [hH1]; exact hp9, hout, by rw [hH1]; exact hz, by rw [hH1]; exact ho⟩), hS.F ht⟩) hS.2.2 d_Lw_variant_30
def y_Lw_dates : MethodName := ⟨"NameMergesLaw", "dates", "(LNameMerges;III[J)I"⟩
abbrev w_Lw_dates : List Cond := Cond.codeWith y_Lw_dates method_6_code 6 (Option.some Jvm.ClassFile.FieldType.int) [(0, 19, 22, 25), (0, 19, 26, 15)] :: gw
theorem d_Lw_dates_0 : decode method_6_code 0 = .ok (.aload 4, 2) := by decide +kernel
theorem d_Lw_dates_2 : decode method_6_code 2 = .ok (.iconst 0, 1) := by decide +kernel
theorem d_Lw_dates_3 : decode method_6_code 3 = .ok (.aload_n 0, 1) := by decide +kernel
theorem d_Lw_dates_4 : decode method_6_code 4 = .ok (.iload_n 1, 1) := by decide +kernel
theorem d_Lw_dates_5 : decode method_6_code 5 = .ok (.iload_n 2, 1) := by decide +kernel
theorem d_Lw_dates_6 : decode method_6_code 6 = .ok (.iload_n 3, 1) := by decide +kernel
theorem d_Lw_dates_7 : decode method_6_code 7 = .ok (.invokevirtual 27, 3) := by decide +kernel
theorem d_Lw_dates_10 : decode method_6_code 10 = .ok (.ifCond .eq 7, 3) := by decide +kernel
theorem d_Lw_dates_13 : decode method_6_code 13 = .ok (.lconst 1, 1) := by decide +kernel
theorem d_Lw_dates_14 : decode method_6_code 14 = .ok (.goto 4, 3) := by decide +kernel
theorem d_Lw_dates_17 : decode method_6_code 17 = .ok (.lconst 0, 1) := by decide +kernel
theorem d_Lw_dates_18 : decode method_6_code 18 = .ok (.lastore, 1) := by decide +kernel
theorem d_Lw_dates_19 : decode method_6_code 19 = .ok (.goto 11, 3) := by decide +kernel
theorem d_Lw_dates_22 : decode method_6_code 22 = .ok (.astore 5, 2) := by decide +kernel
theorem d_Lw_dates_24 : decode method_6_code 24 = .ok (.iconst 1, 1) := by decide +kernel
theorem d_Lw_dates_25 : decode method_6_code 25 = .ok (.ireturn, 1) := by decide +kernel
theorem d_Lw_dates_26 : decode method_6_code 26 = .ok (.astore 5, 2) := by decide +kernel
theorem d_Lw_dates_28 : decode method_6_code 28 = .ok (.iconst 2, 1) := by decide +kernel
theorem d_Lw_dates_29 : decode method_6_code 29 = .ok (.ireturn, 1) := by decide +kernel
theorem d_Lw_dates_30 : decode method_6_code 30 = .ok (.iconst 0, 1) := by decide +kernel
theorem d_Lw_dates_31 : decode method_6_code 31 = .ok (.ireturn, 1) := by decide +kernel
set_option maxHeartbeats 4000000 in
set_option maxRecDepth 100000 in
theorem c_Lw_dates (l : Launch) (D : va_G) (cs : Nat → ClassId) (N0 : Nat) (H : Heap) (hl9 : l.stackTraces = false) (o z : Nat → Nat → Nat) (K : Nat → Nat → Nat → Int32) (r : Nat → Nat × Nat) (N : Nat) (out : Nat) (gl : Nat → Int64) (q u w : Int32) (hI : nmP D cs N0 H o z K r) (hN : N = H.size) (hout : va_at D vwCl (out, .inl (cs 3, (1, .inr (.inl gl)))) H) (hor : ¬ (r out).1 < 20) (ho0 : N0 ≤ out) : tMet l y_Lw_dates w_Lw_dates ({ frames := 9, cells := 5, slots := 26, locals := 148 }) (hPre D cs N0 [.ref (o 0 0), .int q, .int u, .int w, .ref out] H) (hT (fun v H' => (v = some (.int 0) ∧ ∃ (wv : Int32) (H1 : Heap), (fun (v : Option Value) (H' : Heap) => goV (isN (z 3 0) q) (daysB u w) true = 0 ∧ (if (!decide (z 14 (tn q) = 0) && decide (K 14 (tn q) 0 = u) && decide (K 14 (tn q) 1 = w)) = true then (v = some (.int 0) ∧ nmP D cs N0 H' o z K r) else (v = some (.int 1) ∧ ∃ a : Nat, N ≤ a ∧ nmP D cs N0 H' (upZ o 14 (tn q) a) (upZ z 14 (tn q) 1) (upK K 14 (tn q) (fun i => if i = 0 then u else w)) (upR r a 14 (tn q))))) (some (.int wv)) H1 ∧ va_at D vwCl (out, .inl (cs 3, (1, .inr (.inl (vp_updL gl 0 (if wv = 0 then 0 else 1)))))) H' ∧ H'.size = H1.size ∧ ∀ q : Nat, q ≠ out → H'[q]? = H1[q]?) ∨ (v = some (.int (goV (isN (z 3 0) q) (daysB u w) true)) ∧ ¬ goV (isN (z 3 0) q) (daysB u w) true = 0 ∧ va_at D vwCl (out, .inl (cs 3, (1, .inr (.inl gl)))) H' ∧ H.size ≤ H'.size ∧ ∀ q : Nat, q < H.size → H'[q]? = H[q]?)) (fun _ => False) (fun q => nmA r N q ∨ q = out)) 5 26 (fun q => nmA r N q ∨ q = out) := by
  refine tMet.ofWH (hh := [(0, 19, 22, 25), (0, 19, 26, 15)]) (cc := method_6_code) (maxL := 6) (ret := (Option.some Jvm.ClassFile.FieldType.int)) (by decide) rfl ?_
  intro p e s m args below meth c s₁ B hml htab hv
  obtain ⟨rfl, rfl, hB⟩ := hv
  have hx := B.exec
  have hb := B.bytes
  have hr := B.returns
  have hts := atoms_spec (ws := w_Lw_dates) B.pre
  have htg : ∀ w ∈ gw, w.before _ s = true := fun w h => hts w (List.mem_cons_of_mem _ h)
  have hown : s.vm.findClass "NameMergesLaw" = some m.cls := findClass_of_methodNamed B.named
  have hlocks := B.notSynchronized
  have hAN : ∀ q, (fun q => nmA r N q ∨ q = out) q → N0 ≤ q := fun q9 h9 => h9.elim (fun h9 => h9.elim (hI.2.1 q9) (fun h9 => Nat.le_trans hB.2.1 (hN ▸ h9))) (fun h9 => h9 ▸ ho0)
  have hK := hB.1
  obtain ⟨H, hH⟩ : ∃ z : Heap, z = s.heap := ⟨_, rfl⟩
  have hz0 : H.size = s.heap.size := by rw [hH]
  have hN0 := hB.2.1
  rw [← hH] at hI hout
  have hS : va_S (fun q => nmA r N q ∨ q = out) s.heap H [] := by rw [hH]; exact va_S.rf
  have hl := lv_entry ([.ref (o 0 0), .int q, .int u, .int w, .ref out]) (n := 6) (Nat.le_of_ble_eq_true rfl)
  rw [lg_entry_eq, ← hH]
  generalize (lg_sl ([.ref (o 0 0), .int q, .int u, .int w, .ref out]) ++ List.replicate (6 - (lg_sl ([.ref (o 0 0), .int q, .int u, .int w, .ref out])).length) Slot.unset).toArray = ls at hl ⊢
  have hl : lv_has ls 6 [(0, .ref (o 0 0)), (1, .int q), (2, .int u), (3, .int w), (4, .ref out)] := hl
  refine lv_aload hx hb d_Lw_dates_0 (lv_at hl 4 rfl) ?_
  refine lv_iconst (v := 0) hx hb d_Lw_dates_2 (by decide) ?_
  refine lv_aload_n hx hb d_Lw_dates_3 rfl (lv_at hl 0 rfl) ?_
  refine lv_iload_n hx hb d_Lw_dates_4 rfl (lv_at hl 1 rfl) ?_
  refine lv_iload_n hx hb d_Lw_dates_5 rfl (lv_at hl 2 rfl) ?_
  refine lv_iload_n hx hb d_Lw_dates_6 rfl (lv_at hl 3 rfl) ?_
  refine t_V (As := [.int q, .int u, .int w]) (rest := [.int 0, .ref out]) ⟨hx, hb, hml, hown, htg⟩ (c_Nm_dates l D cs N0 H hl9 o z K r N q u w hI (by omega)) ⟨x_cwB 3 htg (gw_mem (i := 809) (by decide +kernel) rfl) (gw_mem (i := 30) (by decide +kernel) rfl) (gw_mem (i := 806) (by decide +kernel) rfl) (by decide +kernel) ⟨Nat.le_of_ble_eq_true rfl, Nat.le_of_ble_eq_true rfl⟩, htg _ (gw_mem (i := 807) (by decide +kernel) rfl), htg _ (gw_mem (i := 808) (by decide +kernel) rfl)⟩ ⟨hPre.blind, hx_recv hK (ci := 1) rfl (show va_at D vwCl (o 0 0, .inr (1, [.ref (o 1 0), .ref (o 3 0), .ref (o 5 0), .ref (o 7 0), .ref (o 8 0), .int (nI (z 0 0)), .int (K 0 0 0), .ref (o 9 0)])) H from hI.at (k := 0) (n := 0) (show nmv z 0 0 from rfl)), hPre.at hB hS hAN⟩ rfl hl.1 rfl (lv_room (Nat.le_of_ble_eq_true rfl)) d_Lw_dates_7 ⟨Nat.le_of_ble_eq_true rfl, Nat.le_of_ble_eq_true rfl⟩ (fun x9 E9 ce9 H9 L9 hL9 hb9 hc9 hv9 hf9 hz9 hk9 => ?_) (fun v9 H9 L9 hL9 hp9 hz9 hk9 => ?_)
  · have hS9 : va_S (fun q => nmA r N q ∨ q = out) s.heap H9 ([] ++ L9) := x_app hS hz9 (fun q h1 h2 => hk9 q h1) (fun q hq => (fun q (h : nmA r N q) => Or.inl h) _ (hL9 q hq))
    have ho9 := hx_keep hout (hk9 _ (hx_lt hout))
    rcases hb9 with ⟨hE, hG⟩ | ⟨hE, hG⟩
    · subst hE
      refine t_catch (h := 22) hc9 hv9 ((Vm.findClass_spec hf9).elim fun k9 h9 => ⟨k9, h9.1⟩) (fun pl hpl => ct_T _ _ htab (ct_1 ⟨by decide, by decide⟩ (by decide) (ct_hit hB hown (htg _ (gw_mem (i := 730) (by decide +kernel) rfl)) (show ("java/lang/IndexOutOfBoundsException", "java/lang/IndexOutOfBoundsException") ∈ zCst by decide) hf9 pl hpl) rfl)) ?_
      refine lv_astore (lv' := [(5, .ref x9), (0, .ref (o 0 0)), (1, .int q), (2, .int u), (3, .int w), (4, .ref out)]) hx hb d_Lw_dates_22 hl (by decide) rfl (fun ls hl => ?_)
      refine lv_iconst (v := 1) hx hb d_Lw_dates_24 (by decide) ?_
      exact t_ret (W.iret (v := 1) hx hb hr (fun t ht hW => Or.inl ⟨some (.int 1), rfl, (by rw [ht]; exact Or.inr ⟨by rw [hG], by rw [hG]; decide, ho9, hz9, hk9⟩), hS9.F ht⟩) hS9.2.2 d_Lw_dates_25)
    · subst hE
      refine t_catch (h := 26) hc9 hv9 ((Vm.findClass_spec hf9).elim fun k9 h9 => ⟨k9, h9.1⟩) (fun pl hpl => ct_T _ _ htab (ct_0 ⟨by decide, by decide⟩ (by decide) (ct_miss hB hown (htg _ (gw_mem (i := 730) (by decide +kernel) rfl)) (show ("java/lang/IllegalArgumentException", "java/lang/IndexOutOfBoundsException") ∈ zNcs by decide) hf9 pl hpl) (ct_1 ⟨by decide, by decide⟩ (by decide) (ct_hit hB hown (htg _ (gw_mem (i := 600) (by decide +kernel) rfl)) (show ("java/lang/IllegalArgumentException", "java/lang/IllegalArgumentException") ∈ zCst by decide) hf9 pl hpl) rfl))) ?_
      refine lv_astore (lv' := [(5, .ref x9), (0, .ref (o 0 0)), (1, .int q), (2, .int u), (3, .int w), (4, .ref out)]) hx hb d_Lw_dates_26 hl (by decide) rfl (fun ls hl => ?_)
      refine lv_iconst (v := 2) hx hb d_Lw_dates_28 (by decide) ?_
      exact t_ret (W.iret (v := 2) hx hb hr (fun t ht hW => Or.inl ⟨some (.int 2), rfl, (by rw [ht]; exact Or.inr ⟨by rw [hG], by rw [hG]; decide, ho9, hz9, hk9⟩), hS9.F ht⟩) hS9.2.2 d_Lw_dates_29)
  · obtain ⟨w9, hw9⟩ : ∃ w : Int32, v9 = some (.int w) := by
      first | exact ⟨_, hp9.2.2⟩ | exact ⟨_, hp9.2.1⟩ | (have h8 := hp9.2; split at h8 <;> first | exact ⟨_, h8.1⟩ | (split at h8 <;> exact ⟨_, h8.1⟩))
    subst hw9
    replace hS : va_S (fun q => nmA r N q ∨ q = out) s.heap H9 ([] ++ L9) := x_app hS hz9 (fun q h1 h2 => hk9 q h1 (fun h => h2 ((fun q (h : nmA r N q) => Or.inl h) _ h))) (fun q hq => (fun q (h : nmA r N q) => Or.inl h) _ (hL9 q hq))
    replace hout := hx_keep hout (hk9 _ (hx_lt hout) (fun h9 => h9.elim hor (fun h9 => by have := hx_lt hout; omega)))
    obtain ⟨H, hHe⟩ : ∃ X : Heap, X = H9 := ⟨_, rfl⟩
    rw [← hHe] at hS hout hp9
    rw [← hHe]
    refine W.eq (g2 := F0 m 10 ls [.int w9, .int 0, .ref out]) rfl ?_
    refine lv_if_eq (x := w9) (tgt := 17) hx hb d_Lw_dates_10 (by decide) (fun c10 => ?_) (fun c10 => ?_)
    · skip
      refine lv_lconst (v := 0) hx hb d_Lw_dates_17 rfl ?_
      obtain ⟨H1, hH1⟩ : ∃ X : Heap, X = H := ⟨_, rfl⟩
      refine hx_last hx hb hK hS (Or.inr rfl) 3 hout rfl (show vp_in 0 1 from vp_in_nI (n := 0) (by decide) (by decide)) d_Lw_dates_18 (fun H locs hat hz ho hS => ?_)
      replace hout : va_at D vwCl (out, .inl (cs 3, (1, .inr (.inl (vp_updL gl 0 (0)))))) H := hat
      refine lv_goto (tgt := 30) hx hb d_Lw_dates_19 (by decide) ?_
      refine lv_iconst (v := 0) hx hb d_Lw_dates_30 (by decide) ?_
      refine t_ret ?_
      exact W.iret (v := 0) hx hb hr (fun t ht hW => Or.inl ⟨some (.int (0)), rfl, (by rw [ht]; exact Or.inl ⟨rfl, w9, H1, by rw [hH1]; exact hp9, (by rw [if_pos c10]; exact hout), by rw [hH1]; exact hz, by rw [hH1]; exact ho⟩), hS.F ht⟩) hS.2.2 d_Lw_dates_31
    · skip
      refine lv_lconst (v := 1) hx hb d_Lw_dates_13 rfl ?_
      refine lv_goto (tgt := 18) hx hb d_Lw_dates_14 (by decide) ?_
      obtain ⟨H1, hH1⟩ : ∃ X : Heap, X = H := ⟨_, rfl⟩
      refine hx_last hx hb hK hS (Or.inr rfl) 3 hout rfl (show vp_in 0 1 from vp_in_nI (n := 0) (by decide) (by decide)) d_Lw_dates_18 (fun H locs hat hz ho hS => ?_)
      replace hout : va_at D vwCl (out, .inl (cs 3, (1, .inr (.inl (vp_updL gl 0 (1)))))) H := hat
      refine lv_goto (tgt := 30) hx hb d_Lw_dates_19 (by decide) ?_
      refine lv_iconst (v := 0) hx hb d_Lw_dates_30 (by decide) ?_
      refine t_ret ?_
      exact W.iret (v := 0) hx hb hr (fun t ht hW => Or.inl ⟨some (.int (0)), rfl, (by rw [ht]; exact Or.inl ⟨rfl, w9, H1, by rw [hH1]; exact hp9, (by rw [if_neg c10]; exact hout), by rw [hH1]; exact hz, by rw [hH1]; exact ho⟩), hS.F ht⟩) hS.2.2 d_Lw_dates_31
def y_Lw_score : MethodName := ⟨"NameMergesLaw", "score", "(LNameMerges;II[J)I"⟩
abbrev w_Lw_score : List Cond := Cond.codeWith y_Lw_score method_7_code 5 (Option.some Jvm.ClassFile.FieldType.int) [(0, 10, 13, 25)] :: gw
theorem d_Lw_score_0 : decode method_7_code 0 = .ok (.aload_n 3, 1) := by decide +kernel
theorem d_Lw_score_1 : decode method_7_code 1 = .ok (.iconst 0, 1) := by decide +kernel
theorem d_Lw_score_2 : decode method_7_code 2 = .ok (.aload_n 0, 1) := by decide +kernel
theorem d_Lw_score_3 : decode method_7_code 3 = .ok (.iload_n 1, 1) := by decide +kernel
theorem d_Lw_score_4 : decode method_7_code 4 = .ok (.iload_n 2, 1) := by decide +kernel
theorem d_Lw_score_5 : decode method_7_code 5 = .ok (.invokevirtual 31, 3) := by decide +kernel
theorem d_Lw_score_8 : decode method_7_code 8 = .ok (.i2l, 1) := by decide +kernel
theorem d_Lw_score_9 : decode method_7_code 9 = .ok (.lastore, 1) := by decide +kernel
theorem d_Lw_score_10 : decode method_7_code 10 = .ok (.goto 7, 3) := by decide +kernel
theorem d_Lw_score_13 : decode method_7_code 13 = .ok (.astore 4, 2) := by decide +kernel
theorem d_Lw_score_15 : decode method_7_code 15 = .ok (.iconst 1, 1) := by decide +kernel
theorem d_Lw_score_16 : decode method_7_code 16 = .ok (.ireturn, 1) := by decide +kernel
theorem d_Lw_score_17 : decode method_7_code 17 = .ok (.iconst 0, 1) := by decide +kernel
theorem d_Lw_score_18 : decode method_7_code 18 = .ok (.ireturn, 1) := by decide +kernel
set_option maxHeartbeats 4000000 in
set_option maxRecDepth 100000 in
theorem c_Lw_score (l : Launch) (D : va_G) (cs : Nat → ClassId) (N0 : Nat) (H : Heap) (hl9 : l.stackTraces = false) (o z : Nat → Nat → Nat) (K : Nat → Nat → Nat → Int32) (r : Nat → Nat × Nat) (N : Nat) (out : Nat) (gl : Nat → Int64) (qa qb : Int32) (hI : nmP D cs N0 H o z K r) (hN : N = H.size) (hout : va_at D vwCl (out, .inl (cs 3, (1, .inr (.inl gl)))) H) (hor : ¬ (r out).1 < 20) (ho0 : N0 ≤ out) : tMet l y_Lw_score w_Lw_score ({ frames := 9, cells := 2, slots := 12, locals := 207 }) (hPre D cs N0 [.ref (o 0 0), .int qa, .int qb, .ref out] H) (hT (fun v H' => (v = some (.int 0) ∧ ∃ (wv : Int32) (H1 : Heap), (fun (v : Option Value) (H' : Heap) => goV (isN (z 3 0) qa && isN (z 3 0) qb) true true = 0 ∧ v = some (.int (lkV z K (tn qa) (tn qb))) ∧ ∃ w : Nat → Int32, nmP D cs N0 H' o z (upK K 9 0 w) r) (some (.int wv)) H1 ∧ va_at D vwCl (out, .inl (cs 3, (1, .inr (.inl (vp_updL gl 0 wv.toInt64))))) H' ∧ H'.size = H1.size ∧ ∀ q : Nat, q ≠ out → H'[q]? = H1[q]?) ∨ (v = some (.int (goV (isN (z 3 0) qa && isN (z 3 0) qb) true true)) ∧ ¬ goV (isN (z 3 0) qa && isN (z 3 0) qb) true true = 0 ∧ va_at D vwCl (out, .inl (cs 3, (1, .inr (.inl gl)))) H' ∧ H.size ≤ H'.size ∧ ∀ q : Nat, q < H.size → H'[q]? = H[q]?)) (fun _ => False) (fun q => nmA r N q ∨ q = out)) 2 12 (fun q => nmA r N q ∨ q = out) := by
  refine tMet.ofWH (hh := [(0, 10, 13, 25)]) (cc := method_7_code) (maxL := 5) (ret := (Option.some Jvm.ClassFile.FieldType.int)) (by decide) rfl ?_
  intro p e s m args below meth c s₁ B hml htab hv
  obtain ⟨rfl, rfl, hB⟩ := hv
  have hx := B.exec
  have hb := B.bytes
  have hr := B.returns
  have hts := atoms_spec (ws := w_Lw_score) B.pre
  have htg : ∀ w ∈ gw, w.before _ s = true := fun w h => hts w (List.mem_cons_of_mem _ h)
  have hown : s.vm.findClass "NameMergesLaw" = some m.cls := findClass_of_methodNamed B.named
  have hlocks := B.notSynchronized
  have hAN : ∀ q, (fun q => nmA r N q ∨ q = out) q → N0 ≤ q := fun q9 h9 => h9.elim (fun h9 => h9.elim (hI.2.1 q9) (fun h9 => Nat.le_trans hB.2.1 (hN ▸ h9))) (fun h9 => h9 ▸ ho0)
  have hK := hB.1
  obtain ⟨H, hH⟩ : ∃ z : Heap, z = s.heap := ⟨_, rfl⟩
  have hz0 : H.size = s.heap.size := by rw [hH]
  have hN0 := hB.2.1
  rw [← hH] at hI hout
  have hS : va_S (fun q => nmA r N q ∨ q = out) s.heap H [] := by rw [hH]; exact va_S.rf
  have hl := lv_entry ([.ref (o 0 0), .int qa, .int qb, .ref out]) (n := 5) (Nat.le_of_ble_eq_true rfl)
  rw [lg_entry_eq, ← hH]
  generalize (lg_sl ([.ref (o 0 0), .int qa, .int qb, .ref out]) ++ List.replicate (5 - (lg_sl ([.ref (o 0 0), .int qa, .int qb, .ref out])).length) Slot.unset).toArray = ls at hl ⊢
  have hl : lv_has ls 5 [(0, .ref (o 0 0)), (1, .int qa), (2, .int qb), (3, .ref out)] := hl
  refine lv_aload_n hx hb d_Lw_score_0 rfl (lv_at hl 3 rfl) ?_
  refine lv_iconst (v := 0) hx hb d_Lw_score_1 (by decide) ?_
  refine lv_aload_n hx hb d_Lw_score_2 rfl (lv_at hl 0 rfl) ?_
  refine lv_iload_n hx hb d_Lw_score_3 rfl (lv_at hl 1 rfl) ?_
  refine lv_iload_n hx hb d_Lw_score_4 rfl (lv_at hl 2 rfl) ?_
  refine t_V (As := [.int qa, .int qb]) (rest := [.int 0, .ref out]) ⟨hx, hb, hml, hown, htg⟩ (c_Nm_score l D cs N0 H hl9 o z K r N qa qb hI (by omega)) ⟨x_cwB 2 htg (gw_mem (i := 816) (by decide +kernel) rfl) (gw_mem (i := 30) (by decide +kernel) rfl) (gw_mem (i := 813) (by decide +kernel) rfl) (by decide +kernel) ⟨Nat.le_of_ble_eq_true rfl, Nat.le_of_ble_eq_true rfl⟩, htg _ (gw_mem (i := 814) (by decide +kernel) rfl), htg _ (gw_mem (i := 815) (by decide +kernel) rfl)⟩ ⟨hPre.blind, hx_recv hK (ci := 1) rfl (show va_at D vwCl (o 0 0, .inr (1, [.ref (o 1 0), .ref (o 3 0), .ref (o 5 0), .ref (o 7 0), .ref (o 8 0), .int (nI (z 0 0)), .int (K 0 0 0), .ref (o 9 0)])) H from hI.at (k := 0) (n := 0) (show nmv z 0 0 from rfl)), hPre.at hB hS hAN⟩ rfl hl.1 rfl (lv_room (Nat.le_of_ble_eq_true rfl)) d_Lw_score_5 ⟨Nat.le_of_ble_eq_true rfl, Nat.le_of_ble_eq_true rfl⟩ (fun x9 E9 ce9 H9 L9 hL9 hb9 hc9 hv9 hf9 hz9 hk9 => ?_) (fun v9 H9 L9 hL9 hp9 hz9 hk9 => ?_)
  · have hS9 : va_S (fun q => nmA r N q ∨ q = out) s.heap H9 ([] ++ L9) := x_app hS hz9 (fun q h1 h2 => hk9 q h1) (fun q hq => (jA_sub1 (A := fun q => nmA r N q ∨ q = out) (Or.inl (hI.inA (k := 9) (n := 0) rfl)) (fun q h => Or.inl (Or.inr h))) _ (hL9 q hq))
    have ho9 := hx_keep hout (hk9 _ (hx_lt hout))
    obtain ⟨hE, hG⟩ := hb9
    subst hE
    refine t_catch (h := 13) hc9 hv9 ((Vm.findClass_spec hf9).elim fun k9 h9 => ⟨k9, h9.1⟩) (fun pl hpl => ct_T _ _ htab (ct_1 ⟨by decide, by decide⟩ (by decide) (ct_hit hB hown (htg _ (gw_mem (i := 730) (by decide +kernel) rfl)) (show ("java/lang/IndexOutOfBoundsException", "java/lang/IndexOutOfBoundsException") ∈ zCst by decide) hf9 pl hpl) rfl)) ?_
    refine lv_astore (lv' := [(4, .ref x9), (0, .ref (o 0 0)), (1, .int qa), (2, .int qb), (3, .ref out)]) hx hb d_Lw_score_13 hl (by decide) rfl (fun ls hl => ?_)
    refine lv_iconst (v := 1) hx hb d_Lw_score_15 (by decide) ?_
    exact t_ret (W.iret (v := 1) hx hb hr (fun t ht hW => Or.inl ⟨some (.int 1), rfl, (by rw [ht]; exact Or.inr ⟨by rw [hG], by rw [hG]; decide, ho9, hz9, hk9⟩), hS9.F ht⟩) hS9.2.2 d_Lw_score_16)
  · obtain ⟨w9, hw9⟩ : ∃ w : Int32, v9 = some (.int w) := by
      first | exact ⟨_, hp9.2.2⟩ | exact ⟨_, hp9.2.1⟩ | (have h8 := hp9.2; split at h8 <;> first | exact ⟨_, h8.1⟩ | (split at h8 <;> exact ⟨_, h8.1⟩))
    subst hw9
    replace hS : va_S (fun q => nmA r N q ∨ q = out) s.heap H9 ([] ++ L9) := x_app hS hz9 (fun q h1 h2 => hk9 q h1 (fun h => h2 ((jA_sub1 (A := fun q => nmA r N q ∨ q = out) (Or.inl (hI.inA (k := 9) (n := 0) rfl)) (fun q h => Or.inl (Or.inr h))) _ h))) (fun q hq => (jA_sub1 (A := fun q => nmA r N q ∨ q = out) (Or.inl (hI.inA (k := 9) (n := 0) rfl)) (fun q h => Or.inl (Or.inr h))) _ (hL9 q hq))
    replace hout := hx_keep hout (hk9 _ (hx_lt hout) (jA_not1 (fun h9 => hor (h9 ▸ (hI.1 9 0 rfl).2 ▸ (by decide))) (by have := hx_lt hout; omega)))
    obtain ⟨H, hHe⟩ : ∃ X : Heap, X = H9 := ⟨_, rfl⟩
    rw [← hHe] at hS hout hp9
    rw [← hHe]
    refine W.eq (g2 := F0 m 8 ls [.int w9, .int 0, .ref out]) rfl ?_
    refine lv_i2l (v := w9.toInt64) hx hb d_Lw_score_8 rfl ?_
    obtain ⟨H1, hH1⟩ : ∃ X : Heap, X = H := ⟨_, rfl⟩
    refine hx_last hx hb hK hS (Or.inr rfl) 3 hout rfl (show vp_in 0 1 from vp_in_nI (n := 0) (by decide) (by decide)) d_Lw_score_9 (fun H locs hat hz ho hS => ?_)
    replace hout : va_at D vwCl (out, .inl (cs 3, (1, .inr (.inl (vp_updL gl 0 (w9.toInt64)))))) H := hat
    refine lv_goto (tgt := 17) hx hb d_Lw_score_10 (by decide) ?_
    refine lv_iconst (v := 0) hx hb d_Lw_score_17 (by decide) ?_
    refine t_ret ?_
    exact W.iret (v := 0) hx hb hr (fun t ht hW => Or.inl ⟨some (.int (0)), rfl, (by rw [ht]; exact Or.inl ⟨rfl, w9, H1, by rw [hH1]; exact hp9, hout, by rw [hH1]; exact hz, by rw [hH1]; exact ho⟩), hS.F ht⟩) hS.2.2 d_Lw_score_18
def y_Lw_candidate : MethodName := ⟨"NameMergesLaw", "candidate", "(LNameMerges;II[J)I"⟩
abbrev w_Lw_candidate : List Cond := Cond.codeWith y_Lw_candidate method_8_code 5 (Option.some Jvm.ClassFile.FieldType.int) [(0, 10, 13, 25)] :: gw
theorem d_Lw_candidate_0 : decode method_8_code 0 = .ok (.aload_n 3, 1) := by decide +kernel
theorem d_Lw_candidate_1 : decode method_8_code 1 = .ok (.iconst 0, 1) := by decide +kernel
theorem d_Lw_candidate_2 : decode method_8_code 2 = .ok (.aload_n 0, 1) := by decide +kernel
theorem d_Lw_candidate_3 : decode method_8_code 3 = .ok (.iload_n 1, 1) := by decide +kernel
theorem d_Lw_candidate_4 : decode method_8_code 4 = .ok (.iload_n 2, 1) := by decide +kernel
theorem d_Lw_candidate_5 : decode method_8_code 5 = .ok (.invokevirtual 35, 3) := by decide +kernel
theorem d_Lw_candidate_8 : decode method_8_code 8 = .ok (.i2l, 1) := by decide +kernel
theorem d_Lw_candidate_9 : decode method_8_code 9 = .ok (.lastore, 1) := by decide +kernel
theorem d_Lw_candidate_10 : decode method_8_code 10 = .ok (.goto 7, 3) := by decide +kernel
theorem d_Lw_candidate_13 : decode method_8_code 13 = .ok (.astore 4, 2) := by decide +kernel
theorem d_Lw_candidate_15 : decode method_8_code 15 = .ok (.iconst 1, 1) := by decide +kernel
theorem d_Lw_candidate_16 : decode method_8_code 16 = .ok (.ireturn, 1) := by decide +kernel
theorem d_Lw_candidate_17 : decode method_8_code 17 = .ok (.iconst 0, 1) := by decide +kernel
theorem d_Lw_candidate_18 : decode method_8_code 18 = .ok (.ireturn, 1) := by decide +kernel
set_option maxHeartbeats 4000000 in
set_option maxRecDepth 100000 in
theorem c_Lw_candidate (l : Launch) (D : va_G) (cs : Nat → ClassId) (N0 : Nat) (H : Heap) (hl9 : l.stackTraces = false) (o z : Nat → Nat → Nat) (K : Nat → Nat → Nat → Int32) (r : Nat → Nat × Nat) (N : Nat) (out : Nat) (gl : Nat → Int64) (q sd : Int32) (hI : nmP D cs N0 H o z K r) (hN : N = H.size) (hout : va_at D vwCl (out, .inl (cs 3, (1, .inr (.inl gl)))) H) (hor : ¬ (r out).1 < 20) (ho0 : N0 ≤ out) : tMet l y_Lw_candidate w_Lw_candidate ({ frames := 7, cells := 1, slots := 6, locals := 104 }) (hPre D cs N0 [.ref (o 0 0), .int q, .int sd, .ref out] H) (hT (fun v H' => (v = some (.int 0) ∧ ∃ (wv : Int32) (H1 : Heap), (fun (v : Option Value) (H' : Heap) => goV (isN (z 0 0) q && (!decide (sd < 0) && !decide (1 < sd))) true true = 0 ∧ H' = H ∧ v = some (.int (cndV K (tn q) sd))) (some (.int wv)) H1 ∧ va_at D vwCl (out, .inl (cs 3, (1, .inr (.inl (vp_updL gl 0 wv.toInt64))))) H' ∧ H'.size = H1.size ∧ ∀ q : Nat, q ≠ out → H'[q]? = H1[q]?) ∨ (v = some (.int (goV (isN (z 0 0) q && (!decide (sd < 0) && !decide (1 < sd))) true true)) ∧ ¬ goV (isN (z 0 0) q && (!decide (sd < 0) && !decide (1 < sd))) true true = 0 ∧ va_at D vwCl (out, .inl (cs 3, (1, .inr (.inl gl)))) H' ∧ H.size ≤ H'.size ∧ ∀ q : Nat, q < H.size → H'[q]? = H[q]?)) (fun _ => False) (fun q => nmA r N q ∨ q = out)) 1 6 (fun q => nmA r N q ∨ q = out) := by
  refine tMet.ofWH (hh := [(0, 10, 13, 25)]) (cc := method_8_code) (maxL := 5) (ret := (Option.some Jvm.ClassFile.FieldType.int)) (by decide) rfl ?_
  intro p e s m args below meth c s₁ B hml htab hv
  obtain ⟨rfl, rfl, hB⟩ := hv
  have hx := B.exec
  have hb := B.bytes
  have hr := B.returns
  have hts := atoms_spec (ws := w_Lw_candidate) B.pre
  have htg : ∀ w ∈ gw, w.before _ s = true := fun w h => hts w (List.mem_cons_of_mem _ h)
  have hown : s.vm.findClass "NameMergesLaw" = some m.cls := findClass_of_methodNamed B.named
  have hlocks := B.notSynchronized
  have hAN : ∀ q, (fun q => nmA r N q ∨ q = out) q → N0 ≤ q := fun q9 h9 => h9.elim (fun h9 => h9.elim (hI.2.1 q9) (fun h9 => Nat.le_trans hB.2.1 (hN ▸ h9))) (fun h9 => h9 ▸ ho0)
  have hK := hB.1
  obtain ⟨H, hH⟩ : ∃ z : Heap, z = s.heap := ⟨_, rfl⟩
  have hz0 : H.size = s.heap.size := by rw [hH]
  have hN0 := hB.2.1
  rw [← hH] at hI hout
  have hS : va_S (fun q => nmA r N q ∨ q = out) s.heap H [] := by rw [hH]; exact va_S.rf
  have hl := lv_entry ([.ref (o 0 0), .int q, .int sd, .ref out]) (n := 5) (Nat.le_of_ble_eq_true rfl)
  rw [lg_entry_eq, ← hH]
  generalize (lg_sl ([.ref (o 0 0), .int q, .int sd, .ref out]) ++ List.replicate (5 - (lg_sl ([.ref (o 0 0), .int q, .int sd, .ref out])).length) Slot.unset).toArray = ls at hl ⊢
  have hl : lv_has ls 5 [(0, .ref (o 0 0)), (1, .int q), (2, .int sd), (3, .ref out)] := hl
  refine lv_aload_n hx hb d_Lw_candidate_0 rfl (lv_at hl 3 rfl) ?_
  refine lv_iconst (v := 0) hx hb d_Lw_candidate_1 (by decide) ?_
  refine lv_aload_n hx hb d_Lw_candidate_2 rfl (lv_at hl 0 rfl) ?_
  refine lv_iload_n hx hb d_Lw_candidate_3 rfl (lv_at hl 1 rfl) ?_
  refine lv_iload_n hx hb d_Lw_candidate_4 rfl (lv_at hl 2 rfl) ?_
  refine t_V (As := [.int q, .int sd]) (rest := [.int 0, .ref out]) ⟨hx, hb, hml, hown, htg⟩ (c_Nm_candidate l D cs N0 H hl9 o z K r q sd hI) ⟨x_cwB 2 htg (gw_mem (i := 823) (by decide +kernel) rfl) (gw_mem (i := 30) (by decide +kernel) rfl) (gw_mem (i := 820) (by decide +kernel) rfl) (by decide +kernel) ⟨Nat.le_of_ble_eq_true rfl, Nat.le_of_ble_eq_true rfl⟩, htg _ (gw_mem (i := 821) (by decide +kernel) rfl), htg _ (gw_mem (i := 822) (by decide +kernel) rfl)⟩ ⟨hPre.blind, hx_recv hK (ci := 1) rfl (show va_at D vwCl (o 0 0, .inr (1, [.ref (o 1 0), .ref (o 3 0), .ref (o 5 0), .ref (o 7 0), .ref (o 8 0), .int (nI (z 0 0)), .int (K 0 0 0), .ref (o 9 0)])) H from hI.at (k := 0) (n := 0) (show nmv z 0 0 from rfl)), hPre.at hB hS hAN⟩ rfl hl.1 rfl (lv_room (Nat.le_of_ble_eq_true rfl)) d_Lw_candidate_5 ⟨Nat.le_of_ble_eq_true rfl, Nat.le_of_ble_eq_true rfl⟩ (fun x9 E9 ce9 H9 L9 hL9 hb9 hc9 hv9 hf9 hz9 hk9 => ?_) (fun v9 H9 L9 hL9 hp9 hz9 hk9 => ?_)
  · have hS9 : va_S (fun q => nmA r N q ∨ q = out) s.heap H9 ([] ++ L9) := x_app hS hz9 (fun q h1 h2 => hk9 q h1) (fun q hq => (fun _ h => h.elim) _ (hL9 q hq))
    have ho9 := hx_keep hout (hk9 _ (hx_lt hout))
    obtain ⟨hE, hG⟩ := hb9
    subst hE
    refine t_catch (h := 13) hc9 hv9 ((Vm.findClass_spec hf9).elim fun k9 h9 => ⟨k9, h9.1⟩) (fun pl hpl => ct_T _ _ htab (ct_1 ⟨by decide, by decide⟩ (by decide) (ct_hit hB hown (htg _ (gw_mem (i := 730) (by decide +kernel) rfl)) (show ("java/lang/IndexOutOfBoundsException", "java/lang/IndexOutOfBoundsException") ∈ zCst by decide) hf9 pl hpl) rfl)) ?_
    refine lv_astore (lv' := [(4, .ref x9), (0, .ref (o 0 0)), (1, .int q), (2, .int sd), (3, .ref out)]) hx hb d_Lw_candidate_13 hl (by decide) rfl (fun ls hl => ?_)
    refine lv_iconst (v := 1) hx hb d_Lw_candidate_15 (by decide) ?_
    exact t_ret (W.iret (v := 1) hx hb hr (fun t ht hW => Or.inl ⟨some (.int 1), rfl, (by rw [ht]; exact Or.inr ⟨by rw [hG], by rw [hG]; decide, ho9, hz9, hk9⟩), hS9.F ht⟩) hS9.2.2 d_Lw_candidate_16)
  · obtain ⟨w9, hw9⟩ : ∃ w : Int32, v9 = some (.int w) := by
      first | exact ⟨_, hp9.2.2⟩ | exact ⟨_, hp9.2.1⟩ | (have h8 := hp9.2; split at h8 <;> first | exact ⟨_, h8.1⟩ | (split at h8 <;> exact ⟨_, h8.1⟩))
    subst hw9
    replace hS : va_S (fun q => nmA r N q ∨ q = out) s.heap H9 ([] ++ L9) := x_app hS hz9 (fun q h1 h2 => hk9 q h1 (fun h => h2 ((fun _ h => h.elim) _ h))) (fun q hq => (fun _ h => h.elim) _ (hL9 q hq))
    replace hout := hx_keep hout (hk9 _ (hx_lt hout) (fun h => h))
    obtain ⟨H, hHe⟩ : ∃ X : Heap, X = H9 := ⟨_, rfl⟩
    rw [← hHe] at hS hout hp9
    rw [← hHe]
    refine W.eq (g2 := F0 m 8 ls [.int w9, .int 0, .ref out]) rfl ?_
    refine lv_i2l (v := w9.toInt64) hx hb d_Lw_candidate_8 rfl ?_
    obtain ⟨H1, hH1⟩ : ∃ X : Heap, X = H := ⟨_, rfl⟩
    refine hx_last hx hb hK hS (Or.inr rfl) 3 hout rfl (show vp_in 0 1 from vp_in_nI (n := 0) (by decide) (by decide)) d_Lw_candidate_9 (fun H locs hat hz ho hS => ?_)
    replace hout : va_at D vwCl (out, .inl (cs 3, (1, .inr (.inl (vp_updL gl 0 (w9.toInt64)))))) H := hat
    refine lv_goto (tgt := 17) hx hb d_Lw_candidate_10 (by decide) ?_
    refine lv_iconst (v := 0) hx hb d_Lw_candidate_17 (by decide) ?_
    refine t_ret ?_
    exact W.iret (v := 0) hx hb hr (fun t ht hW => Or.inl ⟨some (.int (0)), rfl, (by rw [ht]; exact Or.inl ⟨rfl, w9, H1, by rw [hH1]; exact hp9, hout, by rw [hH1]; exact hz, by rw [hH1]; exact ho⟩), hS.F ht⟩) hS.2.2 d_Lw_candidate_18
def y_Lw_decide : MethodName := ⟨"NameMergesLaw", "decide", "(LNameMerges;III[J)I"⟩
abbrev w_Lw_decide : List Cond := Cond.codeWith y_Lw_decide method_9_code 6 (Option.some Jvm.ClassFile.FieldType.int) [(0, 12, 15, 25), (0, 12, 19, 15)] :: gw
theorem d_Lw_decide_0 : decode method_9_code 0 = .ok (.aload 4, 2) := by decide +kernel
theorem d_Lw_decide_2 : decode method_9_code 2 = .ok (.iconst 0, 1) := by decide +kernel
theorem d_Lw_decide_3 : decode method_9_code 3 = .ok (.aload_n 0, 1) := by decide +kernel
theorem d_Lw_decide_4 : decode method_9_code 4 = .ok (.iload_n 1, 1) := by decide +kernel
theorem d_Lw_decide_5 : decode method_9_code 5 = .ok (.iload_n 2, 1) := by decide +kernel
theorem d_Lw_decide_6 : decode method_9_code 6 = .ok (.iload_n 3, 1) := by decide +kernel
theorem d_Lw_decide_7 : decode method_9_code 7 = .ok (.invokevirtual 38, 3) := by decide +kernel
theorem d_Lw_decide_10 : decode method_9_code 10 = .ok (.i2l, 1) := by decide +kernel
theorem d_Lw_decide_11 : decode method_9_code 11 = .ok (.lastore, 1) := by decide +kernel
theorem d_Lw_decide_12 : decode method_9_code 12 = .ok (.goto 11, 3) := by decide +kernel
theorem d_Lw_decide_15 : decode method_9_code 15 = .ok (.astore 5, 2) := by decide +kernel
theorem d_Lw_decide_17 : decode method_9_code 17 = .ok (.iconst 1, 1) := by decide +kernel
theorem d_Lw_decide_18 : decode method_9_code 18 = .ok (.ireturn, 1) := by decide +kernel
theorem d_Lw_decide_19 : decode method_9_code 19 = .ok (.astore 5, 2) := by decide +kernel
theorem d_Lw_decide_21 : decode method_9_code 21 = .ok (.iconst 2, 1) := by decide +kernel
theorem d_Lw_decide_22 : decode method_9_code 22 = .ok (.ireturn, 1) := by decide +kernel
theorem d_Lw_decide_23 : decode method_9_code 23 = .ok (.iconst 0, 1) := by decide +kernel
theorem d_Lw_decide_24 : decode method_9_code 24 = .ok (.ireturn, 1) := by decide +kernel
set_option maxHeartbeats 4000000 in
set_option maxRecDepth 100000 in
theorem c_Lw_decide (l : Launch) (D : va_G) (cs : Nat → ClassId) (N0 : Nat) (H : Heap) (hl9 : l.stackTraces = false) (o z : Nat → Nat → Nat) (K : Nat → Nat → Nat → Int32) (r : Nat → Nat × Nat) (N : Nat) (out : Nat) (gl : Nat → Int64) (qa qb kd : Int32) (hI : nmP D cs N0 H o z K r) (hN : N = H.size) (hout : va_at D vwCl (out, .inl (cs 3, (1, .inr (.inl gl)))) H) (hor : ¬ (r out).1 < 20) (ho0 : N0 ≤ out) : tMet l y_Lw_decide w_Lw_decide ({ frames := 8, cells := 4, slots := 24, locals := 128 }) (hPre D cs N0 [.ref (o 0 0), .int qa, .int qb, .int kd, .ref out] H) (hT (fun v H' => (v = some (.int 0) ∧ ∃ (wv : Int32) (H1 : Heap), (fun (v : Option Value) (H' : Heap) => goV (isN (z 3 0) qa && isN (z 3 0) qb) (!decide (qa = qb) && !decide (kd < 0) && !decide (2 < kd)) true = 0 ∧ v = some (.int (K 7 0 (min (tn qa) (tn qb) * 24 + max (tn qa) (tn qb)))) ∧ nmP D cs N0 H' o z (upK K 7 0 (upd (K 7 0) (min (tn qa) (tn qb) * 24 + max (tn qa) (tn qb)) kd)) r) (some (.int wv)) H1 ∧ va_at D vwCl (out, .inl (cs 3, (1, .inr (.inl (vp_updL gl 0 wv.toInt64))))) H' ∧ H'.size = H1.size ∧ ∀ q : Nat, q ≠ out → H'[q]? = H1[q]?) ∨ (v = some (.int (goV (isN (z 3 0) qa && isN (z 3 0) qb) (!decide (qa = qb) && !decide (kd < 0) && !decide (2 < kd)) true)) ∧ ¬ goV (isN (z 3 0) qa && isN (z 3 0) qb) (!decide (qa = qb) && !decide (kd < 0) && !decide (2 < kd)) true = 0 ∧ va_at D vwCl (out, .inl (cs 3, (1, .inr (.inl gl)))) H' ∧ H.size ≤ H'.size ∧ ∀ q : Nat, q < H.size → H'[q]? = H[q]?)) (fun _ => False) (fun q => nmA r N q ∨ q = out)) 4 24 (fun q => nmA r N q ∨ q = out) := by
  refine tMet.ofWH (hh := [(0, 12, 15, 25), (0, 12, 19, 15)]) (cc := method_9_code) (maxL := 6) (ret := (Option.some Jvm.ClassFile.FieldType.int)) (by decide) rfl ?_
  intro p e s m args below meth c s₁ B hml htab hv
  obtain ⟨rfl, rfl, hB⟩ := hv
  have hx := B.exec
  have hb := B.bytes
  have hr := B.returns
  have hts := atoms_spec (ws := w_Lw_decide) B.pre
  have htg : ∀ w ∈ gw, w.before _ s = true := fun w h => hts w (List.mem_cons_of_mem _ h)
  have hown : s.vm.findClass "NameMergesLaw" = some m.cls := findClass_of_methodNamed B.named
  have hlocks := B.notSynchronized
  have hAN : ∀ q, (fun q => nmA r N q ∨ q = out) q → N0 ≤ q := fun q9 h9 => h9.elim (fun h9 => h9.elim (hI.2.1 q9) (fun h9 => Nat.le_trans hB.2.1 (hN ▸ h9))) (fun h9 => h9 ▸ ho0)
  have hK := hB.1
  obtain ⟨H, hH⟩ : ∃ z : Heap, z = s.heap := ⟨_, rfl⟩
  have hz0 : H.size = s.heap.size := by rw [hH]
  have hN0 := hB.2.1
  rw [← hH] at hI hout
  have hS : va_S (fun q => nmA r N q ∨ q = out) s.heap H [] := by rw [hH]; exact va_S.rf
  have hl := lv_entry ([.ref (o 0 0), .int qa, .int qb, .int kd, .ref out]) (n := 6) (Nat.le_of_ble_eq_true rfl)
  rw [lg_entry_eq, ← hH]
  generalize (lg_sl ([.ref (o 0 0), .int qa, .int qb, .int kd, .ref out]) ++ List.replicate (6 - (lg_sl ([.ref (o 0 0), .int qa, .int qb, .int kd, .ref out])).length) Slot.unset).toArray = ls at hl ⊢
  have hl : lv_has ls 6 [(0, .ref (o 0 0)), (1, .int qa), (2, .int qb), (3, .int kd), (4, .ref out)] := hl
  refine lv_aload hx hb d_Lw_decide_0 (lv_at hl 4 rfl) ?_
  refine lv_iconst (v := 0) hx hb d_Lw_decide_2 (by decide) ?_
  refine lv_aload_n hx hb d_Lw_decide_3 rfl (lv_at hl 0 rfl) ?_
  refine lv_iload_n hx hb d_Lw_decide_4 rfl (lv_at hl 1 rfl) ?_
  refine lv_iload_n hx hb d_Lw_decide_5 rfl (lv_at hl 2 rfl) ?_
  refine lv_iload_n hx hb d_Lw_decide_6 rfl (lv_at hl 3 rfl) ?_
  refine t_V (As := [.int qa, .int qb, .int kd]) (rest := [.int 0, .ref out]) ⟨hx, hb, hml, hown, htg⟩ (c_Nm_decide l D cs N0 H hl9 o z K r N qa qb kd hI (by omega)) ⟨x_cwB 3 htg (gw_mem (i := 832) (by decide +kernel) rfl) (gw_mem (i := 30) (by decide +kernel) rfl) (gw_mem (i := 829) (by decide +kernel) rfl) (by decide +kernel) ⟨Nat.le_of_ble_eq_true rfl, Nat.le_of_ble_eq_true rfl⟩, htg _ (gw_mem (i := 830) (by decide +kernel) rfl), htg _ (gw_mem (i := 831) (by decide +kernel) rfl)⟩ ⟨hPre.blind, hx_recv hK (ci := 1) rfl (show va_at D vwCl (o 0 0, .inr (1, [.ref (o 1 0), .ref (o 3 0), .ref (o 5 0), .ref (o 7 0), .ref (o 8 0), .int (nI (z 0 0)), .int (K 0 0 0), .ref (o 9 0)])) H from hI.at (k := 0) (n := 0) (show nmv z 0 0 from rfl)), hPre.at hB hS hAN⟩ rfl hl.1 rfl (lv_room (Nat.le_of_ble_eq_true rfl)) d_Lw_decide_7 ⟨Nat.le_of_ble_eq_true rfl, Nat.le_of_ble_eq_true rfl⟩ (fun x9 E9 ce9 H9 L9 hL9 hb9 hc9 hv9 hf9 hz9 hk9 => ?_) (fun v9 H9 L9 hL9 hp9 hz9 hk9 => ?_)
  · have hS9 : va_S (fun q => nmA r N q ∨ q = out) s.heap H9 ([] ++ L9) := x_app hS hz9 (fun q h1 h2 => hk9 q h1) (fun q hq => (fun q (h : nmA r N q) => Or.inl h) _ (hL9 q hq))
    have ho9 := hx_keep hout (hk9 _ (hx_lt hout))
    rcases hb9 with ⟨hE, hG⟩ | ⟨hE, hG⟩
    · subst hE
      refine t_catch (h := 15) hc9 hv9 ((Vm.findClass_spec hf9).elim fun k9 h9 => ⟨k9, h9.1⟩) (fun pl hpl => ct_T _ _ htab (ct_1 ⟨by decide, by decide⟩ (by decide) (ct_hit hB hown (htg _ (gw_mem (i := 730) (by decide +kernel) rfl)) (show ("java/lang/IndexOutOfBoundsException", "java/lang/IndexOutOfBoundsException") ∈ zCst by decide) hf9 pl hpl) rfl)) ?_
      refine lv_astore (lv' := [(5, .ref x9), (0, .ref (o 0 0)), (1, .int qa), (2, .int qb), (3, .int kd), (4, .ref out)]) hx hb d_Lw_decide_15 hl (by decide) rfl (fun ls hl => ?_)
      refine lv_iconst (v := 1) hx hb d_Lw_decide_17 (by decide) ?_
      exact t_ret (W.iret (v := 1) hx hb hr (fun t ht hW => Or.inl ⟨some (.int 1), rfl, (by rw [ht]; exact Or.inr ⟨by rw [hG], by rw [hG]; decide, ho9, hz9, hk9⟩), hS9.F ht⟩) hS9.2.2 d_Lw_decide_18)
    · subst hE
      refine t_catch (h := 19) hc9 hv9 ((Vm.findClass_spec hf9).elim fun k9 h9 => ⟨k9, h9.1⟩) (fun pl hpl => ct_T _ _ htab (ct_0 ⟨by decide, by decide⟩ (by decide) (ct_miss hB hown (htg _ (gw_mem (i := 730) (by decide +kernel) rfl)) (show ("java/lang/IllegalArgumentException", "java/lang/IndexOutOfBoundsException") ∈ zNcs by decide) hf9 pl hpl) (ct_1 ⟨by decide, by decide⟩ (by decide) (ct_hit hB hown (htg _ (gw_mem (i := 600) (by decide +kernel) rfl)) (show ("java/lang/IllegalArgumentException", "java/lang/IllegalArgumentException") ∈ zCst by decide) hf9 pl hpl) rfl))) ?_
      refine lv_astore (lv' := [(5, .ref x9), (0, .ref (o 0 0)), (1, .int qa), (2, .int qb), (3, .int kd), (4, .ref out)]) hx hb d_Lw_decide_19 hl (by decide) rfl (fun ls hl => ?_)
      refine lv_iconst (v := 2) hx hb d_Lw_decide_21 (by decide) ?_
      exact t_ret (W.iret (v := 2) hx hb hr (fun t ht hW => Or.inl ⟨some (.int 2), rfl, (by rw [ht]; exact Or.inr ⟨by rw [hG], by rw [hG]; decide, ho9, hz9, hk9⟩), hS9.F ht⟩) hS9.2.2 d_Lw_decide_22)
  · obtain ⟨w9, hw9⟩ : ∃ w : Int32, v9 = some (.int w) := by
      first | exact ⟨_, hp9.2.2⟩ | exact ⟨_, hp9.2.1⟩ | (have h8 := hp9.2; split at h8 <;> first | exact ⟨_, h8.1⟩ | (split at h8 <;> exact ⟨_, h8.1⟩))
    subst hw9
    replace hS : va_S (fun q => nmA r N q ∨ q = out) s.heap H9 ([] ++ L9) := x_app hS hz9 (fun q h1 h2 => hk9 q h1 (fun h => h2 ((fun q (h : nmA r N q) => Or.inl h) _ h))) (fun q hq => (fun q (h : nmA r N q) => Or.inl h) _ (hL9 q hq))
    replace hout := hx_keep hout (hk9 _ (hx_lt hout) (fun h9 => h9.elim hor (fun h9 => by have := hx_lt hout; omega)))
    obtain ⟨H, hHe⟩ : ∃ X : Heap, X = H9 := ⟨_, rfl⟩
    rw [← hHe] at hS hout hp9
    rw [← hHe]
    refine W.eq (g2 := F0 m 10 ls [.int w9, .int 0, .ref out]) rfl ?_
    refine lv_i2l (v := w9.toInt64) hx hb d_Lw_decide_10 rfl ?_
    obtain ⟨H1, hH1⟩ : ∃ X : Heap, X = H := ⟨_, rfl⟩
    refine hx_last hx hb hK hS (Or.inr rfl) 3 hout rfl (show vp_in 0 1 from vp_in_nI (n := 0) (by decide) (by decide)) d_Lw_decide_11 (fun H locs hat hz ho hS => ?_)
    replace hout : va_at D vwCl (out, .inl (cs 3, (1, .inr (.inl (vp_updL gl 0 (w9.toInt64)))))) H := hat
    refine lv_goto (tgt := 23) hx hb d_Lw_decide_12 (by decide) ?_
    refine lv_iconst (v := 0) hx hb d_Lw_decide_23 (by decide) ?_
    refine t_ret ?_
    exact W.iret (v := 0) hx hb hr (fun t ht hW => Or.inl ⟨some (.int (0)), rfl, (by rw [ht]; exact Or.inl ⟨rfl, w9, H1, by rw [hH1]; exact hp9, hout, by rw [hH1]; exact hz, by rw [hH1]; exact ho⟩), hS.F ht⟩) hS.2.2 d_Lw_decide_24
def y_Lw_merge : MethodName := ⟨"NameMergesLaw", "merge", "(LNameMerges;III[J)I"⟩
abbrev w_Lw_merge : List Cond := Cond.codeWith y_Lw_merge method_10_code 6 (Option.some Jvm.ClassFile.FieldType.int) [(0, 12, 15, 25), (0, 12, 19, 13), (0, 12, 23, 15)] :: gw
theorem d_Lw_merge_0 : decode method_10_code 0 = .ok (.aload 4, 2) := by decide +kernel
theorem d_Lw_merge_2 : decode method_10_code 2 = .ok (.iconst 0, 1) := by decide +kernel
theorem d_Lw_merge_3 : decode method_10_code 3 = .ok (.aload_n 0, 1) := by decide +kernel
theorem d_Lw_merge_4 : decode method_10_code 4 = .ok (.iload_n 1, 1) := by decide +kernel
theorem d_Lw_merge_5 : decode method_10_code 5 = .ok (.iload_n 2, 1) := by decide +kernel
theorem d_Lw_merge_6 : decode method_10_code 6 = .ok (.iload_n 3, 1) := by decide +kernel
theorem d_Lw_merge_7 : decode method_10_code 7 = .ok (.invokevirtual 42, 3) := by decide +kernel
theorem d_Lw_merge_10 : decode method_10_code 10 = .ok (.i2l, 1) := by decide +kernel
theorem d_Lw_merge_11 : decode method_10_code 11 = .ok (.lastore, 1) := by decide +kernel
theorem d_Lw_merge_12 : decode method_10_code 12 = .ok (.goto 15, 3) := by decide +kernel
theorem d_Lw_merge_15 : decode method_10_code 15 = .ok (.astore 5, 2) := by decide +kernel
theorem d_Lw_merge_17 : decode method_10_code 17 = .ok (.iconst 1, 1) := by decide +kernel
theorem d_Lw_merge_18 : decode method_10_code 18 = .ok (.ireturn, 1) := by decide +kernel
theorem d_Lw_merge_19 : decode method_10_code 19 = .ok (.astore 5, 2) := by decide +kernel
theorem d_Lw_merge_21 : decode method_10_code 21 = .ok (.iconst 2, 1) := by decide +kernel
theorem d_Lw_merge_22 : decode method_10_code 22 = .ok (.ireturn, 1) := by decide +kernel
theorem d_Lw_merge_23 : decode method_10_code 23 = .ok (.astore 5, 2) := by decide +kernel
theorem d_Lw_merge_25 : decode method_10_code 25 = .ok (.iconst 3, 1) := by decide +kernel
theorem d_Lw_merge_26 : decode method_10_code 26 = .ok (.ireturn, 1) := by decide +kernel
theorem d_Lw_merge_27 : decode method_10_code 27 = .ok (.iconst 0, 1) := by decide +kernel
theorem d_Lw_merge_28 : decode method_10_code 28 = .ok (.ireturn, 1) := by decide +kernel
set_option maxHeartbeats 4000000 in
set_option maxRecDepth 100000 in
theorem c_Lw_merge (l : Launch) (D : va_G) (cs : Nat → ClassId) (N0 : Nat) (H : Heap) (hl9 : l.stackTraces = false) (o z : Nat → Nat → Nat) (K : Nat → Nat → Nat → Int32) (r : Nat → Nat × Nat) (N : Nat) (out : Nat) (gl : Nat → Int64) (qa qb dy : Int32) (hI : nmP D cs N0 H o z K r) (hN : N = H.size) (hout : va_at D vwCl (out, .inl (cs 3, (1, .inr (.inl gl)))) H) (hor : ¬ (r out).1 < 20) (ho0 : N0 ≤ out) : tMet l y_Lw_merge w_Lw_merge ({ frames := 8, cells := 6, slots := 227, locals := 194 }) (hPre D cs N0 [.ref (o 0 0), .int qa, .int qb, .int dy, .ref out] H) (hT (fun v H' => (v = some (.int 0) ∧ ∃ (wv : Int32) (H1 : Heap), (fun (v : Option Value) (H' : Heap) => goV (isN (z 3 0) qa && isN (z 3 0) qb) (decide (z 5 0 < 60)) (!decide (qa = qb) && isD dy) = 0 ∧ (if K 7 0 (min (tn qa) (tn qb) * 24 + max (tn qa) (tn qb)) = 2 then (v = some (.int 1) ∧ nmP D cs N0 H' o z K r) else if aofB z K qa qb dy = true then (v = some (.int 2) ∧ nmP D cs N0 H' o z K r) else (v = some (.int 0) ∧ ∃ (a ea cap : Nat) (mc : Int32) (r' : Nat → Nat × Nat), nmP D cs N0 H' (upZ (upZ o 19 (z 5 0) a) 6 0 ea) (upZ (upZ z 6 0 cap) 5 0 (z 5 0 + 1)) (upK (upK K 19 (z 5 0) (fun i => if i = 0 then setV qa qb else if i = 1 then dy else 100001)) 5 0 (fun _ => mc)) r' ∧ ∀ q, q < N → r' q = r q))) (some (.int wv)) H1 ∧ va_at D vwCl (out, .inl (cs 3, (1, .inr (.inl (vp_updL gl 0 wv.toInt64))))) H' ∧ H'.size = H1.size ∧ ∀ q : Nat, q ≠ out → H'[q]? = H1[q]?) ∨ (v = some (.int (goV (isN (z 3 0) qa && isN (z 3 0) qb) (decide (z 5 0 < 60)) (!decide (qa = qb) && isD dy))) ∧ ¬ goV (isN (z 3 0) qa && isN (z 3 0) qb) (decide (z 5 0 < 60)) (!decide (qa = qb) && isD dy) = 0 ∧ va_at D vwCl (out, .inl (cs 3, (1, .inr (.inl gl)))) H' ∧ H.size ≤ H'.size ∧ ∀ q : Nat, q < H.size → H'[q]? = H[q]?)) (fun _ => False) (fun q => nmA r N q ∨ q = out)) 6 227 (fun q => nmA r N q ∨ q = out) := by
  refine tMet.ofWH (hh := [(0, 12, 15, 25), (0, 12, 19, 13), (0, 12, 23, 15)]) (cc := method_10_code) (maxL := 6) (ret := (Option.some Jvm.ClassFile.FieldType.int)) (by decide) rfl ?_
  intro p e s m args below meth c s₁ B hml htab hv
  obtain ⟨rfl, rfl, hB⟩ := hv
  have hx := B.exec
  have hb := B.bytes
  have hr := B.returns
  have hts := atoms_spec (ws := w_Lw_merge) B.pre
  have htg : ∀ w ∈ gw, w.before _ s = true := fun w h => hts w (List.mem_cons_of_mem _ h)
  have hown : s.vm.findClass "NameMergesLaw" = some m.cls := findClass_of_methodNamed B.named
  have hlocks := B.notSynchronized
  have hAN : ∀ q, (fun q => nmA r N q ∨ q = out) q → N0 ≤ q := fun q9 h9 => h9.elim (fun h9 => h9.elim (hI.2.1 q9) (fun h9 => Nat.le_trans hB.2.1 (hN ▸ h9))) (fun h9 => h9 ▸ ho0)
  have hK := hB.1
  obtain ⟨H, hH⟩ : ∃ z : Heap, z = s.heap := ⟨_, rfl⟩
  have hz0 : H.size = s.heap.size := by rw [hH]
  have hN0 := hB.2.1
  rw [← hH] at hI hout
  have hS : va_S (fun q => nmA r N q ∨ q = out) s.heap H [] := by rw [hH]; exact va_S.rf
  have hl := lv_entry ([.ref (o 0 0), .int qa, .int qb, .int dy, .ref out]) (n := 6) (Nat.le_of_ble_eq_true rfl)
  rw [lg_entry_eq, ← hH]
  generalize (lg_sl ([.ref (o 0 0), .int qa, .int qb, .int dy, .ref out]) ++ List.replicate (6 - (lg_sl ([.ref (o 0 0), .int qa, .int qb, .int dy, .ref out])).length) Slot.unset).toArray = ls at hl ⊢
  have hl : lv_has ls 6 [(0, .ref (o 0 0)), (1, .int qa), (2, .int qb), (3, .int dy), (4, .ref out)] := hl
  refine lv_aload hx hb d_Lw_merge_0 (lv_at hl 4 rfl) ?_
  refine lv_iconst (v := 0) hx hb d_Lw_merge_2 (by decide) ?_
  refine lv_aload_n hx hb d_Lw_merge_3 rfl (lv_at hl 0 rfl) ?_
  refine lv_iload_n hx hb d_Lw_merge_4 rfl (lv_at hl 1 rfl) ?_
  refine lv_iload_n hx hb d_Lw_merge_5 rfl (lv_at hl 2 rfl) ?_
  refine lv_iload_n hx hb d_Lw_merge_6 rfl (lv_at hl 3 rfl) ?_
  refine t_V (As := [.int qa, .int qb, .int dy]) (rest := [.int 0, .ref out]) ⟨hx, hb, hml, hown, htg⟩ (c_Nm_merge l D cs N0 H hl9 o z K r N qa qb dy hI (by omega)) ⟨x_cwB 3 htg (gw_mem (i := 844) (by decide +kernel) rfl) (gw_mem (i := 30) (by decide +kernel) rfl) (gw_mem (i := 841) (by decide +kernel) rfl) (by decide +kernel) ⟨Nat.le_of_ble_eq_true rfl, Nat.le_of_ble_eq_true rfl⟩, htg _ (gw_mem (i := 842) (by decide +kernel) rfl), htg _ (gw_mem (i := 843) (by decide +kernel) rfl)⟩ ⟨hPre.blind, hx_recv hK (ci := 1) rfl (show va_at D vwCl (o 0 0, .inr (1, [.ref (o 1 0), .ref (o 3 0), .ref (o 5 0), .ref (o 7 0), .ref (o 8 0), .int (nI (z 0 0)), .int (K 0 0 0), .ref (o 9 0)])) H from hI.at (k := 0) (n := 0) (show nmv z 0 0 from rfl)), hPre.at hB hS hAN⟩ rfl hl.1 rfl (lv_room (Nat.le_of_ble_eq_true rfl)) d_Lw_merge_7 ⟨Nat.le_of_ble_eq_true rfl, Nat.le_of_ble_eq_true rfl⟩ (fun x9 E9 ce9 H9 L9 hL9 hb9 hc9 hv9 hf9 hz9 hk9 => ?_) (fun v9 H9 L9 hL9 hp9 hz9 hk9 => ?_)
  · have hS9 : va_S (fun q => nmA r N q ∨ q = out) s.heap H9 ([] ++ L9) := x_app hS hz9 (fun q h1 h2 => hk9 q h1) (fun q hq => (fun q (h : nmA r N q) => Or.inl h) _ (hL9 q hq))
    have ho9 := hx_keep hout (hk9 _ (hx_lt hout))
    rcases hb9 with ⟨hE, hG⟩ | ⟨hE, hG⟩ | ⟨hE, hG⟩
    · subst hE
      refine t_catch (h := 15) hc9 hv9 ((Vm.findClass_spec hf9).elim fun k9 h9 => ⟨k9, h9.1⟩) (fun pl hpl => ct_T _ _ htab (ct_1 ⟨by decide, by decide⟩ (by decide) (ct_hit hB hown (htg _ (gw_mem (i := 730) (by decide +kernel) rfl)) (show ("java/lang/IndexOutOfBoundsException", "java/lang/IndexOutOfBoundsException") ∈ zCst by decide) hf9 pl hpl) rfl)) ?_
      refine lv_astore (lv' := [(5, .ref x9), (0, .ref (o 0 0)), (1, .int qa), (2, .int qb), (3, .int dy), (4, .ref out)]) hx hb d_Lw_merge_15 hl (by decide) rfl (fun ls hl => ?_)
      refine lv_iconst (v := 1) hx hb d_Lw_merge_17 (by decide) ?_
      exact t_ret (W.iret (v := 1) hx hb hr (fun t ht hW => Or.inl ⟨some (.int 1), rfl, (by rw [ht]; exact Or.inr ⟨by rw [hG], by rw [hG]; decide, ho9, hz9, hk9⟩), hS9.F ht⟩) hS9.2.2 d_Lw_merge_18)
    · subst hE
      refine t_catch (h := 19) hc9 hv9 ((Vm.findClass_spec hf9).elim fun k9 h9 => ⟨k9, h9.1⟩) (fun pl hpl => ct_T _ _ htab (ct_0 ⟨by decide, by decide⟩ (by decide) (ct_miss hB hown (htg _ (gw_mem (i := 730) (by decide +kernel) rfl)) (show ("java/lang/IllegalStateException", "java/lang/IndexOutOfBoundsException") ∈ zNcs by decide) hf9 pl hpl) (ct_1 ⟨by decide, by decide⟩ (by decide) (ct_hit hB hown (htg _ (gw_mem (i := 599) (by decide +kernel) rfl)) (show ("java/lang/IllegalStateException", "java/lang/IllegalStateException") ∈ zCst by decide) hf9 pl hpl) rfl))) ?_
      refine lv_astore (lv' := [(5, .ref x9), (0, .ref (o 0 0)), (1, .int qa), (2, .int qb), (3, .int dy), (4, .ref out)]) hx hb d_Lw_merge_19 hl (by decide) rfl (fun ls hl => ?_)
      refine lv_iconst (v := 2) hx hb d_Lw_merge_21 (by decide) ?_
      exact t_ret (W.iret (v := 2) hx hb hr (fun t ht hW => Or.inl ⟨some (.int 2), rfl, (by rw [ht]; exact Or.inr ⟨by rw [hG], by rw [hG]; decide, ho9, hz9, hk9⟩), hS9.F ht⟩) hS9.2.2 d_Lw_merge_22)
    · subst hE
      refine t_catch (h := 23) hc9 hv9 ((Vm.findClass_spec hf9).elim fun k9 h9 => ⟨k9, h9.1⟩) (fun pl hpl => ct_T _ _ htab (ct_0 ⟨by decide, by decide⟩ (by decide) (ct_miss hB hown (htg _ (gw_mem (i := 730) (by decide +kernel) rfl)) (show ("java/lang/IllegalArgumentException", "java/lang/IndexOutOfBoundsException") ∈ zNcs by decide) hf9 pl hpl) (ct_0 ⟨by decide, by decide⟩ (by decide) (ct_miss hB hown (htg _ (gw_mem (i := 599) (by decide +kernel) rfl)) (show ("java/lang/IllegalArgumentException", "java/lang/IllegalStateException") ∈ zNcs by decide) hf9 pl hpl) (ct_1 ⟨by decide, by decide⟩ (by decide) (ct_hit hB hown (htg _ (gw_mem (i := 600) (by decide +kernel) rfl)) (show ("java/lang/IllegalArgumentException", "java/lang/IllegalArgumentException") ∈ zCst by decide) hf9 pl hpl) rfl)))) ?_
      refine lv_astore (lv' := [(5, .ref x9), (0, .ref (o 0 0)), (1, .int qa), (2, .int qb), (3, .int dy), (4, .ref out)]) hx hb d_Lw_merge_23 hl (by decide) rfl (fun ls hl => ?_)
      refine lv_iconst (v := 3) hx hb d_Lw_merge_25 (by decide) ?_
      exact t_ret (W.iret (v := 3) hx hb hr (fun t ht hW => Or.inl ⟨some (.int 3), rfl, (by rw [ht]; exact Or.inr ⟨by rw [hG], by rw [hG]; decide, ho9, hz9, hk9⟩), hS9.F ht⟩) hS9.2.2 d_Lw_merge_26)
  · obtain ⟨w9, hw9⟩ : ∃ w : Int32, v9 = some (.int w) := by
      first | exact ⟨_, hp9.2.2⟩ | exact ⟨_, hp9.2.1⟩ | (have h8 := hp9.2; split at h8 <;> first | exact ⟨_, h8.1⟩ | (split at h8 <;> exact ⟨_, h8.1⟩))
    subst hw9
    replace hS : va_S (fun q => nmA r N q ∨ q = out) s.heap H9 ([] ++ L9) := x_app hS hz9 (fun q h1 h2 => hk9 q h1 (fun h => h2 ((fun q (h : nmA r N q) => Or.inl h) _ h))) (fun q hq => (fun q (h : nmA r N q) => Or.inl h) _ (hL9 q hq))
    replace hout := hx_keep hout (hk9 _ (hx_lt hout) (fun h9 => h9.elim hor (fun h9 => by have := hx_lt hout; omega)))
    obtain ⟨H, hHe⟩ : ∃ X : Heap, X = H9 := ⟨_, rfl⟩
    rw [← hHe] at hS hout hp9
    rw [← hHe]
    refine W.eq (g2 := F0 m 10 ls [.int w9, .int 0, .ref out]) rfl ?_
    refine lv_i2l (v := w9.toInt64) hx hb d_Lw_merge_10 rfl ?_
    obtain ⟨H1, hH1⟩ : ∃ X : Heap, X = H := ⟨_, rfl⟩
    refine hx_last hx hb hK hS (Or.inr rfl) 3 hout rfl (show vp_in 0 1 from vp_in_nI (n := 0) (by decide) (by decide)) d_Lw_merge_11 (fun H locs hat hz ho hS => ?_)
    replace hout : va_at D vwCl (out, .inl (cs 3, (1, .inr (.inl (vp_updL gl 0 (w9.toInt64)))))) H := hat
    refine lv_goto (tgt := 27) hx hb d_Lw_merge_12 (by decide) ?_
    refine lv_iconst (v := 0) hx hb d_Lw_merge_27 (by decide) ?_
    refine t_ret ?_
    exact W.iret (v := 0) hx hb hr (fun t ht hW => Or.inl ⟨some (.int (0)), rfl, (by rw [ht]; exact Or.inl ⟨rfl, w9, H1, by rw [hH1]; exact hp9, hout, by rw [hH1]; exact hz, by rw [hH1]; exact ho⟩), hS.F ht⟩) hS.2.2 d_Lw_merge_28
def y_Lw_part : MethodName := ⟨"NameMergesLaw", "part", "(LNameMerges;III[J)I"⟩
abbrev w_Lw_part : List Cond := Cond.codeWith y_Lw_part method_11_code 6 (Option.some Jvm.ClassFile.FieldType.int) [(0, 19, 22, 25), (0, 19, 26, 15)] :: gw
theorem d_Lw_part_0 : decode method_11_code 0 = .ok (.aload 4, 2) := by decide +kernel
theorem d_Lw_part_2 : decode method_11_code 2 = .ok (.iconst 0, 1) := by decide +kernel
theorem d_Lw_part_3 : decode method_11_code 3 = .ok (.aload_n 0, 1) := by decide +kernel
theorem d_Lw_part_4 : decode method_11_code 4 = .ok (.iload_n 1, 1) := by decide +kernel
theorem d_Lw_part_5 : decode method_11_code 5 = .ok (.iload_n 2, 1) := by decide +kernel
theorem d_Lw_part_6 : decode method_11_code 6 = .ok (.iload_n 3, 1) := by decide +kernel
theorem d_Lw_part_7 : decode method_11_code 7 = .ok (.invokevirtual 45, 3) := by decide +kernel
theorem d_Lw_part_10 : decode method_11_code 10 = .ok (.ifCond .eq 7, 3) := by decide +kernel
theorem d_Lw_part_13 : decode method_11_code 13 = .ok (.lconst 1, 1) := by decide +kernel
theorem d_Lw_part_14 : decode method_11_code 14 = .ok (.goto 4, 3) := by decide +kernel
theorem d_Lw_part_17 : decode method_11_code 17 = .ok (.lconst 0, 1) := by decide +kernel
theorem d_Lw_part_18 : decode method_11_code 18 = .ok (.lastore, 1) := by decide +kernel
theorem d_Lw_part_19 : decode method_11_code 19 = .ok (.goto 11, 3) := by decide +kernel
theorem d_Lw_part_22 : decode method_11_code 22 = .ok (.astore 5, 2) := by decide +kernel
theorem d_Lw_part_24 : decode method_11_code 24 = .ok (.iconst 1, 1) := by decide +kernel
theorem d_Lw_part_25 : decode method_11_code 25 = .ok (.ireturn, 1) := by decide +kernel
theorem d_Lw_part_26 : decode method_11_code 26 = .ok (.astore 5, 2) := by decide +kernel
theorem d_Lw_part_28 : decode method_11_code 28 = .ok (.iconst 2, 1) := by decide +kernel
theorem d_Lw_part_29 : decode method_11_code 29 = .ok (.ireturn, 1) := by decide +kernel
theorem d_Lw_part_30 : decode method_11_code 30 = .ok (.iconst 0, 1) := by decide +kernel
theorem d_Lw_part_31 : decode method_11_code 31 = .ok (.ireturn, 1) := by decide +kernel
set_option maxHeartbeats 4000000 in
set_option maxRecDepth 100000 in
theorem c_Lw_part (l : Launch) (D : va_G) (cs : Nat → ClassId) (N0 : Nat) (H : Heap) (hl9 : l.stackTraces = false) (o z : Nat → Nat → Nat) (K : Nat → Nat → Nat → Int32) (r : Nat → Nat × Nat) (N : Nat) (out : Nat) (gl : Nat → Int64) (qa qb dy : Int32) (hI : nmP D cs N0 H o z K r) (hN : N = H.size) (hout : va_at D vwCl (out, .inl (cs 3, (1, .inr (.inl gl)))) H) (hor : ¬ (r out).1 < 20) (ho0 : N0 ≤ out) : tMet l y_Lw_part w_Lw_part ({ frames := 8, cells := 3, slots := 18, locals := 129 }) (hPre D cs N0 [.ref (o 0 0), .int qa, .int qb, .int dy, .ref out] H) (hT (fun v H' => (v = some (.int 0) ∧ ∃ (wv : Int32) (H1 : Heap), (fun (v : Option Value) (H' : Heap) => goV (isN (z 3 0) qa && isN (z 3 0) qb) (isD dy) true = 0 ∧ (if frs (prtP K (setV qa qb) dy) (z 5 0) 0 = -1 then (v = some (.int 0) ∧ nmP D cs N0 H' o z K r) else (v = some (.int 1) ∧ nmP D cs N0 H' o z (upK K 19 (tn (frs (prtP K (setV qa qb) dy) (z 5 0) 0)) (upd (K 19 (tn (frs (prtP K (setV qa qb) dy) (z 5 0) 0))) 2 dy)) r))) (some (.int wv)) H1 ∧ va_at D vwCl (out, .inl (cs 3, (1, .inr (.inl (vp_updL gl 0 (if wv = 0 then 0 else 1)))))) H' ∧ H'.size = H1.size ∧ ∀ q : Nat, q ≠ out → H'[q]? = H1[q]?) ∨ (v = some (.int (goV (isN (z 3 0) qa && isN (z 3 0) qb) (isD dy) true)) ∧ ¬ goV (isN (z 3 0) qa && isN (z 3 0) qb) (isD dy) true = 0 ∧ va_at D vwCl (out, .inl (cs 3, (1, .inr (.inl gl)))) H' ∧ H.size ≤ H'.size ∧ ∀ q : Nat, q < H.size → H'[q]? = H[q]?)) (fun _ => False) (fun q => nmA r N q ∨ q = out)) 3 18 (fun q => nmA r N q ∨ q = out) := by
  refine tMet.ofWH (hh := [(0, 19, 22, 25), (0, 19, 26, 15)]) (cc := method_11_code) (maxL := 6) (ret := (Option.some Jvm.ClassFile.FieldType.int)) (by decide) rfl ?_
  intro p e s m args below meth c s₁ B hml htab hv
  obtain ⟨rfl, rfl, hB⟩ := hv
  have hx := B.exec
  have hb := B.bytes
  have hr := B.returns
  have hts := atoms_spec (ws := w_Lw_part) B.pre
  have htg : ∀ w ∈ gw, w.before _ s = true := fun w h => hts w (List.mem_cons_of_mem _ h)
  have hown : s.vm.findClass "NameMergesLaw" = some m.cls := findClass_of_methodNamed B.named
  have hlocks := B.notSynchronized
  have hAN : ∀ q, (fun q => nmA r N q ∨ q = out) q → N0 ≤ q := fun q9 h9 => h9.elim (fun h9 => h9.elim (hI.2.1 q9) (fun h9 => Nat.le_trans hB.2.1 (hN ▸ h9))) (fun h9 => h9 ▸ ho0)
  have hK := hB.1
  obtain ⟨H, hH⟩ : ∃ z : Heap, z = s.heap := ⟨_, rfl⟩
  have hz0 : H.size = s.heap.size := by rw [hH]
  have hN0 := hB.2.1
  rw [← hH] at hI hout
  have hS : va_S (fun q => nmA r N q ∨ q = out) s.heap H [] := by rw [hH]; exact va_S.rf
  have hl := lv_entry ([.ref (o 0 0), .int qa, .int qb, .int dy, .ref out]) (n := 6) (Nat.le_of_ble_eq_true rfl)
  rw [lg_entry_eq, ← hH]
  generalize (lg_sl ([.ref (o 0 0), .int qa, .int qb, .int dy, .ref out]) ++ List.replicate (6 - (lg_sl ([.ref (o 0 0), .int qa, .int qb, .int dy, .ref out])).length) Slot.unset).toArray = ls at hl ⊢
  have hl : lv_has ls 6 [(0, .ref (o 0 0)), (1, .int qa), (2, .int qb), (3, .int dy), (4, .ref out)] := hl
  refine lv_aload hx hb d_Lw_part_0 (lv_at hl 4 rfl) ?_
  refine lv_iconst (v := 0) hx hb d_Lw_part_2 (by decide) ?_
  refine lv_aload_n hx hb d_Lw_part_3 rfl (lv_at hl 0 rfl) ?_
  refine lv_iload_n hx hb d_Lw_part_4 rfl (lv_at hl 1 rfl) ?_
  refine lv_iload_n hx hb d_Lw_part_5 rfl (lv_at hl 2 rfl) ?_
  refine lv_iload_n hx hb d_Lw_part_6 rfl (lv_at hl 3 rfl) ?_
  refine t_V (As := [.int qa, .int qb, .int dy]) (rest := [.int 0, .ref out]) ⟨hx, hb, hml, hown, htg⟩ (c_Nm_part l D cs N0 H hl9 o z K r N qa qb dy hI (by omega)) ⟨x_cwB 3 htg (gw_mem (i := 878) (by decide +kernel) rfl) (gw_mem (i := 30) (by decide +kernel) rfl) (gw_mem (i := 875) (by decide +kernel) rfl) (by decide +kernel) ⟨Nat.le_of_ble_eq_true rfl, Nat.le_of_ble_eq_true rfl⟩, htg _ (gw_mem (i := 876) (by decide +kernel) rfl), htg _ (gw_mem (i := 877) (by decide +kernel) rfl)⟩ ⟨hPre.blind, hx_recv hK (ci := 1) rfl (show va_at D vwCl (o 0 0, .inr (1, [.ref (o 1 0), .ref (o 3 0), .ref (o 5 0), .ref (o 7 0), .ref (o 8 0), .int (nI (z 0 0)), .int (K 0 0 0), .ref (o 9 0)])) H from hI.at (k := 0) (n := 0) (show nmv z 0 0 from rfl)), hPre.at hB hS hAN⟩ rfl hl.1 rfl (lv_room (Nat.le_of_ble_eq_true rfl)) d_Lw_part_7 ⟨Nat.le_of_ble_eq_true rfl, Nat.le_of_ble_eq_true rfl⟩ (fun x9 E9 ce9 H9 L9 hL9 hb9 hc9 hv9 hf9 hz9 hk9 => ?_) (fun v9 H9 L9 hL9 hp9 hz9 hk9 => ?_)
  · have hS9 : va_S (fun q => nmA r N q ∨ q = out) s.heap H9 ([] ++ L9) := x_app hS hz9 (fun q h1 h2 => hk9 q h1) (fun q hq => (fun q (h : nmA r N q) => Or.inl h) _ (hL9 q hq))
    have ho9 := hx_keep hout (hk9 _ (hx_lt hout))
    rcases hb9 with ⟨hE, hG⟩ | ⟨hE, hG⟩
    · subst hE
      refine t_catch (h := 22) hc9 hv9 ((Vm.findClass_spec hf9).elim fun k9 h9 => ⟨k9, h9.1⟩) (fun pl hpl => ct_T _ _ htab (ct_1 ⟨by decide, by decide⟩ (by decide) (ct_hit hB hown (htg _ (gw_mem (i := 730) (by decide +kernel) rfl)) (show ("java/lang/IndexOutOfBoundsException", "java/lang/IndexOutOfBoundsException") ∈ zCst by decide) hf9 pl hpl) rfl)) ?_
      refine lv_astore (lv' := [(5, .ref x9), (0, .ref (o 0 0)), (1, .int qa), (2, .int qb), (3, .int dy), (4, .ref out)]) hx hb d_Lw_part_22 hl (by decide) rfl (fun ls hl => ?_)
      refine lv_iconst (v := 1) hx hb d_Lw_part_24 (by decide) ?_
      exact t_ret (W.iret (v := 1) hx hb hr (fun t ht hW => Or.inl ⟨some (.int 1), rfl, (by rw [ht]; exact Or.inr ⟨by rw [hG], by rw [hG]; decide, ho9, hz9, hk9⟩), hS9.F ht⟩) hS9.2.2 d_Lw_part_25)
    · subst hE
      refine t_catch (h := 26) hc9 hv9 ((Vm.findClass_spec hf9).elim fun k9 h9 => ⟨k9, h9.1⟩) (fun pl hpl => ct_T _ _ htab (ct_0 ⟨by decide, by decide⟩ (by decide) (ct_miss hB hown (htg _ (gw_mem (i := 730) (by decide +kernel) rfl)) (show ("java/lang/IllegalArgumentException", "java/lang/IndexOutOfBoundsException") ∈ zNcs by decide) hf9 pl hpl) (ct_1 ⟨by decide, by decide⟩ (by decide) (ct_hit hB hown (htg _ (gw_mem (i := 600) (by decide +kernel) rfl)) (show ("java/lang/IllegalArgumentException", "java/lang/IllegalArgumentException") ∈ zCst by decide) hf9 pl hpl) rfl))) ?_
      refine lv_astore (lv' := [(5, .ref x9), (0, .ref (o 0 0)), (1, .int qa), (2, .int qb), (3, .int dy), (4, .ref out)]) hx hb d_Lw_part_26 hl (by decide) rfl (fun ls hl => ?_)
      refine lv_iconst (v := 2) hx hb d_Lw_part_28 (by decide) ?_
      exact t_ret (W.iret (v := 2) hx hb hr (fun t ht hW => Or.inl ⟨some (.int 2), rfl, (by rw [ht]; exact Or.inr ⟨by rw [hG], by rw [hG]; decide, ho9, hz9, hk9⟩), hS9.F ht⟩) hS9.2.2 d_Lw_part_29)
  · obtain ⟨w9, hw9⟩ : ∃ w : Int32, v9 = some (.int w) := by
      first | exact ⟨_, hp9.2.2⟩ | exact ⟨_, hp9.2.1⟩ | (have h8 := hp9.2; split at h8 <;> first | exact ⟨_, h8.1⟩ | (split at h8 <;> exact ⟨_, h8.1⟩))
    subst hw9
    replace hS : va_S (fun q => nmA r N q ∨ q = out) s.heap H9 ([] ++ L9) := x_app hS hz9 (fun q h1 h2 => hk9 q h1 (fun h => h2 ((fun q (h : nmA r N q) => Or.inl h) _ h))) (fun q hq => (fun q (h : nmA r N q) => Or.inl h) _ (hL9 q hq))
    replace hout := hx_keep hout (hk9 _ (hx_lt hout) (fun h9 => h9.elim hor (fun h9 => by have := hx_lt hout; omega)))
    obtain ⟨H, hHe⟩ : ∃ X : Heap, X = H9 := ⟨_, rfl⟩
    rw [← hHe] at hS hout hp9
    rw [← hHe]
    refine W.eq (g2 := F0 m 10 ls [.int w9, .int 0, .ref out]) rfl ?_
    refine lv_if_eq (x := w9) (tgt := 17) hx hb d_Lw_part_10 (by decide) (fun c10 => ?_) (fun c10 => ?_)
    · skip
      refine lv_lconst (v := 0) hx hb d_Lw_part_17 rfl ?_
      obtain ⟨H1, hH1⟩ : ∃ X : Heap, X = H := ⟨_, rfl⟩
      refine hx_last hx hb hK hS (Or.inr rfl) 3 hout rfl (show vp_in 0 1 from vp_in_nI (n := 0) (by decide) (by decide)) d_Lw_part_18 (fun H locs hat hz ho hS => ?_)
      replace hout : va_at D vwCl (out, .inl (cs 3, (1, .inr (.inl (vp_updL gl 0 (0)))))) H := hat
      refine lv_goto (tgt := 30) hx hb d_Lw_part_19 (by decide) ?_
      refine lv_iconst (v := 0) hx hb d_Lw_part_30 (by decide) ?_
      refine t_ret ?_
      exact W.iret (v := 0) hx hb hr (fun t ht hW => Or.inl ⟨some (.int (0)), rfl, (by rw [ht]; exact Or.inl ⟨rfl, w9, H1, by rw [hH1]; exact hp9, (by rw [if_pos c10]; exact hout), by rw [hH1]; exact hz, by rw [hH1]; exact ho⟩), hS.F ht⟩) hS.2.2 d_Lw_part_31
    · skip
      refine lv_lconst (v := 1) hx hb d_Lw_part_13 rfl ?_
      refine lv_goto (tgt := 18) hx hb d_Lw_part_14 (by decide) ?_
      obtain ⟨H1, hH1⟩ : ∃ X : Heap, X = H := ⟨_, rfl⟩
      refine hx_last hx hb hK hS (Or.inr rfl) 3 hout rfl (show vp_in 0 1 from vp_in_nI (n := 0) (by decide) (by decide)) d_Lw_part_18 (fun H locs hat hz ho hS => ?_)
      replace hout : va_at D vwCl (out, .inl (cs 3, (1, .inr (.inl (vp_updL gl 0 (1)))))) H := hat
      refine lv_goto (tgt := 30) hx hb d_Lw_part_19 (by decide) ?_
      refine lv_iconst (v := 0) hx hb d_Lw_part_30 (by decide) ?_
      refine t_ret ?_
      exact W.iret (v := 0) hx hb hr (fun t ht hW => Or.inl ⟨some (.int (0)), rfl, (by rw [ht]; exact Or.inl ⟨rfl, w9, H1, by rw [hH1]; exact hp9, (by rw [if_neg c10]; exact hout), by rw [hH1]; exact hz, by rw [hH1]; exact ho⟩), hS.F ht⟩) hS.2.2 d_Lw_part_31
def y_Lw_as : MethodName := ⟨"NameMergesLaw", "as", "(LNameMerges;II[J)I"⟩
abbrev w_Lw_as : List Cond := Cond.codeWith y_Lw_as method_12_code 5 (Option.some Jvm.ClassFile.FieldType.int) [(0, 10, 13, 25), (0, 10, 17, 15)] :: gw
theorem d_Lw_as_0 : decode method_12_code 0 = .ok (.aload_n 3, 1) := by decide +kernel
theorem d_Lw_as_1 : decode method_12_code 1 = .ok (.iconst 0, 1) := by decide +kernel
theorem d_Lw_as_2 : decode method_12_code 2 = .ok (.aload_n 0, 1) := by decide +kernel
theorem d_Lw_as_3 : decode method_12_code 3 = .ok (.iload_n 1, 1) := by decide +kernel
theorem d_Lw_as_4 : decode method_12_code 4 = .ok (.iload_n 2, 1) := by decide +kernel
theorem d_Lw_as_5 : decode method_12_code 5 = .ok (.invokevirtual 48, 3) := by decide +kernel
theorem d_Lw_as_8 : decode method_12_code 8 = .ok (.i2l, 1) := by decide +kernel
theorem d_Lw_as_9 : decode method_12_code 9 = .ok (.lastore, 1) := by decide +kernel
theorem d_Lw_as_10 : decode method_12_code 10 = .ok (.goto 11, 3) := by decide +kernel
theorem d_Lw_as_13 : decode method_12_code 13 = .ok (.astore 4, 2) := by decide +kernel
theorem d_Lw_as_15 : decode method_12_code 15 = .ok (.iconst 1, 1) := by decide +kernel
theorem d_Lw_as_16 : decode method_12_code 16 = .ok (.ireturn, 1) := by decide +kernel
theorem d_Lw_as_17 : decode method_12_code 17 = .ok (.astore 4, 2) := by decide +kernel
theorem d_Lw_as_19 : decode method_12_code 19 = .ok (.iconst 2, 1) := by decide +kernel
theorem d_Lw_as_20 : decode method_12_code 20 = .ok (.ireturn, 1) := by decide +kernel
theorem d_Lw_as_21 : decode method_12_code 21 = .ok (.iconst 0, 1) := by decide +kernel
theorem d_Lw_as_22 : decode method_12_code 22 = .ok (.ireturn, 1) := by decide +kernel
set_option maxHeartbeats 4000000 in
set_option maxRecDepth 100000 in
theorem c_Lw_as (l : Launch) (D : va_G) (cs : Nat → ClassId) (N0 : Nat) (H : Heap) (hl9 : l.stackTraces = false) (o z : Nat → Nat → Nat) (K : Nat → Nat → Nat → Int32) (r : Nat → Nat × Nat) (N : Nat) (out : Nat) (gl : Nat → Int64) (q day : Int32) (hI : nmP D cs N0 H o z K r) (hN : N = H.size) (hout : va_at D vwCl (out, .inl (cs 3, (1, .inr (.inl gl)))) H) (hor : ¬ (r out).1 < 20) (ho0 : N0 ≤ out) : tMet l y_Lw_as w_Lw_as ({ frames := 8, cells := 2, slots := 12, locals := 125 }) (hPre D cs N0 [.ref (o 0 0), .int q, .int day, .ref out] H) (hT (fun v H' => (v = some (.int 0) ∧ ∃ (wv : Int32) (H1 : Heap), (fun (v : Option Value) (H' : Heap) => goV (isN (z 3 0) q) (isD day) true = 0 ∧ H' = H ∧ v = some (.int (ntV (owV z K q day)))) (some (.int wv)) H1 ∧ va_at D vwCl (out, .inl (cs 3, (1, .inr (.inl (vp_updL gl 0 wv.toInt64))))) H' ∧ H'.size = H1.size ∧ ∀ q : Nat, q ≠ out → H'[q]? = H1[q]?) ∨ (v = some (.int (goV (isN (z 3 0) q) (isD day) true)) ∧ ¬ goV (isN (z 3 0) q) (isD day) true = 0 ∧ va_at D vwCl (out, .inl (cs 3, (1, .inr (.inl gl)))) H' ∧ H.size ≤ H'.size ∧ ∀ q : Nat, q < H.size → H'[q]? = H[q]?)) (fun _ => False) (fun q => nmA r N q ∨ q = out)) 2 12 (fun q => nmA r N q ∨ q = out) := by
  refine tMet.ofWH (hh := [(0, 10, 13, 25), (0, 10, 17, 15)]) (cc := method_12_code) (maxL := 5) (ret := (Option.some Jvm.ClassFile.FieldType.int)) (by decide) rfl ?_
  intro p e s m args below meth c s₁ B hml htab hv
  obtain ⟨rfl, rfl, hB⟩ := hv
  have hx := B.exec
  have hb := B.bytes
  have hr := B.returns
  have hts := atoms_spec (ws := w_Lw_as) B.pre
  have htg : ∀ w ∈ gw, w.before _ s = true := fun w h => hts w (List.mem_cons_of_mem _ h)
  have hown : s.vm.findClass "NameMergesLaw" = some m.cls := findClass_of_methodNamed B.named
  have hlocks := B.notSynchronized
  have hAN : ∀ q, (fun q => nmA r N q ∨ q = out) q → N0 ≤ q := fun q9 h9 => h9.elim (fun h9 => h9.elim (hI.2.1 q9) (fun h9 => Nat.le_trans hB.2.1 (hN ▸ h9))) (fun h9 => h9 ▸ ho0)
  have hK := hB.1
  obtain ⟨H, hH⟩ : ∃ z : Heap, z = s.heap := ⟨_, rfl⟩
  have hz0 : H.size = s.heap.size := by rw [hH]
  have hN0 := hB.2.1
  rw [← hH] at hI hout
  have hS : va_S (fun q => nmA r N q ∨ q = out) s.heap H [] := by rw [hH]; exact va_S.rf
  have hl := lv_entry ([.ref (o 0 0), .int q, .int day, .ref out]) (n := 5) (Nat.le_of_ble_eq_true rfl)
  rw [lg_entry_eq, ← hH]
  generalize (lg_sl ([.ref (o 0 0), .int q, .int day, .ref out]) ++ List.replicate (5 - (lg_sl ([.ref (o 0 0), .int q, .int day, .ref out])).length) Slot.unset).toArray = ls at hl ⊢
  have hl : lv_has ls 5 [(0, .ref (o 0 0)), (1, .int q), (2, .int day), (3, .ref out)] := hl
  refine lv_aload_n hx hb d_Lw_as_0 rfl (lv_at hl 3 rfl) ?_
  refine lv_iconst (v := 0) hx hb d_Lw_as_1 (by decide) ?_
  refine lv_aload_n hx hb d_Lw_as_2 rfl (lv_at hl 0 rfl) ?_
  refine lv_iload_n hx hb d_Lw_as_3 rfl (lv_at hl 1 rfl) ?_
  refine lv_iload_n hx hb d_Lw_as_4 rfl (lv_at hl 2 rfl) ?_
  refine t_V (As := [.int q, .int day]) (rest := [.int 0, .ref out]) ⟨hx, hb, hml, hown, htg⟩ (c_Nm_as l D cs N0 H hl9 o z K r q day hI) ⟨x_cwB 2 htg (gw_mem (i := 886) (by decide +kernel) rfl) (gw_mem (i := 30) (by decide +kernel) rfl) (gw_mem (i := 883) (by decide +kernel) rfl) (by decide +kernel) ⟨Nat.le_of_ble_eq_true rfl, Nat.le_of_ble_eq_true rfl⟩, htg _ (gw_mem (i := 884) (by decide +kernel) rfl), htg _ (gw_mem (i := 885) (by decide +kernel) rfl)⟩ ⟨hPre.blind, hx_recv hK (ci := 1) rfl (show va_at D vwCl (o 0 0, .inr (1, [.ref (o 1 0), .ref (o 3 0), .ref (o 5 0), .ref (o 7 0), .ref (o 8 0), .int (nI (z 0 0)), .int (K 0 0 0), .ref (o 9 0)])) H from hI.at (k := 0) (n := 0) (show nmv z 0 0 from rfl)), hPre.at hB hS hAN⟩ rfl hl.1 rfl (lv_room (Nat.le_of_ble_eq_true rfl)) d_Lw_as_5 ⟨Nat.le_of_ble_eq_true rfl, Nat.le_of_ble_eq_true rfl⟩ (fun x9 E9 ce9 H9 L9 hL9 hb9 hc9 hv9 hf9 hz9 hk9 => ?_) (fun v9 H9 L9 hL9 hp9 hz9 hk9 => ?_)
  · have hS9 : va_S (fun q => nmA r N q ∨ q = out) s.heap H9 ([] ++ L9) := x_app hS hz9 (fun q h1 h2 => hk9 q h1) (fun q hq => (fun _ h => h.elim) _ (hL9 q hq))
    have ho9 := hx_keep hout (hk9 _ (hx_lt hout))
    rcases hb9 with ⟨hE, hG⟩ | ⟨hE, hG⟩
    · subst hE
      refine t_catch (h := 13) hc9 hv9 ((Vm.findClass_spec hf9).elim fun k9 h9 => ⟨k9, h9.1⟩) (fun pl hpl => ct_T _ _ htab (ct_1 ⟨by decide, by decide⟩ (by decide) (ct_hit hB hown (htg _ (gw_mem (i := 730) (by decide +kernel) rfl)) (show ("java/lang/IndexOutOfBoundsException", "java/lang/IndexOutOfBoundsException") ∈ zCst by decide) hf9 pl hpl) rfl)) ?_
      refine lv_astore (lv' := [(4, .ref x9), (0, .ref (o 0 0)), (1, .int q), (2, .int day), (3, .ref out)]) hx hb d_Lw_as_13 hl (by decide) rfl (fun ls hl => ?_)
      refine lv_iconst (v := 1) hx hb d_Lw_as_15 (by decide) ?_
      exact t_ret (W.iret (v := 1) hx hb hr (fun t ht hW => Or.inl ⟨some (.int 1), rfl, (by rw [ht]; exact Or.inr ⟨by rw [hG], by rw [hG]; decide, ho9, hz9, hk9⟩), hS9.F ht⟩) hS9.2.2 d_Lw_as_16)
    · subst hE
      refine t_catch (h := 17) hc9 hv9 ((Vm.findClass_spec hf9).elim fun k9 h9 => ⟨k9, h9.1⟩) (fun pl hpl => ct_T _ _ htab (ct_0 ⟨by decide, by decide⟩ (by decide) (ct_miss hB hown (htg _ (gw_mem (i := 730) (by decide +kernel) rfl)) (show ("java/lang/IllegalArgumentException", "java/lang/IndexOutOfBoundsException") ∈ zNcs by decide) hf9 pl hpl) (ct_1 ⟨by decide, by decide⟩ (by decide) (ct_hit hB hown (htg _ (gw_mem (i := 600) (by decide +kernel) rfl)) (show ("java/lang/IllegalArgumentException", "java/lang/IllegalArgumentException") ∈ zCst by decide) hf9 pl hpl) rfl))) ?_
      refine lv_astore (lv' := [(4, .ref x9), (0, .ref (o 0 0)), (1, .int q), (2, .int day), (3, .ref out)]) hx hb d_Lw_as_17 hl (by decide) rfl (fun ls hl => ?_)
      refine lv_iconst (v := 2) hx hb d_Lw_as_19 (by decide) ?_
      exact t_ret (W.iret (v := 2) hx hb hr (fun t ht hW => Or.inl ⟨some (.int 2), rfl, (by rw [ht]; exact Or.inr ⟨by rw [hG], by rw [hG]; decide, ho9, hz9, hk9⟩), hS9.F ht⟩) hS9.2.2 d_Lw_as_20)
  · obtain ⟨w9, hw9⟩ : ∃ w : Int32, v9 = some (.int w) := by
      first | exact ⟨_, hp9.2.2⟩ | exact ⟨_, hp9.2.1⟩ | (have h8 := hp9.2; split at h8 <;> first | exact ⟨_, h8.1⟩ | (split at h8 <;> exact ⟨_, h8.1⟩))
    subst hw9
    replace hS : va_S (fun q => nmA r N q ∨ q = out) s.heap H9 ([] ++ L9) := x_app hS hz9 (fun q h1 h2 => hk9 q h1 (fun h => h2 ((fun _ h => h.elim) _ h))) (fun q hq => (fun _ h => h.elim) _ (hL9 q hq))
    replace hout := hx_keep hout (hk9 _ (hx_lt hout) (fun h => h))
    obtain ⟨H, hHe⟩ : ∃ X : Heap, X = H9 := ⟨_, rfl⟩
    rw [← hHe] at hS hout hp9
    rw [← hHe]
    refine W.eq (g2 := F0 m 8 ls [.int w9, .int 0, .ref out]) rfl ?_
    refine lv_i2l (v := w9.toInt64) hx hb d_Lw_as_8 rfl ?_
    obtain ⟨H1, hH1⟩ : ∃ X : Heap, X = H := ⟨_, rfl⟩
    refine hx_last hx hb hK hS (Or.inr rfl) 3 hout rfl (show vp_in 0 1 from vp_in_nI (n := 0) (by decide) (by decide)) d_Lw_as_9 (fun H locs hat hz ho hS => ?_)
    replace hout : va_at D vwCl (out, .inl (cs 3, (1, .inr (.inl (vp_updL gl 0 (w9.toInt64)))))) H := hat
    refine lv_goto (tgt := 21) hx hb d_Lw_as_10 (by decide) ?_
    refine lv_iconst (v := 0) hx hb d_Lw_as_21 (by decide) ?_
    refine t_ret ?_
    exact W.iret (v := 0) hx hb hr (fun t ht hW => Or.inl ⟨some (.int (0)), rfl, (by rw [ht]; exact Or.inl ⟨rfl, w9, H1, by rw [hH1]; exact hp9, hout, by rw [hH1]; exact hz, by rw [hH1]; exact ho⟩), hS.F ht⟩) hS.2.2 d_Lw_as_22
def y_Lw_broader : MethodName := ⟨"NameMergesLaw", "broader", "(LNameMerges;II[J)I"⟩
abbrev w_Lw_broader : List Cond := Cond.codeWith y_Lw_broader method_13_code 5 (Option.some Jvm.ClassFile.FieldType.int) [(0, 10, 13, 25)] :: gw
theorem d_Lw_broader_0 : decode method_13_code 0 = .ok (.aload_n 3, 1) := by decide +kernel
theorem d_Lw_broader_1 : decode method_13_code 1 = .ok (.iconst 0, 1) := by decide +kernel
theorem d_Lw_broader_2 : decode method_13_code 2 = .ok (.aload_n 0, 1) := by decide +kernel
theorem d_Lw_broader_3 : decode method_13_code 3 = .ok (.iload_n 1, 1) := by decide +kernel
theorem d_Lw_broader_4 : decode method_13_code 4 = .ok (.iload_n 2, 1) := by decide +kernel
theorem d_Lw_broader_5 : decode method_13_code 5 = .ok (.invokevirtual 51, 3) := by decide +kernel
theorem d_Lw_broader_8 : decode method_13_code 8 = .ok (.i2l, 1) := by decide +kernel
theorem d_Lw_broader_9 : decode method_13_code 9 = .ok (.lastore, 1) := by decide +kernel
theorem d_Lw_broader_10 : decode method_13_code 10 = .ok (.goto 7, 3) := by decide +kernel
theorem d_Lw_broader_13 : decode method_13_code 13 = .ok (.astore 4, 2) := by decide +kernel
theorem d_Lw_broader_15 : decode method_13_code 15 = .ok (.iconst 1, 1) := by decide +kernel
theorem d_Lw_broader_16 : decode method_13_code 16 = .ok (.ireturn, 1) := by decide +kernel
theorem d_Lw_broader_17 : decode method_13_code 17 = .ok (.iconst 0, 1) := by decide +kernel
theorem d_Lw_broader_18 : decode method_13_code 18 = .ok (.ireturn, 1) := by decide +kernel
set_option maxHeartbeats 4000000 in
set_option maxRecDepth 100000 in
theorem c_Lw_broader (l : Launch) (D : va_G) (cs : Nat → ClassId) (N0 : Nat) (H : Heap) (hl9 : l.stackTraces = false) (o z : Nat → Nat → Nat) (K : Nat → Nat → Nat → Int32) (r : Nat → Nat × Nat) (N : Nat) (out : Nat) (gl : Nat → Int64) (qa qb : Int32) (hI : nmP D cs N0 H o z K r) (hN : N = H.size) (hout : va_at D vwCl (out, .inl (cs 3, (1, .inr (.inl gl)))) H) (hor : ¬ (r out).1 < 20) (ho0 : N0 ≤ out) : tMet l y_Lw_broader w_Lw_broader ({ frames := 8, cells := 2, slots := 12, locals := 127 }) (hPre D cs N0 [.ref (o 0 0), .int qa, .int qb, .ref out] H) (hT (fun v H' => (v = some (.int 0) ∧ ∃ (wv : Int32) (H1 : Heap), (fun (v : Option Value) (H' : Heap) => goV (isN (z 3 0) qa && isN (z 3 0) qb) true true = 0 ∧ (if (decide (qa = qb) || hasB (K 10 (tn qb) 3) qa) = true then (v = some (.int (-1)) ∧ nmP D cs N0 H' o z K r) else if hasB (K 10 (tn qa) 2) qb = true then (v = some (.int 0) ∧ nmP D cs N0 H' o z K r) else (v = some (.int 1) ∧ nmP D cs N0 H' o z (upt (cvB (tn qa) (K 10 (tn qb) 3 ||| (1 : Int32) <<< (qb &&& 31))) (z 3 0) (upK K 10 (tn qa) (upd (K 10 (tn qa)) 2 (K 10 (tn qa) 2 ||| (1 : Int32) <<< (qb &&& 31))))) r))) (some (.int wv)) H1 ∧ va_at D vwCl (out, .inl (cs 3, (1, .inr (.inl (vp_updL gl 0 wv.toInt64))))) H' ∧ H'.size = H1.size ∧ ∀ q : Nat, q ≠ out → H'[q]? = H1[q]?) ∨ (v = some (.int (goV (isN (z 3 0) qa && isN (z 3 0) qb) true true)) ∧ ¬ goV (isN (z 3 0) qa && isN (z 3 0) qb) true true = 0 ∧ va_at D vwCl (out, .inl (cs 3, (1, .inr (.inl gl)))) H' ∧ H.size ≤ H'.size ∧ ∀ q : Nat, q < H.size → H'[q]? = H[q]?)) (fun _ => False) (fun q => nmA r N q ∨ q = out)) 2 12 (fun q => nmA r N q ∨ q = out) := by
  refine tMet.ofWH (hh := [(0, 10, 13, 25)]) (cc := method_13_code) (maxL := 5) (ret := (Option.some Jvm.ClassFile.FieldType.int)) (by decide) rfl ?_
  intro p e s m args below meth c s₁ B hml htab hv
  obtain ⟨rfl, rfl, hB⟩ := hv
  have hx := B.exec
  have hb := B.bytes
  have hr := B.returns
  have hts := atoms_spec (ws := w_Lw_broader) B.pre
  have htg : ∀ w ∈ gw, w.before _ s = true := fun w h => hts w (List.mem_cons_of_mem _ h)
  have hown : s.vm.findClass "NameMergesLaw" = some m.cls := findClass_of_methodNamed B.named
  have hlocks := B.notSynchronized
  have hAN : ∀ q, (fun q => nmA r N q ∨ q = out) q → N0 ≤ q := fun q9 h9 => h9.elim (fun h9 => h9.elim (hI.2.1 q9) (fun h9 => Nat.le_trans hB.2.1 (hN ▸ h9))) (fun h9 => h9 ▸ ho0)
  have hK := hB.1
  obtain ⟨H, hH⟩ : ∃ z : Heap, z = s.heap := ⟨_, rfl⟩
  have hz0 : H.size = s.heap.size := by rw [hH]
  have hN0 := hB.2.1
  rw [← hH] at hI hout
  have hS : va_S (fun q => nmA r N q ∨ q = out) s.heap H [] := by rw [hH]; exact va_S.rf
  have hl := lv_entry ([.ref (o 0 0), .int qa, .int qb, .ref out]) (n := 5) (Nat.le_of_ble_eq_true rfl)
  rw [lg_entry_eq, ← hH]
  generalize (lg_sl ([.ref (o 0 0), .int qa, .int qb, .ref out]) ++ List.replicate (5 - (lg_sl ([.ref (o 0 0), .int qa, .int qb, .ref out])).length) Slot.unset).toArray = ls at hl ⊢
  have hl : lv_has ls 5 [(0, .ref (o 0 0)), (1, .int qa), (2, .int qb), (3, .ref out)] := hl
  refine lv_aload_n hx hb d_Lw_broader_0 rfl (lv_at hl 3 rfl) ?_
  refine lv_iconst (v := 0) hx hb d_Lw_broader_1 (by decide) ?_
  refine lv_aload_n hx hb d_Lw_broader_2 rfl (lv_at hl 0 rfl) ?_
  refine lv_iload_n hx hb d_Lw_broader_3 rfl (lv_at hl 1 rfl) ?_
  refine lv_iload_n hx hb d_Lw_broader_4 rfl (lv_at hl 2 rfl) ?_
  refine t_V (As := [.int qa, .int qb]) (rest := [.int 0, .ref out]) ⟨hx, hb, hml, hown, htg⟩ (c_Nm_broader l D cs N0 H hl9 o z K r N qa qb hI (by omega)) ⟨x_cwB 2 htg (gw_mem (i := 897) (by decide +kernel) rfl) (gw_mem (i := 30) (by decide +kernel) rfl) (gw_mem (i := 894) (by decide +kernel) rfl) (by decide +kernel) ⟨Nat.le_of_ble_eq_true rfl, Nat.le_of_ble_eq_true rfl⟩, htg _ (gw_mem (i := 895) (by decide +kernel) rfl), htg _ (gw_mem (i := 896) (by decide +kernel) rfl)⟩ ⟨hPre.blind, hx_recv hK (ci := 1) rfl (show va_at D vwCl (o 0 0, .inr (1, [.ref (o 1 0), .ref (o 3 0), .ref (o 5 0), .ref (o 7 0), .ref (o 8 0), .int (nI (z 0 0)), .int (K 0 0 0), .ref (o 9 0)])) H from hI.at (k := 0) (n := 0) (show nmv z 0 0 from rfl)), hPre.at hB hS hAN⟩ rfl hl.1 rfl (lv_room (Nat.le_of_ble_eq_true rfl)) d_Lw_broader_5 ⟨Nat.le_of_ble_eq_true rfl, Nat.le_of_ble_eq_true rfl⟩ (fun x9 E9 ce9 H9 L9 hL9 hb9 hc9 hv9 hf9 hz9 hk9 => ?_) (fun v9 H9 L9 hL9 hp9 hz9 hk9 => ?_)
  · have hS9 : va_S (fun q => nmA r N q ∨ q = out) s.heap H9 ([] ++ L9) := x_app hS hz9 (fun q h1 h2 => hk9 q h1) (fun q hq => (fun q (h : nmA r N q) => Or.inl h) _ (hL9 q hq))
    have ho9 := hx_keep hout (hk9 _ (hx_lt hout))
    obtain ⟨hE, hG⟩ := hb9
    subst hE
    refine t_catch (h := 13) hc9 hv9 ((Vm.findClass_spec hf9).elim fun k9 h9 => ⟨k9, h9.1⟩) (fun pl hpl => ct_T _ _ htab (ct_1 ⟨by decide, by decide⟩ (by decide) (ct_hit hB hown (htg _ (gw_mem (i := 730) (by decide +kernel) rfl)) (show ("java/lang/IndexOutOfBoundsException", "java/lang/IndexOutOfBoundsException") ∈ zCst by decide) hf9 pl hpl) rfl)) ?_
    refine lv_astore (lv' := [(4, .ref x9), (0, .ref (o 0 0)), (1, .int qa), (2, .int qb), (3, .ref out)]) hx hb d_Lw_broader_13 hl (by decide) rfl (fun ls hl => ?_)
    refine lv_iconst (v := 1) hx hb d_Lw_broader_15 (by decide) ?_
    exact t_ret (W.iret (v := 1) hx hb hr (fun t ht hW => Or.inl ⟨some (.int 1), rfl, (by rw [ht]; exact Or.inr ⟨by rw [hG], by rw [hG]; decide, ho9, hz9, hk9⟩), hS9.F ht⟩) hS9.2.2 d_Lw_broader_16)
  · obtain ⟨w9, hw9⟩ : ∃ w : Int32, v9 = some (.int w) := by
      first | exact ⟨_, hp9.2.2⟩ | exact ⟨_, hp9.2.1⟩ | (have h8 := hp9.2; split at h8 <;> first | exact ⟨_, h8.1⟩ | (split at h8 <;> exact ⟨_, h8.1⟩))
    subst hw9
    replace hS : va_S (fun q => nmA r N q ∨ q = out) s.heap H9 ([] ++ L9) := x_app hS hz9 (fun q h1 h2 => hk9 q h1 (fun h => h2 ((fun q (h : nmA r N q) => Or.inl h) _ h))) (fun q hq => (fun q (h : nmA r N q) => Or.inl h) _ (hL9 q hq))
    replace hout := hx_keep hout (hk9 _ (hx_lt hout) (fun h9 => h9.elim hor (fun h9 => by have := hx_lt hout; omega)))
    obtain ⟨H, hHe⟩ : ∃ X : Heap, X = H9 := ⟨_, rfl⟩
    rw [← hHe] at hS hout hp9
    rw [← hHe]
    refine W.eq (g2 := F0 m 8 ls [.int w9, .int 0, .ref out]) rfl ?_
    refine lv_i2l (v := w9.toInt64) hx hb d_Lw_broader_8 rfl ?_
    obtain ⟨H1, hH1⟩ : ∃ X : Heap, X = H := ⟨_, rfl⟩
    refine hx_last hx hb hK hS (Or.inr rfl) 3 hout rfl (show vp_in 0 1 from vp_in_nI (n := 0) (by decide) (by decide)) d_Lw_broader_9 (fun H locs hat hz ho hS => ?_)
    replace hout : va_at D vwCl (out, .inl (cs 3, (1, .inr (.inl (vp_updL gl 0 (w9.toInt64)))))) H := hat
    refine lv_goto (tgt := 17) hx hb d_Lw_broader_10 (by decide) ?_
    refine lv_iconst (v := 0) hx hb d_Lw_broader_17 (by decide) ?_
    refine t_ret ?_
    exact W.iret (v := 0) hx hb hr (fun t ht hW => Or.inl ⟨some (.int (0)), rfl, (by rw [ht]; exact Or.inl ⟨rfl, w9, H1, by rw [hH1]; exact hp9, hout, by rw [hH1]; exact hz, by rw [hH1]; exact ho⟩), hS.F ht⟩) hS.2.2 d_Lw_broader_18
def y_Lw_covers : MethodName := ⟨"NameMergesLaw", "covers", "(LNameMerges;II[J)I"⟩
abbrev w_Lw_covers : List Cond := Cond.codeWith y_Lw_covers method_14_code 5 (Option.some Jvm.ClassFile.FieldType.int) [(0, 17, 20, 25)] :: gw
theorem d_Lw_covers_0 : decode method_14_code 0 = .ok (.aload_n 3, 1) := by decide +kernel
theorem d_Lw_covers_1 : decode method_14_code 1 = .ok (.iconst 0, 1) := by decide +kernel
theorem d_Lw_covers_2 : decode method_14_code 2 = .ok (.aload_n 0, 1) := by decide +kernel
theorem d_Lw_covers_3 : decode method_14_code 3 = .ok (.iload_n 1, 1) := by decide +kernel
theorem d_Lw_covers_4 : decode method_14_code 4 = .ok (.iload_n 2, 1) := by decide +kernel
theorem d_Lw_covers_5 : decode method_14_code 5 = .ok (.invokevirtual 54, 3) := by decide +kernel
theorem d_Lw_covers_8 : decode method_14_code 8 = .ok (.ifCond .eq 7, 3) := by decide +kernel
theorem d_Lw_covers_11 : decode method_14_code 11 = .ok (.lconst 1, 1) := by decide +kernel
theorem d_Lw_covers_12 : decode method_14_code 12 = .ok (.goto 4, 3) := by decide +kernel
theorem d_Lw_covers_15 : decode method_14_code 15 = .ok (.lconst 0, 1) := by decide +kernel
theorem d_Lw_covers_16 : decode method_14_code 16 = .ok (.lastore, 1) := by decide +kernel
theorem d_Lw_covers_17 : decode method_14_code 17 = .ok (.goto 7, 3) := by decide +kernel
theorem d_Lw_covers_20 : decode method_14_code 20 = .ok (.astore 4, 2) := by decide +kernel
theorem d_Lw_covers_22 : decode method_14_code 22 = .ok (.iconst 1, 1) := by decide +kernel
theorem d_Lw_covers_23 : decode method_14_code 23 = .ok (.ireturn, 1) := by decide +kernel
theorem d_Lw_covers_24 : decode method_14_code 24 = .ok (.iconst 0, 1) := by decide +kernel
theorem d_Lw_covers_25 : decode method_14_code 25 = .ok (.ireturn, 1) := by decide +kernel
set_option maxHeartbeats 4000000 in
set_option maxRecDepth 100000 in
theorem c_Lw_covers (l : Launch) (D : va_G) (cs : Nat → ClassId) (N0 : Nat) (H : Heap) (hl9 : l.stackTraces = false) (o z : Nat → Nat → Nat) (K : Nat → Nat → Nat → Int32) (r : Nat → Nat × Nat) (N : Nat) (out : Nat) (gl : Nat → Int64) (qa qb : Int32) (hI : nmP D cs N0 H o z K r) (hN : N = H.size) (hout : va_at D vwCl (out, .inl (cs 3, (1, .inr (.inl gl)))) H) (hor : ¬ (r out).1 < 20) (ho0 : N0 ≤ out) : tMet l y_Lw_covers w_Lw_covers ({ frames := 8, cells := 2, slots := 12, locals := 125 }) (hPre D cs N0 [.ref (o 0 0), .int qa, .int qb, .ref out] H) (hT (fun v H' => (v = some (.int 0) ∧ ∃ (wv : Int32) (H1 : Heap), (fun (v : Option Value) (H' : Heap) => goV (isN (z 3 0) qa && isN (z 3 0) qb) true true = 0 ∧ H' = H ∧ v = some (.int (bI (hasB (K 10 (tn qa) 3) qb)))) (some (.int wv)) H1 ∧ va_at D vwCl (out, .inl (cs 3, (1, .inr (.inl (vp_updL gl 0 (if wv = 0 then 0 else 1)))))) H' ∧ H'.size = H1.size ∧ ∀ q : Nat, q ≠ out → H'[q]? = H1[q]?) ∨ (v = some (.int (goV (isN (z 3 0) qa && isN (z 3 0) qb) true true)) ∧ ¬ goV (isN (z 3 0) qa && isN (z 3 0) qb) true true = 0 ∧ va_at D vwCl (out, .inl (cs 3, (1, .inr (.inl gl)))) H' ∧ H.size ≤ H'.size ∧ ∀ q : Nat, q < H.size → H'[q]? = H[q]?)) (fun _ => False) (fun q => nmA r N q ∨ q = out)) 2 12 (fun q => nmA r N q ∨ q = out) := by
  refine tMet.ofWH (hh := [(0, 17, 20, 25)]) (cc := method_14_code) (maxL := 5) (ret := (Option.some Jvm.ClassFile.FieldType.int)) (by decide) rfl ?_
  intro p e s m args below meth c s₁ B hml htab hv
  obtain ⟨rfl, rfl, hB⟩ := hv
  have hx := B.exec
  have hb := B.bytes
  have hr := B.returns
  have hts := atoms_spec (ws := w_Lw_covers) B.pre
  have htg : ∀ w ∈ gw, w.before _ s = true := fun w h => hts w (List.mem_cons_of_mem _ h)
  have hown : s.vm.findClass "NameMergesLaw" = some m.cls := findClass_of_methodNamed B.named
  have hlocks := B.notSynchronized
  have hAN : ∀ q, (fun q => nmA r N q ∨ q = out) q → N0 ≤ q := fun q9 h9 => h9.elim (fun h9 => h9.elim (hI.2.1 q9) (fun h9 => Nat.le_trans hB.2.1 (hN ▸ h9))) (fun h9 => h9 ▸ ho0)
  have hK := hB.1
  obtain ⟨H, hH⟩ : ∃ z : Heap, z = s.heap := ⟨_, rfl⟩
  have hz0 : H.size = s.heap.size := by rw [hH]
  have hN0 := hB.2.1
  rw [← hH] at hI hout
  have hS : va_S (fun q => nmA r N q ∨ q = out) s.heap H [] := by rw [hH]; exact va_S.rf
  have hl := lv_entry ([.ref (o 0 0), .int qa, .int qb, .ref out]) (n := 5) (Nat.le_of_ble_eq_true rfl)
  rw [lg_entry_eq, ← hH]
  generalize (lg_sl ([.ref (o 0 0), .int qa, .int qb, .ref out]) ++ List.replicate (5 - (lg_sl ([.ref (o 0 0), .int qa, .int qb, .ref out])).length) Slot.unset).toArray = ls at hl ⊢
  have hl : lv_has ls 5 [(0, .ref (o 0 0)), (1, .int qa), (2, .int qb), (3, .ref out)] := hl
  refine lv_aload_n hx hb d_Lw_covers_0 rfl (lv_at hl 3 rfl) ?_
  refine lv_iconst (v := 0) hx hb d_Lw_covers_1 (by decide) ?_
  refine lv_aload_n hx hb d_Lw_covers_2 rfl (lv_at hl 0 rfl) ?_
  refine lv_iload_n hx hb d_Lw_covers_3 rfl (lv_at hl 1 rfl) ?_
  refine lv_iload_n hx hb d_Lw_covers_4 rfl (lv_at hl 2 rfl) ?_
  refine t_V (As := [.int qa, .int qb]) (rest := [.int 0, .ref out]) ⟨hx, hb, hml, hown, htg⟩ (c_Nm_covers l D cs N0 H hl9 o z K r qa qb hI) ⟨x_cwB 2 htg (gw_mem (i := 908) (by decide +kernel) rfl) (gw_mem (i := 30) (by decide +kernel) rfl) (gw_mem (i := 905) (by decide +kernel) rfl) (by decide +kernel) ⟨Nat.le_of_ble_eq_true rfl, Nat.le_of_ble_eq_true rfl⟩, htg _ (gw_mem (i := 906) (by decide +kernel) rfl), htg _ (gw_mem (i := 907) (by decide +kernel) rfl)⟩ ⟨hPre.blind, hx_recv hK (ci := 1) rfl (show va_at D vwCl (o 0 0, .inr (1, [.ref (o 1 0), .ref (o 3 0), .ref (o 5 0), .ref (o 7 0), .ref (o 8 0), .int (nI (z 0 0)), .int (K 0 0 0), .ref (o 9 0)])) H from hI.at (k := 0) (n := 0) (show nmv z 0 0 from rfl)), hPre.at hB hS hAN⟩ rfl hl.1 rfl (lv_room (Nat.le_of_ble_eq_true rfl)) d_Lw_covers_5 ⟨Nat.le_of_ble_eq_true rfl, Nat.le_of_ble_eq_true rfl⟩ (fun x9 E9 ce9 H9 L9 hL9 hb9 hc9 hv9 hf9 hz9 hk9 => ?_) (fun v9 H9 L9 hL9 hp9 hz9 hk9 => ?_)
  · have hS9 : va_S (fun q => nmA r N q ∨ q = out) s.heap H9 ([] ++ L9) := x_app hS hz9 (fun q h1 h2 => hk9 q h1) (fun q hq => (fun _ h => h.elim) _ (hL9 q hq))
    have ho9 := hx_keep hout (hk9 _ (hx_lt hout))
    obtain ⟨hE, hG⟩ := hb9
    subst hE
    refine t_catch (h := 20) hc9 hv9 ((Vm.findClass_spec hf9).elim fun k9 h9 => ⟨k9, h9.1⟩) (fun pl hpl => ct_T _ _ htab (ct_1 ⟨by decide, by decide⟩ (by decide) (ct_hit hB hown (htg _ (gw_mem (i := 730) (by decide +kernel) rfl)) (show ("java/lang/IndexOutOfBoundsException", "java/lang/IndexOutOfBoundsException") ∈ zCst by decide) hf9 pl hpl) rfl)) ?_
    refine lv_astore (lv' := [(4, .ref x9), (0, .ref (o 0 0)), (1, .int qa), (2, .int qb), (3, .ref out)]) hx hb d_Lw_covers_20 hl (by decide) rfl (fun ls hl => ?_)
    refine lv_iconst (v := 1) hx hb d_Lw_covers_22 (by decide) ?_
    exact t_ret (W.iret (v := 1) hx hb hr (fun t ht hW => Or.inl ⟨some (.int 1), rfl, (by rw [ht]; exact Or.inr ⟨by rw [hG], by rw [hG]; decide, ho9, hz9, hk9⟩), hS9.F ht⟩) hS9.2.2 d_Lw_covers_23)
  · obtain ⟨w9, hw9⟩ : ∃ w : Int32, v9 = some (.int w) := by
      first | exact ⟨_, hp9.2.2⟩ | exact ⟨_, hp9.2.1⟩ | (have h8 := hp9.2; split at h8 <;> first | exact ⟨_, h8.1⟩ | (split at h8 <;> exact ⟨_, h8.1⟩))
    subst hw9
    replace hS : va_S (fun q => nmA r N q ∨ q = out) s.heap H9 ([] ++ L9) := x_app hS hz9 (fun q h1 h2 => hk9 q h1 (fun h => h2 ((fun _ h => h.elim) _ h))) (fun q hq => (fun _ h => h.elim) _ (hL9 q hq))
    replace hout := hx_keep hout (hk9 _ (hx_lt hout) (fun h => h))
    obtain ⟨H, hHe⟩ : ∃ X : Heap, X = H9 := ⟨_, rfl⟩
    rw [← hHe] at hS hout hp9
    rw [← hHe]
    refine W.eq (g2 := F0 m 8 ls [.int w9, .int 0, .ref out]) rfl ?_
    refine lv_if_eq (x := w9) (tgt := 15) hx hb d_Lw_covers_8 (by decide) (fun c8 => ?_) (fun c8 => ?_)
    · skip
      refine lv_lconst (v := 0) hx hb d_Lw_covers_15 rfl ?_
      obtain ⟨H1, hH1⟩ : ∃ X : Heap, X = H := ⟨_, rfl⟩
      refine hx_last hx hb hK hS (Or.inr rfl) 3 hout rfl (show vp_in 0 1 from vp_in_nI (n := 0) (by decide) (by decide)) d_Lw_covers_16 (fun H locs hat hz ho hS => ?_)
      replace hout : va_at D vwCl (out, .inl (cs 3, (1, .inr (.inl (vp_updL gl 0 (0)))))) H := hat
      refine lv_goto (tgt := 24) hx hb d_Lw_covers_17 (by decide) ?_
      refine lv_iconst (v := 0) hx hb d_Lw_covers_24 (by decide) ?_
      refine t_ret ?_
      exact W.iret (v := 0) hx hb hr (fun t ht hW => Or.inl ⟨some (.int (0)), rfl, (by rw [ht]; exact Or.inl ⟨rfl, w9, H1, by rw [hH1]; exact hp9, (by rw [if_pos c8]; exact hout), by rw [hH1]; exact hz, by rw [hH1]; exact ho⟩), hS.F ht⟩) hS.2.2 d_Lw_covers_25
    · skip
      refine lv_lconst (v := 1) hx hb d_Lw_covers_11 rfl ?_
      refine lv_goto (tgt := 16) hx hb d_Lw_covers_12 (by decide) ?_
      obtain ⟨H1, hH1⟩ : ∃ X : Heap, X = H := ⟨_, rfl⟩
      refine hx_last hx hb hK hS (Or.inr rfl) 3 hout rfl (show vp_in 0 1 from vp_in_nI (n := 0) (by decide) (by decide)) d_Lw_covers_16 (fun H locs hat hz ho hS => ?_)
      replace hout : va_at D vwCl (out, .inl (cs 3, (1, .inr (.inl (vp_updL gl 0 (1)))))) H := hat
      refine lv_goto (tgt := 24) hx hb d_Lw_covers_17 (by decide) ?_
      refine lv_iconst (v := 0) hx hb d_Lw_covers_24 (by decide) ?_
      refine t_ret ?_
      exact W.iret (v := 0) hx hb hr (fun t ht hW => Or.inl ⟨some (.int (0)), rfl, (by rw [ht]; exact Or.inl ⟨rfl, w9, H1, by rw [hH1]; exact hp9, (by rw [if_neg c8]; exact hout), by rw [hH1]; exact hz, by rw [hH1]; exact ho⟩), hS.F ht⟩) hS.2.2 d_Lw_covers_25
def y_Lw_find : MethodName := ⟨"NameMergesLaw", "find", "(LNameMerges;I[J)I"⟩
abbrev w_Lw_find : List Cond := Cond.codeWith y_Lw_find method_15_code 4 (Option.some Jvm.ClassFile.FieldType.int) [(0, 9, 12, 15)] :: gw
theorem d_Lw_find_0 : decode method_15_code 0 = .ok (.aload_n 2, 1) := by decide +kernel
theorem d_Lw_find_1 : decode method_15_code 1 = .ok (.iconst 0, 1) := by decide +kernel
theorem d_Lw_find_2 : decode method_15_code 2 = .ok (.aload_n 0, 1) := by decide +kernel
theorem d_Lw_find_3 : decode method_15_code 3 = .ok (.iload_n 1, 1) := by decide +kernel
theorem d_Lw_find_4 : decode method_15_code 4 = .ok (.invokevirtual 58, 3) := by decide +kernel
theorem d_Lw_find_7 : decode method_15_code 7 = .ok (.i2l, 1) := by decide +kernel
theorem d_Lw_find_8 : decode method_15_code 8 = .ok (.lastore, 1) := by decide +kernel
theorem d_Lw_find_9 : decode method_15_code 9 = .ok (.goto 6, 3) := by decide +kernel
theorem d_Lw_find_12 : decode method_15_code 12 = .ok (.astore_n 3, 1) := by decide +kernel
theorem d_Lw_find_13 : decode method_15_code 13 = .ok (.iconst 1, 1) := by decide +kernel
theorem d_Lw_find_14 : decode method_15_code 14 = .ok (.ireturn, 1) := by decide +kernel
theorem d_Lw_find_15 : decode method_15_code 15 = .ok (.iconst 0, 1) := by decide +kernel
theorem d_Lw_find_16 : decode method_15_code 16 = .ok (.ireturn, 1) := by decide +kernel
set_option maxHeartbeats 4000000 in
set_option maxRecDepth 100000 in
theorem c_Lw_find (l : Launch) (D : va_G) (cs : Nat → ClassId) (N0 : Nat) (H : Heap) (hl9 : l.stackTraces = false) (o z : Nat → Nat → Nat) (K : Nat → Nat → Nat → Int32) (r : Nat → Nat × Nat) (N : Nat) (out : Nat) (gl : Nat → Int64) (day : Int32) (hI : nmP D cs N0 H o z K r) (hN : N = H.size) (hout : va_at D vwCl (out, .inl (cs 3, (1, .inr (.inl gl)))) H) (hor : ¬ (r out).1 < 20) (ho0 : N0 ≤ out) : tMet l y_Lw_find w_Lw_find ({ frames := 8, cells := 3, slots := 26, locals := 174 }) (hPre D cs N0 [.ref (o 0 0), .int day, .ref out] H) (hT (fun v H' => (v = some (.int 0) ∧ ∃ (wv : Int32) (H1 : Heap), (fun (v : Option Value) (H' : Heap) => goV (isD day) true true = 0 ∧ v = some (.int (bcV (upt (fnS z K day) (z 3 0) 0))) ∧ nmP D cs N0 H' o z (upK K 0 0 (upd (K 0 0) 0 (upt (fnS z K day) (z 3 0) 0))) r) (some (.int wv)) H1 ∧ va_at D vwCl (out, .inl (cs 3, (1, .inr (.inl (vp_updL gl 0 wv.toInt64))))) H' ∧ H'.size = H1.size ∧ ∀ q : Nat, q ≠ out → H'[q]? = H1[q]?) ∨ (v = some (.int (goV (isD day) true true)) ∧ ¬ goV (isD day) true true = 0 ∧ va_at D vwCl (out, .inl (cs 3, (1, .inr (.inl gl)))) H' ∧ H.size ≤ H'.size ∧ ∀ q : Nat, q < H.size → H'[q]? = H[q]?)) (fun _ => False) (fun q => nmA r N q ∨ q = out)) 3 26 (fun q => nmA r N q ∨ q = out) := by
  refine tMet.ofWH (hh := [(0, 9, 12, 15)]) (cc := method_15_code) (maxL := 4) (ret := (Option.some Jvm.ClassFile.FieldType.int)) (by decide) rfl ?_
  intro p e s m args below meth c s₁ B hml htab hv
  obtain ⟨rfl, rfl, hB⟩ := hv
  have hx := B.exec
  have hb := B.bytes
  have hr := B.returns
  have hts := atoms_spec (ws := w_Lw_find) B.pre
  have htg : ∀ w ∈ gw, w.before _ s = true := fun w h => hts w (List.mem_cons_of_mem _ h)
  have hown : s.vm.findClass "NameMergesLaw" = some m.cls := findClass_of_methodNamed B.named
  have hlocks := B.notSynchronized
  have hAN : ∀ q, (fun q => nmA r N q ∨ q = out) q → N0 ≤ q := fun q9 h9 => h9.elim (fun h9 => h9.elim (hI.2.1 q9) (fun h9 => Nat.le_trans hB.2.1 (hN ▸ h9))) (fun h9 => h9 ▸ ho0)
  have hK := hB.1
  obtain ⟨H, hH⟩ : ∃ z : Heap, z = s.heap := ⟨_, rfl⟩
  have hz0 : H.size = s.heap.size := by rw [hH]
  have hN0 := hB.2.1
  rw [← hH] at hI hout
  have hS : va_S (fun q => nmA r N q ∨ q = out) s.heap H [] := by rw [hH]; exact va_S.rf
  have hl := lv_entry ([.ref (o 0 0), .int day, .ref out]) (n := 4) (Nat.le_of_ble_eq_true rfl)
  rw [lg_entry_eq, ← hH]
  generalize (lg_sl ([.ref (o 0 0), .int day, .ref out]) ++ List.replicate (4 - (lg_sl ([.ref (o 0 0), .int day, .ref out])).length) Slot.unset).toArray = ls at hl ⊢
  have hl : lv_has ls 4 [(0, .ref (o 0 0)), (1, .int day), (2, .ref out)] := hl
  refine lv_aload_n hx hb d_Lw_find_0 rfl (lv_at hl 2 rfl) ?_
  refine lv_iconst (v := 0) hx hb d_Lw_find_1 (by decide) ?_
  refine lv_aload_n hx hb d_Lw_find_2 rfl (lv_at hl 0 rfl) ?_
  refine lv_iload_n hx hb d_Lw_find_3 rfl (lv_at hl 1 rfl) ?_
  refine t_V (As := [.int day]) (rest := [.int 0, .ref out]) ⟨hx, hb, hml, hown, htg⟩ (c_Nm_find l D cs N0 H hl9 o z K r N day hI (by omega)) ⟨x_cwB 1 htg (gw_mem (i := 915) (by decide +kernel) rfl) (gw_mem (i := 30) (by decide +kernel) rfl) (gw_mem (i := 912) (by decide +kernel) rfl) (by decide +kernel) ⟨Nat.le_of_ble_eq_true rfl, Nat.le_of_ble_eq_true rfl⟩, htg _ (gw_mem (i := 913) (by decide +kernel) rfl), htg _ (gw_mem (i := 914) (by decide +kernel) rfl)⟩ ⟨hPre.blind, hx_recv hK (ci := 1) rfl (show va_at D vwCl (o 0 0, .inr (1, [.ref (o 1 0), .ref (o 3 0), .ref (o 5 0), .ref (o 7 0), .ref (o 8 0), .int (nI (z 0 0)), .int (K 0 0 0), .ref (o 9 0)])) H from hI.at (k := 0) (n := 0) (show nmv z 0 0 from rfl)), hPre.at hB hS hAN⟩ rfl hl.1 rfl (lv_room (Nat.le_of_ble_eq_true rfl)) d_Lw_find_4 ⟨Nat.le_of_ble_eq_true rfl, Nat.le_of_ble_eq_true rfl⟩ (fun x9 E9 ce9 H9 L9 hL9 hb9 hc9 hv9 hf9 hz9 hk9 => ?_) (fun v9 H9 L9 hL9 hp9 hz9 hk9 => ?_)
  · have hS9 : va_S (fun q => nmA r N q ∨ q = out) s.heap H9 ([] ++ L9) := x_app hS hz9 (fun q h1 h2 => hk9 q h1) (fun q hq => (fun q (h : nmA r N q) => Or.inl h) _ (hL9 q hq))
    have ho9 := hx_keep hout (hk9 _ (hx_lt hout))
    obtain ⟨hE, hG⟩ := hb9
    subst hE
    refine t_catch (h := 12) hc9 hv9 ((Vm.findClass_spec hf9).elim fun k9 h9 => ⟨k9, h9.1⟩) (fun pl hpl => ct_T _ _ htab (ct_1 ⟨by decide, by decide⟩ (by decide) (ct_hit hB hown (htg _ (gw_mem (i := 600) (by decide +kernel) rfl)) (show ("java/lang/IllegalArgumentException", "java/lang/IllegalArgumentException") ∈ zCst by decide) hf9 pl hpl) rfl)) ?_
    refine lv_astore_n (lv' := [(3, .ref x9), (0, .ref (o 0 0)), (1, .int day), (2, .ref out)]) hx hb d_Lw_find_12 rfl hl (by decide) rfl (fun ls hl => ?_)
    refine lv_iconst (v := 1) hx hb d_Lw_find_13 (by decide) ?_
    exact t_ret (W.iret (v := 1) hx hb hr (fun t ht hW => Or.inl ⟨some (.int 1), rfl, (by rw [ht]; exact Or.inr ⟨by rw [hG], by rw [hG]; decide, ho9, hz9, hk9⟩), hS9.F ht⟩) hS9.2.2 d_Lw_find_14)
  · obtain ⟨w9, hw9⟩ : ∃ w : Int32, v9 = some (.int w) := by
      first | exact ⟨_, hp9.2.2⟩ | exact ⟨_, hp9.2.1⟩ | (have h8 := hp9.2; split at h8 <;> first | exact ⟨_, h8.1⟩ | (split at h8 <;> exact ⟨_, h8.1⟩))
    subst hw9
    replace hS : va_S (fun q => nmA r N q ∨ q = out) s.heap H9 ([] ++ L9) := x_app hS hz9 (fun q h1 h2 => hk9 q h1 (fun h => h2 ((fun q (h : nmA r N q) => Or.inl h) _ h))) (fun q hq => (fun q (h : nmA r N q) => Or.inl h) _ (hL9 q hq))
    replace hout := hx_keep hout (hk9 _ (hx_lt hout) (fun h9 => h9.elim hor (fun h9 => by have := hx_lt hout; omega)))
    obtain ⟨H, hHe⟩ : ∃ X : Heap, X = H9 := ⟨_, rfl⟩
    rw [← hHe] at hS hout hp9
    rw [← hHe]
    refine W.eq (g2 := F0 m 7 ls [.int w9, .int 0, .ref out]) rfl ?_
    refine lv_i2l (v := w9.toInt64) hx hb d_Lw_find_7 rfl ?_
    obtain ⟨H1, hH1⟩ : ∃ X : Heap, X = H := ⟨_, rfl⟩
    refine hx_last hx hb hK hS (Or.inr rfl) 3 hout rfl (show vp_in 0 1 from vp_in_nI (n := 0) (by decide) (by decide)) d_Lw_find_8 (fun H locs hat hz ho hS => ?_)
    replace hout : va_at D vwCl (out, .inl (cs 3, (1, .inr (.inl (vp_updL gl 0 (w9.toInt64)))))) H := hat
    refine lv_goto (tgt := 15) hx hb d_Lw_find_9 (by decide) ?_
    refine lv_iconst (v := 0) hx hb d_Lw_find_15 (by decide) ?_
    refine t_ret ?_
    exact W.iret (v := 0) hx hb hr (fun t ht hW => Or.inl ⟨some (.int (0)), rfl, (by rw [ht]; exact Or.inl ⟨rfl, w9, H1, by rw [hH1]; exact hp9, hout, by rw [hH1]; exact hz, by rw [hH1]; exact ho⟩), hS.F ht⟩) hS.2.2 d_Lw_find_16
def y_Lw_found : MethodName := ⟨"NameMergesLaw", "found", "(LNameMerges;I[J)I"⟩
abbrev w_Lw_found : List Cond := Cond.codeWith y_Lw_found method_16_code 4 (Option.some Jvm.ClassFile.FieldType.int) [(0, 9, 12, 25)] :: gw
theorem d_Lw_found_0 : decode method_16_code 0 = .ok (.aload_n 2, 1) := by decide +kernel
theorem d_Lw_found_1 : decode method_16_code 1 = .ok (.iconst 0, 1) := by decide +kernel
theorem d_Lw_found_2 : decode method_16_code 2 = .ok (.aload_n 0, 1) := by decide +kernel
theorem d_Lw_found_3 : decode method_16_code 3 = .ok (.iload_n 1, 1) := by decide +kernel
theorem d_Lw_found_4 : decode method_16_code 4 = .ok (.invokevirtual 61, 3) := by decide +kernel
theorem d_Lw_found_7 : decode method_16_code 7 = .ok (.i2l, 1) := by decide +kernel
theorem d_Lw_found_8 : decode method_16_code 8 = .ok (.lastore, 1) := by decide +kernel
theorem d_Lw_found_9 : decode method_16_code 9 = .ok (.goto 6, 3) := by decide +kernel
theorem d_Lw_found_12 : decode method_16_code 12 = .ok (.astore_n 3, 1) := by decide +kernel
theorem d_Lw_found_13 : decode method_16_code 13 = .ok (.iconst 1, 1) := by decide +kernel
theorem d_Lw_found_14 : decode method_16_code 14 = .ok (.ireturn, 1) := by decide +kernel
theorem d_Lw_found_15 : decode method_16_code 15 = .ok (.iconst 0, 1) := by decide +kernel
theorem d_Lw_found_16 : decode method_16_code 16 = .ok (.ireturn, 1) := by decide +kernel
set_option maxHeartbeats 4000000 in
set_option maxRecDepth 100000 in
theorem c_Lw_found (l : Launch) (D : va_G) (cs : Nat → ClassId) (N0 : Nat) (H : Heap) (hl9 : l.stackTraces = false) (o z : Nat → Nat → Nat) (K : Nat → Nat → Nat → Int32) (r : Nat → Nat × Nat) (N : Nat) (out : Nat) (gl : Nat → Int64) (q : Int32) (hI : nmP D cs N0 H o z K r) (hN : N = H.size) (hout : va_at D vwCl (out, .inl (cs 3, (1, .inr (.inl gl)))) H) (hor : ¬ (r out).1 < 20) (ho0 : N0 ≤ out) : tMet l y_Lw_found w_Lw_found ({ frames := 7, cells := 1, slots := 6, locals := 105 }) (hPre D cs N0 [.ref (o 0 0), .int q, .ref out] H) (hT (fun v H' => (v = some (.int 0) ∧ ∃ (wv : Int32) (H1 : Heap), (fun (v : Option Value) (H' : Heap) => goV (!decide (q < 0) && !decide (bcV (K 0 0 0) ≤ q)) true true = 0 ∧ H' = H ∧ v = some (.int (ntV (upt clrS (tn q) (K 0 0 0))))) (some (.int wv)) H1 ∧ va_at D vwCl (out, .inl (cs 3, (1, .inr (.inl (vp_updL gl 0 wv.toInt64))))) H' ∧ H'.size = H1.size ∧ ∀ q : Nat, q ≠ out → H'[q]? = H1[q]?) ∨ (v = some (.int (goV (!decide (q < 0) && !decide (bcV (K 0 0 0) ≤ q)) true true)) ∧ ¬ goV (!decide (q < 0) && !decide (bcV (K 0 0 0) ≤ q)) true true = 0 ∧ va_at D vwCl (out, .inl (cs 3, (1, .inr (.inl gl)))) H' ∧ H.size ≤ H'.size ∧ ∀ q : Nat, q < H.size → H'[q]? = H[q]?)) (fun _ => False) (fun q => nmA r N q ∨ q = out)) 1 6 (fun q => nmA r N q ∨ q = out) := by
  refine tMet.ofWH (hh := [(0, 9, 12, 25)]) (cc := method_16_code) (maxL := 4) (ret := (Option.some Jvm.ClassFile.FieldType.int)) (by decide) rfl ?_
  intro p e s m args below meth c s₁ B hml htab hv
  obtain ⟨rfl, rfl, hB⟩ := hv
  have hx := B.exec
  have hb := B.bytes
  have hr := B.returns
  have hts := atoms_spec (ws := w_Lw_found) B.pre
  have htg : ∀ w ∈ gw, w.before _ s = true := fun w h => hts w (List.mem_cons_of_mem _ h)
  have hown : s.vm.findClass "NameMergesLaw" = some m.cls := findClass_of_methodNamed B.named
  have hlocks := B.notSynchronized
  have hAN : ∀ q, (fun q => nmA r N q ∨ q = out) q → N0 ≤ q := fun q9 h9 => h9.elim (fun h9 => h9.elim (hI.2.1 q9) (fun h9 => Nat.le_trans hB.2.1 (hN ▸ h9))) (fun h9 => h9 ▸ ho0)
  have hK := hB.1
  obtain ⟨H, hH⟩ : ∃ z : Heap, z = s.heap := ⟨_, rfl⟩
  have hz0 : H.size = s.heap.size := by rw [hH]
  have hN0 := hB.2.1
  rw [← hH] at hI hout
  have hS : va_S (fun q => nmA r N q ∨ q = out) s.heap H [] := by rw [hH]; exact va_S.rf
  have hl := lv_entry ([.ref (o 0 0), .int q, .ref out]) (n := 4) (Nat.le_of_ble_eq_true rfl)
  rw [lg_entry_eq, ← hH]
  generalize (lg_sl ([.ref (o 0 0), .int q, .ref out]) ++ List.replicate (4 - (lg_sl ([.ref (o 0 0), .int q, .ref out])).length) Slot.unset).toArray = ls at hl ⊢
  have hl : lv_has ls 4 [(0, .ref (o 0 0)), (1, .int q), (2, .ref out)] := hl
  refine lv_aload_n hx hb d_Lw_found_0 rfl (lv_at hl 2 rfl) ?_
  refine lv_iconst (v := 0) hx hb d_Lw_found_1 (by decide) ?_
  refine lv_aload_n hx hb d_Lw_found_2 rfl (lv_at hl 0 rfl) ?_
  refine lv_iload_n hx hb d_Lw_found_3 rfl (lv_at hl 1 rfl) ?_
  refine t_V (As := [.int q]) (rest := [.int 0, .ref out]) ⟨hx, hb, hml, hown, htg⟩ (c_Nm_found l D cs N0 H hl9 o z K r q hI) ⟨x_cwB 1 htg (gw_mem (i := 943) (by decide +kernel) rfl) (gw_mem (i := 30) (by decide +kernel) rfl) (gw_mem (i := 940) (by decide +kernel) rfl) (by decide +kernel) ⟨Nat.le_of_ble_eq_true rfl, Nat.le_of_ble_eq_true rfl⟩, htg _ (gw_mem (i := 941) (by decide +kernel) rfl), htg _ (gw_mem (i := 942) (by decide +kernel) rfl)⟩ ⟨hPre.blind, hx_recv hK (ci := 1) rfl (show va_at D vwCl (o 0 0, .inr (1, [.ref (o 1 0), .ref (o 3 0), .ref (o 5 0), .ref (o 7 0), .ref (o 8 0), .int (nI (z 0 0)), .int (K 0 0 0), .ref (o 9 0)])) H from hI.at (k := 0) (n := 0) (show nmv z 0 0 from rfl)), hPre.at hB hS hAN⟩ rfl hl.1 rfl (lv_room (Nat.le_of_ble_eq_true rfl)) d_Lw_found_4 ⟨Nat.le_of_ble_eq_true rfl, Nat.le_of_ble_eq_true rfl⟩ (fun x9 E9 ce9 H9 L9 hL9 hb9 hc9 hv9 hf9 hz9 hk9 => ?_) (fun v9 H9 L9 hL9 hp9 hz9 hk9 => ?_)
  · have hS9 : va_S (fun q => nmA r N q ∨ q = out) s.heap H9 ([] ++ L9) := x_app hS hz9 (fun q h1 h2 => hk9 q h1) (fun q hq => (fun _ h => h.elim) _ (hL9 q hq))
    have ho9 := hx_keep hout (hk9 _ (hx_lt hout))
    obtain ⟨hE, hG⟩ := hb9
    subst hE
    refine t_catch (h := 12) hc9 hv9 ((Vm.findClass_spec hf9).elim fun k9 h9 => ⟨k9, h9.1⟩) (fun pl hpl => ct_T _ _ htab (ct_1 ⟨by decide, by decide⟩ (by decide) (ct_hit hB hown (htg _ (gw_mem (i := 730) (by decide +kernel) rfl)) (show ("java/lang/IndexOutOfBoundsException", "java/lang/IndexOutOfBoundsException") ∈ zCst by decide) hf9 pl hpl) rfl)) ?_
    refine lv_astore_n (lv' := [(3, .ref x9), (0, .ref (o 0 0)), (1, .int q), (2, .ref out)]) hx hb d_Lw_found_12 rfl hl (by decide) rfl (fun ls hl => ?_)
    refine lv_iconst (v := 1) hx hb d_Lw_found_13 (by decide) ?_
    exact t_ret (W.iret (v := 1) hx hb hr (fun t ht hW => Or.inl ⟨some (.int 1), rfl, (by rw [ht]; exact Or.inr ⟨by rw [hG], by rw [hG]; decide, ho9, hz9, hk9⟩), hS9.F ht⟩) hS9.2.2 d_Lw_found_14)
  · obtain ⟨w9, hw9⟩ : ∃ w : Int32, v9 = some (.int w) := by
      first | exact ⟨_, hp9.2.2⟩ | exact ⟨_, hp9.2.1⟩ | (have h8 := hp9.2; split at h8 <;> first | exact ⟨_, h8.1⟩ | (split at h8 <;> exact ⟨_, h8.1⟩))
    subst hw9
    replace hS : va_S (fun q => nmA r N q ∨ q = out) s.heap H9 ([] ++ L9) := x_app hS hz9 (fun q h1 h2 => hk9 q h1 (fun h => h2 ((fun _ h => h.elim) _ h))) (fun q hq => (fun _ h => h.elim) _ (hL9 q hq))
    replace hout := hx_keep hout (hk9 _ (hx_lt hout) (fun h => h))
    obtain ⟨H, hHe⟩ : ∃ X : Heap, X = H9 := ⟨_, rfl⟩
    rw [← hHe] at hS hout hp9
    rw [← hHe]
    refine W.eq (g2 := F0 m 7 ls [.int w9, .int 0, .ref out]) rfl ?_
    refine lv_i2l (v := w9.toInt64) hx hb d_Lw_found_7 rfl ?_
    obtain ⟨H1, hH1⟩ : ∃ X : Heap, X = H := ⟨_, rfl⟩
    refine hx_last hx hb hK hS (Or.inr rfl) 3 hout rfl (show vp_in 0 1 from vp_in_nI (n := 0) (by decide) (by decide)) d_Lw_found_8 (fun H locs hat hz ho hS => ?_)
    replace hout : va_at D vwCl (out, .inl (cs 3, (1, .inr (.inl (vp_updL gl 0 (w9.toInt64)))))) H := hat
    refine lv_goto (tgt := 15) hx hb d_Lw_found_9 (by decide) ?_
    refine lv_iconst (v := 0) hx hb d_Lw_found_15 (by decide) ?_
    refine t_ret ?_
    exact W.iret (v := 0) hx hb hr (fun t ht hW => Or.inl ⟨some (.int (0)), rfl, (by rw [ht]; exact Or.inl ⟨rfl, w9, H1, by rw [hH1]; exact hp9, hout, by rw [hH1]; exact hz, by rw [hH1]; exact ho⟩), hS.F ht⟩) hS.2.2 d_Lw_found_16
def y_Lw_outside : MethodName := ⟨"NameMergesLaw", "outside", "(LNameMerges;III[J)I"⟩
abbrev w_Lw_outside : List Cond := Cond.codeWith y_Lw_outside method_17_code 6 (Option.some Jvm.ClassFile.FieldType.int) [(0, 19, 22, 25), (0, 19, 26, 15)] :: gw
theorem d_Lw_outside_0 : decode method_17_code 0 = .ok (.aload 4, 2) := by decide +kernel
theorem d_Lw_outside_2 : decode method_17_code 2 = .ok (.iconst 0, 1) := by decide +kernel
theorem d_Lw_outside_3 : decode method_17_code 3 = .ok (.aload_n 0, 1) := by decide +kernel
theorem d_Lw_outside_4 : decode method_17_code 4 = .ok (.iload_n 1, 1) := by decide +kernel
theorem d_Lw_outside_5 : decode method_17_code 5 = .ok (.iload_n 2, 1) := by decide +kernel
theorem d_Lw_outside_6 : decode method_17_code 6 = .ok (.iload_n 3, 1) := by decide +kernel
theorem d_Lw_outside_7 : decode method_17_code 7 = .ok (.invokevirtual 64, 3) := by decide +kernel
theorem d_Lw_outside_10 : decode method_17_code 10 = .ok (.ifCond .eq 7, 3) := by decide +kernel
theorem d_Lw_outside_13 : decode method_17_code 13 = .ok (.lconst 1, 1) := by decide +kernel
theorem d_Lw_outside_14 : decode method_17_code 14 = .ok (.goto 4, 3) := by decide +kernel
theorem d_Lw_outside_17 : decode method_17_code 17 = .ok (.lconst 0, 1) := by decide +kernel
theorem d_Lw_outside_18 : decode method_17_code 18 = .ok (.lastore, 1) := by decide +kernel
theorem d_Lw_outside_19 : decode method_17_code 19 = .ok (.goto 11, 3) := by decide +kernel
theorem d_Lw_outside_22 : decode method_17_code 22 = .ok (.astore 5, 2) := by decide +kernel
theorem d_Lw_outside_24 : decode method_17_code 24 = .ok (.iconst 1, 1) := by decide +kernel
theorem d_Lw_outside_25 : decode method_17_code 25 = .ok (.ireturn, 1) := by decide +kernel
theorem d_Lw_outside_26 : decode method_17_code 26 = .ok (.astore 5, 2) := by decide +kernel
theorem d_Lw_outside_28 : decode method_17_code 28 = .ok (.iconst 2, 1) := by decide +kernel
theorem d_Lw_outside_29 : decode method_17_code 29 = .ok (.ireturn, 1) := by decide +kernel
theorem d_Lw_outside_30 : decode method_17_code 30 = .ok (.iconst 0, 1) := by decide +kernel
theorem d_Lw_outside_31 : decode method_17_code 31 = .ok (.ireturn, 1) := by decide +kernel
set_option maxHeartbeats 4000000 in
set_option maxRecDepth 100000 in
theorem c_Lw_outside (l : Launch) (D : va_G) (cs : Nat → ClassId) (N0 : Nat) (H : Heap) (hl9 : l.stackTraces = false) (o z : Nat → Nat → Nat) (K : Nat → Nat → Nat → Int32) (r : Nat → Nat × Nat) (N : Nat) (out : Nat) (gl : Nat → Int64) (q st nu : Int32) (hI : nmP D cs N0 H o z K r) (hN : N = H.size) (hout : va_at D vwCl (out, .inl (cs 3, (1, .inr (.inl gl)))) H) (hor : ¬ (r out).1 < 20) (ho0 : N0 ≤ out) : tMet l y_Lw_outside w_Lw_outside ({ frames := 8, cells := 3, slots := 18, locals := 127 }) (hPre D cs N0 [.ref (o 0 0), .int q, .int st, .int nu, .ref out] H) (hT (fun v H' => (v = some (.int 0) ∧ ∃ (wv : Int32) (H1 : Heap), (fun (v : Option Value) (H' : Heap) => goV (isN (z 3 0) q && isSt st) (numB nu) true = 0 ∧ (if (!decide (ownV z K (tn st) nu = -1) && !decide (ownV z K (tn st) nu = q)) = true then (v = some (.int 0) ∧ nmP D cs N0 H' o z K r) else (v = some (.int 1) ∧ nmP D cs N0 H' o z (upK K 13 (tn q) (upd (K 13 (tn q)) (tn st) nu)) r))) (some (.int wv)) H1 ∧ va_at D vwCl (out, .inl (cs 3, (1, .inr (.inl (vp_updL gl 0 (if wv = 0 then 0 else 1)))))) H' ∧ H'.size = H1.size ∧ ∀ q : Nat, q ≠ out → H'[q]? = H1[q]?) ∨ (v = some (.int (goV (isN (z 3 0) q && isSt st) (numB nu) true)) ∧ ¬ goV (isN (z 3 0) q && isSt st) (numB nu) true = 0 ∧ va_at D vwCl (out, .inl (cs 3, (1, .inr (.inl gl)))) H' ∧ H.size ≤ H'.size ∧ ∀ q : Nat, q < H.size → H'[q]? = H[q]?)) (fun _ => False) (fun q => nmA r N q ∨ q = out)) 3 18 (fun q => nmA r N q ∨ q = out) := by
  refine tMet.ofWH (hh := [(0, 19, 22, 25), (0, 19, 26, 15)]) (cc := method_17_code) (maxL := 6) (ret := (Option.some Jvm.ClassFile.FieldType.int)) (by decide) rfl ?_
  intro p e s m args below meth c s₁ B hml htab hv
  obtain ⟨rfl, rfl, hB⟩ := hv
  have hx := B.exec
  have hb := B.bytes
  have hr := B.returns
  have hts := atoms_spec (ws := w_Lw_outside) B.pre
  have htg : ∀ w ∈ gw, w.before _ s = true := fun w h => hts w (List.mem_cons_of_mem _ h)
  have hown : s.vm.findClass "NameMergesLaw" = some m.cls := findClass_of_methodNamed B.named
  have hlocks := B.notSynchronized
  have hAN : ∀ q, (fun q => nmA r N q ∨ q = out) q → N0 ≤ q := fun q9 h9 => h9.elim (fun h9 => h9.elim (hI.2.1 q9) (fun h9 => Nat.le_trans hB.2.1 (hN ▸ h9))) (fun h9 => h9 ▸ ho0)
  have hK := hB.1
  obtain ⟨H, hH⟩ : ∃ z : Heap, z = s.heap := ⟨_, rfl⟩
  have hz0 : H.size = s.heap.size := by rw [hH]
  have hN0 := hB.2.1
  rw [← hH] at hI hout
  have hS : va_S (fun q => nmA r N q ∨ q = out) s.heap H [] := by rw [hH]; exact va_S.rf
  have hl := lv_entry ([.ref (o 0 0), .int q, .int st, .int nu, .ref out]) (n := 6) (Nat.le_of_ble_eq_true rfl)
  rw [lg_entry_eq, ← hH]
  generalize (lg_sl ([.ref (o 0 0), .int q, .int st, .int nu, .ref out]) ++ List.replicate (6 - (lg_sl ([.ref (o 0 0), .int q, .int st, .int nu, .ref out])).length) Slot.unset).toArray = ls at hl ⊢
  have hl : lv_has ls 6 [(0, .ref (o 0 0)), (1, .int q), (2, .int st), (3, .int nu), (4, .ref out)] := hl
  refine lv_aload hx hb d_Lw_outside_0 (lv_at hl 4 rfl) ?_
  refine lv_iconst (v := 0) hx hb d_Lw_outside_2 (by decide) ?_
  refine lv_aload_n hx hb d_Lw_outside_3 rfl (lv_at hl 0 rfl) ?_
  refine lv_iload_n hx hb d_Lw_outside_4 rfl (lv_at hl 1 rfl) ?_
  refine lv_iload_n hx hb d_Lw_outside_5 rfl (lv_at hl 2 rfl) ?_
  refine lv_iload_n hx hb d_Lw_outside_6 rfl (lv_at hl 3 rfl) ?_
  refine t_V (As := [.int q, .int st, .int nu]) (rest := [.int 0, .ref out]) ⟨hx, hb, hml, hown, htg⟩ (c_Nm_outside l D cs N0 H hl9 o z K r N q st nu hI (by omega)) ⟨x_cwB 3 htg (gw_mem (i := 951) (by decide +kernel) rfl) (gw_mem (i := 30) (by decide +kernel) rfl) (gw_mem (i := 948) (by decide +kernel) rfl) (by decide +kernel) ⟨Nat.le_of_ble_eq_true rfl, Nat.le_of_ble_eq_true rfl⟩, htg _ (gw_mem (i := 949) (by decide +kernel) rfl), htg _ (gw_mem (i := 950) (by decide +kernel) rfl)⟩ ⟨hPre.blind, hx_recv hK (ci := 1) rfl (show va_at D vwCl (o 0 0, .inr (1, [.ref (o 1 0), .ref (o 3 0), .ref (o 5 0), .ref (o 7 0), .ref (o 8 0), .int (nI (z 0 0)), .int (K 0 0 0), .ref (o 9 0)])) H from hI.at (k := 0) (n := 0) (show nmv z 0 0 from rfl)), hPre.at hB hS hAN⟩ rfl hl.1 rfl (lv_room (Nat.le_of_ble_eq_true rfl)) d_Lw_outside_7 ⟨Nat.le_of_ble_eq_true rfl, Nat.le_of_ble_eq_true rfl⟩ (fun x9 E9 ce9 H9 L9 hL9 hb9 hc9 hv9 hf9 hz9 hk9 => ?_) (fun v9 H9 L9 hL9 hp9 hz9 hk9 => ?_)
  · have hS9 : va_S (fun q => nmA r N q ∨ q = out) s.heap H9 ([] ++ L9) := x_app hS hz9 (fun q h1 h2 => hk9 q h1) (fun q hq => (fun q (h : nmA r N q) => Or.inl h) _ (hL9 q hq))
    have ho9 := hx_keep hout (hk9 _ (hx_lt hout))
    rcases hb9 with ⟨hE, hG⟩ | ⟨hE, hG⟩
    · subst hE
      refine t_catch (h := 22) hc9 hv9 ((Vm.findClass_spec hf9).elim fun k9 h9 => ⟨k9, h9.1⟩) (fun pl hpl => ct_T _ _ htab (ct_1 ⟨by decide, by decide⟩ (by decide) (ct_hit hB hown (htg _ (gw_mem (i := 730) (by decide +kernel) rfl)) (show ("java/lang/IndexOutOfBoundsException", "java/lang/IndexOutOfBoundsException") ∈ zCst by decide) hf9 pl hpl) rfl)) ?_
      refine lv_astore (lv' := [(5, .ref x9), (0, .ref (o 0 0)), (1, .int q), (2, .int st), (3, .int nu), (4, .ref out)]) hx hb d_Lw_outside_22 hl (by decide) rfl (fun ls hl => ?_)
      refine lv_iconst (v := 1) hx hb d_Lw_outside_24 (by decide) ?_
      exact t_ret (W.iret (v := 1) hx hb hr (fun t ht hW => Or.inl ⟨some (.int 1), rfl, (by rw [ht]; exact Or.inr ⟨by rw [hG], by rw [hG]; decide, ho9, hz9, hk9⟩), hS9.F ht⟩) hS9.2.2 d_Lw_outside_25)
    · subst hE
      refine t_catch (h := 26) hc9 hv9 ((Vm.findClass_spec hf9).elim fun k9 h9 => ⟨k9, h9.1⟩) (fun pl hpl => ct_T _ _ htab (ct_0 ⟨by decide, by decide⟩ (by decide) (ct_miss hB hown (htg _ (gw_mem (i := 730) (by decide +kernel) rfl)) (show ("java/lang/IllegalArgumentException", "java/lang/IndexOutOfBoundsException") ∈ zNcs by decide) hf9 pl hpl) (ct_1 ⟨by decide, by decide⟩ (by decide) (ct_hit hB hown (htg _ (gw_mem (i := 600) (by decide +kernel) rfl)) (show ("java/lang/IllegalArgumentException", "java/lang/IllegalArgumentException") ∈ zCst by decide) hf9 pl hpl) rfl))) ?_
      refine lv_astore (lv' := [(5, .ref x9), (0, .ref (o 0 0)), (1, .int q), (2, .int st), (3, .int nu), (4, .ref out)]) hx hb d_Lw_outside_26 hl (by decide) rfl (fun ls hl => ?_)
      refine lv_iconst (v := 2) hx hb d_Lw_outside_28 (by decide) ?_
      exact t_ret (W.iret (v := 2) hx hb hr (fun t ht hW => Or.inl ⟨some (.int 2), rfl, (by rw [ht]; exact Or.inr ⟨by rw [hG], by rw [hG]; decide, ho9, hz9, hk9⟩), hS9.F ht⟩) hS9.2.2 d_Lw_outside_29)
  · obtain ⟨w9, hw9⟩ : ∃ w : Int32, v9 = some (.int w) := by
      first | exact ⟨_, hp9.2.2⟩ | exact ⟨_, hp9.2.1⟩ | (have h8 := hp9.2; split at h8 <;> first | exact ⟨_, h8.1⟩ | (split at h8 <;> exact ⟨_, h8.1⟩))
    subst hw9
    replace hS : va_S (fun q => nmA r N q ∨ q = out) s.heap H9 ([] ++ L9) := x_app hS hz9 (fun q h1 h2 => hk9 q h1 (fun h => h2 ((fun q (h : nmA r N q) => Or.inl h) _ h))) (fun q hq => (fun q (h : nmA r N q) => Or.inl h) _ (hL9 q hq))
    replace hout := hx_keep hout (hk9 _ (hx_lt hout) (fun h9 => h9.elim hor (fun h9 => by have := hx_lt hout; omega)))
    obtain ⟨H, hHe⟩ : ∃ X : Heap, X = H9 := ⟨_, rfl⟩
    rw [← hHe] at hS hout hp9
    rw [← hHe]
    refine W.eq (g2 := F0 m 10 ls [.int w9, .int 0, .ref out]) rfl ?_
    refine lv_if_eq (x := w9) (tgt := 17) hx hb d_Lw_outside_10 (by decide) (fun c10 => ?_) (fun c10 => ?_)
    · skip
      refine lv_lconst (v := 0) hx hb d_Lw_outside_17 rfl ?_
      obtain ⟨H1, hH1⟩ : ∃ X : Heap, X = H := ⟨_, rfl⟩
      refine hx_last hx hb hK hS (Or.inr rfl) 3 hout rfl (show vp_in 0 1 from vp_in_nI (n := 0) (by decide) (by decide)) d_Lw_outside_18 (fun H locs hat hz ho hS => ?_)
      replace hout : va_at D vwCl (out, .inl (cs 3, (1, .inr (.inl (vp_updL gl 0 (0)))))) H := hat
      refine lv_goto (tgt := 30) hx hb d_Lw_outside_19 (by decide) ?_
      refine lv_iconst (v := 0) hx hb d_Lw_outside_30 (by decide) ?_
      refine t_ret ?_
      exact W.iret (v := 0) hx hb hr (fun t ht hW => Or.inl ⟨some (.int (0)), rfl, (by rw [ht]; exact Or.inl ⟨rfl, w9, H1, by rw [hH1]; exact hp9, (by rw [if_pos c10]; exact hout), by rw [hH1]; exact hz, by rw [hH1]; exact ho⟩), hS.F ht⟩) hS.2.2 d_Lw_outside_31
    · skip
      refine lv_lconst (v := 1) hx hb d_Lw_outside_13 rfl ?_
      refine lv_goto (tgt := 18) hx hb d_Lw_outside_14 (by decide) ?_
      obtain ⟨H1, hH1⟩ : ∃ X : Heap, X = H := ⟨_, rfl⟩
      refine hx_last hx hb hK hS (Or.inr rfl) 3 hout rfl (show vp_in 0 1 from vp_in_nI (n := 0) (by decide) (by decide)) d_Lw_outside_18 (fun H locs hat hz ho hS => ?_)
      replace hout : va_at D vwCl (out, .inl (cs 3, (1, .inr (.inl (vp_updL gl 0 (1)))))) H := hat
      refine lv_goto (tgt := 30) hx hb d_Lw_outside_19 (by decide) ?_
      refine lv_iconst (v := 0) hx hb d_Lw_outside_30 (by decide) ?_
      refine t_ret ?_
      exact W.iret (v := 0) hx hb hr (fun t ht hW => Or.inl ⟨some (.int (0)), rfl, (by rw [ht]; exact Or.inl ⟨rfl, w9, H1, by rw [hH1]; exact hp9, (by rw [if_neg c10]; exact hout), by rw [hH1]; exact hz, by rw [hH1]; exact ho⟩), hS.F ht⟩) hS.2.2 d_Lw_outside_31
def y_Lw_whose : MethodName := ⟨"NameMergesLaw", "whose", "(LNameMerges;II[J)I"⟩
abbrev w_Lw_whose : List Cond := Cond.codeWith y_Lw_whose method_18_code 5 (Option.some Jvm.ClassFile.FieldType.int) [(0, 10, 13, 25)] :: gw
theorem d_Lw_whose_0 : decode method_18_code 0 = .ok (.aload_n 3, 1) := by decide +kernel
theorem d_Lw_whose_1 : decode method_18_code 1 = .ok (.iconst 0, 1) := by decide +kernel
theorem d_Lw_whose_2 : decode method_18_code 2 = .ok (.aload_n 0, 1) := by decide +kernel
theorem d_Lw_whose_3 : decode method_18_code 3 = .ok (.iload_n 1, 1) := by decide +kernel
theorem d_Lw_whose_4 : decode method_18_code 4 = .ok (.iload_n 2, 1) := by decide +kernel
theorem d_Lw_whose_5 : decode method_18_code 5 = .ok (.invokevirtual 67, 3) := by decide +kernel
theorem d_Lw_whose_8 : decode method_18_code 8 = .ok (.i2l, 1) := by decide +kernel
theorem d_Lw_whose_9 : decode method_18_code 9 = .ok (.lastore, 1) := by decide +kernel
theorem d_Lw_whose_10 : decode method_18_code 10 = .ok (.goto 7, 3) := by decide +kernel
theorem d_Lw_whose_13 : decode method_18_code 13 = .ok (.astore 4, 2) := by decide +kernel
theorem d_Lw_whose_15 : decode method_18_code 15 = .ok (.iconst 1, 1) := by decide +kernel
theorem d_Lw_whose_16 : decode method_18_code 16 = .ok (.ireturn, 1) := by decide +kernel
theorem d_Lw_whose_17 : decode method_18_code 17 = .ok (.iconst 0, 1) := by decide +kernel
theorem d_Lw_whose_18 : decode method_18_code 18 = .ok (.ireturn, 1) := by decide +kernel
set_option maxHeartbeats 4000000 in
set_option maxRecDepth 100000 in
theorem c_Lw_whose (l : Launch) (D : va_G) (cs : Nat → ClassId) (N0 : Nat) (H : Heap) (hl9 : l.stackTraces = false) (o z : Nat → Nat → Nat) (K : Nat → Nat → Nat → Int32) (r : Nat → Nat × Nat) (N : Nat) (out : Nat) (gl : Nat → Int64) (st q : Int32) (hI : nmP D cs N0 H o z K r) (hN : N = H.size) (hout : va_at D vwCl (out, .inl (cs 3, (1, .inr (.inl gl)))) H) (hor : ¬ (r out).1 < 20) (ho0 : N0 ≤ out) : tMet l y_Lw_whose w_Lw_whose ({ frames := 8, cells := 1, slots := 6, locals := 124 }) (hPre D cs N0 [.ref (o 0 0), .int st, .int q, .ref out] H) (hT (fun v H' => (v = some (.int 0) ∧ ∃ (wv : Int32) (H1 : Heap), (fun (v : Option Value) (H' : Heap) => goV (isSt st) true true = 0 ∧ H' = H ∧ v = some (.int (ownV z K (tn st) q))) (some (.int wv)) H1 ∧ va_at D vwCl (out, .inl (cs 3, (1, .inr (.inl (vp_updL gl 0 wv.toInt64))))) H' ∧ H'.size = H1.size ∧ ∀ q : Nat, q ≠ out → H'[q]? = H1[q]?) ∨ (v = some (.int (goV (isSt st) true true)) ∧ ¬ goV (isSt st) true true = 0 ∧ va_at D vwCl (out, .inl (cs 3, (1, .inr (.inl gl)))) H' ∧ H.size ≤ H'.size ∧ ∀ q : Nat, q < H.size → H'[q]? = H[q]?)) (fun _ => False) (fun q => nmA r N q ∨ q = out)) 1 6 (fun q => nmA r N q ∨ q = out) := by
  refine tMet.ofWH (hh := [(0, 10, 13, 25)]) (cc := method_18_code) (maxL := 5) (ret := (Option.some Jvm.ClassFile.FieldType.int)) (by decide) rfl ?_
  intro p e s m args below meth c s₁ B hml htab hv
  obtain ⟨rfl, rfl, hB⟩ := hv
  have hx := B.exec
  have hb := B.bytes
  have hr := B.returns
  have hts := atoms_spec (ws := w_Lw_whose) B.pre
  have htg : ∀ w ∈ gw, w.before _ s = true := fun w h => hts w (List.mem_cons_of_mem _ h)
  have hown : s.vm.findClass "NameMergesLaw" = some m.cls := findClass_of_methodNamed B.named
  have hlocks := B.notSynchronized
  have hAN : ∀ q, (fun q => nmA r N q ∨ q = out) q → N0 ≤ q := fun q9 h9 => h9.elim (fun h9 => h9.elim (hI.2.1 q9) (fun h9 => Nat.le_trans hB.2.1 (hN ▸ h9))) (fun h9 => h9 ▸ ho0)
  have hK := hB.1
  obtain ⟨H, hH⟩ : ∃ z : Heap, z = s.heap := ⟨_, rfl⟩
  have hz0 : H.size = s.heap.size := by rw [hH]
  have hN0 := hB.2.1
  rw [← hH] at hI hout
  have hS : va_S (fun q => nmA r N q ∨ q = out) s.heap H [] := by rw [hH]; exact va_S.rf
  have hl := lv_entry ([.ref (o 0 0), .int st, .int q, .ref out]) (n := 5) (Nat.le_of_ble_eq_true rfl)
  rw [lg_entry_eq, ← hH]
  generalize (lg_sl ([.ref (o 0 0), .int st, .int q, .ref out]) ++ List.replicate (5 - (lg_sl ([.ref (o 0 0), .int st, .int q, .ref out])).length) Slot.unset).toArray = ls at hl ⊢
  have hl : lv_has ls 5 [(0, .ref (o 0 0)), (1, .int st), (2, .int q), (3, .ref out)] := hl
  refine lv_aload_n hx hb d_Lw_whose_0 rfl (lv_at hl 3 rfl) ?_
  refine lv_iconst (v := 0) hx hb d_Lw_whose_1 (by decide) ?_
  refine lv_aload_n hx hb d_Lw_whose_2 rfl (lv_at hl 0 rfl) ?_
  refine lv_iload_n hx hb d_Lw_whose_3 rfl (lv_at hl 1 rfl) ?_
  refine lv_iload_n hx hb d_Lw_whose_4 rfl (lv_at hl 2 rfl) ?_
  refine t_V (As := [.int st, .int q]) (rest := [.int 0, .ref out]) ⟨hx, hb, hml, hown, htg⟩ (c_Nm_whose l D cs N0 H hl9 o z K r st q hI) ⟨x_cwB 2 htg (gw_mem (i := 971) (by decide +kernel) rfl) (gw_mem (i := 30) (by decide +kernel) rfl) (gw_mem (i := 968) (by decide +kernel) rfl) (by decide +kernel) ⟨Nat.le_of_ble_eq_true rfl, Nat.le_of_ble_eq_true rfl⟩, htg _ (gw_mem (i := 969) (by decide +kernel) rfl), htg _ (gw_mem (i := 970) (by decide +kernel) rfl)⟩ ⟨hPre.blind, hx_recv hK (ci := 1) rfl (show va_at D vwCl (o 0 0, .inr (1, [.ref (o 1 0), .ref (o 3 0), .ref (o 5 0), .ref (o 7 0), .ref (o 8 0), .int (nI (z 0 0)), .int (K 0 0 0), .ref (o 9 0)])) H from hI.at (k := 0) (n := 0) (show nmv z 0 0 from rfl)), hPre.at hB hS hAN⟩ rfl hl.1 rfl (lv_room (Nat.le_of_ble_eq_true rfl)) d_Lw_whose_5 ⟨Nat.le_of_ble_eq_true rfl, Nat.le_of_ble_eq_true rfl⟩ (fun x9 E9 ce9 H9 L9 hL9 hb9 hc9 hv9 hf9 hz9 hk9 => ?_) (fun v9 H9 L9 hL9 hp9 hz9 hk9 => ?_)
  · have hS9 : va_S (fun q => nmA r N q ∨ q = out) s.heap H9 ([] ++ L9) := x_app hS hz9 (fun q h1 h2 => hk9 q h1) (fun q hq => (fun _ h => h.elim) _ (hL9 q hq))
    have ho9 := hx_keep hout (hk9 _ (hx_lt hout))
    obtain ⟨hE, hG⟩ := hb9
    subst hE
    refine t_catch (h := 13) hc9 hv9 ((Vm.findClass_spec hf9).elim fun k9 h9 => ⟨k9, h9.1⟩) (fun pl hpl => ct_T _ _ htab (ct_1 ⟨by decide, by decide⟩ (by decide) (ct_hit hB hown (htg _ (gw_mem (i := 730) (by decide +kernel) rfl)) (show ("java/lang/IndexOutOfBoundsException", "java/lang/IndexOutOfBoundsException") ∈ zCst by decide) hf9 pl hpl) rfl)) ?_
    refine lv_astore (lv' := [(4, .ref x9), (0, .ref (o 0 0)), (1, .int st), (2, .int q), (3, .ref out)]) hx hb d_Lw_whose_13 hl (by decide) rfl (fun ls hl => ?_)
    refine lv_iconst (v := 1) hx hb d_Lw_whose_15 (by decide) ?_
    exact t_ret (W.iret (v := 1) hx hb hr (fun t ht hW => Or.inl ⟨some (.int 1), rfl, (by rw [ht]; exact Or.inr ⟨by rw [hG], by rw [hG]; decide, ho9, hz9, hk9⟩), hS9.F ht⟩) hS9.2.2 d_Lw_whose_16)
  · obtain ⟨w9, hw9⟩ : ∃ w : Int32, v9 = some (.int w) := by
      first | exact ⟨_, hp9.2.2⟩ | exact ⟨_, hp9.2.1⟩ | (have h8 := hp9.2; split at h8 <;> first | exact ⟨_, h8.1⟩ | (split at h8 <;> exact ⟨_, h8.1⟩))
    subst hw9
    replace hS : va_S (fun q => nmA r N q ∨ q = out) s.heap H9 ([] ++ L9) := x_app hS hz9 (fun q h1 h2 => hk9 q h1 (fun h => h2 ((fun _ h => h.elim) _ h))) (fun q hq => (fun _ h => h.elim) _ (hL9 q hq))
    replace hout := hx_keep hout (hk9 _ (hx_lt hout) (fun h => h))
    obtain ⟨H, hHe⟩ : ∃ X : Heap, X = H9 := ⟨_, rfl⟩
    rw [← hHe] at hS hout hp9
    rw [← hHe]
    refine W.eq (g2 := F0 m 8 ls [.int w9, .int 0, .ref out]) rfl ?_
    refine lv_i2l (v := w9.toInt64) hx hb d_Lw_whose_8 rfl ?_
    obtain ⟨H1, hH1⟩ : ∃ X : Heap, X = H := ⟨_, rfl⟩
    refine hx_last hx hb hK hS (Or.inr rfl) 3 hout rfl (show vp_in 0 1 from vp_in_nI (n := 0) (by decide) (by decide)) d_Lw_whose_9 (fun H locs hat hz ho hS => ?_)
    replace hout : va_at D vwCl (out, .inl (cs 3, (1, .inr (.inl (vp_updL gl 0 (w9.toInt64)))))) H := hat
    refine lv_goto (tgt := 17) hx hb d_Lw_whose_10 (by decide) ?_
    refine lv_iconst (v := 0) hx hb d_Lw_whose_17 (by decide) ?_
    refine t_ret ?_
    exact W.iret (v := 0) hx hb hr (fun t ht hW => Or.inl ⟨some (.int (0)), rfl, (by rw [ht]; exact Or.inl ⟨rfl, w9, H1, by rw [hH1]; exact hp9, hout, by rw [hH1]; exact hz, by rw [hH1]; exact ho⟩), hS.F ht⟩) hS.2.2 d_Lw_whose_18
def y_Lw_count : MethodName := ⟨"NameMergesLaw", "count", "(LNameMerges;I[J)I"⟩
abbrev w_Lw_count : List Cond := Cond.codeWith y_Lw_count method_19_code 4 (Option.some Jvm.ClassFile.FieldType.int) [(0, 9, 12, 25)] :: gw
theorem d_Lw_count_0 : decode method_19_code 0 = .ok (.aload_n 2, 1) := by decide +kernel
theorem d_Lw_count_1 : decode method_19_code 1 = .ok (.iconst 0, 1) := by decide +kernel
theorem d_Lw_count_2 : decode method_19_code 2 = .ok (.aload_n 0, 1) := by decide +kernel
theorem d_Lw_count_3 : decode method_19_code 3 = .ok (.iload_n 1, 1) := by decide +kernel
theorem d_Lw_count_4 : decode method_19_code 4 = .ok (.invokevirtual 70, 3) := by decide +kernel
theorem d_Lw_count_7 : decode method_19_code 7 = .ok (.i2l, 1) := by decide +kernel
theorem d_Lw_count_8 : decode method_19_code 8 = .ok (.lastore, 1) := by decide +kernel
theorem d_Lw_count_9 : decode method_19_code 9 = .ok (.goto 6, 3) := by decide +kernel
theorem d_Lw_count_12 : decode method_19_code 12 = .ok (.astore_n 3, 1) := by decide +kernel
theorem d_Lw_count_13 : decode method_19_code 13 = .ok (.iconst 1, 1) := by decide +kernel
theorem d_Lw_count_14 : decode method_19_code 14 = .ok (.ireturn, 1) := by decide +kernel
theorem d_Lw_count_15 : decode method_19_code 15 = .ok (.iconst 0, 1) := by decide +kernel
theorem d_Lw_count_16 : decode method_19_code 16 = .ok (.ireturn, 1) := by decide +kernel
set_option maxHeartbeats 4000000 in
set_option maxRecDepth 100000 in
theorem c_Lw_count (l : Launch) (D : va_G) (cs : Nat → ClassId) (N0 : Nat) (H : Heap) (hl9 : l.stackTraces = false) (o z : Nat → Nat → Nat) (K : Nat → Nat → Nat → Int32) (r : Nat → Nat × Nat) (N : Nat) (out : Nat) (gl : Nat → Int64) (q : Int32) (hI : nmP D cs N0 H o z K r) (hN : N = H.size) (hout : va_at D vwCl (out, .inl (cs 3, (1, .inr (.inl gl)))) H) (hor : ¬ (r out).1 < 20) (ho0 : N0 ≤ out) : tMet l y_Lw_count w_Lw_count ({ frames := 7, cells := 1, slots := 6, locals := 107 }) (hPre D cs N0 [.ref (o 0 0), .int q, .ref out] H) (hT (fun v H' => (v = some (.int 0) ∧ ∃ (wv : Int32) (H1 : Heap), (fun (v : Option Value) (H' : Heap) => goV (!decide (q < 0) && !decide (5 < q)) true true = 0 ∧ H' = H ∧ v = some (.int (cntC z K q))) (some (.int wv)) H1 ∧ va_at D vwCl (out, .inl (cs 3, (1, .inr (.inl (vp_updL gl 0 wv.toInt64))))) H' ∧ H'.size = H1.size ∧ ∀ q : Nat, q ≠ out → H'[q]? = H1[q]?) ∨ (v = some (.int (goV (!decide (q < 0) && !decide (5 < q)) true true)) ∧ ¬ goV (!decide (q < 0) && !decide (5 < q)) true true = 0 ∧ va_at D vwCl (out, .inl (cs 3, (1, .inr (.inl gl)))) H' ∧ H.size ≤ H'.size ∧ ∀ q : Nat, q < H.size → H'[q]? = H[q]?)) (fun _ => False) (fun q => nmA r N q ∨ q = out)) 1 6 (fun q => nmA r N q ∨ q = out) := by
  refine tMet.ofWH (hh := [(0, 9, 12, 25)]) (cc := method_19_code) (maxL := 4) (ret := (Option.some Jvm.ClassFile.FieldType.int)) (by decide) rfl ?_
  intro p e s m args below meth c s₁ B hml htab hv
  obtain ⟨rfl, rfl, hB⟩ := hv
  have hx := B.exec
  have hb := B.bytes
  have hr := B.returns
  have hts := atoms_spec (ws := w_Lw_count) B.pre
  have htg : ∀ w ∈ gw, w.before _ s = true := fun w h => hts w (List.mem_cons_of_mem _ h)
  have hown : s.vm.findClass "NameMergesLaw" = some m.cls := findClass_of_methodNamed B.named
  have hlocks := B.notSynchronized
  have hAN : ∀ q, (fun q => nmA r N q ∨ q = out) q → N0 ≤ q := fun q9 h9 => h9.elim (fun h9 => h9.elim (hI.2.1 q9) (fun h9 => Nat.le_trans hB.2.1 (hN ▸ h9))) (fun h9 => h9 ▸ ho0)
  have hK := hB.1
  obtain ⟨H, hH⟩ : ∃ z : Heap, z = s.heap := ⟨_, rfl⟩
  have hz0 : H.size = s.heap.size := by rw [hH]
  have hN0 := hB.2.1
  rw [← hH] at hI hout
  have hS : va_S (fun q => nmA r N q ∨ q = out) s.heap H [] := by rw [hH]; exact va_S.rf
  have hl := lv_entry ([.ref (o 0 0), .int q, .ref out]) (n := 4) (Nat.le_of_ble_eq_true rfl)
  rw [lg_entry_eq, ← hH]
  generalize (lg_sl ([.ref (o 0 0), .int q, .ref out]) ++ List.replicate (4 - (lg_sl ([.ref (o 0 0), .int q, .ref out])).length) Slot.unset).toArray = ls at hl ⊢
  have hl : lv_has ls 4 [(0, .ref (o 0 0)), (1, .int q), (2, .ref out)] := hl
  refine lv_aload_n hx hb d_Lw_count_0 rfl (lv_at hl 2 rfl) ?_
  refine lv_iconst (v := 0) hx hb d_Lw_count_1 (by decide) ?_
  refine lv_aload_n hx hb d_Lw_count_2 rfl (lv_at hl 0 rfl) ?_
  refine lv_iload_n hx hb d_Lw_count_3 rfl (lv_at hl 1 rfl) ?_
  refine t_V (As := [.int q]) (rest := [.int 0, .ref out]) ⟨hx, hb, hml, hown, htg⟩ (c_Nm_count l D cs N0 H hl9 o z K r q hI) ⟨x_cwB 1 htg (gw_mem (i := 978) (by decide +kernel) rfl) (gw_mem (i := 30) (by decide +kernel) rfl) (gw_mem (i := 975) (by decide +kernel) rfl) (by decide +kernel) ⟨Nat.le_of_ble_eq_true rfl, Nat.le_of_ble_eq_true rfl⟩, htg _ (gw_mem (i := 976) (by decide +kernel) rfl), htg _ (gw_mem (i := 977) (by decide +kernel) rfl)⟩ ⟨hPre.blind, hx_recv hK (ci := 1) rfl (show va_at D vwCl (o 0 0, .inr (1, [.ref (o 1 0), .ref (o 3 0), .ref (o 5 0), .ref (o 7 0), .ref (o 8 0), .int (nI (z 0 0)), .int (K 0 0 0), .ref (o 9 0)])) H from hI.at (k := 0) (n := 0) (show nmv z 0 0 from rfl)), hPre.at hB hS hAN⟩ rfl hl.1 rfl (lv_room (Nat.le_of_ble_eq_true rfl)) d_Lw_count_4 ⟨Nat.le_of_ble_eq_true rfl, Nat.le_of_ble_eq_true rfl⟩ (fun x9 E9 ce9 H9 L9 hL9 hb9 hc9 hv9 hf9 hz9 hk9 => ?_) (fun v9 H9 L9 hL9 hp9 hz9 hk9 => ?_)
  · have hS9 : va_S (fun q => nmA r N q ∨ q = out) s.heap H9 ([] ++ L9) := x_app hS hz9 (fun q h1 h2 => hk9 q h1) (fun q hq => (fun _ h => h.elim) _ (hL9 q hq))
    have ho9 := hx_keep hout (hk9 _ (hx_lt hout))
    obtain ⟨hE, hG⟩ := hb9
    subst hE
    refine t_catch (h := 12) hc9 hv9 ((Vm.findClass_spec hf9).elim fun k9 h9 => ⟨k9, h9.1⟩) (fun pl hpl => ct_T _ _ htab (ct_1 ⟨by decide, by decide⟩ (by decide) (ct_hit hB hown (htg _ (gw_mem (i := 730) (by decide +kernel) rfl)) (show ("java/lang/IndexOutOfBoundsException", "java/lang/IndexOutOfBoundsException") ∈ zCst by decide) hf9 pl hpl) rfl)) ?_
    refine lv_astore_n (lv' := [(3, .ref x9), (0, .ref (o 0 0)), (1, .int q), (2, .ref out)]) hx hb d_Lw_count_12 rfl hl (by decide) rfl (fun ls hl => ?_)
    refine lv_iconst (v := 1) hx hb d_Lw_count_13 (by decide) ?_
    exact t_ret (W.iret (v := 1) hx hb hr (fun t ht hW => Or.inl ⟨some (.int 1), rfl, (by rw [ht]; exact Or.inr ⟨by rw [hG], by rw [hG]; decide, ho9, hz9, hk9⟩), hS9.F ht⟩) hS9.2.2 d_Lw_count_14)
  · obtain ⟨w9, hw9⟩ : ∃ w : Int32, v9 = some (.int w) := by
      first | exact ⟨_, hp9.2.2⟩ | exact ⟨_, hp9.2.1⟩ | (have h8 := hp9.2; split at h8 <;> first | exact ⟨_, h8.1⟩ | (split at h8 <;> exact ⟨_, h8.1⟩))
    subst hw9
    replace hS : va_S (fun q => nmA r N q ∨ q = out) s.heap H9 ([] ++ L9) := x_app hS hz9 (fun q h1 h2 => hk9 q h1 (fun h => h2 ((fun _ h => h.elim) _ h))) (fun q hq => (fun _ h => h.elim) _ (hL9 q hq))
    replace hout := hx_keep hout (hk9 _ (hx_lt hout) (fun h => h))
    obtain ⟨H, hHe⟩ : ∃ X : Heap, X = H9 := ⟨_, rfl⟩
    rw [← hHe] at hS hout hp9
    rw [← hHe]
    refine W.eq (g2 := F0 m 7 ls [.int w9, .int 0, .ref out]) rfl ?_
    refine lv_i2l (v := w9.toInt64) hx hb d_Lw_count_7 rfl ?_
    obtain ⟨H1, hH1⟩ : ∃ X : Heap, X = H := ⟨_, rfl⟩
    refine hx_last hx hb hK hS (Or.inr rfl) 3 hout rfl (show vp_in 0 1 from vp_in_nI (n := 0) (by decide) (by decide)) d_Lw_count_8 (fun H locs hat hz ho hS => ?_)
    replace hout : va_at D vwCl (out, .inl (cs 3, (1, .inr (.inl (vp_updL gl 0 (w9.toInt64)))))) H := hat
    refine lv_goto (tgt := 15) hx hb d_Lw_count_9 (by decide) ?_
    refine lv_iconst (v := 0) hx hb d_Lw_count_15 (by decide) ?_
    refine t_ret ?_
    exact W.iret (v := 0) hx hb hr (fun t ht hW => Or.inl ⟨some (.int (0)), rfl, (by rw [ht]; exact Or.inl ⟨rfl, w9, H1, by rw [hH1]; exact hp9, hout, by rw [hH1]; exact hz, by rw [hH1]; exact ho⟩), hS.F ht⟩) hS.2.2 d_Lw_count_16
