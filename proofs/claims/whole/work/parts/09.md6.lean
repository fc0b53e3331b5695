noncomputable def oneB (mo mt : Nat → Nat) (hd : Nat → Bool) (mg a b : Nat) : Bool := @decide (conn mo mt hd mg a b) (Classical.propDecidable _)
theorem oneB_t {mo mt : Nat → Nat} {hd : Nat → Bool} {mg : Nat} {G : Nat → Int32} {gl : Nat → Nat} (hG : glI mo mt hd mg G gl) (hC : glC mo mt hd mg gl) {a b : Nat} (ha : a < 24) (hb : b < 24) (h : gl a = gl b) : oneB mo mt hd mg a b = true := by
  unfold oneB
  exact @decide_eq_true _ (Classical.propDecidable _) ((gl_conn hG hC ha hb).mp h)
theorem oneB_f {mo mt : Nat → Nat} {hd : Nat → Bool} {mg : Nat} {G : Nat → Int32} {gl : Nat → Nat} (hG : glI mo mt hd mg G gl) (hC : glC mo mt hd mg gl) {a b : Nat} (ha : a < 24) (hb : b < 24) (h : ¬ gl a = gl b) : oneB mo mt hd mg a b = false := by
  unfold oneB
  exact @decide_eq_false _ (Classical.propDecidable _) (fun z => h ((gl_conn hG hC ha hb).mpr z))
theorem holdB_setA {f : Nat → Nat → Int32} {G : Nat → Int32} {dy : Int32} : holdB (setA f 17 G) dy = holdB f dy := by
  funext k
  rw [holdB, holdB, setA_ne (by decide), setA_ne (by decide)]
theorem setA_setA {f : Nat → Nat → Int32} {k : Nat} {R Q : Nat → Int32} : setA (setA f k R) k Q = setA f k Q := by
  funext a
  by_cases e : a = k
  · subst e; rw [setA_self, setA_self]
  · rw [setA_ne e, setA_ne e, setA_ne e]
noncomputable def evP (f : Nat → Nat → Int32) (mo mt : Nat → Nat) (mg a b : Nat) (dy : Int32) : Nat → Bool := fun k => !decide (f 15 k ≤ dy) && oneB mo mt (holdB f (f 15 k)) mg a b
noncomputable def evB (f : Nat → Nat → Int32) (mo mt : Nat → Nat) (mg a b : Nat) (dy : Int32) : Bool := oneB mo mt (holdB f dy) mg a b || anyTo (evP f mo mt mg a b dy) mg
def y_Md_everOne : MethodName := ⟨"NameMergesModel", "everOne", "(III)Z"⟩
abbrev w_Md_everOne : List Cond := Cond.code y_Md_everOne prog_7_method_20_code 6 (Option.some Jvm.ClassFile.FieldType.boolean) :: gw
theorem d_Md_everOne_0 : decode prog_7_method_20_code 0 = .ok (.aload_n 0, 1) := by decide +kernel
theorem d_Md_everOne_1 : decode prog_7_method_20_code 1 = .ok (.iload_n 3, 1) := by decide +kernel
theorem d_Md_everOne_2 : decode prog_7_method_20_code 2 = .ok (.invokevirtual 109, 3) := by decide +kernel
theorem d_Md_everOne_5 : decode prog_7_method_20_code 5 = .ok (.aload_n 0, 1) := by decide +kernel
theorem d_Md_everOne_6 : decode prog_7_method_20_code 6 = .ok (.getfield 62, 3) := by decide +kernel
theorem d_Md_everOne_9 : decode prog_7_method_20_code 9 = .ok (.iload_n 1, 1) := by decide +kernel
theorem d_Md_everOne_10 : decode prog_7_method_20_code 10 = .ok (.iaload, 1) := by decide +kernel
theorem d_Md_everOne_11 : decode prog_7_method_20_code 11 = .ok (.aload_n 0, 1) := by decide +kernel
theorem d_Md_everOne_12 : decode prog_7_method_20_code 12 = .ok (.getfield 62, 3) := by decide +kernel
theorem d_Md_everOne_15 : decode prog_7_method_20_code 15 = .ok (.iload_n 2, 1) := by decide +kernel
theorem d_Md_everOne_16 : decode prog_7_method_20_code 16 = .ok (.iaload, 1) := by decide +kernel
theorem d_Md_everOne_17 : decode prog_7_method_20_code 17 = .ok (.if_icmp .ne 7, 3) := by decide +kernel
theorem d_Md_everOne_20 : decode prog_7_method_20_code 20 = .ok (.iconst 1, 1) := by decide +kernel
theorem d_Md_everOne_21 : decode prog_7_method_20_code 21 = .ok (.goto 4, 3) := by decide +kernel
theorem d_Md_everOne_24 : decode prog_7_method_20_code 24 = .ok (.iconst 0, 1) := by decide +kernel
theorem d_Md_everOne_25 : decode prog_7_method_20_code 25 = .ok (.istore 4, 2) := by decide +kernel
theorem d_Md_everOne_27 : decode prog_7_method_20_code 27 = .ok (.iconst 0, 1) := by decide +kernel
theorem d_Md_everOne_28 : decode prog_7_method_20_code 28 = .ok (.istore 5, 2) := by decide +kernel
theorem d_Md_everOne_30 : decode prog_7_method_20_code 30 = .ok (.iload 5, 2) := by decide +kernel
theorem d_Md_everOne_32 : decode prog_7_method_20_code 32 = .ok (.aload_n 0, 1) := by decide +kernel
theorem d_Md_everOne_33 : decode prog_7_method_20_code 33 = .ok (.getfield 106, 3) := by decide +kernel
theorem d_Md_everOne_36 : decode prog_7_method_20_code 36 = .ok (.if_icmp .ge 58, 3) := by decide +kernel
theorem d_Md_everOne_39 : decode prog_7_method_20_code 39 = .ok (.aload_n 0, 1) := by decide +kernel
theorem d_Md_everOne_40 : decode prog_7_method_20_code 40 = .ok (.getfield 56, 3) := by decide +kernel
theorem d_Md_everOne_43 : decode prog_7_method_20_code 43 = .ok (.iload 5, 2) := by decide +kernel
theorem d_Md_everOne_45 : decode prog_7_method_20_code 45 = .ok (.iaload, 1) := by decide +kernel
theorem d_Md_everOne_46 : decode prog_7_method_20_code 46 = .ok (.iload_n 3, 1) := by decide +kernel
theorem d_Md_everOne_47 : decode prog_7_method_20_code 47 = .ok (.if_icmp .le 41, 3) := by decide +kernel
theorem d_Md_everOne_50 : decode prog_7_method_20_code 50 = .ok (.aload_n 0, 1) := by decide +kernel
theorem d_Md_everOne_51 : decode prog_7_method_20_code 51 = .ok (.aload_n 0, 1) := by decide +kernel
theorem d_Md_everOne_52 : decode prog_7_method_20_code 52 = .ok (.getfield 56, 3) := by decide +kernel
theorem d_Md_everOne_55 : decode prog_7_method_20_code 55 = .ok (.iload 5, 2) := by decide +kernel
theorem d_Md_everOne_57 : decode prog_7_method_20_code 57 = .ok (.iaload, 1) := by decide +kernel
theorem d_Md_everOne_58 : decode prog_7_method_20_code 58 = .ok (.invokevirtual 109, 3) := by decide +kernel
theorem d_Md_everOne_61 : decode prog_7_method_20_code 61 = .ok (.iload 4, 2) := by decide +kernel
theorem d_Md_everOne_63 : decode prog_7_method_20_code 63 = .ok (.ifCond .ne 18, 3) := by decide +kernel
theorem d_Md_everOne_66 : decode prog_7_method_20_code 66 = .ok (.aload_n 0, 1) := by decide +kernel
theorem d_Md_everOne_67 : decode prog_7_method_20_code 67 = .ok (.getfield 62, 3) := by decide +kernel
theorem d_Md_everOne_70 : decode prog_7_method_20_code 70 = .ok (.iload_n 1, 1) := by decide +kernel
theorem d_Md_everOne_71 : decode prog_7_method_20_code 71 = .ok (.iaload, 1) := by decide +kernel
theorem d_Md_everOne_72 : decode prog_7_method_20_code 72 = .ok (.aload_n 0, 1) := by decide +kernel
theorem d_Md_everOne_73 : decode prog_7_method_20_code 73 = .ok (.getfield 62, 3) := by decide +kernel
theorem d_Md_everOne_76 : decode prog_7_method_20_code 76 = .ok (.iload_n 2, 1) := by decide +kernel
theorem d_Md_everOne_77 : decode prog_7_method_20_code 77 = .ok (.iaload, 1) := by decide +kernel
theorem d_Md_everOne_78 : decode prog_7_method_20_code 78 = .ok (.if_icmp .ne 7, 3) := by decide +kernel
theorem d_Md_everOne_81 : decode prog_7_method_20_code 81 = .ok (.iconst 1, 1) := by decide +kernel
theorem d_Md_everOne_82 : decode prog_7_method_20_code 82 = .ok (.goto 4, 3) := by decide +kernel
theorem d_Md_everOne_85 : decode prog_7_method_20_code 85 = .ok (.iconst 0, 1) := by decide +kernel
theorem d_Md_everOne_86 : decode prog_7_method_20_code 86 = .ok (.istore 4, 2) := by decide +kernel
theorem d_Md_everOne_88 : decode prog_7_method_20_code 88 = .ok (.iinc 5 1, 3) := by decide +kernel
theorem d_Md_everOne_91 : decode prog_7_method_20_code 91 = .ok (.goto (-61), 3) := by decide +kernel
theorem d_Md_everOne_94 : decode prog_7_method_20_code 94 = .ok (.iload 4, 2) := by decide +kernel
theorem d_Md_everOne_96 : decode prog_7_method_20_code 96 = .ok (.ireturn, 1) := by decide +kernel
set_option maxHeartbeats 4000000 in
set_option maxRecDepth 100000 in
theorem c_Md_everOne (l : Launch) (D : va_G) (cs : Nat → ClassId) (N0 : Nat) (H : Heap) (x : Nat) (g : Nat → Nat) (i : Nat → Int32) (f : Nat → Nat → Int32) (a b : Nat) (dy : Int32) (hsep : md_sep N0 x g) (hI : md_I D cs H x g i f) (mg : Nat) (hmg : i 3 = nI mg) (hmg60 : mg ≤ 60) (mo mt : Nat → Nat) (hone : ∀ k, k < mg → f 13 k = nI (mo k) ∧ mo k < 24) (hoth : ∀ k, k < mg → f 14 k = nI (mt k) ∧ mt k < 24) (ha : a < 24) (hb1 : b < 24) : Met l y_Md_everOne w_Md_everOne ({ frames := 1, cells := 0, slots := 0, locals := 25 }) (hPre D cs N0 [.ref x, .int (nI a), .int (nI b), .int dy] H) (hQi (fun r H' => ∃ G : Nat → Int32, md_I D cs H' x g i (setA f 17 G) ∧ r = bI (evB f mo mt mg a b dy)) (md_A x g)) 0 0 (md_A x g) := by
  refine Met.ofW (cc := prog_7_method_20_code) (maxL := 6) (ret := (Option.some Jvm.ClassFile.FieldType.boolean)) (by decide) rfl ?_
  intro p e s m args below meth c s₁ B hml hv
  obtain ⟨rfl, rfl, hB⟩ := hv
  have hx := B.exec
  have hb := B.bytes
  have hr := B.returns
  have hts := atoms_spec (ws := w_Md_everOne) B.pre
  have htg : ∀ w ∈ gw, w.before _ s = true := fun w h => hts w (List.mem_cons_of_mem _ h)
  have hown : s.vm.findClass "NameMergesModel" = some m.cls := findClass_of_methodNamed B.named
  have hlocks := B.notSynchronized
  have hK := hB.1
  have hS : va_S (md_A x g) s.heap s.heap [] := va_S.rf
  obtain ⟨H, hH⟩ : ∃ z : Heap, z = s.heap := ⟨_, rfl⟩
  rw [← hH] at hI
  have hS : va_S (md_A x g) s.heap H [] := by rw [hH]; exact va_S.rf
  have hl := lv_entry ([.ref x, .int (nI a), .int (nI b), .int dy]) (n := 6) (Nat.le_of_ble_eq_true rfl)
  rw [lg_entry_eq, ← hH]
  generalize (lg_sl ([.ref x, .int (nI a), .int (nI b), .int dy]) ++ List.replicate (6 - (lg_sl ([.ref x, .int (nI a), .int (nI b), .int dy])).length) Slot.unset).toArray = ls at hl ⊢
  have hl : lv_has ls 6 [(0, .ref x), (1, .int (nI a)), (2, .int (nI b)), (3, .int dy)] := hl
  refine lv_aload_n hx hb d_Md_everOne_0 rfl (lv_at hl 0 rfl) ?_
  refine lv_iload_n hx hb d_Md_everOne_1 rfl (lv_at hl 3 rfl) ?_
  refine h_callv (va_runV (As := [.int dy]) (rest := []) ⟨hx, hb, hml, hown, htg⟩ (c_Md_join l D cs N0 H x g i f dy hsep hI mg hmg hmg60 mo mt hone hoth) (cwV 1 htg (gw_V (gw_mem (i := 1136) (by decide +kernel) rfl) (gw_mem (i := 1138) (by decide +kernel) rfl) (gw_mem (i := 22) (by decide +kernel) rfl) (gw_mem (i := 38) (by decide +kernel) rfl) (gw_mem (i := 1139) (by decide +kernel) rfl)) rfl rfl rfl (by decide +kernel) ⟨Nat.le_of_ble_eq_true rfl, Nat.le_of_ble_eq_true rfl⟩) ⟨hPre.blind, hx_recv hK (ci := 0) rfl hI.1, hPre.at hB hS hsep.A⟩ rfl rfl hl.1 rfl (lv_room (Nat.le_of_ble_eq_true rfl)) d_Md_everOne_2 ⟨Nat.zero_le _, Nat.zero_le _⟩) hS (fun _ h => h) (fun  H locs hp hz hk hS => ?_)
  obtain ⟨G, gl, hI, hGgl, hCgl⟩ := hp
  refine lv_aload_n hx hb d_Md_everOne_5 rfl (lv_at hl 0 rfl) ?_
  refine hx_get (v := .ref (g 17)) hx hb htg iMd hown hK hI.1 rfl 21 (by decide) (htg _ (gw_mem (i := 1019) (by decide +kernel) rfl)) (fun _ h9 => h9) rfl d_Md_everOne_6 ?_
  refine lv_iload_n hx hb d_Md_everOne_9 rfl (lv_at hl 1 rfl) ?_
  have hga := (hGgl a ha).2.1
  have hgb := (hGgl b hb1).2.1
  refine hx_iald hx hb hK 0 (hI.2 17 (by decide)) rfl (show vp_in (nI a) 24 from vp_in_nI (n := a) (by omega) (by decide)) d_Md_everOne_10 ?_
  refine lv_eqi (y := ((setA f 17 G) 17 a)) (show (setA f 17 G) 17 (nI a).toNatClampNeg = _ by rw [nI_clamp (by omega)]) ?_
  refine lv_eqi (y := (nI (gl a))) (by rw [setA_self]; exact (hGgl a ha).1) ?_
  refine lv_aload_n hx hb d_Md_everOne_11 rfl (lv_at hl 0 rfl) ?_
  refine hx_get (v := .ref (g 17)) hx hb htg iMd hown hK hI.1 rfl 21 (by decide) (htg _ (gw_mem (i := 1019) (by decide +kernel) rfl)) (fun _ h9 => h9) rfl d_Md_everOne_12 ?_
  refine lv_iload_n hx hb d_Md_everOne_15 rfl (lv_at hl 2 rfl) ?_
  refine hx_iald hx hb hK 0 (hI.2 17 (by decide)) rfl (show vp_in (nI b) 24 from vp_in_nI (n := b) (by omega) (by decide)) d_Md_everOne_16 ?_
  refine lv_eqi (y := ((setA f 17 G) 17 b)) (show (setA f 17 G) 17 (nI b).toNatClampNeg = _ by rw [nI_clamp (by omega)]) ?_
  refine lv_eqi (y := (nI (gl b))) (by rw [setA_self]; exact (hGgl b hb1).1) ?_
  refine lv_icmp_ne (x := (nI (gl a))) (y := (nI (gl b))) (tgt := 24) hx hb d_Md_everOne_17 (by decide) (fun c17 => ?_) (fun c17 => ?_)
  · skip
    replace c17 : ¬ ((gl a) = (gl b)) := fun z9 => c17 ((nI_eq (a := (gl a)) (b := (gl b)) (by omega) (by omega)).mpr z9)
    refine lv_iconst (v := 0) hx hb d_Md_everOne_24 (by decide) ?_
    refine lv_istore (lv' := [(4, .int 0), (0, .ref x), (1, .int (nI a)), (2, .int (nI b)), (3, .int dy)]) hx hb d_Md_everOne_25 hl (by decide) rfl (fun ls hl => ?_)
    refine lv_iconst (v := 0) hx hb d_Md_everOne_27 (by decide) ?_
    refine lv_istore (lv' := [(5, .int 0), (4, .int 0), (0, .ref x), (1, .int (nI a)), (2, .int (nI b)), (3, .int dy)]) hx hb d_Md_everOne_28 hl (by decide) rfl (fun ls hl => ?_)
    have loop30 : ∀ (fuel : Nat) (G2 : Nat → Int32) (z : Bool) (k : Nat), mg - k < fuel → (k ≤ mg) → ((oneB mo mt (holdB f dy) mg a b || anyTo (evP f mo mt mg a b dy) k) = z) → ∀ (H : Heap) (locs : List Loc), md_I D cs H x g i (setA f 17 G2) → va_S (md_A x g) s.heap H locs → ∀ (ls : Array Slot), lv_has ls 6 [(0, .ref x), (1, .int (nI a)), (2, .int (nI b)), (3, .int dy), (4, .int (bI z)), (5, .int (nI k))] → W p l e (headSpec w_Md_everOne ({ frames := 1, cells := 0, slots := 0, locals := 25 })).room s m ([.ref x, .int (nI a), .int (nI b), .int dy] : List Value).toArray below meth c H locs 0 0 (MQ below (hQi (fun r H' => ∃ G : Nat → Int32, md_I D cs H' x g i (setA f 17 G) ∧ r = bI (evB f mo mt mg a b dy)) (md_A x g)) ([.ref x, .int (nI a), .int (nI b), .int dy] : List Value).toArray s 0 0 (md_A x g)) (F0 m 30 ls []) := by
      intro fuel30
      induction fuel30 with
      | zero => intro G2 z k hn; exact absurd hn (Nat.not_lt_zero _)
      | succ fuel30 ih30 =>
        intro G2 z k hn30 hk hz9 H locs hI hS ls hl
        refine lv_iload hx hb d_Md_everOne_30 (lv_at hl 5 rfl) ?_
        refine lv_aload_n hx hb d_Md_everOne_32 rfl (lv_at hl 0 rfl) ?_
        refine hx_get (v := .int (i 3)) hx hb htg iMd hown hK hI.1 rfl 16 (by decide) (htg _ (gw_mem (i := 1014) (by decide +kernel) rfl)) (fun _ h9 => h9) rfl d_Md_everOne_33 ?_
        refine lv_eqi (y := (nI mg)) hmg ?_
        refine lv_icmp_ge (x := (nI k)) (y := (nI mg)) (tgt := 94) hx hb d_Md_everOne_36 (by decide) (fun c36 => ?_) (fun c36 => ?_)
        · skip
          replace c36 : mg ≤ k := (nI_leI (a := mg) (b := k) (by omega) (by omega)).mp c36
          refine lv_iload hx hb d_Md_everOne_94 (lv_at hl 4 rfl) ?_
          exact W.zret (v := (bI z)) hx hb hr (bI_z _) (fun t ht hW => ⟨⟨(bI z), H, rfl, ⟨G2, hI, by have e9 : k = mg := (by omega); subst e9; rw [evB, hz9]⟩, ht⟩, hS.F ht⟩) hS.2.2 d_Md_everOne_96
        · skip
          replace c36 : ¬ (mg ≤ k) := fun z9 => c36 ((nI_leI (a := mg) (b := k) (by omega) (by omega)).mpr z9)
          refine lv_aload_n hx hb d_Md_everOne_39 rfl (lv_at hl 0 rfl) ?_
          refine hx_get (v := .ref (g 15)) hx hb htg iMd hown hK hI.1 rfl 19 (by decide) (htg _ (gw_mem (i := 1017) (by decide +kernel) rfl)) (fun _ h9 => h9) rfl d_Md_everOne_40 ?_
          refine lv_iload hx hb d_Md_everOne_43 (lv_at hl 5 rfl) ?_
          refine hx_iald hx hb hK 0 (hI.2 15 (by decide)) rfl (show vp_in (nI k) 60 from vp_in_nI (n := k) (by omega) (by decide)) d_Md_everOne_45 ?_
          refine lv_eqi (y := ((setA f 17 G2) 15 k)) (show (setA f 17 G2) 15 (nI k).toNatClampNeg = _ by rw [nI_clamp (by omega)]) ?_
          refine lv_eqi (y := (f 15 k)) (by rw [setA_ne (by decide)]) ?_
          refine lv_iload_n hx hb d_Md_everOne_46 rfl (lv_at hl 3 rfl) ?_
          refine lv_icmp_le (x := (f 15 k)) (y := dy) (tgt := 88) hx hb d_Md_everOne_47 (by decide) (fun c47 => ?_) (fun c47 => ?_)
          · skip
            refine lv_iinc (v := (nI (k + 1))) (lv' := [(5, .int (nI (k + 1))), (0, .ref x), (1, .int (nI a)), (2, .int (nI b)), (3, .int dy), (4, .int (bI z))]) hx hb d_Md_everOne_88 hl (k := 5) rfl (nI_1 k) (by decide) rfl (fun ls hl => ?_)
            refine lv_goto (tgt := 30) hx hb d_Md_everOne_91 (by decide) ?_
            exact ih30  _ z (k + 1) (by omega) (by omega) (by rw [anyTo, ← Bool.or_assoc, hz9]; simp [evP, c47]) _ _ hI hS ls (lv_sub hl [1, 2, 3, 4, 5, 0] rfl)
          · skip
            refine lv_aload_n hx hb d_Md_everOne_50 rfl (lv_at hl 0 rfl) ?_
            refine lv_aload_n hx hb d_Md_everOne_51 rfl (lv_at hl 0 rfl) ?_
            refine hx_get (v := .ref (g 15)) hx hb htg iMd hown hK hI.1 rfl 19 (by decide) (htg _ (gw_mem (i := 1017) (by decide +kernel) rfl)) (fun _ h9 => h9) rfl d_Md_everOne_52 ?_
            refine lv_iload hx hb d_Md_everOne_55 (lv_at hl 5 rfl) ?_
            refine hx_iald hx hb hK 0 (hI.2 15 (by decide)) rfl (show vp_in (nI k) 60 from vp_in_nI (n := k) (by omega) (by decide)) d_Md_everOne_57 ?_
            refine lv_eqi (y := ((setA f 17 G2) 15 k)) (show (setA f 17 G2) 15 (nI k).toNatClampNeg = _ by rw [nI_clamp (by omega)]) ?_
            refine lv_eqi (y := (f 15 k)) (by rw [setA_ne (by decide)]) ?_
            refine h_callv (va_runV (As := [.int (f 15 k)]) (rest := []) ⟨hx, hb, hml, hown, htg⟩ (c_Md_join l D cs N0 H x g i ((setA f 17 G2)) ((f 15 k)) hsep hI mg hmg hmg60 mo mt (fun k hk => by rw [setA_ne (by decide)]; exact hone k hk) (fun k hk => by rw [setA_ne (by decide)]; exact hoth k hk)) (cwV 1 htg (gw_V (gw_mem (i := 1136) (by decide +kernel) rfl) (gw_mem (i := 1138) (by decide +kernel) rfl) (gw_mem (i := 22) (by decide +kernel) rfl) (gw_mem (i := 38) (by decide +kernel) rfl) (gw_mem (i := 1139) (by decide +kernel) rfl)) rfl rfl rfl (by decide +kernel) ⟨Nat.le_of_ble_eq_true rfl, Nat.le_of_ble_eq_true rfl⟩) ⟨hPre.blind, hx_recv hK (ci := 0) rfl hI.1, hPre.at hB hS hsep.A⟩ rfl rfl hl.1 rfl (lv_room (Nat.le_of_ble_eq_true rfl)) d_Md_everOne_58 ⟨Nat.zero_le _, Nat.zero_le _⟩) hS (fun _ h => h) (fun  H locs hp hz hk hS => ?_)
            obtain ⟨G3, gl2, hI, hGgl2, hCgl2⟩ := hp
            rw [setA_setA] at hI
            rw [holdB_setA] at hGgl2 hCgl2
            have hga := (hGgl2 a ha).2.1
            have hgb := (hGgl2 b hb1).2.1
            refine lv_iload hx hb d_Md_everOne_61 (lv_at hl 4 rfl) ?_
            refine lv_if_ne (x := (bI z)) (tgt := 81) hx hb d_Md_everOne_63 (by decide) (fun c63 => ?_) (fun c63 => ?_)
            · skip
              replace c63 : z = true := bI_1 c63
              refine lv_iconst (v := 1) hx hb d_Md_everOne_81 (by decide) ?_
              refine lv_goto (tgt := 86) hx hb d_Md_everOne_82 (by decide) ?_
              refine lv_istore (lv' := [(4, .int 1), (0, .ref x), (1, .int (nI a)), (2, .int (nI b)), (3, .int dy), (5, .int (nI k))]) hx hb d_Md_everOne_86 hl (by decide) rfl (fun ls hl => ?_)
              refine lv_iinc (v := (nI (k + 1))) (lv' := [(5, .int (nI (k + 1))), (4, .int 1), (0, .ref x), (1, .int (nI a)), (2, .int (nI b)), (3, .int dy)]) hx hb d_Md_everOne_88 hl (k := 5) rfl (nI_1 k) (by decide) rfl (fun ls hl => ?_)
              refine lv_goto (tgt := 30) hx hb d_Md_everOne_91 (by decide) ?_
              exact ih30  _ true (k + 1) (by omega) (by omega) (by rw [anyTo, ← Bool.or_assoc, hz9]; simp [evP, c47, c63]) _ _ hI hS ls (lv_sub hl [2, 3, 4, 5, 1, 0] rfl)
            · skip
              replace c63 : z = false := bI_0 c63
              refine lv_aload_n hx hb d_Md_everOne_66 rfl (lv_at hl 0 rfl) ?_
              refine hx_get (v := .ref (g 17)) hx hb htg iMd hown hK hI.1 rfl 21 (by decide) (htg _ (gw_mem (i := 1019) (by decide +kernel) rfl)) (fun _ h9 => h9) rfl d_Md_everOne_67 ?_
              refine lv_iload_n hx hb d_Md_everOne_70 rfl (lv_at hl 1 rfl) ?_
              refine hx_iald hx hb hK 0 (hI.2 17 (by decide)) rfl (show vp_in (nI a) 24 from vp_in_nI (n := a) (by omega) (by decide)) d_Md_everOne_71 ?_
              refine lv_eqi (y := ((setA f 17 G3) 17 a)) (show (setA f 17 G3) 17 (nI a).toNatClampNeg = _ by rw [nI_clamp (by omega)]) ?_
              refine lv_eqi (y := (nI (gl2 a))) (by rw [setA_self]; exact (hGgl2 a ha).1) ?_
              refine lv_aload_n hx hb d_Md_everOne_72 rfl (lv_at hl 0 rfl) ?_
              refine hx_get (v := .ref (g 17)) hx hb htg iMd hown hK hI.1 rfl 21 (by decide) (htg _ (gw_mem (i := 1019) (by decide +kernel) rfl)) (fun _ h9 => h9) rfl d_Md_everOne_73 ?_
              refine lv_iload_n hx hb d_Md_everOne_76 rfl (lv_at hl 2 rfl) ?_
              refine hx_iald hx hb hK 0 (hI.2 17 (by decide)) rfl (show vp_in (nI b) 24 from vp_in_nI (n := b) (by omega) (by decide)) d_Md_everOne_77 ?_
              refine lv_eqi (y := ((setA f 17 G3) 17 b)) (show (setA f 17 G3) 17 (nI b).toNatClampNeg = _ by rw [nI_clamp (by omega)]) ?_
              refine lv_eqi (y := (nI (gl2 b))) (by rw [setA_self]; exact (hGgl2 b hb1).1) ?_
              refine lv_icmp_ne (x := (nI (gl2 a))) (y := (nI (gl2 b))) (tgt := 85) hx hb d_Md_everOne_78 (by decide) (fun c78 => ?_) (fun c78 => ?_)
              · skip
                replace c78 : ¬ ((gl2 a) = (gl2 b)) := fun z9 => c78 ((nI_eq (a := (gl2 a)) (b := (gl2 b)) (by omega) (by omega)).mpr z9)
                refine lv_iconst (v := 0) hx hb d_Md_everOne_85 (by decide) ?_
                refine lv_istore (lv' := [(4, .int 0), (0, .ref x), (1, .int (nI a)), (2, .int (nI b)), (3, .int dy), (5, .int (nI k))]) hx hb d_Md_everOne_86 hl (by decide) rfl (fun ls hl => ?_)
                refine lv_iinc (v := (nI (k + 1))) (lv' := [(5, .int (nI (k + 1))), (4, .int 0), (0, .ref x), (1, .int (nI a)), (2, .int (nI b)), (3, .int dy)]) hx hb d_Md_everOne_88 hl (k := 5) rfl (nI_1 k) (by decide) rfl (fun ls hl => ?_)
                refine lv_goto (tgt := 30) hx hb d_Md_everOne_91 (by decide) ?_
                exact ih30  _ false (k + 1) (by omega) (by omega) (by rw [anyTo, ← Bool.or_assoc, hz9]; simp [evP, c47, c63, oneB_f hGgl2 hCgl2 ha hb1 c78]) _ _ hI hS ls (lv_sub hl [2, 3, 4, 5, 1, 0] rfl)
              · skip
                replace c78 : (gl2 a) = (gl2 b) := (nI_eq (a := (gl2 a)) (b := (gl2 b)) (by omega) (by omega)).mp c78
                refine lv_iconst (v := 1) hx hb d_Md_everOne_81 (by decide) ?_
                refine lv_goto (tgt := 86) hx hb d_Md_everOne_82 (by decide) ?_
                refine lv_istore (lv' := [(4, .int 1), (0, .ref x), (1, .int (nI a)), (2, .int (nI b)), (3, .int dy), (5, .int (nI k))]) hx hb d_Md_everOne_86 hl (by decide) rfl (fun ls hl => ?_)
                refine lv_iinc (v := (nI (k + 1))) (lv' := [(5, .int (nI (k + 1))), (4, .int 1), (0, .ref x), (1, .int (nI a)), (2, .int (nI b)), (3, .int dy)]) hx hb d_Md_everOne_88 hl (k := 5) rfl (nI_1 k) (by decide) rfl (fun ls hl => ?_)
                refine lv_goto (tgt := 30) hx hb d_Md_everOne_91 (by decide) ?_
                exact ih30  _ true (k + 1) (by omega) (by omega) (by rw [anyTo, ← Bool.or_assoc, hz9]; simp [evP, c47, c63, oneB_t hGgl2 hCgl2 ha hb1 c78]) _ _ hI hS ls (lv_sub hl [2, 3, 4, 5, 1, 0] rfl)
    exact loop30 ((mg - 0) + 1) _ false 0 (Nat.lt_succ_self _) (Nat.zero_le _) (by rw [oneB_f hGgl hCgl ha hb1 c17]; simp [anyTo]) _ _ hI hS ls (lv_sub hl [2, 3, 4, 5, 1, 0] rfl)
  · skip
    replace c17 : (gl a) = (gl b) := (nI_eq (a := (gl a)) (b := (gl b)) (by omega) (by omega)).mp c17
    refine lv_iconst (v := 1) hx hb d_Md_everOne_20 (by decide) ?_
    refine lv_goto (tgt := 25) hx hb d_Md_everOne_21 (by decide) ?_
    refine lv_istore (lv' := [(4, .int 1), (0, .ref x), (1, .int (nI a)), (2, .int (nI b)), (3, .int dy)]) hx hb d_Md_everOne_25 hl (by decide) rfl (fun ls hl => ?_)
    refine lv_iconst (v := 0) hx hb d_Md_everOne_27 (by decide) ?_
    refine lv_istore (lv' := [(5, .int 0), (4, .int 1), (0, .ref x), (1, .int (nI a)), (2, .int (nI b)), (3, .int dy)]) hx hb d_Md_everOne_28 hl (by decide) rfl (fun ls hl => ?_)
    have loop30 : ∀ (fuel : Nat) (G2 : Nat → Int32) (z : Bool) (k : Nat), mg - k < fuel → (k ≤ mg) → ((oneB mo mt (holdB f dy) mg a b || anyTo (evP f mo mt mg a b dy) k) = z) → ∀ (H : Heap) (locs : List Loc), md_I D cs H x g i (setA f 17 G2) → va_S (md_A x g) s.heap H locs → ∀ (ls : Array Slot), lv_has ls 6 [(0, .ref x), (1, .int (nI a)), (2, .int (nI b)), (3, .int dy), (4, .int (bI z)), (5, .int (nI k))] → W p l e (headSpec w_Md_everOne ({ frames := 1, cells := 0, slots := 0, locals := 25 })).room s m ([.ref x, .int (nI a), .int (nI b), .int dy] : List Value).toArray below meth c H locs 0 0 (MQ below (hQi (fun r H' => ∃ G : Nat → Int32, md_I D cs H' x g i (setA f 17 G) ∧ r = bI (evB f mo mt mg a b dy)) (md_A x g)) ([.ref x, .int (nI a), .int (nI b), .int dy] : List Value).toArray s 0 0 (md_A x g)) (F0 m 30 ls []) := by
      intro fuel30
      induction fuel30 with
      | zero => intro G2 z k hn; exact absurd hn (Nat.not_lt_zero _)
      | succ fuel30 ih30 =>
        intro G2 z k hn30 hk hz9 H locs hI hS ls hl
        refine lv_iload hx hb d_Md_everOne_30 (lv_at hl 5 rfl) ?_
        refine lv_aload_n hx hb d_Md_everOne_32 rfl (lv_at hl 0 rfl) ?_
        refine hx_get (v := .int (i 3)) hx hb htg iMd hown hK hI.1 rfl 16 (by decide) (htg _ (gw_mem (i := 1014) (by decide +kernel) rfl)) (fun _ h9 => h9) rfl d_Md_everOne_33 ?_
        refine lv_eqi (y := (nI mg)) hmg ?_
        refine lv_icmp_ge (x := (nI k)) (y := (nI mg)) (tgt := 94) hx hb d_Md_everOne_36 (by decide) (fun c36 => ?_) (fun c36 => ?_)
        · skip
          replace c36 : mg ≤ k := (nI_leI (a := mg) (b := k) (by omega) (by omega)).mp c36
          refine lv_iload hx hb d_Md_everOne_94 (lv_at hl 4 rfl) ?_
          exact W.zret (v := (bI z)) hx hb hr (bI_z _) (fun t ht hW => ⟨⟨(bI z), H, rfl, ⟨G2, hI, by have e9 : k = mg := (by omega); subst e9; rw [evB, hz9]⟩, ht⟩, hS.F ht⟩) hS.2.2 d_Md_everOne_96
        · skip
          replace c36 : ¬ (mg ≤ k) := fun z9 => c36 ((nI_leI (a := mg) (b := k) (by omega) (by omega)).mpr z9)
          refine lv_aload_n hx hb d_Md_everOne_39 rfl (lv_at hl 0 rfl) ?_
          refine hx_get (v := .ref (g 15)) hx hb htg iMd hown hK hI.1 rfl 19 (by decide) (htg _ (gw_mem (i := 1017) (by decide +kernel) rfl)) (fun _ h9 => h9) rfl d_Md_everOne_40 ?_
          refine lv_iload hx hb d_Md_everOne_43 (lv_at hl 5 rfl) ?_
          refine hx_iald hx hb hK 0 (hI.2 15 (by decide)) rfl (show vp_in (nI k) 60 from vp_in_nI (n := k) (by omega) (by decide)) d_Md_everOne_45 ?_
          refine lv_eqi (y := ((setA f 17 G2) 15 k)) (show (setA f 17 G2) 15 (nI k).toNatClampNeg = _ by rw [nI_clamp (by omega)]) ?_
          refine lv_eqi (y := (f 15 k)) (by rw [setA_ne (by decide)]) ?_
          refine lv_iload_n hx hb d_Md_everOne_46 rfl (lv_at hl 3 rfl) ?_
          refine lv_icmp_le (x := (f 15 k)) (y := dy) (tgt := 88) hx hb d_Md_everOne_47 (by decide) (fun c47 => ?_) (fun c47 => ?_)
          · skip
            refine lv_iinc (v := (nI (k + 1))) (lv' := [(5, .int (nI (k + 1))), (0, .ref x), (1, .int (nI a)), (2, .int (nI b)), (3, .int dy), (4, .int (bI z))]) hx hb d_Md_everOne_88 hl (k := 5) rfl (nI_1 k) (by decide) rfl (fun ls hl => ?_)
            refine lv_goto (tgt := 30) hx hb d_Md_everOne_91 (by decide) ?_
            exact ih30  _ z (k + 1) (by omega) (by omega) (by rw [anyTo, ← Bool.or_assoc, hz9]; simp [evP, c47]) _ _ hI hS ls (lv_sub hl [1, 2, 3, 4, 5, 0] rfl)
          · skip
            refine lv_aload_n hx hb d_Md_everOne_50 rfl (lv_at hl 0 rfl) ?_
            refine lv_aload_n hx hb d_Md_everOne_51 rfl (lv_at hl 0 rfl) ?_
            refine hx_get (v := .ref (g 15)) hx hb htg iMd hown hK hI.1 rfl 19 (by decide) (htg _ (gw_mem (i := 1017) (by decide +kernel) rfl)) (fun _ h9 => h9) rfl d_Md_everOne_52 ?_
            refine lv_iload hx hb d_Md_everOne_55 (lv_at hl 5 rfl) ?_
            refine hx_iald hx hb hK 0 (hI.2 15 (by decide)) rfl (show vp_in (nI k) 60 from vp_in_nI (n := k) (by omega) (by decide)) d_Md_everOne_57 ?_
            refine lv_eqi (y := ((setA f 17 G2) 15 k)) (show (setA f 17 G2) 15 (nI k).toNatClampNeg = _ by rw [nI_clamp (by omega)]) ?_
            refine lv_eqi (y := (f 15 k)) (by rw [setA_ne (by decide)]) ?_
            refine h_callv (va_runV (As := [.int (f 15 k)]) (rest := []) ⟨hx, hb, hml, hown, htg⟩ (c_Md_join l D cs N0 H x g i ((setA f 17 G2)) ((f 15 k)) hsep hI mg hmg hmg60 mo mt (fun k hk => by rw [setA_ne (by decide)]; exact hone k hk) (fun k hk => by rw [setA_ne (by decide)]; exact hoth k hk)) (cwV 1 htg (gw_V (gw_mem (i := 1136) (by decide +kernel) rfl) (gw_mem (i := 1138) (by decide +kernel) rfl) (gw_mem (i := 22) (by decide +kernel) rfl) (gw_mem (i := 38) (by decide +kernel) rfl) (gw_mem (i := 1139) (by decide +kernel) rfl)) rfl rfl rfl (by decide +kernel) ⟨Nat.le_of_ble_eq_true rfl, Nat.le_of_ble_eq_true rfl⟩) ⟨hPre.blind, hx_recv hK (ci := 0) rfl hI.1, hPre.at hB hS hsep.A⟩ rfl rfl hl.1 rfl (lv_room (Nat.le_of_ble_eq_true rfl)) d_Md_everOne_58 ⟨Nat.zero_le _, Nat.zero_le _⟩) hS (fun _ h => h) (fun  H locs hp hz hk hS => ?_)
            obtain ⟨G3, gl2, hI, hGgl2, hCgl2⟩ := hp
            rw [setA_setA] at hI
            rw [holdB_setA] at hGgl2 hCgl2
            have hga := (hGgl2 a ha).2.1
            have hgb := (hGgl2 b hb1).2.1
            refine lv_iload hx hb d_Md_everOne_61 (lv_at hl 4 rfl) ?_
            refine lv_if_ne (x := (bI z)) (tgt := 81) hx hb d_Md_everOne_63 (by decide) (fun c63 => ?_) (fun c63 => ?_)
            · skip
              replace c63 : z = true := bI_1 c63
              refine lv_iconst (v := 1) hx hb d_Md_everOne_81 (by decide) ?_
              refine lv_goto (tgt := 86) hx hb d_Md_everOne_82 (by decide) ?_
              refine lv_istore (lv' := [(4, .int 1), (0, .ref x), (1, .int (nI a)), (2, .int (nI b)), (3, .int dy), (5, .int (nI k))]) hx hb d_Md_everOne_86 hl (by decide) rfl (fun ls hl => ?_)
              refine lv_iinc (v := (nI (k + 1))) (lv' := [(5, .int (nI (k + 1))), (4, .int 1), (0, .ref x), (1, .int (nI a)), (2, .int (nI b)), (3, .int dy)]) hx hb d_Md_everOne_88 hl (k := 5) rfl (nI_1 k) (by decide) rfl (fun ls hl => ?_)
              refine lv_goto (tgt := 30) hx hb d_Md_everOne_91 (by decide) ?_
              exact ih30  _ true (k + 1) (by omega) (by omega) (by rw [anyTo, ← Bool.or_assoc, hz9]; simp [evP, c47, c63]) _ _ hI hS ls (lv_sub hl [2, 3, 4, 5, 1, 0] rfl)
            · skip
              replace c63 : z = false := bI_0 c63
              refine lv_aload_n hx hb d_Md_everOne_66 rfl (lv_at hl 0 rfl) ?_
              refine hx_get (v := .ref (g 17)) hx hb htg iMd hown hK hI.1 rfl 21 (by decide) (htg _ (gw_mem (i := 1019) (by decide +kernel) rfl)) (fun _ h9 => h9) rfl d_Md_everOne_67 ?_
              refine lv_iload_n hx hb d_Md_everOne_70 rfl (lv_at hl 1 rfl) ?_
              refine hx_iald hx hb hK 0 (hI.2 17 (by decide)) rfl (show vp_in (nI a) 24 from vp_in_nI (n := a) (by omega) (by decide)) d_Md_everOne_71 ?_
              refine lv_eqi (y := ((setA f 17 G3) 17 a)) (show (setA f 17 G3) 17 (nI a).toNatClampNeg = _ by rw [nI_clamp (by omega)]) ?_
              refine lv_eqi (y := (nI (gl2 a))) (by rw [setA_self]; exact (hGgl2 a ha).1) ?_
              refine lv_aload_n hx hb d_Md_everOne_72 rfl (lv_at hl 0 rfl) ?_
              refine hx_get (v := .ref (g 17)) hx hb htg iMd hown hK hI.1 rfl 21 (by decide) (htg _ (gw_mem (i := 1019) (by decide +kernel) rfl)) (fun _ h9 => h9) rfl d_Md_everOne_73 ?_
              refine lv_iload_n hx hb d_Md_everOne_76 rfl (lv_at hl 2 rfl) ?_
              refine hx_iald hx hb hK 0 (hI.2 17 (by decide)) rfl (show vp_in (nI b) 24 from vp_in_nI (n := b) (by omega) (by decide)) d_Md_everOne_77 ?_
              refine lv_eqi (y := ((setA f 17 G3) 17 b)) (show (setA f 17 G3) 17 (nI b).toNatClampNeg = _ by rw [nI_clamp (by omega)]) ?_
              refine lv_eqi (y := (nI (gl2 b))) (by rw [setA_self]; exact (hGgl2 b hb1).1) ?_
              refine lv_icmp_ne (x := (nI (gl2 a))) (y := (nI (gl2 b))) (tgt := 85) hx hb d_Md_everOne_78 (by decide) (fun c78 => ?_) (fun c78 => ?_)
              · skip
                replace c78 : ¬ ((gl2 a) = (gl2 b)) := fun z9 => c78 ((nI_eq (a := (gl2 a)) (b := (gl2 b)) (by omega) (by omega)).mpr z9)
                refine lv_iconst (v := 0) hx hb d_Md_everOne_85 (by decide) ?_
                refine lv_istore (lv' := [(4, .int 0), (0, .ref x), (1, .int (nI a)), (2, .int (nI b)), (3, .int dy), (5, .int (nI k))]) hx hb d_Md_everOne_86 hl (by decide) rfl (fun ls hl => ?_)
                refine lv_iinc (v := (nI (k + 1))) (lv' := [(5, .int (nI (k + 1))), (4, .int 0), (0, .ref x), (1, .int (nI a)), (2, .int (nI b)), (3, .int dy)]) hx hb d_Md_everOne_88 hl (k := 5) rfl (nI_1 k) (by decide) rfl (fun ls hl => ?_)
                refine lv_goto (tgt := 30) hx hb d_Md_everOne_91 (by decide) ?_
                exact ih30  _ false (k + 1) (by omega) (by omega) (by rw [anyTo, ← Bool.or_assoc, hz9]; simp [evP, c47, c63, oneB_f hGgl2 hCgl2 ha hb1 c78]) _ _ hI hS ls (lv_sub hl [2, 3, 4, 5, 1, 0] rfl)
              · skip
                replace c78 : (gl2 a) = (gl2 b) := (nI_eq (a := (gl2 a)) (b := (gl2 b)) (by omega) (by omega)).mp c78
                refine lv_iconst (v := 1) hx hb d_Md_everOne_81 (by decide) ?_
                refine lv_goto (tgt := 86) hx hb d_Md_everOne_82 (by decide) ?_
                refine lv_istore (lv' := [(4, .int 1), (0, .ref x), (1, .int (nI a)), (2, .int (nI b)), (3, .int dy), (5, .int (nI k))]) hx hb d_Md_everOne_86 hl (by decide) rfl (fun ls hl => ?_)
                refine lv_iinc (v := (nI (k + 1))) (lv' := [(5, .int (nI (k + 1))), (4, .int 1), (0, .ref x), (1, .int (nI a)), (2, .int (nI b)), (3, .int dy)]) hx hb d_Md_everOne_88 hl (k := 5) rfl (nI_1 k) (by decide) rfl (fun ls hl => ?_)
                refine lv_goto (tgt := 30) hx hb d_Md_everOne_91 (by decide) ?_
                exact ih30  _ true (k + 1) (by omega) (by omega) (by rw [anyTo, ← Bool.or_assoc, hz9]; simp [evP, c47, c63, oneB_t hGgl2 hCgl2 ha hb1 c78]) _ _ hI hS ls (lv_sub hl [2, 3, 4, 5, 1, 0] rfl)
    exact loop30 ((mg - 0) + 1) _ true 0 (Nat.lt_succ_self _) (Nat.zero_le _) (by rw [oneB_t hGgl hCgl ha hb1 c17]; simp [anyTo]) _ _ hI hS ls (lv_sub hl [2, 3, 4, 5, 1, 0] rfl)
def y_Md_merge : MethodName := ⟨"NameMergesModel", "merge", "(III)I"⟩
abbrev w_Md_merge : List Cond := Cond.code y_Md_merge prog_7_method_21_code 4 (Option.some Jvm.ClassFile.FieldType.int) :: gw
theorem d_Md_merge_0 : decode prog_7_method_21_code 0 = .ok (.aload_n 0, 1) := by decide +kernel
theorem d_Md_merge_1 : decode prog_7_method_21_code 1 = .ok (.aload_n 0, 1) := by decide +kernel
theorem d_Md_merge_2 : decode prog_7_method_21_code 2 = .ok (.iload_n 1, 1) := by decide +kernel
theorem d_Md_merge_3 : decode prog_7_method_21_code 3 = .ok (.invokevirtual 92, 3) := by decide +kernel
theorem d_Md_merge_6 : decode prog_7_method_21_code 6 = .ok (.ifCond .eq 15, 3) := by decide +kernel
theorem d_Md_merge_9 : decode prog_7_method_21_code 9 = .ok (.aload_n 0, 1) := by decide +kernel
theorem d_Md_merge_10 : decode prog_7_method_21_code 10 = .ok (.iload_n 2, 1) := by decide +kernel
theorem d_Md_merge_11 : decode prog_7_method_21_code 11 = .ok (.invokevirtual 92, 3) := by decide +kernel
theorem d_Md_merge_14 : decode prog_7_method_21_code 14 = .ok (.ifCond .eq 7, 3) := by decide +kernel
theorem d_Md_merge_17 : decode prog_7_method_21_code 17 = .ok (.iconst 1, 1) := by decide +kernel
theorem d_Md_merge_18 : decode prog_7_method_21_code 18 = .ok (.goto 4, 3) := by decide +kernel
theorem d_Md_merge_21 : decode prog_7_method_21_code 21 = .ok (.iconst 0, 1) := by decide +kernel
theorem d_Md_merge_22 : decode prog_7_method_21_code 22 = .ok (.aload_n 0, 1) := by decide +kernel
theorem d_Md_merge_23 : decode prog_7_method_21_code 23 = .ok (.getfield 106, 3) := by decide +kernel
theorem d_Md_merge_26 : decode prog_7_method_21_code 26 = .ok (.bipush 60, 2) := by decide +kernel
theorem d_Md_merge_28 : decode prog_7_method_21_code 28 = .ok (.if_icmp .ge 7, 3) := by decide +kernel
theorem d_Md_merge_31 : decode prog_7_method_21_code 31 = .ok (.iconst 1, 1) := by decide +kernel
theorem d_Md_merge_32 : decode prog_7_method_21_code 32 = .ok (.goto 4, 3) := by decide +kernel
theorem d_Md_merge_35 : decode prog_7_method_21_code 35 = .ok (.iconst 0, 1) := by decide +kernel
theorem d_Md_merge_36 : decode prog_7_method_21_code 36 = .ok (.iload_n 1, 1) := by decide +kernel
theorem d_Md_merge_37 : decode prog_7_method_21_code 37 = .ok (.iload_n 2, 1) := by decide +kernel
theorem d_Md_merge_38 : decode prog_7_method_21_code 38 = .ok (.if_icmp .eq 14, 3) := by decide +kernel
theorem d_Md_merge_41 : decode prog_7_method_21_code 41 = .ok (.iload_n 3, 1) := by decide +kernel
theorem d_Md_merge_42 : decode prog_7_method_21_code 42 = .ok (.invokestatic 96, 3) := by decide +kernel
theorem d_Md_merge_45 : decode prog_7_method_21_code 45 = .ok (.ifCond .eq 7, 3) := by decide +kernel
theorem d_Md_merge_48 : decode prog_7_method_21_code 48 = .ok (.iconst 1, 1) := by decide +kernel
theorem d_Md_merge_49 : decode prog_7_method_21_code 49 = .ok (.goto 4, 3) := by decide +kernel
theorem d_Md_merge_52 : decode prog_7_method_21_code 52 = .ok (.iconst 0, 1) := by decide +kernel
theorem d_Md_merge_53 : decode prog_7_method_21_code 53 = .ok (.invokevirtual 88, 3) := by decide +kernel
theorem d_Md_merge_56 : decode prog_7_method_21_code 56 = .ok (.ifCond .ne 5, 3) := by decide +kernel
theorem d_Md_merge_59 : decode prog_7_method_21_code 59 = .ok (.iconst 0, 1) := by decide +kernel
theorem d_Md_merge_60 : decode prog_7_method_21_code 60 = .ok (.ireturn, 1) := by decide +kernel
theorem d_Md_merge_61 : decode prog_7_method_21_code 61 = .ok (.aload_n 0, 1) := by decide +kernel
theorem d_Md_merge_62 : decode prog_7_method_21_code 62 = .ok (.getfield 37, 3) := by decide +kernel
theorem d_Md_merge_65 : decode prog_7_method_21_code 65 = .ok (.bipush 24, 2) := by decide +kernel
theorem d_Md_merge_67 : decode prog_7_method_21_code 67 = .ok (.iload_n 1, 1) := by decide +kernel
theorem d_Md_merge_68 : decode prog_7_method_21_code 68 = .ok (.imul, 1) := by decide +kernel
theorem d_Md_merge_69 : decode prog_7_method_21_code 69 = .ok (.iload_n 2, 1) := by decide +kernel
theorem d_Md_merge_70 : decode prog_7_method_21_code 70 = .ok (.iadd, 1) := by decide +kernel
theorem d_Md_merge_71 : decode prog_7_method_21_code 71 = .ok (.iaload, 1) := by decide +kernel
theorem d_Md_merge_72 : decode prog_7_method_21_code 72 = .ok (.iconst 2, 1) := by decide +kernel
theorem d_Md_merge_73 : decode prog_7_method_21_code 73 = .ok (.if_icmp .ne 5, 3) := by decide +kernel
theorem d_Md_merge_76 : decode prog_7_method_21_code 76 = .ok (.iconst 1, 1) := by decide +kernel
theorem d_Md_merge_77 : decode prog_7_method_21_code 77 = .ok (.ireturn, 1) := by decide +kernel
theorem d_Md_merge_78 : decode prog_7_method_21_code 78 = .ok (.aload_n 0, 1) := by decide +kernel
theorem d_Md_merge_79 : decode prog_7_method_21_code 79 = .ok (.iload_n 1, 1) := by decide +kernel
theorem d_Md_merge_80 : decode prog_7_method_21_code 80 = .ok (.iload_n 2, 1) := by decide +kernel
theorem d_Md_merge_81 : decode prog_7_method_21_code 81 = .ok (.iload_n 3, 1) := by decide +kernel
theorem d_Md_merge_82 : decode prog_7_method_21_code 82 = .ok (.invokevirtual 120, 3) := by decide +kernel
theorem d_Md_merge_85 : decode prog_7_method_21_code 85 = .ok (.ifCond .eq 5, 3) := by decide +kernel
theorem d_Md_merge_88 : decode prog_7_method_21_code 88 = .ok (.iconst 2, 1) := by decide +kernel
theorem d_Md_merge_89 : decode prog_7_method_21_code 89 = .ok (.ireturn, 1) := by decide +kernel
theorem d_Md_merge_90 : decode prog_7_method_21_code 90 = .ok (.aload_n 0, 1) := by decide +kernel
theorem d_Md_merge_91 : decode prog_7_method_21_code 91 = .ok (.getfield 50, 3) := by decide +kernel
theorem d_Md_merge_94 : decode prog_7_method_21_code 94 = .ok (.aload_n 0, 1) := by decide +kernel
theorem d_Md_merge_95 : decode prog_7_method_21_code 95 = .ok (.getfield 106, 3) := by decide +kernel
theorem d_Md_merge_98 : decode prog_7_method_21_code 98 = .ok (.iload_n 1, 1) := by decide +kernel
theorem d_Md_merge_99 : decode prog_7_method_21_code 99 = .ok (.iastore, 1) := by decide +kernel
theorem d_Md_merge_100 : decode prog_7_method_21_code 100 = .ok (.aload_n 0, 1) := by decide +kernel
theorem d_Md_merge_101 : decode prog_7_method_21_code 101 = .ok (.getfield 53, 3) := by decide +kernel
theorem d_Md_merge_104 : decode prog_7_method_21_code 104 = .ok (.aload_n 0, 1) := by decide +kernel
theorem d_Md_merge_105 : decode prog_7_method_21_code 105 = .ok (.getfield 106, 3) := by decide +kernel
theorem d_Md_merge_108 : decode prog_7_method_21_code 108 = .ok (.iload_n 2, 1) := by decide +kernel
theorem d_Md_merge_109 : decode prog_7_method_21_code 109 = .ok (.iastore, 1) := by decide +kernel
theorem d_Md_merge_110 : decode prog_7_method_21_code 110 = .ok (.aload_n 0, 1) := by decide +kernel
theorem d_Md_merge_111 : decode prog_7_method_21_code 111 = .ok (.getfield 56, 3) := by decide +kernel
theorem d_Md_merge_114 : decode prog_7_method_21_code 114 = .ok (.aload_n 0, 1) := by decide +kernel
theorem d_Md_merge_115 : decode prog_7_method_21_code 115 = .ok (.getfield 106, 3) := by decide +kernel
theorem d_Md_merge_118 : decode prog_7_method_21_code 118 = .ok (.iload_n 3, 1) := by decide +kernel
theorem d_Md_merge_119 : decode prog_7_method_21_code 119 = .ok (.iastore, 1) := by decide +kernel
theorem d_Md_merge_120 : decode prog_7_method_21_code 120 = .ok (.aload_n 0, 1) := by decide +kernel
theorem d_Md_merge_121 : decode prog_7_method_21_code 121 = .ok (.getfield 59, 3) := by decide +kernel
theorem d_Md_merge_124 : decode prog_7_method_21_code 124 = .ok (.aload_n 0, 1) := by decide +kernel
theorem d_Md_merge_125 : decode prog_7_method_21_code 125 = .ok (.getfield 106, 3) := by decide +kernel
theorem d_Md_merge_128 : decode prog_7_method_21_code 128 = .ok (.iconst (-1), 1) := by decide +kernel
theorem d_Md_merge_129 : decode prog_7_method_21_code 129 = .ok (.iastore, 1) := by decide +kernel
theorem d_Md_merge_130 : decode prog_7_method_21_code 130 = .ok (.aload_n 0, 1) := by decide +kernel
theorem d_Md_merge_131 : decode prog_7_method_21_code 131 = .ok (.dup, 1) := by decide +kernel
theorem d_Md_merge_132 : decode prog_7_method_21_code 132 = .ok (.getfield 106, 3) := by decide +kernel
theorem d_Md_merge_135 : decode prog_7_method_21_code 135 = .ok (.iconst 1, 1) := by decide +kernel
theorem d_Md_merge_136 : decode prog_7_method_21_code 136 = .ok (.iadd, 1) := by decide +kernel
theorem d_Md_merge_137 : decode prog_7_method_21_code 137 = .ok (.putfield 106, 3) := by decide +kernel
theorem d_Md_merge_140 : decode prog_7_method_21_code 140 = .ok (.iconst 0, 1) := by decide +kernel
theorem d_Md_merge_141 : decode prog_7_method_21_code 141 = .ok (.ireturn, 1) := by decide +kernel
set_option maxHeartbeats 4000000 in
set_option maxRecDepth 100000 in
theorem c_Md_merge (l : Launch) (D : va_G) (cs : Nat → ClassId) (N0 : Nat) (H : Heap) (x : Nat) (g : Nat → Nat) (i : Nat → Int32) (f : Nat → Nat → Int32) (qa qb dy : Int32) (hsep : md_sep N0 x g) (hI : md_I D cs H x g i f) (n : Nat) (hn : i 2 = nI n) (hn24 : n ≤ 24) (mg : Nat) (hmg : i 3 = nI mg) (hmg60 : mg ≤ 60) (mo mt : Nat → Nat) (hone : ∀ k, k < mg → f 13 k = nI (mo k) ∧ mo k < 24) (hoth : ∀ k, k < mg → f 14 k = nI (mt k) ∧ mt k < 24) : Met l y_Md_merge w_Md_merge ({ frames := 2, cells := 0, slots := 0, locals := 50 }) (hPre D cs N0 [.ref x, .int qa, .int qb, .int dy] H) (hQi (fun r H' => if goB (isN n qa && isN n qb) (decide (mg < 60)) (!decide (qa = qb) && isD dy) = true then (if f 9 (24 * tn qa + tn qb) = 2 then (md_I D cs H' x g (upd i 0 (goV (isN n qa && isN n qb) (decide (mg < 60)) (!decide (qa = qb) && isD dy))) f ∧ r = 1) else if evB f mo mt mg (tn qa) (tn qb) dy = true then (∃ G : Nat → Int32, md_I D cs H' x g (upd i 0 (goV (isN n qa && isN n qb) (decide (mg < 60)) (!decide (qa = qb) && isD dy))) (setA f 17 G) ∧ r = 2) else (∃ G : Nat → Int32, md_I D cs H' x g (upd (upd i 0 (goV (isN n qa && isN n qb) (decide (mg < 60)) (!decide (qa = qb) && isD dy))) 3 (nI (mg + 1))) (setA (updA (updA (updA (updA f 13 mg qa) 14 mg qb) 15 mg dy) 16 mg (-1)) 17 G) ∧ r = 0)) else (md_I D cs H' x g (upd i 0 (goV (isN n qa && isN n qb) (decide (mg < 60)) (!decide (qa = qb) && isD dy))) f ∧ r = 0)) (md_A x g)) 0 0 (md_A x g) := by
  refine Met.ofW (cc := prog_7_method_21_code) (maxL := 4) (ret := (Option.some Jvm.ClassFile.FieldType.int)) (by decide) rfl ?_
  intro p e s m args below meth c s₁ B hml hv
  obtain ⟨rfl, rfl, hB⟩ := hv
  have hx := B.exec
  have hb := B.bytes
  have hr := B.returns
  have hts := atoms_spec (ws := w_Md_merge) B.pre
  have htg : ∀ w ∈ gw, w.before _ s = true := fun w h => hts w (List.mem_cons_of_mem _ h)
  have hown : s.vm.findClass "NameMergesModel" = some m.cls := findClass_of_methodNamed B.named
  have hlocks := B.notSynchronized
  have hK := hB.1
  have hS : va_S (md_A x g) s.heap s.heap [] := va_S.rf
  obtain ⟨H, hH⟩ : ∃ z : Heap, z = s.heap := ⟨_, rfl⟩
  rw [← hH] at hI
  have hS : va_S (md_A x g) s.heap H [] := by rw [hH]; exact va_S.rf
  have hl := lv_entry ([.ref x, .int qa, .int qb, .int dy]) (n := 4) (Nat.le_of_ble_eq_true rfl)
  rw [lg_entry_eq, ← hH]
  generalize (lg_sl ([.ref x, .int qa, .int qb, .int dy]) ++ List.replicate (4 - (lg_sl ([.ref x, .int qa, .int qb, .int dy])).length) Slot.unset).toArray = ls at hl ⊢
  have hl : lv_has ls 4 [(0, .ref x), (1, .int qa), (2, .int qb), (3, .int dy)] := hl
  refine lv_aload_n hx hb d_Md_merge_0 rfl (lv_at hl 0 rfl) ?_
  refine lv_aload_n hx hb d_Md_merge_1 rfl (lv_at hl 0 rfl) ?_
  refine lv_iload_n hx hb d_Md_merge_2 rfl (lv_at hl 1 rfl) ?_
  refine h_calli (va_runV (As := [.int qa]) (rest := [.ref x]) ⟨hx, hb, hml, hown, htg⟩ (c_Md_isName l D cs N0 H x g i f qa hsep hI n hn) (cwV 1 htg (gw_V (gw_mem (i := 1108) (by decide +kernel) rfl) (gw_mem (i := 1110) (by decide +kernel) rfl) (gw_mem (i := 19) (by decide +kernel) rfl) (gw_mem (i := 38) (by decide +kernel) rfl) (gw_mem (i := 1111) (by decide +kernel) rfl)) rfl rfl rfl (by decide +kernel) ⟨Nat.le_of_ble_eq_true rfl, Nat.le_of_ble_eq_true rfl⟩) ⟨hPre.blind, hx_recv hK (ci := 0) rfl hI.1, hPre.at hB hS hsep.A⟩ rfl rfl hl.1 rfl (lv_room (Nat.le_of_ble_eq_true rfl)) d_Md_merge_3 ⟨Nat.zero_le _, Nat.zero_le _⟩) hS (fun _ h => h) (fun r3 H locs hp hz hk hS => ?_)
  obtain ⟨hI, er3⟩ := hp
  refine lv_eqi (y := (bI (isN n qa))) er3 ?_
  refine lv_if_eq (x := (bI (isN n qa))) (tgt := 21) hx hb d_Md_merge_6 (by decide) (fun c6 => ?_) (fun c6 => ?_)
  · skip
    replace c6 : (isN n qa) = false := bI_0 c6
    refine lv_iconst (v := 0) hx hb d_Md_merge_21 (by decide) ?_
    refine lv_aload_n hx hb d_Md_merge_22 rfl (lv_at hl 0 rfl) ?_
    refine hx_get (v := .int (i 3)) hx hb htg iMd hown hK hI.1 rfl 16 (by decide) (htg _ (gw_mem (i := 1014) (by decide +kernel) rfl)) (fun _ h9 => h9) rfl d_Md_merge_23 ?_
    refine lv_eqi (y := (nI mg)) hmg ?_
    refine lv_bipush (v := 60) hx hb d_Md_merge_26 (by decide) ?_
    refine lv_icmp_ge (x := (nI mg)) (y := 60) (tgt := 35) hx hb d_Md_merge_28 (by decide) (fun c28 => ?_) (fun c28 => ?_)
    · skip
      replace c28 : 60 ≤ mg := (nI_leI (a := 60) (b := mg) (by omega) (by omega)).mp c28
      refine lv_iconst (v := 0) hx hb d_Md_merge_35 (by decide) ?_
      refine lv_iload_n hx hb d_Md_merge_36 rfl (lv_at hl 1 rfl) ?_
      refine lv_iload_n hx hb d_Md_merge_37 rfl (lv_at hl 2 rfl) ?_
      refine lv_icmp_eq (x := qa) (y := qb) (tgt := 52) hx hb d_Md_merge_38 (by decide) (fun c38 => ?_) (fun c38 => ?_)
      · skip
        refine lv_iconst (v := 0) hx hb d_Md_merge_52 (by decide) ?_
        refine h_calli (va_runV (As := [.int 0, .int 0, .int 0]) (rest := []) ⟨hx, hb, hml, hown, htg⟩ (c_Md_goes l D cs N0 H x g i f false false false hsep hI) (cwV 3 htg (gw_V (gw_mem (i := 1092) (by decide +kernel) rfl) (gw_mem (i := 1094) (by decide +kernel) rfl) (gw_mem (i := 18) (by decide +kernel) rfl) (gw_mem (i := 38) (by decide +kernel) rfl) (gw_mem (i := 1095) (by decide +kernel) rfl)) rfl rfl rfl (by decide +kernel) ⟨Nat.le_of_ble_eq_true rfl, Nat.le_of_ble_eq_true rfl⟩) ⟨hPre.blind, hx_recv hK (ci := 0) rfl hI.1, hPre.at hB hS hsep.A⟩ rfl rfl hl.1 rfl (lv_room (Nat.le_of_ble_eq_true rfl)) d_Md_merge_53 ⟨Nat.zero_le _, Nat.zero_le _⟩) hS (fun _ h => h) (fun r53 H locs hp hz hk hS => ?_)
        obtain ⟨hI, er53⟩ := hp
        replace hI : md_I D cs H x g (upd i 0 1) f := hI
        refine lv_eqi (y := 0) er53 ?_
        refine lv_if_ne (x := 0) (tgt := 61) hx hb d_Md_merge_56 (by decide) (fun c56 => ?_) (fun c56 => ?_)
        · exact absurd c56 (by decide)
        · skip
          refine lv_iconst (v := 0) hx hb d_Md_merge_59 (by decide) ?_
          exact W.iret (v := 0) hx hb hr (fun t ht hW => ⟨⟨0, H, rfl, by dsimp only; have e0 : (isN n qa && isN n qb) = false := (by first | (simp [c6, c28, c38]; done) | (simp [c6, c28, c38]; omega) | omega | simp_all); have e1 : (decide (mg < 60)) = false := (by first | (simp [c6, c28, c38]; done) | (simp [c6, c28, c38]; omega) | omega | simp_all); have e2 : (!decide (qa = qb) && isD dy) = false := (by first | (simp [c6, c28, c38]; done) | (simp [c6, c28, c38]; omega) | omega | simp_all); rw [e0, e1, e2]; rw [if_neg (show ¬ goB false false false = true by simp [goB])]; exact ⟨hI, rfl⟩, ht⟩, hS.F ht⟩) hS.2.2 d_Md_merge_60
      · skip
        refine lv_iload_n hx hb d_Md_merge_41 rfl (lv_at hl 3 rfl) ?_
        refine h_calli (va_runS (As := [.int dy]) (rest := [.int 0, .int 0, .ref x]) ⟨hx, hb, hml, hown, htg⟩ (c_Md_isDay l D cs N0 H x g i f dy hsep hI) (cwS 1 htg (gw_S (gw_mem (i := 1112) (by decide +kernel) rfl) (gw_mem (i := 1113) (by decide +kernel) rfl) (gw_mem (i := 38) (by decide +kernel) rfl) (gw_mem (i := 1114) (by decide +kernel) rfl)) rfl rfl rfl (by decide +kernel) ⟨Nat.le_of_ble_eq_true rfl, Nat.le_of_ble_eq_true rfl⟩) ⟨hPre.blind, hPre.at hB hS hsep.A⟩ rfl rfl hl.1 rfl (lv_room (Nat.le_of_ble_eq_true rfl)) d_Md_merge_42 ⟨Nat.zero_le _, Nat.zero_le _⟩) hS (fun _ h => h) (fun r42 H locs hp hz hk hS => ?_)
        obtain ⟨hI, er42⟩ := hp
        refine lv_eqi (y := (bI (isD dy))) er42 ?_
        refine lv_if_eq (x := (bI (isD dy))) (tgt := 52) hx hb d_Md_merge_45 (by decide) (fun c45 => ?_) (fun c45 => ?_)
        · skip
          replace c45 : (isD dy) = false := bI_0 c45
          refine lv_iconst (v := 0) hx hb d_Md_merge_52 (by decide) ?_
          refine h_calli (va_runV (As := [.int 0, .int 0, .int 0]) (rest := []) ⟨hx, hb, hml, hown, htg⟩ (c_Md_goes l D cs N0 H x g i f false false false hsep hI) (cwV 3 htg (gw_V (gw_mem (i := 1092) (by decide +kernel) rfl) (gw_mem (i := 1094) (by decide +kernel) rfl) (gw_mem (i := 18) (by decide +kernel) rfl) (gw_mem (i := 38) (by decide +kernel) rfl) (gw_mem (i := 1095) (by decide +kernel) rfl)) rfl rfl rfl (by decide +kernel) ⟨Nat.le_of_ble_eq_true rfl, Nat.le_of_ble_eq_true rfl⟩) ⟨hPre.blind, hx_recv hK (ci := 0) rfl hI.1, hPre.at hB hS hsep.A⟩ rfl rfl hl.1 rfl (lv_room (Nat.le_of_ble_eq_true rfl)) d_Md_merge_53 ⟨Nat.zero_le _, Nat.zero_le _⟩) hS (fun _ h => h) (fun r53 H locs hp hz hk hS => ?_)
          obtain ⟨hI, er53⟩ := hp
          replace hI : md_I D cs H x g (upd i 0 1) f := hI
          refine lv_eqi (y := 0) er53 ?_
          refine lv_if_ne (x := 0) (tgt := 61) hx hb d_Md_merge_56 (by decide) (fun c56 => ?_) (fun c56 => ?_)
          · exact absurd c56 (by decide)
          · skip
            refine lv_iconst (v := 0) hx hb d_Md_merge_59 (by decide) ?_
            exact W.iret (v := 0) hx hb hr (fun t ht hW => ⟨⟨0, H, rfl, by dsimp only; have e0 : (isN n qa && isN n qb) = false := (by first | (simp [c6, c28, c38, c45]; done) | (simp [c6, c28, c38, c45]; omega) | omega | simp_all); have e1 : (decide (mg < 60)) = false := (by first | (simp [c6, c28, c38, c45]; done) | (simp [c6, c28, c38, c45]; omega) | omega | simp_all); have e2 : (!decide (qa = qb) && isD dy) = false := (by first | (simp [c6, c28, c38, c45]; done) | (simp [c6, c28, c38, c45]; omega) | omega | simp_all); rw [e0, e1, e2]; rw [if_neg (show ¬ goB false false false = true by simp [goB])]; exact ⟨hI, rfl⟩, ht⟩, hS.F ht⟩) hS.2.2 d_Md_merge_60
        · skip
          replace c45 : (isD dy) = true := bI_1 c45
          refine lv_iconst (v := 1) hx hb d_Md_merge_48 (by decide) ?_
          refine lv_goto (tgt := 53) hx hb d_Md_merge_49 (by decide) ?_
          refine h_calli (va_runV (As := [.int 0, .int 0, .int 1]) (rest := []) ⟨hx, hb, hml, hown, htg⟩ (c_Md_goes l D cs N0 H x g i f false false true hsep hI) (cwV 3 htg (gw_V (gw_mem (i := 1092) (by decide +kernel) rfl) (gw_mem (i := 1094) (by decide +kernel) rfl) (gw_mem (i := 18) (by decide +kernel) rfl) (gw_mem (i := 38) (by decide +kernel) rfl) (gw_mem (i := 1095) (by decide +kernel) rfl)) rfl rfl rfl (by decide +kernel) ⟨Nat.le_of_ble_eq_true rfl, Nat.le_of_ble_eq_true rfl⟩) ⟨hPre.blind, hx_recv hK (ci := 0) rfl hI.1, hPre.at hB hS hsep.A⟩ rfl rfl hl.1 rfl (lv_room (Nat.le_of_ble_eq_true rfl)) d_Md_merge_53 ⟨Nat.zero_le _, Nat.zero_le _⟩) hS (fun _ h => h) (fun r53 H locs hp hz hk hS => ?_)
          obtain ⟨hI, er53⟩ := hp
          replace hI : md_I D cs H x g (upd i 0 1) f := hI
          refine lv_eqi (y := 0) er53 ?_
          refine lv_if_ne (x := 0) (tgt := 61) hx hb d_Md_merge_56 (by decide) (fun c56 => ?_) (fun c56 => ?_)
          · exact absurd c56 (by decide)
          · skip
            refine lv_iconst (v := 0) hx hb d_Md_merge_59 (by decide) ?_
            exact W.iret (v := 0) hx hb hr (fun t ht hW => ⟨⟨0, H, rfl, by dsimp only; have e0 : (isN n qa && isN n qb) = false := (by first | (simp [c6, c28, c38, c45]; done) | (simp [c6, c28, c38, c45]; omega) | omega | simp_all); have e1 : (decide (mg < 60)) = false := (by first | (simp [c6, c28, c38, c45]; done) | (simp [c6, c28, c38, c45]; omega) | omega | simp_all); have e2 : (!decide (qa = qb) && isD dy) = true := (by first | (simp [c6, c28, c38, c45]; done) | (simp [c6, c28, c38, c45]; omega) | omega | simp_all); rw [e0, e1, e2]; rw [if_neg (show ¬ goB false false true = true by simp [goB])]; exact ⟨hI, rfl⟩, ht⟩, hS.F ht⟩) hS.2.2 d_Md_merge_60
    · skip
      replace c28 : ¬ (60 ≤ mg) := fun z9 => c28 ((nI_leI (a := 60) (b := mg) (by omega) (by omega)).mpr z9)
      refine lv_iconst (v := 1) hx hb d_Md_merge_31 (by decide) ?_
      refine lv_goto (tgt := 36) hx hb d_Md_merge_32 (by decide) ?_
      refine lv_iload_n hx hb d_Md_merge_36 rfl (lv_at hl 1 rfl) ?_
      refine lv_iload_n hx hb d_Md_merge_37 rfl (lv_at hl 2 rfl) ?_
      refine lv_icmp_eq (x := qa) (y := qb) (tgt := 52) hx hb d_Md_merge_38 (by decide) (fun c38 => ?_) (fun c38 => ?_)
      · skip
        refine lv_iconst (v := 0) hx hb d_Md_merge_52 (by decide) ?_
        refine h_calli (va_runV (As := [.int 0, .int 1, .int 0]) (rest := []) ⟨hx, hb, hml, hown, htg⟩ (c_Md_goes l D cs N0 H x g i f false true false hsep hI) (cwV 3 htg (gw_V (gw_mem (i := 1092) (by decide +kernel) rfl) (gw_mem (i := 1094) (by decide +kernel) rfl) (gw_mem (i := 18) (by decide +kernel) rfl) (gw_mem (i := 38) (by decide +kernel) rfl) (gw_mem (i := 1095) (by decide +kernel) rfl)) rfl rfl rfl (by decide +kernel) ⟨Nat.le_of_ble_eq_true rfl, Nat.le_of_ble_eq_true rfl⟩) ⟨hPre.blind, hx_recv hK (ci := 0) rfl hI.1, hPre.at hB hS hsep.A⟩ rfl rfl hl.1 rfl (lv_room (Nat.le_of_ble_eq_true rfl)) d_Md_merge_53 ⟨Nat.zero_le _, Nat.zero_le _⟩) hS (fun _ h => h) (fun r53 H locs hp hz hk hS => ?_)
        obtain ⟨hI, er53⟩ := hp
        replace hI : md_I D cs H x g (upd i 0 1) f := hI
        refine lv_eqi (y := 0) er53 ?_
        refine lv_if_ne (x := 0) (tgt := 61) hx hb d_Md_merge_56 (by decide) (fun c56 => ?_) (fun c56 => ?_)
        · exact absurd c56 (by decide)
        · skip
          refine lv_iconst (v := 0) hx hb d_Md_merge_59 (by decide) ?_
          exact W.iret (v := 0) hx hb hr (fun t ht hW => ⟨⟨0, H, rfl, by dsimp only; have e0 : (isN n qa && isN n qb) = false := (by first | (simp [c6, c28, c38]; done) | (simp [c6, c28, c38]; omega) | omega | simp_all); have e1 : (decide (mg < 60)) = true := (by first | (simp [c6, c28, c38]; done) | (simp [c6, c28, c38]; omega) | omega | simp_all); have e2 : (!decide (qa = qb) && isD dy) = false := (by first | (simp [c6, c28, c38]; done) | (simp [c6, c28, c38]; omega) | omega | simp_all); rw [e0, e1, e2]; rw [if_neg (show ¬ goB false true false = true by simp [goB])]; exact ⟨hI, rfl⟩, ht⟩, hS.F ht⟩) hS.2.2 d_Md_merge_60
      · skip
        refine lv_iload_n hx hb d_Md_merge_41 rfl (lv_at hl 3 rfl) ?_
        refine h_calli (va_runS (As := [.int dy]) (rest := [.int 1, .int 0, .ref x]) ⟨hx, hb, hml, hown, htg⟩ (c_Md_isDay l D cs N0 H x g i f dy hsep hI) (cwS 1 htg (gw_S (gw_mem (i := 1112) (by decide +kernel) rfl) (gw_mem (i := 1113) (by decide +kernel) rfl) (gw_mem (i := 38) (by decide +kernel) rfl) (gw_mem (i := 1114) (by decide +kernel) rfl)) rfl rfl rfl (by decide +kernel) ⟨Nat.le_of_ble_eq_true rfl, Nat.le_of_ble_eq_true rfl⟩) ⟨hPre.blind, hPre.at hB hS hsep.A⟩ rfl rfl hl.1 rfl (lv_room (Nat.le_of_ble_eq_true rfl)) d_Md_merge_42 ⟨Nat.zero_le _, Nat.zero_le _⟩) hS (fun _ h => h) (fun r42 H locs hp hz hk hS => ?_)
        obtain ⟨hI, er42⟩ := hp
        refine lv_eqi (y := (bI (isD dy))) er42 ?_
        refine lv_if_eq (x := (bI (isD dy))) (tgt := 52) hx hb d_Md_merge_45 (by decide) (fun c45 => ?_) (fun c45 => ?_)
        · skip
          replace c45 : (isD dy) = false := bI_0 c45
          refine lv_iconst (v := 0) hx hb d_Md_merge_52 (by decide) ?_
          refine h_calli (va_runV (As := [.int 0, .int 1, .int 0]) (rest := []) ⟨hx, hb, hml, hown, htg⟩ (c_Md_goes l D cs N0 H x g i f false true false hsep hI) (cwV 3 htg (gw_V (gw_mem (i := 1092) (by decide +kernel) rfl) (gw_mem (i := 1094) (by decide +kernel) rfl) (gw_mem (i := 18) (by decide +kernel) rfl) (gw_mem (i := 38) (by decide +kernel) rfl) (gw_mem (i := 1095) (by decide +kernel) rfl)) rfl rfl rfl (by decide +kernel) ⟨Nat.le_of_ble_eq_true rfl, Nat.le_of_ble_eq_true rfl⟩) ⟨hPre.blind, hx_recv hK (ci := 0) rfl hI.1, hPre.at hB hS hsep.A⟩ rfl rfl hl.1 rfl (lv_room (Nat.le_of_ble_eq_true rfl)) d_Md_merge_53 ⟨Nat.zero_le _, Nat.zero_le _⟩) hS (fun _ h => h) (fun r53 H locs hp hz hk hS => ?_)
          obtain ⟨hI, er53⟩ := hp
          replace hI : md_I D cs H x g (upd i 0 1) f := hI
          refine lv_eqi (y := 0) er53 ?_
          refine lv_if_ne (x := 0) (tgt := 61) hx hb d_Md_merge_56 (by decide) (fun c56 => ?_) (fun c56 => ?_)
          · exact absurd c56 (by decide)
          · skip
            refine lv_iconst (v := 0) hx hb d_Md_merge_59 (by decide) ?_
            exact W.iret (v := 0) hx hb hr (fun t ht hW => ⟨⟨0, H, rfl, by dsimp only; have e0 : (isN n qa && isN n qb) = false := (by first | (simp [c6, c28, c38, c45]; done) | (simp [c6, c28, c38, c45]; omega) | omega | simp_all); have e1 : (decide (mg < 60)) = true := (by first | (simp [c6, c28, c38, c45]; done) | (simp [c6, c28, c38, c45]; omega) | omega | simp_all); have e2 : (!decide (qa = qb) && isD dy) = false := (by first | (simp [c6, c28, c38, c45]; done) | (simp [c6, c28, c38, c45]; omega) | omega | simp_all); rw [e0, e1, e2]; rw [if_neg (show ¬ goB false true false = true by simp [goB])]; exact ⟨hI, rfl⟩, ht⟩, hS.F ht⟩) hS.2.2 d_Md_merge_60
        · skip
          replace c45 : (isD dy) = true := bI_1 c45
          refine lv_iconst (v := 1) hx hb d_Md_merge_48 (by decide) ?_
          refine lv_goto (tgt := 53) hx hb d_Md_merge_49 (by decide) ?_
          refine h_calli (va_runV (As := [.int 0, .int 1, .int 1]) (rest := []) ⟨hx, hb, hml, hown, htg⟩ (c_Md_goes l D cs N0 H x g i f false true true hsep hI) (cwV 3 htg (gw_V (gw_mem (i := 1092) (by decide +kernel) rfl) (gw_mem (i := 1094) (by decide +kernel) rfl) (gw_mem (i := 18) (by decide +kernel) rfl) (gw_mem (i := 38) (by decide +kernel) rfl) (gw_mem (i := 1095) (by decide +kernel) rfl)) rfl rfl rfl (by decide +kernel) ⟨Nat.le_of_ble_eq_true rfl, Nat.le_of_ble_eq_true rfl⟩) ⟨hPre.blind, hx_recv hK (ci := 0) rfl hI.1, hPre.at hB hS hsep.A⟩ rfl rfl hl.1 rfl (lv_room (Nat.le_of_ble_eq_true rfl)) d_Md_merge_53 ⟨Nat.zero_le _, Nat.zero_le _⟩) hS (fun _ h => h) (fun r53 H locs hp hz hk hS => ?_)
          obtain ⟨hI, er53⟩ := hp
          replace hI : md_I D cs H x g (upd i 0 1) f := hI
          refine lv_eqi (y := 0) er53 ?_
          refine lv_if_ne (x := 0) (tgt := 61) hx hb d_Md_merge_56 (by decide) (fun c56 => ?_) (fun c56 => ?_)
          · exact absurd c56 (by decide)
          · skip
            refine lv_iconst (v := 0) hx hb d_Md_merge_59 (by decide) ?_
            exact W.iret (v := 0) hx hb hr (fun t ht hW => ⟨⟨0, H, rfl, by dsimp only; have e0 : (isN n qa && isN n qb) = false := (by first | (simp [c6, c28, c38, c45]; done) | (simp [c6, c28, c38, c45]; omega) | omega | simp_all); have e1 : (decide (mg < 60)) = true := (by first | (simp [c6, c28, c38, c45]; done) | (simp [c6, c28, c38, c45]; omega) | omega | simp_all); have e2 : (!decide (qa = qb) && isD dy) = true := (by first | (simp [c6, c28, c38, c45]; done) | (simp [c6, c28, c38, c45]; omega) | omega | simp_all); rw [e0, e1, e2]; rw [if_neg (show ¬ goB false true true = true by simp [goB])]; exact ⟨hI, rfl⟩, ht⟩, hS.F ht⟩) hS.2.2 d_Md_merge_60
  · skip
    replace c6 : (isN n qa) = true := bI_1 c6
    refine lv_aload_n hx hb d_Md_merge_9 rfl (lv_at hl 0 rfl) ?_
    refine lv_iload_n hx hb d_Md_merge_10 rfl (lv_at hl 2 rfl) ?_
    refine h_calli (va_runV (As := [.int qb]) (rest := [.ref x]) ⟨hx, hb, hml, hown, htg⟩ (c_Md_isName l D cs N0 H x g i f qb hsep hI n hn) (cwV 1 htg (gw_V (gw_mem (i := 1108) (by decide +kernel) rfl) (gw_mem (i := 1110) (by decide +kernel) rfl) (gw_mem (i := 19) (by decide +kernel) rfl) (gw_mem (i := 38) (by decide +kernel) rfl) (gw_mem (i := 1111) (by decide +kernel) rfl)) rfl rfl rfl (by decide +kernel) ⟨Nat.le_of_ble_eq_true rfl, Nat.le_of_ble_eq_true rfl⟩) ⟨hPre.blind, hx_recv hK (ci := 0) rfl hI.1, hPre.at hB hS hsep.A⟩ rfl rfl hl.1 rfl (lv_room (Nat.le_of_ble_eq_true rfl)) d_Md_merge_11 ⟨Nat.zero_le _, Nat.zero_le _⟩) hS (fun _ h => h) (fun r11 H locs hp hz hk hS => ?_)
    obtain ⟨hI, er11⟩ := hp
    refine lv_eqi (y := (bI (isN n qb))) er11 ?_
    refine lv_if_eq (x := (bI (isN n qb))) (tgt := 21) hx hb d_Md_merge_14 (by decide) (fun c14 => ?_) (fun c14 => ?_)
    · skip
      replace c14 : (isN n qb) = false := bI_0 c14
      refine lv_iconst (v := 0) hx hb d_Md_merge_21 (by decide) ?_
      refine lv_aload_n hx hb d_Md_merge_22 rfl (lv_at hl 0 rfl) ?_
      refine hx_get (v := .int (i 3)) hx hb htg iMd hown hK hI.1 rfl 16 (by decide) (htg _ (gw_mem (i := 1014) (by decide +kernel) rfl)) (fun _ h9 => h9) rfl d_Md_merge_23 ?_
      refine lv_eqi (y := (nI mg)) hmg ?_
      refine lv_bipush (v := 60) hx hb d_Md_merge_26 (by decide) ?_
      refine lv_icmp_ge (x := (nI mg)) (y := 60) (tgt := 35) hx hb d_Md_merge_28 (by decide) (fun c28 => ?_) (fun c28 => ?_)
      · skip
        replace c28 : 60 ≤ mg := (nI_leI (a := 60) (b := mg) (by omega) (by omega)).mp c28
        refine lv_iconst (v := 0) hx hb d_Md_merge_35 (by decide) ?_
        refine lv_iload_n hx hb d_Md_merge_36 rfl (lv_at hl 1 rfl) ?_
        refine lv_iload_n hx hb d_Md_merge_37 rfl (lv_at hl 2 rfl) ?_
        refine lv_icmp_eq (x := qa) (y := qb) (tgt := 52) hx hb d_Md_merge_38 (by decide) (fun c38 => ?_) (fun c38 => ?_)
        · skip
          refine lv_iconst (v := 0) hx hb d_Md_merge_52 (by decide) ?_
          refine h_calli (va_runV (As := [.int 0, .int 0, .int 0]) (rest := []) ⟨hx, hb, hml, hown, htg⟩ (c_Md_goes l D cs N0 H x g i f false false false hsep hI) (cwV 3 htg (gw_V (gw_mem (i := 1092) (by decide +kernel) rfl) (gw_mem (i := 1094) (by decide +kernel) rfl) (gw_mem (i := 18) (by decide +kernel) rfl) (gw_mem (i := 38) (by decide +kernel) rfl) (gw_mem (i := 1095) (by decide +kernel) rfl)) rfl rfl rfl (by decide +kernel) ⟨Nat.le_of_ble_eq_true rfl, Nat.le_of_ble_eq_true rfl⟩) ⟨hPre.blind, hx_recv hK (ci := 0) rfl hI.1, hPre.at hB hS hsep.A⟩ rfl rfl hl.1 rfl (lv_room (Nat.le_of_ble_eq_true rfl)) d_Md_merge_53 ⟨Nat.zero_le _, Nat.zero_le _⟩) hS (fun _ h => h) (fun r53 H locs hp hz hk hS => ?_)
          obtain ⟨hI, er53⟩ := hp
          replace hI : md_I D cs H x g (upd i 0 1) f := hI
          refine lv_eqi (y := 0) er53 ?_
          refine lv_if_ne (x := 0) (tgt := 61) hx hb d_Md_merge_56 (by decide) (fun c56 => ?_) (fun c56 => ?_)
          · exact absurd c56 (by decide)
          · skip
            refine lv_iconst (v := 0) hx hb d_Md_merge_59 (by decide) ?_
            exact W.iret (v := 0) hx hb hr (fun t ht hW => ⟨⟨0, H, rfl, by dsimp only; have e0 : (isN n qa && isN n qb) = false := (by first | (simp [c6, c14, c28, c38]; done) | (simp [c6, c14, c28, c38]; omega) | omega | simp_all); have e1 : (decide (mg < 60)) = false := (by first | (simp [c6, c14, c28, c38]; done) | (simp [c6, c14, c28, c38]; omega) | omega | simp_all); have e2 : (!decide (qa = qb) && isD dy) = false := (by first | (simp [c6, c14, c28, c38]; done) | (simp [c6, c14, c28, c38]; omega) | omega | simp_all); rw [e0, e1, e2]; rw [if_neg (show ¬ goB false false false = true by simp [goB])]; exact ⟨hI, rfl⟩, ht⟩, hS.F ht⟩) hS.2.2 d_Md_merge_60
        · skip
          refine lv_iload_n hx hb d_Md_merge_41 rfl (lv_at hl 3 rfl) ?_
          refine h_calli (va_runS (As := [.int dy]) (rest := [.int 0, .int 0, .ref x]) ⟨hx, hb, hml, hown, htg⟩ (c_Md_isDay l D cs N0 H x g i f dy hsep hI) (cwS 1 htg (gw_S (gw_mem (i := 1112) (by decide +kernel) rfl) (gw_mem (i := 1113) (by decide +kernel) rfl) (gw_mem (i := 38) (by decide +kernel) rfl) (gw_mem (i := 1114) (by decide +kernel) rfl)) rfl rfl rfl (by decide +kernel) ⟨Nat.le_of_ble_eq_true rfl, Nat.le_of_ble_eq_true rfl⟩) ⟨hPre.blind, hPre.at hB hS hsep.A⟩ rfl rfl hl.1 rfl (lv_room (Nat.le_of_ble_eq_true rfl)) d_Md_merge_42 ⟨Nat.zero_le _, Nat.zero_le _⟩) hS (fun _ h => h) (fun r42 H locs hp hz hk hS => ?_)
          obtain ⟨hI, er42⟩ := hp
          refine lv_eqi (y := (bI (isD dy))) er42 ?_
          refine lv_if_eq (x := (bI (isD dy))) (tgt := 52) hx hb d_Md_merge_45 (by decide) (fun c45 => ?_) (fun c45 => ?_)
          · skip
            replace c45 : (isD dy) = false := bI_0 c45
            refine lv_iconst (v := 0) hx hb d_Md_merge_52 (by decide) ?_
            refine h_calli (va_runV (As := [.int 0, .int 0, .int 0]) (rest := []) ⟨hx, hb, hml, hown, htg⟩ (c_Md_goes l D cs N0 H x g i f false false false hsep hI) (cwV 3 htg (gw_V (gw_mem (i := 1092) (by decide +kernel) rfl) (gw_mem (i := 1094) (by decide +kernel) rfl) (gw_mem (i := 18) (by decide +kernel) rfl) (gw_mem (i := 38) (by decide +kernel) rfl) (gw_mem (i := 1095) (by decide +kernel) rfl)) rfl rfl rfl (by decide +kernel) ⟨Nat.le_of_ble_eq_true rfl, Nat.le_of_ble_eq_true rfl⟩) ⟨hPre.blind, hx_recv hK (ci := 0) rfl hI.1, hPre.at hB hS hsep.A⟩ rfl rfl hl.1 rfl (lv_room (Nat.le_of_ble_eq_true rfl)) d_Md_merge_53 ⟨Nat.zero_le _, Nat.zero_le _⟩) hS (fun _ h => h) (fun r53 H locs hp hz hk hS => ?_)
            obtain ⟨hI, er53⟩ := hp
            replace hI : md_I D cs H x g (upd i 0 1) f := hI
            refine lv_eqi (y := 0) er53 ?_
            refine lv_if_ne (x := 0) (tgt := 61) hx hb d_Md_merge_56 (by decide) (fun c56 => ?_) (fun c56 => ?_)
            · exact absurd c56 (by decide)
            · skip
              refine lv_iconst (v := 0) hx hb d_Md_merge_59 (by decide) ?_
              exact W.iret (v := 0) hx hb hr (fun t ht hW => ⟨⟨0, H, rfl, by dsimp only; have e0 : (isN n qa && isN n qb) = false := (by first | (simp [c6, c14, c28, c38, c45]; done) | (simp [c6, c14, c28, c38, c45]; omega) | omega | simp_all); have e1 : (decide (mg < 60)) = false := (by first | (simp [c6, c14, c28, c38, c45]; done) | (simp [c6, c14, c28, c38, c45]; omega) | omega | simp_all); have e2 : (!decide (qa = qb) && isD dy) = false := (by first | (simp [c6, c14, c28, c38, c45]; done) | (simp [c6, c14, c28, c38, c45]; omega) | omega | simp_all); rw [e0, e1, e2]; rw [if_neg (show ¬ goB false false false = true by simp [goB])]; exact ⟨hI, rfl⟩, ht⟩, hS.F ht⟩) hS.2.2 d_Md_merge_60
          · skip
            replace c45 : (isD dy) = true := bI_1 c45
            refine lv_iconst (v := 1) hx hb d_Md_merge_48 (by decide) ?_
            refine lv_goto (tgt := 53) hx hb d_Md_merge_49 (by decide) ?_
            refine h_calli (va_runV (As := [.int 0, .int 0, .int 1]) (rest := []) ⟨hx, hb, hml, hown, htg⟩ (c_Md_goes l D cs N0 H x g i f false false true hsep hI) (cwV 3 htg (gw_V (gw_mem (i := 1092) (by decide +kernel) rfl) (gw_mem (i := 1094) (by decide +kernel) rfl) (gw_mem (i := 18) (by decide +kernel) rfl) (gw_mem (i := 38) (by decide +kernel) rfl) (gw_mem (i := 1095) (by decide +kernel) rfl)) rfl rfl rfl (by decide +kernel) ⟨Nat.le_of_ble_eq_true rfl, Nat.le_of_ble_eq_true rfl⟩) ⟨hPre.blind, hx_recv hK (ci := 0) rfl hI.1, hPre.at hB hS hsep.A⟩ rfl rfl hl.1 rfl (lv_room (Nat.le_of_ble_eq_true rfl)) d_Md_merge_53 ⟨Nat.zero_le _, Nat.zero_le _⟩) hS (fun _ h => h) (fun r53 H locs hp hz hk hS => ?_)
            obtain ⟨hI, er53⟩ := hp
            replace hI : md_I D cs H x g (upd i 0 1) f := hI
            refine lv_eqi (y := 0) er53 ?_
            refine lv_if_ne (x := 0) (tgt := 61) hx hb d_Md_merge_56 (by decide) (fun c56 => ?_) (fun c56 => ?_)
            · exact absurd c56 (by decide)
            · skip
              refine lv_iconst (v := 0) hx hb d_Md_merge_59 (by decide) ?_
              exact W.iret (v := 0) hx hb hr (fun t ht hW => ⟨⟨0, H, rfl, by dsimp only; have e0 : (isN n qa && isN n qb) = false := (by first | (simp [c6, c14, c28, c38, c45]; done) | (simp [c6, c14, c28, c38, c45]; omega) | omega | simp_all); have e1 : (decide (mg < 60)) = false := (by first | (simp [c6, c14, c28, c38, c45]; done) | (simp [c6, c14, c28, c38, c45]; omega) | omega | simp_all); have e2 : (!decide (qa = qb) && isD dy) = true := (by first | (simp [c6, c14, c28, c38, c45]; done) | (simp [c6, c14, c28, c38, c45]; omega) | omega | simp_all); rw [e0, e1, e2]; rw [if_neg (show ¬ goB false false true = true by simp [goB])]; exact ⟨hI, rfl⟩, ht⟩, hS.F ht⟩) hS.2.2 d_Md_merge_60
      · skip
        replace c28 : ¬ (60 ≤ mg) := fun z9 => c28 ((nI_leI (a := 60) (b := mg) (by omega) (by omega)).mpr z9)
        refine lv_iconst (v := 1) hx hb d_Md_merge_31 (by decide) ?_
        refine lv_goto (tgt := 36) hx hb d_Md_merge_32 (by decide) ?_
        refine lv_iload_n hx hb d_Md_merge_36 rfl (lv_at hl 1 rfl) ?_
        refine lv_iload_n hx hb d_Md_merge_37 rfl (lv_at hl 2 rfl) ?_
        refine lv_icmp_eq (x := qa) (y := qb) (tgt := 52) hx hb d_Md_merge_38 (by decide) (fun c38 => ?_) (fun c38 => ?_)
        · skip
          refine lv_iconst (v := 0) hx hb d_Md_merge_52 (by decide) ?_
          refine h_calli (va_runV (As := [.int 0, .int 1, .int 0]) (rest := []) ⟨hx, hb, hml, hown, htg⟩ (c_Md_goes l D cs N0 H x g i f false true false hsep hI) (cwV 3 htg (gw_V (gw_mem (i := 1092) (by decide +kernel) rfl) (gw_mem (i := 1094) (by decide +kernel) rfl) (gw_mem (i := 18) (by decide +kernel) rfl) (gw_mem (i := 38) (by decide +kernel) rfl) (gw_mem (i := 1095) (by decide +kernel) rfl)) rfl rfl rfl (by decide +kernel) ⟨Nat.le_of_ble_eq_true rfl, Nat.le_of_ble_eq_true rfl⟩) ⟨hPre.blind, hx_recv hK (ci := 0) rfl hI.1, hPre.at hB hS hsep.A⟩ rfl rfl hl.1 rfl (lv_room (Nat.le_of_ble_eq_true rfl)) d_Md_merge_53 ⟨Nat.zero_le _, Nat.zero_le _⟩) hS (fun _ h => h) (fun r53 H locs hp hz hk hS => ?_)
          obtain ⟨hI, er53⟩ := hp
          replace hI : md_I D cs H x g (upd i 0 1) f := hI
          refine lv_eqi (y := 0) er53 ?_
          refine lv_if_ne (x := 0) (tgt := 61) hx hb d_Md_merge_56 (by decide) (fun c56 => ?_) (fun c56 => ?_)
          · exact absurd c56 (by decide)
          · skip
            refine lv_iconst (v := 0) hx hb d_Md_merge_59 (by decide) ?_
            exact W.iret (v := 0) hx hb hr (fun t ht hW => ⟨⟨0, H, rfl, by dsimp only; have e0 : (isN n qa && isN n qb) = false := (by first | (simp [c6, c14, c28, c38]; done) | (simp [c6, c14, c28, c38]; omega) | omega | simp_all); have e1 : (decide (mg < 60)) = true := (by first | (simp [c6, c14, c28, c38]; done) | (simp [c6, c14, c28, c38]; omega) | omega | simp_all); have e2 : (!decide (qa = qb) && isD dy) = false := (by first | (simp [c6, c14, c28, c38]; done) | (simp [c6, c14, c28, c38]; omega) | omega | simp_all); rw [e0, e1, e2]; rw [if_neg (show ¬ goB false true false = true by simp [goB])]; exact ⟨hI, rfl⟩, ht⟩, hS.F ht⟩) hS.2.2 d_Md_merge_60
        · skip
          refine lv_iload_n hx hb d_Md_merge_41 rfl (lv_at hl 3 rfl) ?_
          refine h_calli (va_runS (As := [.int dy]) (rest := [.int 1, .int 0, .ref x]) ⟨hx, hb, hml, hown, htg⟩ (c_Md_isDay l D cs N0 H x g i f dy hsep hI) (cwS 1 htg (gw_S (gw_mem (i := 1112) (by decide +kernel) rfl) (gw_mem (i := 1113) (by decide +kernel) rfl) (gw_mem (i := 38) (by decide +kernel) rfl) (gw_mem (i := 1114) (by decide +kernel) rfl)) rfl rfl rfl (by decide +kernel) ⟨Nat.le_of_ble_eq_true rfl, Nat.le_of_ble_eq_true rfl⟩) ⟨hPre.blind, hPre.at hB hS hsep.A⟩ rfl rfl hl.1 rfl (lv_room (Nat.le_of_ble_eq_true rfl)) d_Md_merge_42 ⟨Nat.zero_le _, Nat.zero_le _⟩) hS (fun _ h => h) (fun r42 H locs hp hz hk hS => ?_)
          obtain ⟨hI, er42⟩ := hp
          refine lv_eqi (y := (bI (isD dy))) er42 ?_
          refine lv_if_eq (x := (bI (isD dy))) (tgt := 52) hx hb d_Md_merge_45 (by decide) (fun c45 => ?_) (fun c45 => ?_)
          · skip
            replace c45 : (isD dy) = false := bI_0 c45
            refine lv_iconst (v := 0) hx hb d_Md_merge_52 (by decide) ?_
            refine h_calli (va_runV (As := [.int 0, .int 1, .int 0]) (rest := []) ⟨hx, hb, hml, hown, htg⟩ (c_Md_goes l D cs N0 H x g i f false true false hsep hI) (cwV 3 htg (gw_V (gw_mem (i := 1092) (by decide +kernel) rfl) (gw_mem (i := 1094) (by decide +kernel) rfl) (gw_mem (i := 18) (by decide +kernel) rfl) (gw_mem (i := 38) (by decide +kernel) rfl) (gw_mem (i := 1095) (by decide +kernel) rfl)) rfl rfl rfl (by decide +kernel) ⟨Nat.le_of_ble_eq_true rfl, Nat.le_of_ble_eq_true rfl⟩) ⟨hPre.blind, hx_recv hK (ci := 0) rfl hI.1, hPre.at hB hS hsep.A⟩ rfl rfl hl.1 rfl (lv_room (Nat.le_of_ble_eq_true rfl)) d_Md_merge_53 ⟨Nat.zero_le _, Nat.zero_le _⟩) hS (fun _ h => h) (fun r53 H locs hp hz hk hS => ?_)
            obtain ⟨hI, er53⟩ := hp
            replace hI : md_I D cs H x g (upd i 0 1) f := hI
            refine lv_eqi (y := 0) er53 ?_
            refine lv_if_ne (x := 0) (tgt := 61) hx hb d_Md_merge_56 (by decide) (fun c56 => ?_) (fun c56 => ?_)
            · exact absurd c56 (by decide)
            · skip
              refine lv_iconst (v := 0) hx hb d_Md_merge_59 (by decide) ?_
              exact W.iret (v := 0) hx hb hr (fun t ht hW => ⟨⟨0, H, rfl, by dsimp only; have e0 : (isN n qa && isN n qb) = false := (by first | (simp [c6, c14, c28, c38, c45]; done) | (simp [c6, c14, c28, c38, c45]; omega) | omega | simp_all); have e1 : (decide (mg < 60)) = true := (by first | (simp [c6, c14, c28, c38, c45]; done) | (simp [c6, c14, c28, c38, c45]; omega) | omega | simp_all); have e2 : (!decide (qa = qb) && isD dy) = false := (by first | (simp [c6, c14, c28, c38, c45]; done) | (simp [c6, c14, c28, c38, c45]; omega) | omega | simp_all); rw [e0, e1, e2]; rw [if_neg (show ¬ goB false true false = true by simp [goB])]; exact ⟨hI, rfl⟩, ht⟩, hS.F ht⟩) hS.2.2 d_Md_merge_60
          · skip
            replace c45 : (isD dy) = true := bI_1 c45
            refine lv_iconst (v := 1) hx hb d_Md_merge_48 (by decide) ?_
            refine lv_goto (tgt := 53) hx hb d_Md_merge_49 (by decide) ?_
            refine h_calli (va_runV (As := [.int 0, .int 1, .int 1]) (rest := []) ⟨hx, hb, hml, hown, htg⟩ (c_Md_goes l D cs N0 H x g i f false true true hsep hI) (cwV 3 htg (gw_V (gw_mem (i := 1092) (by decide +kernel) rfl) (gw_mem (i := 1094) (by decide +kernel) rfl) (gw_mem (i := 18) (by decide +kernel) rfl) (gw_mem (i := 38) (by decide +kernel) rfl) (gw_mem (i := 1095) (by decide +kernel) rfl)) rfl rfl rfl (by decide +kernel) ⟨Nat.le_of_ble_eq_true rfl, Nat.le_of_ble_eq_true rfl⟩) ⟨hPre.blind, hx_recv hK (ci := 0) rfl hI.1, hPre.at hB hS hsep.A⟩ rfl rfl hl.1 rfl (lv_room (Nat.le_of_ble_eq_true rfl)) d_Md_merge_53 ⟨Nat.zero_le _, Nat.zero_le _⟩) hS (fun _ h => h) (fun r53 H locs hp hz hk hS => ?_)
            obtain ⟨hI, er53⟩ := hp
            replace hI : md_I D cs H x g (upd i 0 1) f := hI
            refine lv_eqi (y := 0) er53 ?_
            refine lv_if_ne (x := 0) (tgt := 61) hx hb d_Md_merge_56 (by decide) (fun c56 => ?_) (fun c56 => ?_)
            · exact absurd c56 (by decide)
            · skip
              refine lv_iconst (v := 0) hx hb d_Md_merge_59 (by decide) ?_
              exact W.iret (v := 0) hx hb hr (fun t ht hW => ⟨⟨0, H, rfl, by dsimp only; have e0 : (isN n qa && isN n qb) = false := (by first | (simp [c6, c14, c28, c38, c45]; done) | (simp [c6, c14, c28, c38, c45]; omega) | omega | simp_all); have e1 : (decide (mg < 60)) = true := (by first | (simp [c6, c14, c28, c38, c45]; done) | (simp [c6, c14, c28, c38, c45]; omega) | omega | simp_all); have e2 : (!decide (qa = qb) && isD dy) = true := (by first | (simp [c6, c14, c28, c38, c45]; done) | (simp [c6, c14, c28, c38, c45]; omega) | omega | simp_all); rw [e0, e1, e2]; rw [if_neg (show ¬ goB false true true = true by simp [goB])]; exact ⟨hI, rfl⟩, ht⟩, hS.F ht⟩) hS.2.2 d_Md_merge_60
    · skip
      replace c14 : (isN n qb) = true := bI_1 c14
      refine lv_iconst (v := 1) hx hb d_Md_merge_17 (by decide) ?_
      refine lv_goto (tgt := 22) hx hb d_Md_merge_18 (by decide) ?_
      refine lv_aload_n hx hb d_Md_merge_22 rfl (lv_at hl 0 rfl) ?_
      refine hx_get (v := .int (i 3)) hx hb htg iMd hown hK hI.1 rfl 16 (by decide) (htg _ (gw_mem (i := 1014) (by decide +kernel) rfl)) (fun _ h9 => h9) rfl d_Md_merge_23 ?_
      refine lv_eqi (y := (nI mg)) hmg ?_
      refine lv_bipush (v := 60) hx hb d_Md_merge_26 (by decide) ?_
      refine lv_icmp_ge (x := (nI mg)) (y := 60) (tgt := 35) hx hb d_Md_merge_28 (by decide) (fun c28 => ?_) (fun c28 => ?_)
      · skip
        replace c28 : 60 ≤ mg := (nI_leI (a := 60) (b := mg) (by omega) (by omega)).mp c28
        refine lv_iconst (v := 0) hx hb d_Md_merge_35 (by decide) ?_
        refine lv_iload_n hx hb d_Md_merge_36 rfl (lv_at hl 1 rfl) ?_
        refine lv_iload_n hx hb d_Md_merge_37 rfl (lv_at hl 2 rfl) ?_
        refine lv_icmp_eq (x := qa) (y := qb) (tgt := 52) hx hb d_Md_merge_38 (by decide) (fun c38 => ?_) (fun c38 => ?_)
        · skip
          refine lv_iconst (v := 0) hx hb d_Md_merge_52 (by decide) ?_
          refine h_calli (va_runV (As := [.int 1, .int 0, .int 0]) (rest := []) ⟨hx, hb, hml, hown, htg⟩ (c_Md_goes l D cs N0 H x g i f true false false hsep hI) (cwV 3 htg (gw_V (gw_mem (i := 1092) (by decide +kernel) rfl) (gw_mem (i := 1094) (by decide +kernel) rfl) (gw_mem (i := 18) (by decide +kernel) rfl) (gw_mem (i := 38) (by decide +kernel) rfl) (gw_mem (i := 1095) (by decide +kernel) rfl)) rfl rfl rfl (by decide +kernel) ⟨Nat.le_of_ble_eq_true rfl, Nat.le_of_ble_eq_true rfl⟩) ⟨hPre.blind, hx_recv hK (ci := 0) rfl hI.1, hPre.at hB hS hsep.A⟩ rfl rfl hl.1 rfl (lv_room (Nat.le_of_ble_eq_true rfl)) d_Md_merge_53 ⟨Nat.zero_le _, Nat.zero_le _⟩) hS (fun _ h => h) (fun r53 H locs hp hz hk hS => ?_)
          obtain ⟨hI, er53⟩ := hp
          replace hI : md_I D cs H x g (upd i 0 2) f := hI
          refine lv_eqi (y := 0) er53 ?_
          refine lv_if_ne (x := 0) (tgt := 61) hx hb d_Md_merge_56 (by decide) (fun c56 => ?_) (fun c56 => ?_)
          · exact absurd c56 (by decide)
          · skip
            refine lv_iconst (v := 0) hx hb d_Md_merge_59 (by decide) ?_
            exact W.iret (v := 0) hx hb hr (fun t ht hW => ⟨⟨0, H, rfl, by dsimp only; have e0 : (isN n qa && isN n qb) = true := (by first | (simp [c6, c14, c28, c38]; done) | (simp [c6, c14, c28, c38]; omega) | omega | simp_all); have e1 : (decide (mg < 60)) = false := (by first | (simp [c6, c14, c28, c38]; done) | (simp [c6, c14, c28, c38]; omega) | omega | simp_all); have e2 : (!decide (qa = qb) && isD dy) = false := (by first | (simp [c6, c14, c28, c38]; done) | (simp [c6, c14, c28, c38]; omega) | omega | simp_all); rw [e0, e1, e2]; rw [if_neg (show ¬ goB true false false = true by simp [goB])]; exact ⟨hI, rfl⟩, ht⟩, hS.F ht⟩) hS.2.2 d_Md_merge_60
        · skip
          refine lv_iload_n hx hb d_Md_merge_41 rfl (lv_at hl 3 rfl) ?_
          refine h_calli (va_runS (As := [.int dy]) (rest := [.int 0, .int 1, .ref x]) ⟨hx, hb, hml, hown, htg⟩ (c_Md_isDay l D cs N0 H x g i f dy hsep hI) (cwS 1 htg (gw_S (gw_mem (i := 1112) (by decide +kernel) rfl) (gw_mem (i := 1113) (by decide +kernel) rfl) (gw_mem (i := 38) (by decide +kernel) rfl) (gw_mem (i := 1114) (by decide +kernel) rfl)) rfl rfl rfl (by decide +kernel) ⟨Nat.le_of_ble_eq_true rfl, Nat.le_of_ble_eq_true rfl⟩) ⟨hPre.blind, hPre.at hB hS hsep.A⟩ rfl rfl hl.1 rfl (lv_room (Nat.le_of_ble_eq_true rfl)) d_Md_merge_42 ⟨Nat.zero_le _, Nat.zero_le _⟩) hS (fun _ h => h) (fun r42 H locs hp hz hk hS => ?_)
          obtain ⟨hI, er42⟩ := hp
          refine lv_eqi (y := (bI (isD dy))) er42 ?_
          refine lv_if_eq (x := (bI (isD dy))) (tgt := 52) hx hb d_Md_merge_45 (by decide) (fun c45 => ?_) (fun c45 => ?_)
          · skip
            replace c45 : (isD dy) = false := bI_0 c45
            refine lv_iconst (v := 0) hx hb d_Md_merge_52 (by decide) ?_
            refine h_calli (va_runV (As := [.int 1, .int 0, .int 0]) (rest := []) ⟨hx, hb, hml, hown, htg⟩ (c_Md_goes l D cs N0 H x g i f true false false hsep hI) (cwV 3 htg (gw_V (gw_mem (i := 1092) (by decide +kernel) rfl) (gw_mem (i := 1094) (by decide +kernel) rfl) (gw_mem (i := 18) (by decide +kernel) rfl) (gw_mem (i := 38) (by decide +kernel) rfl) (gw_mem (i := 1095) (by decide +kernel) rfl)) rfl rfl rfl (by decide +kernel) ⟨Nat.le_of_ble_eq_true rfl, Nat.le_of_ble_eq_true rfl⟩) ⟨hPre.blind, hx_recv hK (ci := 0) rfl hI.1, hPre.at hB hS hsep.A⟩ rfl rfl hl.1 rfl (lv_room (Nat.le_of_ble_eq_true rfl)) d_Md_merge_53 ⟨Nat.zero_le _, Nat.zero_le _⟩) hS (fun _ h => h) (fun r53 H locs hp hz hk hS => ?_)
            obtain ⟨hI, er53⟩ := hp
            replace hI : md_I D cs H x g (upd i 0 2) f := hI
            refine lv_eqi (y := 0) er53 ?_
            refine lv_if_ne (x := 0) (tgt := 61) hx hb d_Md_merge_56 (by decide) (fun c56 => ?_) (fun c56 => ?_)
            · exact absurd c56 (by decide)
            · skip
              refine lv_iconst (v := 0) hx hb d_Md_merge_59 (by decide) ?_
              exact W.iret (v := 0) hx hb hr (fun t ht hW => ⟨⟨0, H, rfl, by dsimp only; have e0 : (isN n qa && isN n qb) = true := (by first | (simp [c6, c14, c28, c38, c45]; done) | (simp [c6, c14, c28, c38, c45]; omega) | omega | simp_all); have e1 : (decide (mg < 60)) = false := (by first | (simp [c6, c14, c28, c38, c45]; done) | (simp [c6, c14, c28, c38, c45]; omega) | omega | simp_all); have e2 : (!decide (qa = qb) && isD dy) = false := (by first | (simp [c6, c14, c28, c38, c45]; done) | (simp [c6, c14, c28, c38, c45]; omega) | omega | simp_all); rw [e0, e1, e2]; rw [if_neg (show ¬ goB true false false = true by simp [goB])]; exact ⟨hI, rfl⟩, ht⟩, hS.F ht⟩) hS.2.2 d_Md_merge_60
          · skip
            replace c45 : (isD dy) = true := bI_1 c45
            refine lv_iconst (v := 1) hx hb d_Md_merge_48 (by decide) ?_
            refine lv_goto (tgt := 53) hx hb d_Md_merge_49 (by decide) ?_
            refine h_calli (va_runV (As := [.int 1, .int 0, .int 1]) (rest := []) ⟨hx, hb, hml, hown, htg⟩ (c_Md_goes l D cs N0 H x g i f true false true hsep hI) (cwV 3 htg (gw_V (gw_mem (i := 1092) (by decide +kernel) rfl) (gw_mem (i := 1094) (by decide +kernel) rfl) (gw_mem (i := 18) (by decide +kernel) rfl) (gw_mem (i := 38) (by decide +kernel) rfl) (gw_mem (i := 1095) (by decide +kernel) rfl)) rfl rfl rfl (by decide +kernel) ⟨Nat.le_of_ble_eq_true rfl, Nat.le_of_ble_eq_true rfl⟩) ⟨hPre.blind, hx_recv hK (ci := 0) rfl hI.1, hPre.at hB hS hsep.A⟩ rfl rfl hl.1 rfl (lv_room (Nat.le_of_ble_eq_true rfl)) d_Md_merge_53 ⟨Nat.zero_le _, Nat.zero_le _⟩) hS (fun _ h => h) (fun r53 H locs hp hz hk hS => ?_)
            obtain ⟨hI, er53⟩ := hp
            replace hI : md_I D cs H x g (upd i 0 2) f := hI
            refine lv_eqi (y := 0) er53 ?_
            refine lv_if_ne (x := 0) (tgt := 61) hx hb d_Md_merge_56 (by decide) (fun c56 => ?_) (fun c56 => ?_)
            · exact absurd c56 (by decide)
            · skip
              refine lv_iconst (v := 0) hx hb d_Md_merge_59 (by decide) ?_
              exact W.iret (v := 0) hx hb hr (fun t ht hW => ⟨⟨0, H, rfl, by dsimp only; have e0 : (isN n qa && isN n qb) = true := (by first | (simp [c6, c14, c28, c38, c45]; done) | (simp [c6, c14, c28, c38, c45]; omega) | omega | simp_all); have e1 : (decide (mg < 60)) = false := (by first | (simp [c6, c14, c28, c38, c45]; done) | (simp [c6, c14, c28, c38, c45]; omega) | omega | simp_all); have e2 : (!decide (qa = qb) && isD dy) = true := (by first | (simp [c6, c14, c28, c38, c45]; done) | (simp [c6, c14, c28, c38, c45]; omega) | omega | simp_all); rw [e0, e1, e2]; rw [if_neg (show ¬ goB true false true = true by simp [goB])]; exact ⟨hI, rfl⟩, ht⟩, hS.F ht⟩) hS.2.2 d_Md_merge_60
      · skip
        replace c28 : ¬ (60 ≤ mg) := fun z9 => c28 ((nI_leI (a := 60) (b := mg) (by omega) (by omega)).mpr z9)
        refine lv_iconst (v := 1) hx hb d_Md_merge_31 (by decide) ?_
        refine lv_goto (tgt := 36) hx hb d_Md_merge_32 (by decide) ?_
        refine lv_iload_n hx hb d_Md_merge_36 rfl (lv_at hl 1 rfl) ?_
        refine lv_iload_n hx hb d_Md_merge_37 rfl (lv_at hl 2 rfl) ?_
        refine lv_icmp_eq (x := qa) (y := qb) (tgt := 52) hx hb d_Md_merge_38 (by decide) (fun c38 => ?_) (fun c38 => ?_)
        · skip
          refine lv_iconst (v := 0) hx hb d_Md_merge_52 (by decide) ?_
          refine h_calli (va_runV (As := [.int 1, .int 1, .int 0]) (rest := []) ⟨hx, hb, hml, hown, htg⟩ (c_Md_goes l D cs N0 H x g i f true true false hsep hI) (cwV 3 htg (gw_V (gw_mem (i := 1092) (by decide +kernel) rfl) (gw_mem (i := 1094) (by decide +kernel) rfl) (gw_mem (i := 18) (by decide +kernel) rfl) (gw_mem (i := 38) (by decide +kernel) rfl) (gw_mem (i := 1095) (by decide +kernel) rfl)) rfl rfl rfl (by decide +kernel) ⟨Nat.le_of_ble_eq_true rfl, Nat.le_of_ble_eq_true rfl⟩) ⟨hPre.blind, hx_recv hK (ci := 0) rfl hI.1, hPre.at hB hS hsep.A⟩ rfl rfl hl.1 rfl (lv_room (Nat.le_of_ble_eq_true rfl)) d_Md_merge_53 ⟨Nat.zero_le _, Nat.zero_le _⟩) hS (fun _ h => h) (fun r53 H locs hp hz hk hS => ?_)
          obtain ⟨hI, er53⟩ := hp
          replace hI : md_I D cs H x g (upd i 0 3) f := hI
          refine lv_eqi (y := 0) er53 ?_
          refine lv_if_ne (x := 0) (tgt := 61) hx hb d_Md_merge_56 (by decide) (fun c56 => ?_) (fun c56 => ?_)
          · exact absurd c56 (by decide)
          · skip
            refine lv_iconst (v := 0) hx hb d_Md_merge_59 (by decide) ?_
            exact W.iret (v := 0) hx hb hr (fun t ht hW => ⟨⟨0, H, rfl, by dsimp only; have e0 : (isN n qa && isN n qb) = true := (by first | (simp [c6, c14, c28, c38]; done) | (simp [c6, c14, c28, c38]; omega) | omega | simp_all); have e1 : (decide (mg < 60)) = true := (by first | (simp [c6, c14, c28, c38]; done) | (simp [c6, c14, c28, c38]; omega) | omega | simp_all); have e2 : (!decide (qa = qb) && isD dy) = false := (by first | (simp [c6, c14, c28, c38]; done) | (simp [c6, c14, c28, c38]; omega) | omega | simp_all); rw [e0, e1, e2]; rw [if_neg (show ¬ goB true true false = true by simp [goB])]; exact ⟨hI, rfl⟩, ht⟩, hS.F ht⟩) hS.2.2 d_Md_merge_60
        · skip
          refine lv_iload_n hx hb d_Md_merge_41 rfl (lv_at hl 3 rfl) ?_
          refine h_calli (va_runS (As := [.int dy]) (rest := [.int 1, .int 1, .ref x]) ⟨hx, hb, hml, hown, htg⟩ (c_Md_isDay l D cs N0 H x g i f dy hsep hI) (cwS 1 htg (gw_S (gw_mem (i := 1112) (by decide +kernel) rfl) (gw_mem (i := 1113) (by decide +kernel) rfl) (gw_mem (i := 38) (by decide +kernel) rfl) (gw_mem (i := 1114) (by decide +kernel) rfl)) rfl rfl rfl (by decide +kernel) ⟨Nat.le_of_ble_eq_true rfl, Nat.le_of_ble_eq_true rfl⟩) ⟨hPre.blind, hPre.at hB hS hsep.A⟩ rfl rfl hl.1 rfl (lv_room (Nat.le_of_ble_eq_true rfl)) d_Md_merge_42 ⟨Nat.zero_le _, Nat.zero_le _⟩) hS (fun _ h => h) (fun r42 H locs hp hz hk hS => ?_)
          obtain ⟨hI, er42⟩ := hp
          refine lv_eqi (y := (bI (isD dy))) er42 ?_
          refine lv_if_eq (x := (bI (isD dy))) (tgt := 52) hx hb d_Md_merge_45 (by decide) (fun c45 => ?_) (fun c45 => ?_)
          · skip
            replace c45 : (isD dy) = false := bI_0 c45
            refine lv_iconst (v := 0) hx hb d_Md_merge_52 (by decide) ?_
            refine h_calli (va_runV (As := [.int 1, .int 1, .int 0]) (rest := []) ⟨hx, hb, hml, hown, htg⟩ (c_Md_goes l D cs N0 H x g i f true true false hsep hI) (cwV 3 htg (gw_V (gw_mem (i := 1092) (by decide +kernel) rfl) (gw_mem (i := 1094) (by decide +kernel) rfl) (gw_mem (i := 18) (by decide +kernel) rfl) (gw_mem (i := 38) (by decide +kernel) rfl) (gw_mem (i := 1095) (by decide +kernel) rfl)) rfl rfl rfl (by decide +kernel) ⟨Nat.le_of_ble_eq_true rfl, Nat.le_of_ble_eq_true rfl⟩) ⟨hPre.blind, hx_recv hK (ci := 0) rfl hI.1, hPre.at hB hS hsep.A⟩ rfl rfl hl.1 rfl (lv_room (Nat.le_of_ble_eq_true rfl)) d_Md_merge_53 ⟨Nat.zero_le _, Nat.zero_le _⟩) hS (fun _ h => h) (fun r53 H locs hp hz hk hS => ?_)
            obtain ⟨hI, er53⟩ := hp
            replace hI : md_I D cs H x g (upd i 0 3) f := hI
            refine lv_eqi (y := 0) er53 ?_
            refine lv_if_ne (x := 0) (tgt := 61) hx hb d_Md_merge_56 (by decide) (fun c56 => ?_) (fun c56 => ?_)
            · exact absurd c56 (by decide)
            · skip
              refine lv_iconst (v := 0) hx hb d_Md_merge_59 (by decide) ?_
              exact W.iret (v := 0) hx hb hr (fun t ht hW => ⟨⟨0, H, rfl, by dsimp only; have e0 : (isN n qa && isN n qb) = true := (by first | (simp [c6, c14, c28, c38, c45]; done) | (simp [c6, c14, c28, c38, c45]; omega) | omega | simp_all); have e1 : (decide (mg < 60)) = true := (by first | (simp [c6, c14, c28, c38, c45]; done) | (simp [c6, c14, c28, c38, c45]; omega) | omega | simp_all); have e2 : (!decide (qa = qb) && isD dy) = false := (by first | (simp [c6, c14, c28, c38, c45]; done) | (simp [c6, c14, c28, c38, c45]; omega) | omega | simp_all); rw [e0, e1, e2]; rw [if_neg (show ¬ goB true true false = true by simp [goB])]; exact ⟨hI, rfl⟩, ht⟩, hS.F ht⟩) hS.2.2 d_Md_merge_60
          · skip
            replace c45 : (isD dy) = true := bI_1 c45
            refine lv_iconst (v := 1) hx hb d_Md_merge_48 (by decide) ?_
            refine lv_goto (tgt := 53) hx hb d_Md_merge_49 (by decide) ?_
            refine h_calli (va_runV (As := [.int 1, .int 1, .int 1]) (rest := []) ⟨hx, hb, hml, hown, htg⟩ (c_Md_goes l D cs N0 H x g i f true true true hsep hI) (cwV 3 htg (gw_V (gw_mem (i := 1092) (by decide +kernel) rfl) (gw_mem (i := 1094) (by decide +kernel) rfl) (gw_mem (i := 18) (by decide +kernel) rfl) (gw_mem (i := 38) (by decide +kernel) rfl) (gw_mem (i := 1095) (by decide +kernel) rfl)) rfl rfl rfl (by decide +kernel) ⟨Nat.le_of_ble_eq_true rfl, Nat.le_of_ble_eq_true rfl⟩) ⟨hPre.blind, hx_recv hK (ci := 0) rfl hI.1, hPre.at hB hS hsep.A⟩ rfl rfl hl.1 rfl (lv_room (Nat.le_of_ble_eq_true rfl)) d_Md_merge_53 ⟨Nat.zero_le _, Nat.zero_le _⟩) hS (fun _ h => h) (fun r53 H locs hp hz hk hS => ?_)
            obtain ⟨hI, er53⟩ := hp
            replace hI : md_I D cs H x g (upd i 0 0) f := hI
            refine lv_eqi (y := 1) er53 ?_
            refine lv_if_ne (x := 1) (tgt := 61) hx hb d_Md_merge_56 (by decide) (fun c56 => ?_) (fun c56 => ?_)
            · skip
              obtain ⟨ha, ea⟩ := isN_n c6 (by omega)
              obtain ⟨hb1, eb⟩ := isN_n c14 (by omega)
              refine lv_aload_n hx hb d_Md_merge_61 rfl (lv_at hl 0 rfl) ?_
              refine hx_get (v := .ref (g 9)) hx hb htg iMd hown hK hI.1 rfl 12 (by decide) (htg _ (gw_mem (i := 1010) (by decide +kernel) rfl)) (fun _ h9 => h9) rfl d_Md_merge_62 ?_
              refine lv_bipush (v := 24) hx hb d_Md_merge_65 (by decide) ?_
              refine lv_iload_n hx hb d_Md_merge_67 rfl (lv_at hl 1 rfl) ?_
              refine lv_eqi (y := (nI (tn qa))) ea ?_
              refine lv_imul (x := 24) (y := (nI (tn qa))) hx hb d_Md_merge_68 ?_
              refine lv_eqi (y := (nI (24 * (tn qa)))) (pk_mul 24 (tn qa)) ?_
              refine lv_iload_n hx hb d_Md_merge_69 rfl (lv_at hl 2 rfl) ?_
              refine lv_eqi (y := (nI (tn qb))) eb ?_
              refine lv_iadd (x := (nI (24 * (tn qa)))) (y := (nI (tn qb))) hx hb d_Md_merge_70 ?_
              refine lv_eqi (y := (nI (24 * (tn qa) + tn qb))) (nI_add (24 * (tn qa)) (tn qb)) ?_
              refine hx_iald hx hb hK 0 (hI.2 9 (by decide)) rfl (show vp_in (nI (24 * (tn qa) + tn qb)) 576 from vp_in_nI (n := 24 * (tn qa) + tn qb) (by omega) (by decide)) d_Md_merge_71 ?_
              refine lv_eqi (y := (f 9 (24 * (tn qa) + tn qb))) (show f 9 (nI (24 * (tn qa) + tn qb)).toNatClampNeg = _ by rw [nI_clamp (by omega)]) ?_
              refine lv_iconst (v := 2) hx hb d_Md_merge_72 (by decide) ?_
              refine lv_icmp_ne (x := (f 9 (24 * (tn qa) + tn qb))) (y := 2) (tgt := 78) hx hb d_Md_merge_73 (by decide) (fun c73 => ?_) (fun c73 => ?_)
              · skip
                refine lv_aload_n hx hb d_Md_merge_78 rfl (lv_at hl 0 rfl) ?_
                refine lv_iload_n hx hb d_Md_merge_79 rfl (lv_at hl 1 rfl) ?_
                refine lv_eqi (y := (nI (tn qa))) ea ?_
                refine lv_iload_n hx hb d_Md_merge_80 rfl (lv_at hl 2 rfl) ?_
                refine lv_eqi (y := (nI (tn qb))) eb ?_
                refine lv_iload_n hx hb d_Md_merge_81 rfl (lv_at hl 3 rfl) ?_
                refine h_calli (va_runV (As := [.int (nI (tn qa)), .int (nI (tn qb)), .int dy]) (rest := []) ⟨hx, hb, hml, hown, htg⟩ (c_Md_everOne l D cs N0 H x g ((upd i 0 0)) f (tn qa) (tn qb) dy hsep hI mg hmg hmg60 mo mt hone hoth (by omega) (by omega)) (cwV 3 htg (gw_V (gw_mem (i := 1160) (by decide +kernel) rfl) (gw_mem (i := 1162) (by decide +kernel) rfl) (gw_mem (i := 24) (by decide +kernel) rfl) (gw_mem (i := 38) (by decide +kernel) rfl) (gw_mem (i := 1163) (by decide +kernel) rfl)) rfl rfl rfl (by decide +kernel) ⟨Nat.le_of_ble_eq_true rfl, Nat.le_of_ble_eq_true rfl⟩) ⟨hPre.blind, hx_recv hK (ci := 0) rfl hI.1, hPre.at hB hS hsep.A⟩ rfl rfl hl.1 rfl (lv_room (Nat.le_of_ble_eq_true rfl)) d_Md_merge_82 ⟨Nat.zero_le _, Nat.zero_le _⟩) hS (fun _ h => h) (fun r82 H locs hp hz hk hS => ?_)
                obtain ⟨G, hI, er82⟩ := hp
                refine lv_eqi (y := (bI (evB f mo mt mg (tn qa) (tn qb) dy))) er82 ?_
                refine lv_if_eq (x := (bI (evB f mo mt mg (tn qa) (tn qb) dy))) (tgt := 90) hx hb d_Md_merge_85 (by decide) (fun c85 => ?_) (fun c85 => ?_)
                · skip
                  replace c85 : (evB f mo mt mg (tn qa) (tn qb) dy) = false := bI_0 c85
                  refine lv_aload_n hx hb d_Md_merge_90 rfl (lv_at hl 0 rfl) ?_
                  refine hx_get (v := .ref (g 13)) hx hb htg iMd hown hK hI.1 rfl 17 (by decide) (htg _ (gw_mem (i := 1015) (by decide +kernel) rfl)) (fun _ h9 => h9) rfl d_Md_merge_91 ?_
                  refine lv_aload_n hx hb d_Md_merge_94 rfl (lv_at hl 0 rfl) ?_
                  refine hx_get (v := .int (i 3)) hx hb htg iMd hown hK hI.1 rfl 16 (by decide) (htg _ (gw_mem (i := 1014) (by decide +kernel) rfl)) (fun _ h9 => h9) rfl d_Md_merge_95 ?_
                  refine lv_eqi (y := (nI mg)) hmg ?_
                  refine lv_iload_n hx hb d_Md_merge_98 rfl (lv_at hl 1 rfl) ?_
                  refine hx_iast hx hb hK hS (Or.inr ⟨13, by decide, rfl⟩) 0 (hI.2 13 (by decide)) rfl (show vp_in (nI mg) 60 from vp_in_nI (n := mg) (by omega) (by decide)) d_Md_merge_99 (fun H locs hat hz ho hS => ?_)
                  replace hI : md_I D cs H x g (upd i 0 0) (updA (setA f 17 G) 13 mg (qa)) := md_I.puta hI hsep (by decide) (by rw [show ((nI mg) : Int32).toNatClampNeg = mg from nI_clamp (n := mg) (by omega)] at hat; exact hat) ho
                  refine lv_aload_n hx hb d_Md_merge_100 rfl (lv_at hl 0 rfl) ?_
                  refine hx_get (v := .ref (g 14)) hx hb htg iMd hown hK hI.1 rfl 18 (by decide) (htg _ (gw_mem (i := 1016) (by decide +kernel) rfl)) (fun _ h9 => h9) rfl d_Md_merge_101 ?_
                  refine lv_aload_n hx hb d_Md_merge_104 rfl (lv_at hl 0 rfl) ?_
                  refine hx_get (v := .int (i 3)) hx hb htg iMd hown hK hI.1 rfl 16 (by decide) (htg _ (gw_mem (i := 1014) (by decide +kernel) rfl)) (fun _ h9 => h9) rfl d_Md_merge_105 ?_
                  refine lv_eqi (y := (nI mg)) hmg ?_
                  refine lv_iload_n hx hb d_Md_merge_108 rfl (lv_at hl 2 rfl) ?_
                  refine hx_iast hx hb hK hS (Or.inr ⟨14, by decide, rfl⟩) 0 (hI.2 14 (by decide)) rfl (show vp_in (nI mg) 60 from vp_in_nI (n := mg) (by omega) (by decide)) d_Md_merge_109 (fun H locs hat hz ho hS => ?_)
                  replace hI : md_I D cs H x g (upd i 0 0) (updA (updA (setA f 17 G) 13 mg (qa)) 14 mg (qb)) := md_I.puta hI hsep (by decide) (by rw [show ((nI mg) : Int32).toNatClampNeg = mg from nI_clamp (n := mg) (by omega)] at hat; exact hat) ho
                  refine lv_aload_n hx hb d_Md_merge_110 rfl (lv_at hl 0 rfl) ?_
                  refine hx_get (v := .ref (g 15)) hx hb htg iMd hown hK hI.1 rfl 19 (by decide) (htg _ (gw_mem (i := 1017) (by decide +kernel) rfl)) (fun _ h9 => h9) rfl d_Md_merge_111 ?_
                  refine lv_aload_n hx hb d_Md_merge_114 rfl (lv_at hl 0 rfl) ?_
                  refine hx_get (v := .int (i 3)) hx hb htg iMd hown hK hI.1 rfl 16 (by decide) (htg _ (gw_mem (i := 1014) (by decide +kernel) rfl)) (fun _ h9 => h9) rfl d_Md_merge_115 ?_
                  refine lv_eqi (y := (nI mg)) hmg ?_
                  refine lv_iload_n hx hb d_Md_merge_118 rfl (lv_at hl 3 rfl) ?_
                  refine hx_iast hx hb hK hS (Or.inr ⟨15, by decide, rfl⟩) 0 (hI.2 15 (by decide)) rfl (show vp_in (nI mg) 60 from vp_in_nI (n := mg) (by omega) (by decide)) d_Md_merge_119 (fun H locs hat hz ho hS => ?_)
                  replace hI : md_I D cs H x g (upd i 0 0) (updA (updA (updA (setA f 17 G) 13 mg (qa)) 14 mg (qb)) 15 mg (dy)) := md_I.puta hI hsep (by decide) (by rw [show ((nI mg) : Int32).toNatClampNeg = mg from nI_clamp (n := mg) (by omega)] at hat; exact hat) ho
                  refine lv_aload_n hx hb d_Md_merge_120 rfl (lv_at hl 0 rfl) ?_
                  refine hx_get (v := .ref (g 16)) hx hb htg iMd hown hK hI.1 rfl 20 (by decide) (htg _ (gw_mem (i := 1018) (by decide +kernel) rfl)) (fun _ h9 => h9) rfl d_Md_merge_121 ?_
                  refine lv_aload_n hx hb d_Md_merge_124 rfl (lv_at hl 0 rfl) ?_
                  refine hx_get (v := .int (i 3)) hx hb htg iMd hown hK hI.1 rfl 16 (by decide) (htg _ (gw_mem (i := 1014) (by decide +kernel) rfl)) (fun _ h9 => h9) rfl d_Md_merge_125 ?_
                  refine lv_eqi (y := (nI mg)) hmg ?_
                  refine lv_iconst (v := (-1)) hx hb d_Md_merge_128 (by decide) ?_
                  refine hx_iast hx hb hK hS (Or.inr ⟨16, by decide, rfl⟩) 0 (hI.2 16 (by decide)) rfl (show vp_in (nI mg) 60 from vp_in_nI (n := mg) (by omega) (by decide)) d_Md_merge_129 (fun H locs hat hz ho hS => ?_)
                  replace hI : md_I D cs H x g (upd i 0 0) (updA (updA (updA (updA (setA f 17 G) 13 mg (qa)) 14 mg (qb)) 15 mg (dy)) 16 mg ((-1))) := md_I.puta hI hsep (by decide) (by rw [show ((nI mg) : Int32).toNatClampNeg = mg from nI_clamp (n := mg) (by omega)] at hat; exact hat) ho
                  refine lv_aload_n hx hb d_Md_merge_130 rfl (lv_at hl 0 rfl) ?_
                  refine lv_dup hx hb d_Md_merge_131 rfl ?_
                  refine hx_get (v := .int (i 3)) hx hb htg iMd hown hK hI.1 rfl 16 (by decide) (htg _ (gw_mem (i := 1014) (by decide +kernel) rfl)) (fun _ h9 => h9) rfl d_Md_merge_132 ?_
                  refine lv_eqi (y := (nI mg)) hmg ?_
                  refine lv_iconst (v := 1) hx hb d_Md_merge_135 (by decide) ?_
                  refine lv_iadd (x := (nI mg)) (y := 1) hx hb d_Md_merge_136 ?_
                  refine lv_eqi (y := (nI (mg + 1))) (nI_add mg 1) ?_
                  refine hx_put (ty := .int) (v := .int (nI (mg + 1))) hx hb htg iMd tMd tMd_ok nMd hown hK hI.1 hS (Or.inl rfl) rfl 16 (by decide) (htg _ (gw_mem (i := 1014) (by decide +kernel) rfl)) (fun _ h9 => h9) rfl (by decide +kernel) rfl rfl (Nat.le_of_ble_eq_true rfl) d_Md_merge_137 (fun H locs hat hz ho hS => ?_)
                  replace hI : md_I D cs H x g (upd (upd i 0 0) 3 ((nI (mg + 1)))) (updA (updA (updA (updA (setA f 17 G) 13 mg (qa)) 14 mg (qb)) 15 mg (dy)) 16 mg ((-1))) := md_I.puti hI hsep hat ho rfl
                  refine lv_iconst (v := 0) hx hb d_Md_merge_140 (by decide) ?_
                  exact W.iret (v := 0) hx hb hr (fun t ht hW => ⟨⟨0, H, rfl, by dsimp only; have e0 : (isN n qa && isN n qb) = true := (by first | (simp [c6, c14, c28, c38, c45, c73, c85]; done) | (simp [c6, c14, c28, c38, c45, c73, c85]; omega) | omega | simp_all); have e1 : (decide (mg < 60)) = true := (by first | (simp [c6, c14, c28, c38, c45, c73, c85]; done) | (simp [c6, c14, c28, c38, c45, c73, c85]; omega) | omega | simp_all); have e2 : (!decide (qa = qb) && isD dy) = true := (by first | (simp [c6, c14, c28, c38, c45, c73, c85]; done) | (simp [c6, c14, c28, c38, c45, c73, c85]; omega) | omega | simp_all); rw [e0, e1, e2]; rw [if_pos (show goB true true true = true from rfl)]; exact (by rw [if_neg c73, if_neg (by rw [c85]; decide)]; exact ⟨G, by rw [← updA_setA (by decide), ← updA_setA (by decide), ← updA_setA (by decide), ← updA_setA (by decide)]; exact hI, rfl⟩), ht⟩, hS.F ht⟩) hS.2.2 d_Md_merge_141
                · skip
                  replace c85 : (evB f mo mt mg (tn qa) (tn qb) dy) = true := bI_1 c85
                  refine lv_iconst (v := 2) hx hb d_Md_merge_88 (by decide) ?_
                  exact W.iret (v := 2) hx hb hr (fun t ht hW => ⟨⟨2, H, rfl, by dsimp only; have e0 : (isN n qa && isN n qb) = true := (by first | (simp [c6, c14, c28, c38, c45, c73, c85]; done) | (simp [c6, c14, c28, c38, c45, c73, c85]; omega) | omega | simp_all); have e1 : (decide (mg < 60)) = true := (by first | (simp [c6, c14, c28, c38, c45, c73, c85]; done) | (simp [c6, c14, c28, c38, c45, c73, c85]; omega) | omega | simp_all); have e2 : (!decide (qa = qb) && isD dy) = true := (by first | (simp [c6, c14, c28, c38, c45, c73, c85]; done) | (simp [c6, c14, c28, c38, c45, c73, c85]; omega) | omega | simp_all); rw [e0, e1, e2]; rw [if_pos (show goB true true true = true from rfl)]; exact (by rw [if_neg c73, if_pos c85]; exact ⟨G, hI, rfl⟩), ht⟩, hS.F ht⟩) hS.2.2 d_Md_merge_89
              · skip
                refine lv_iconst (v := 1) hx hb d_Md_merge_76 (by decide) ?_
                exact W.iret (v := 1) hx hb hr (fun t ht hW => ⟨⟨1, H, rfl, by dsimp only; have e0 : (isN n qa && isN n qb) = true := (by first | (simp [c6, c14, c28, c38, c45, c73]; done) | (simp [c6, c14, c28, c38, c45, c73]; omega) | omega | simp_all); have e1 : (decide (mg < 60)) = true := (by first | (simp [c6, c14, c28, c38, c45, c73]; done) | (simp [c6, c14, c28, c38, c45, c73]; omega) | omega | simp_all); have e2 : (!decide (qa = qb) && isD dy) = true := (by first | (simp [c6, c14, c28, c38, c45, c73]; done) | (simp [c6, c14, c28, c38, c45, c73]; omega) | omega | simp_all); rw [e0, e1, e2]; rw [if_pos (show goB true true true = true from rfl)]; exact (by rw [if_pos c73]; exact ⟨hI, rfl⟩), ht⟩, hS.F ht⟩) hS.2.2 d_Md_merge_77
            · exact absurd c56 (by decide)
def y_Md_as : MethodName := ⟨"NameMergesModel", "as", "(II)I"⟩
abbrev w_Md_as : List Cond := Cond.code y_Md_as prog_7_method_23_code 3 (Option.some Jvm.ClassFile.FieldType.int) :: gw
theorem d_Md_as_0 : decode prog_7_method_23_code 0 = .ok (.aload_n 0, 1) := by decide +kernel
theorem d_Md_as_1 : decode prog_7_method_23_code 1 = .ok (.aload_n 0, 1) := by decide +kernel
theorem d_Md_as_2 : decode prog_7_method_23_code 2 = .ok (.iload_n 1, 1) := by decide +kernel
theorem d_Md_as_3 : decode prog_7_method_23_code 3 = .ok (.invokevirtual 92, 3) := by decide +kernel
theorem d_Md_as_6 : decode prog_7_method_23_code 6 = .ok (.iload_n 2, 1) := by decide +kernel
theorem d_Md_as_7 : decode prog_7_method_23_code 7 = .ok (.invokestatic 96, 3) := by decide +kernel
theorem d_Md_as_10 : decode prog_7_method_23_code 10 = .ok (.iconst 1, 1) := by decide +kernel
theorem d_Md_as_11 : decode prog_7_method_23_code 11 = .ok (.invokevirtual 88, 3) := by decide +kernel
theorem d_Md_as_14 : decode prog_7_method_23_code 14 = .ok (.ifCond .ne 5, 3) := by decide +kernel
theorem d_Md_as_17 : decode prog_7_method_23_code 17 = .ok (.iconst 0, 1) := by decide +kernel
theorem d_Md_as_18 : decode prog_7_method_23_code 18 = .ok (.ireturn, 1) := by decide +kernel
theorem d_Md_as_19 : decode prog_7_method_23_code 19 = .ok (.aload_n 0, 1) := by decide +kernel
theorem d_Md_as_20 : decode prog_7_method_23_code 20 = .ok (.iload_n 2, 1) := by decide +kernel
theorem d_Md_as_21 : decode prog_7_method_23_code 21 = .ok (.invokevirtual 109, 3) := by decide +kernel
theorem d_Md_as_24 : decode prog_7_method_23_code 24 = .ok (.aload_n 0, 1) := by decide +kernel
theorem d_Md_as_25 : decode prog_7_method_23_code 25 = .ok (.getfield 62, 3) := by decide +kernel
theorem d_Md_as_28 : decode prog_7_method_23_code 28 = .ok (.iload_n 1, 1) := by decide +kernel
theorem d_Md_as_29 : decode prog_7_method_23_code 29 = .ok (.iaload, 1) := by decide +kernel
theorem d_Md_as_30 : decode prog_7_method_23_code 30 = .ok (.ireturn, 1) := by decide +kernel
set_option maxHeartbeats 4000000 in
set_option maxRecDepth 100000 in
theorem c_Md_as (l : Launch) (D : va_G) (cs : Nat → ClassId) (N0 : Nat) (H : Heap) (x : Nat) (g : Nat → Nat) (i : Nat → Int32) (f : Nat → Nat → Int32) (q dy : Int32) (hsep : md_sep N0 x g) (hI : md_I D cs H x g i f) (n : Nat) (hn : i 2 = nI n) (hn24 : n ≤ 24) (mg : Nat) (hmg : i 3 = nI mg) (hmg60 : mg ≤ 60) (mo mt : Nat → Nat) (hone : ∀ k, k < mg → f 13 k = nI (mo k) ∧ mo k < 24) (hoth : ∀ k, k < mg → f 14 k = nI (mt k) ∧ mt k < 24) : Met l y_Md_as w_Md_as ({ frames := 1, cells := 0, slots := 0, locals := 25 }) (hPre D cs N0 [.ref x, .int q, .int dy] H) (hQi (fun r H' => if goB (isN n q) (isD dy) true = true then (∃ (G : Nat → Int32) (z : Nat), md_I D cs H' x g (upd i 0 (goV (isN n q) (isD dy) true)) (setA f 17 G) ∧ r = nI z ∧ conn mo mt (holdB f dy) mg (tn q) z ∧ ∀ y, conn mo mt (holdB f dy) mg (tn q) y → z ≤ y) else (md_I D cs H' x g (upd i 0 (goV (isN n q) (isD dy) true)) f ∧ r = 0)) (md_A x g)) 0 0 (md_A x g) := by
  refine Met.ofW (cc := prog_7_method_23_code) (maxL := 3) (ret := (Option.some Jvm.ClassFile.FieldType.int)) (by decide) rfl ?_
  intro p e s m args below meth c s₁ B hml hv
  obtain ⟨rfl, rfl, hB⟩ := hv
  have hx := B.exec
  have hb := B.bytes
  have hr := B.returns
  have hts := atoms_spec (ws := w_Md_as) B.pre
  have htg : ∀ w ∈ gw, w.before _ s = true := fun w h => hts w (List.mem_cons_of_mem _ h)
  have hown : s.vm.findClass "NameMergesModel" = some m.cls := findClass_of_methodNamed B.named
  have hlocks := B.notSynchronized
  have hK := hB.1
  have hS : va_S (md_A x g) s.heap s.heap [] := va_S.rf
  obtain ⟨H, hH⟩ : ∃ z : Heap, z = s.heap := ⟨_, rfl⟩
  rw [← hH] at hI
  have hS : va_S (md_A x g) s.heap H [] := by rw [hH]; exact va_S.rf
  have hl := lv_entry ([.ref x, .int q, .int dy]) (n := 3) (Nat.le_of_ble_eq_true rfl)
  rw [lg_entry_eq, ← hH]
  generalize (lg_sl ([.ref x, .int q, .int dy]) ++ List.replicate (3 - (lg_sl ([.ref x, .int q, .int dy])).length) Slot.unset).toArray = ls at hl ⊢
  have hl : lv_has ls 3 [(0, .ref x), (1, .int q), (2, .int dy)] := hl
  refine lv_aload_n hx hb d_Md_as_0 rfl (lv_at hl 0 rfl) ?_
  refine lv_aload_n hx hb d_Md_as_1 rfl (lv_at hl 0 rfl) ?_
  refine lv_iload_n hx hb d_Md_as_2 rfl (lv_at hl 1 rfl) ?_
  refine h_calli (va_runV (As := [.int q]) (rest := [.ref x]) ⟨hx, hb, hml, hown, htg⟩ (c_Md_isName l D cs N0 H x g i f q hsep hI n hn) (cwV 1 htg (gw_V (gw_mem (i := 1108) (by decide +kernel) rfl) (gw_mem (i := 1110) (by decide +kernel) rfl) (gw_mem (i := 19) (by decide +kernel) rfl) (gw_mem (i := 38) (by decide +kernel) rfl) (gw_mem (i := 1111) (by decide +kernel) rfl)) rfl rfl rfl (by decide +kernel) ⟨Nat.le_of_ble_eq_true rfl, Nat.le_of_ble_eq_true rfl⟩) ⟨hPre.blind, hx_recv hK (ci := 0) rfl hI.1, hPre.at hB hS hsep.A⟩ rfl rfl hl.1 rfl (lv_room (Nat.le_of_ble_eq_true rfl)) d_Md_as_3 ⟨Nat.zero_le _, Nat.zero_le _⟩) hS (fun _ h => h) (fun r3 H locs hp hz hk hS => ?_)
  obtain ⟨hI, er3⟩ := hp
  refine lv_eqi (y := (bI (isN n q))) er3 ?_
  refine lv_iload_n hx hb d_Md_as_6 rfl (lv_at hl 2 rfl) ?_
  refine h_calli (va_runS (As := [.int dy]) (rest := [.int (bI (isN n q)), .ref x]) ⟨hx, hb, hml, hown, htg⟩ (c_Md_isDay l D cs N0 H x g i f dy hsep hI) (cwS 1 htg (gw_S (gw_mem (i := 1112) (by decide +kernel) rfl) (gw_mem (i := 1113) (by decide +kernel) rfl) (gw_mem (i := 38) (by decide +kernel) rfl) (gw_mem (i := 1114) (by decide +kernel) rfl)) rfl rfl rfl (by decide +kernel) ⟨Nat.le_of_ble_eq_true rfl, Nat.le_of_ble_eq_true rfl⟩) ⟨hPre.blind, hPre.at hB hS hsep.A⟩ rfl rfl hl.1 rfl (lv_room (Nat.le_of_ble_eq_true rfl)) d_Md_as_7 ⟨Nat.zero_le _, Nat.zero_le _⟩) hS (fun _ h => h) (fun r7 H locs hp hz hk hS => ?_)
  obtain ⟨hI, er7⟩ := hp
  refine lv_eqi (y := (bI (isD dy))) er7 ?_
  refine lv_iconst (v := 1) hx hb d_Md_as_10 (by decide) ?_
  refine h_calli (va_runV (As := [.int (bI (isN n q)), .int (bI (isD dy)), .int 1]) (rest := []) ⟨hx, hb, hml, hown, htg⟩ (c_Md_goes l D cs N0 H x g i f (isN n q) (isD dy) true hsep hI) (cwV 3 htg (gw_V (gw_mem (i := 1092) (by decide +kernel) rfl) (gw_mem (i := 1094) (by decide +kernel) rfl) (gw_mem (i := 18) (by decide +kernel) rfl) (gw_mem (i := 38) (by decide +kernel) rfl) (gw_mem (i := 1095) (by decide +kernel) rfl)) rfl rfl rfl (by decide +kernel) ⟨Nat.le_of_ble_eq_true rfl, Nat.le_of_ble_eq_true rfl⟩) ⟨hPre.blind, hx_recv hK (ci := 0) rfl hI.1, hPre.at hB hS hsep.A⟩ rfl rfl hl.1 rfl (lv_room (Nat.le_of_ble_eq_true rfl)) d_Md_as_11 ⟨Nat.zero_le _, Nat.zero_le _⟩) hS (fun _ h => h) (fun r11 H locs hp hz hk hS => ?_)
  obtain ⟨hI, er11⟩ := hp
  refine lv_eqi (y := (bI (goB (isN n q) (isD dy) true))) er11 ?_
  refine lv_if_ne (x := (bI (goB (isN n q) (isD dy) true))) (tgt := 19) hx hb d_Md_as_14 (by decide) (fun c14 => ?_) (fun c14 => ?_)
  · skip
    replace c14 : (goB (isN n q) (isD dy) true) = true := bI_1 c14
    have hq : isN n q = true := by revert c14; simp [goB]; intro z9 _; exact z9
    obtain ⟨ha, ea⟩ := isN_n hq (by omega)
    refine lv_aload_n hx hb d_Md_as_19 rfl (lv_at hl 0 rfl) ?_
    refine lv_iload_n hx hb d_Md_as_20 rfl (lv_at hl 2 rfl) ?_
    refine h_callv (va_runV (As := [.int dy]) (rest := []) ⟨hx, hb, hml, hown, htg⟩ (c_Md_join l D cs N0 H x g ((upd i 0 (goV (isN n q) (isD dy) true))) f dy hsep hI mg hmg hmg60 mo mt hone hoth) (cwV 1 htg (gw_V (gw_mem (i := 1136) (by decide +kernel) rfl) (gw_mem (i := 1138) (by decide +kernel) rfl) (gw_mem (i := 22) (by decide +kernel) rfl) (gw_mem (i := 38) (by decide +kernel) rfl) (gw_mem (i := 1139) (by decide +kernel) rfl)) rfl rfl rfl (by decide +kernel) ⟨Nat.le_of_ble_eq_true rfl, Nat.le_of_ble_eq_true rfl⟩) ⟨hPre.blind, hx_recv hK (ci := 0) rfl hI.1, hPre.at hB hS hsep.A⟩ rfl rfl hl.1 rfl (lv_room (Nat.le_of_ble_eq_true rfl)) d_Md_as_21 ⟨Nat.zero_le _, Nat.zero_le _⟩) hS (fun _ h => h) (fun  H locs hp hz hk hS => ?_)
    obtain ⟨G, gl, hI, hGgl, hCgl⟩ := hp
    refine lv_aload_n hx hb d_Md_as_24 rfl (lv_at hl 0 rfl) ?_
    refine hx_get (v := .ref (g 17)) hx hb htg iMd hown hK hI.1 rfl 21 (by decide) (htg _ (gw_mem (i := 1019) (by decide +kernel) rfl)) (fun _ h9 => h9) rfl d_Md_as_25 ?_
    refine lv_iload_n hx hb d_Md_as_28 rfl (lv_at hl 1 rfl) ?_
    refine lv_eqi (y := (nI (tn q))) ea ?_
    refine hx_iald hx hb hK 0 (hI.2 17 (by decide)) rfl (show vp_in (nI (tn q)) 24 from vp_in_nI (n := tn q) (by omega) (by decide)) d_Md_as_29 ?_
    refine lv_eqi (y := ((setA f 17 G) 17 (tn q))) (show (setA f 17 G) 17 (nI (tn q)).toNatClampNeg = _ by rw [nI_clamp (by omega)]) ?_
    refine lv_eqi (y := (nI (gl (tn q)))) (by rw [setA_self]; exact (hGgl (tn q) (by omega)).1) ?_
    exact W.iret (v := (nI (gl (tn q)))) hx hb hr (fun t ht hW => ⟨⟨(nI (gl (tn q))), H, rfl, by dsimp only; rw [if_pos c14]; exact ⟨G, gl (tn q), hI, rfl, gl_least hGgl hCgl (fun k hk => ⟨(hone k hk).2, (hoth k hk).2⟩) (by omega)⟩, ht⟩, hS.F ht⟩) hS.2.2 d_Md_as_30
  · skip
    replace c14 : (goB (isN n q) (isD dy) true) = false := bI_0 c14
    refine lv_iconst (v := 0) hx hb d_Md_as_17 (by decide) ?_
    exact W.iret (v := 0) hx hb hr (fun t ht hW => ⟨⟨0, H, rfl, by dsimp only; rw [if_neg (show ¬ goB (isN n q) (isD dy) true = true by rw [c14]; decide)]; exact ⟨hI, rfl⟩, ht⟩, hS.F ht⟩) hS.2.2 d_Md_as_18
