/-! more rows for calls, and small ones -/
section X
variable {p : Program} {l : Launch} {e : Env} {R : Room} {s : State} {m : MethodId} {args : Array Value} {below : List Frame} {meth : Method} {c : Code} {H : Heap} {locs : List Loc} {cells slots : Nat} {Q : State → Prop}
theorem x_cwB {own : String} {idx maxL : Nat} {y : MethodName} {cz : ByteArray} {ret : Option FieldType} {rm : Room} (n : Nat) (htg : ∀ w ∈ gw, w.before args s = true) (h5 : Cond.code y cz maxL ret ∈ gw) (hini : Cond.initialized y.cls ∈ gw) (hl : Cond.methodLink own idx y ∈ gw)
    (hd : y.cls ≠ "java/lang/invoke/MethodHandle" ∧ y.cls ≠ "java/lang/invoke/VarHandle" ∧ (parseMethodDescriptor y.desc).map (fun d => d.parameters.length) = some n) (hR : rm.frames + 1 ≤ R.frames ∧ 8 + (maxL + 11) + rm.locals ≤ R.locals) :
    CallB R s args own idx y cz maxL ret (Cond.code y cz maxL ret :: gw) rm rm.cells rm.slots n := callB_of n htg (gw_I h5) rfl rfl rfl (htg _ hini) (htg _ hl) hd hR
/-- a private method on an object of a subclass -/
theorem x_priv {C : String} {y y0 : MethodName} (hy : y.cls ≠ "java/lang/invoke/MethodHandle" ∧ y.cls ≠ "java/lang/invoke/VarHandle") (h0 : y0.cls = y.cls) (hs0 : (Cond.selects C y0 y0).before args s = true) (hpriv : (Cond.privateMethod y).before args s = true) (hinst : (Cond.instanceMethod y).before args s = true) :
    (Cond.selects C y y).before args s = true := by
  obtain ⟨c2, r2, m2, q1, q2, q3, q4, kP, hkP, hkPi⟩ := Cond.selects_spec hs0
  obtain ⟨mk, methM, hnamed, hmethM, -, -⟩ := Cond.instanceMethod_spec hinst
  have hfound : s.methodFound? y.cls y.name y.desc = some mk := State.methodFound?_of_named hnamed hy
  cases (State.methodFound?_of_named q3 (by rw [h0]; exact hy)).symm.trans q2
  have hcls : mk.cls = r2.cls := by
    have h1 := findClass_of_methodNamed hnamed
    have h2 := findClass_of_methodNamed q3
    rw [h0] at h2
    exact Option.some.inj (h1.symm.trans h2)
  have hsel : selectMethod {} s.vm c2 mk = .method mk := selectMethod_private hmethM (Cond.privateMethod_at hpriv mk methM hnamed hmethM)
  rw [← hcls] at hkP
  simp only [Cond.before, Cond.holds, Cond.value, q1, hfound, hnamed, hsel, hkP]
  simp
  exact hkPi
theorem x_wk {A A' : Nat → Prop} {H0 : Heap} (h : va_S A H0 H locs) (hA : ∀ q, A q → A' q) : va_S A' H0 H locs := ⟨h.1, fun x h1 h2 => h.2.1 x h1 (fun a => h2 (hA x a)), fun q hq => hA _ (h.2.2 q hq)⟩
theorem x_app {A : Nat → Prop} {H0 H1 : Heap} {L : List Loc} (h : va_S A H0 H locs) (hz : H.size ≤ H1.size) (hk : ∀ q : Nat, q < H.size → ¬ A q → H1[q]? = H[q]?) (hL : ∀ q ∈ L, A q.base) : va_S A H0 H1 (locs ++ L) :=
  ⟨Nat.le_trans h.1 hz, fun x h1 h2 => (hk x (Nat.lt_of_lt_of_le h1 h.1) h2).trans (h.2.1 x h1 h2), fun q hq => (List.mem_append.mp hq).elim (h.2.2 q) (hL q)⟩
theorem x_at {D : va_G} {cl : List vw_C} {tys : List (ClassId × FieldType)} {ci : Nat} {q : vw_C} (hK : va_K D cl tys s) (hc : cl[ci]? = some q) : ClassAt s q.1 (D.1 ci) := (hK.1 ci q hc).2
/-- a callee that reads alone and answers nothing -/
theorem h_purev {pc : Nat} {ls : Array Slot} {rest st0 : List Value} {A0 : Nat → Prop} {H0 : Heap} {av : Array Value} (hr : va_Run p l e R s m args below meth c H locs cells slots 0 0 (F0 m pc ls st0) rest (hQv (fun H' => H' = H) noA av) noA) (hS : va_S A0 H0 H locs)
    (kk : ∀ (locs1 : List Loc), va_S A0 H0 H locs1 → W p l e R s m args below meth c H locs1 cells slots Q (F0 m (pc + 3) ls rest)) : W p l e R s m args below meth c H locs cells slots Q (F0 m pc ls st0) :=
  h_callv hr hS (fun _ h => h.elim) (fun H1 locs1 hp _ _ hS1 => by
    subst hp
    exact kk locs1 hS1)
/-- copies of the first k words of an array into another -/
theorem hx_copyi {cc : ByteArray} {pc : Nat} {ls : Array Slot} {rest : List Value} {D : va_G} {cl : List vw_C} {tys : List (ClassId × FieldType)} {A : Nat → Prop} {H0 : Heap} (hexec : p.tables.exec = Jvm.exec) (hb : c.code = cc) (hml : c.maxLocals = ls.size) {own : String} {index : Nat} (hown : s.vm.findClass own = some m.cls) (hlink : (Cond.methodLink own index arraycopyName).before args s = true) (hnat : (Cond.native arraycopyName).before args s = true) (hstat : (Cond.static arraycopyName).before args s = true) (hini : (Cond.initialized "java/lang/System").before args s = true)
    (hK : va_K D cl tys s) (t0 : Nat) {a0 a : Nat} {c0 : ClassId} {n0 n1 k : Nat} {f g : Nat → Int32} {ty : FieldType} (h0 : va_at D cl (a0, .inl (c0, n0, .inl f)) H) (h1 : va_at D cl (a, .inl (c0, n1, .inl g)) H) (hne : a0 ≠ a) (hA0 : A a0) (hA1 : A a) (hS : va_S A H0 H locs) (ht0 : tys[t0]? = some (c0, ty)) (hprim : refKind ty = false)
    (hk0 : k ≤ n0) (hk1 : k ≤ n1) (hkb : k < 2147483648) (hfit : ∀ i, i < k → fits ty (.int (f i)) = true)
    (hframes : 1 ≤ R.frames) (hlocals : (rest.map fun v => v.category).sum + (nativeFrameWords "java/lang/System" "arraycopy" 5 + 11) ≤ R.locals) (hdg : decode cc pc = .ok (.invokestatic index, 3))
    (kk : ∀ (H1 : Heap) (locs1 : List Loc), va_at D cl (a0, .inl (c0, n0, .inl f)) H1 → va_at D cl (a, .inl (c0, n1, .inl (va_cpy f g 0 0 k))) H1 → va_S A H0 H1 locs1 → W p l e R s m args below meth c H1 locs1 cells slots Q (F0 m (pc + 3) ls rest)) : W p l e R s m args below meth c H locs cells slots Q (F0 m pc ls (.int (nI k) :: .int 0 :: .ref a :: .int 0 :: .ref a0 :: rest)) := by
  have e9 : (nI k).toNatClampNeg = k := nI_clamp hkb
  have e0 : (0 : Int32).toNatClampNeg = 0 := rfl
  have hP : va_P D cl [(a0, .inl (c0, n0, .inl f)), (a, .inl (c0, n1, .inl g))] H := by
    intro i q hi
    match i with
    | 0 => cases hi; exact h0
    | 1 => cases hi; exact h1
    | i + 2 => cases hi
  have hD : va_D A [(a0, (Sum.inl (c0, n0, .inl f) : va_E)), (a, .inl (c0, n1, .inl g))] := by
    refine ⟨?_, ?_⟩
    · intro i j p9 q9 hi hj h
      match i, j with
      | 0, 0 => rfl
      | 1, 1 => rfl
      | 0, 1 => cases hi; cases hj; exact absurd h hne
      | 1, 0 => cases hi; cases hj; exact absurd h.symm hne
      | i + 2, _ => cases hi
      | _, j + 2 => cases hj
    · intro i q hi
      match i with
      | 0 => cases hi; exact hA0
      | 1 => cases hi; exact hA1
      | i + 2 => cases hi
  refine va_copyi hexec hb hml hown hlink hnat hstat hini hK hP hD hS 0 1 t0 t0 rfl rfl ht0 ht0 hprim (by decide) (by decide) (nI_pos hkb) (by rw [e9, e0]; omega) (by rw [e9, e0]; omega) (by rw [e9, e0]; intro i hi; rw [Nat.zero_add]; exact hfit i hi) hframes hlocals hdg (fun H1 locs1 hP1 _ hS1 => ?_)
  rw [e9, e0] at hP1
  exact kk H1 locs1 (hP1 0 _ rfl) (hP1 1 _ rfl) hS1
theorem hx_copyq {cc : ByteArray} {pc : Nat} {ls : Array Slot} {rest : List Value} {D : va_G} {cl : List vw_C} {tys : List (ClassId × FieldType)} {A : Nat → Prop} {H0 : Heap} (hexec : p.tables.exec = Jvm.exec) (hb : c.code = cc) (hml : c.maxLocals = ls.size) {own : String} {index : Nat} (hown : s.vm.findClass own = some m.cls) (hlink : (Cond.methodLink own index arraycopyName).before args s = true) (hnat : (Cond.native arraycopyName).before args s = true) (hstat : (Cond.static arraycopyName).before args s = true) (hini : (Cond.initialized "java/lang/System").before args s = true)
    (hK : va_K D cl tys s) (t0 : Nat) {a0 a : Nat} {c0 : ClassId} {n0 n1 k : Nat} {f g : Nat → Option Nat} {E C : String} (h0 : va_at D cl (a0, .inl (c0, n0, .inr (.inr (.inr (.inr f))))) H) (h1 : va_at D cl (a, .inl (c0, n1, .inr (.inr (.inr (.inr g))))) H) (hne : a0 ≠ a) (hA0 : A a0) (hA1 : A a) (hS : va_S A H0 H locs) (ht0 : tys[t0]? = some (c0, .object E))
    (hk0 : k ≤ n0) (hk1 : k ≤ n1) (hkb : k < 2147483648) (hel : ∀ i y : Nat, i < k → f i = some y → ∃ cellV : Cell, H[y]? = some cellV ∧ cellV.vm.isStatics = false ∧ s.vm.findClass C = some cellV.cls) (hca : va_Nw (.castable C E) s)
    (hframes : 1 ≤ R.frames) (hlocals : (rest.map fun v => v.category).sum + (nativeFrameWords "java/lang/System" "arraycopy" 5 + 11) ≤ R.locals) (hdg : decode cc pc = .ok (.invokestatic index, 3))
    (kk : ∀ (H1 : Heap) (locs1 : List Loc), va_at D cl (a0, .inl (c0, n0, .inr (.inr (.inr (.inr f))))) H1 → va_at D cl (a, .inl (c0, n1, .inr (.inr (.inr (.inr (va_cpy f g 0 0 k)))))) H1 → va_S A H0 H1 locs1 → W p l e R s m args below meth c H1 locs1 cells slots Q (F0 m (pc + 3) ls rest)) : W p l e R s m args below meth c H locs cells slots Q (F0 m pc ls (.int (nI k) :: .int 0 :: .ref a :: .int 0 :: .ref a0 :: rest)) := by
  have e9 : (nI k).toNatClampNeg = k := nI_clamp hkb
  have e0 : (0 : Int32).toNatClampNeg = 0 := rfl
  have hP : va_P D cl [(a0, .inl (c0, n0, .inr (.inr (.inr (.inr f))))), (a, .inl (c0, n1, .inr (.inr (.inr (.inr g)))))] H := by
    intro i q hi
    match i with
    | 0 => cases hi; exact h0
    | 1 => cases hi; exact h1
    | i + 2 => cases hi
  have hD : va_D A [(a0, (Sum.inl (c0, n0, .inr (.inr (.inr (.inr f)))) : va_E)), (a, .inl (c0, n1, .inr (.inr (.inr (.inr g)))))] := by
    refine ⟨?_, ?_⟩
    · intro i j p9 q9 hi hj h
      match i, j with
      | 0, 0 => rfl
      | 1, 1 => rfl
      | 0, 1 => cases hi; cases hj; exact absurd h hne
      | 1, 0 => cases hi; cases hj; exact absurd h.symm hne
      | i + 2, _ => cases hi
      | _, j + 2 => cases hj
    · intro i q hi
      match i with
      | 0 => cases hi; exact hA0
      | 1 => cases hi; exact hA1
      | i + 2 => cases hi
  refine va_copyq (C := C) hexec hb hml hown hlink hnat hstat hini hK hP hD hS 0 1 t0 t0 rfl rfl ht0 ht0 (by decide) (by decide) (nI_pos hkb) (by rw [e9, e0]; omega) (by rw [e9, e0]; omega) (by rw [e9, e0]; intro i hi y hy; rw [Nat.zero_add] at hy; exact hel i y hi hy) (vb_asgC hca) hframes hlocals hdg (fun H1 locs1 hP1 _ hS1 => ?_)
  rw [e9, e0] at hP1
  exact kk H1 locs1 (hP1 0 _ rfl) (hP1 1 _ rfl) hS1
end X
/-- an object of the class ci lies there -/
def isE (D : va_G) (H : Heap) (ci y : Nat) : Prop := ∃ fs, va_at D vwCl (y, .inr (ci, fs)) H
theorem isE.keep {D : va_G} {H H1 : Heap} {ci y : Nat} (h : isE D H ci y) (hq : H1[y]? = H[y]?) : isE D H1 ci y := h.imp fun _ hf => hx_keep hf hq
theorem isE.lt {D : va_G} {H : Heap} {ci y : Nat} (h : isE D H ci y) : y < H.size := h.elim fun _ hf => hx_lt hf
theorem x_any {D : va_G} {cs : Nat → ClassId} {N0 ci y : Nat} {H : Heap} {s : State} {q : vw_C} (hB : gB D cs N0 s) (hc : vwCl[ci]? = some q) (hz : (q.1, "java/lang/Object") ∈ zCst) (h : isE D H ci y) : va_Any "java/lang/Object" s H y := by
  obtain ⟨fs, hf⟩ := h
  exact va_rAny hB.1 (hx_P hf) (q0 := 0) rfl hc (vb_asgC (hB.2.2.1.2.1 (q.1, "java/lang/Object") hz))
theorem x_arecv {D : va_G} {cs : Nat → ClassId} {s : State} {H : Heap} {a n : Nat} {f : Nat → Option Nat} (hK : va_K D vwCl (tyl cs) s) (h : va_at D vwCl (a, .inl (cs 4, n, .inr (.inr (.inr (.inr f))))) H) : ∃ cell : Cell, H[a]? = some cell ∧ cell.vm.isStatics = false ∧ s.vm.findClass "[Ljava/lang/Object;" = some cell.cls := by
  obtain ⟨kA, comp, k1, k2, k3, k4⟩ := (hK.2 4 (cs 4, .object "java/lang/Object") rfl).2
  exact ⟨_, h, rfl, k4⟩
/-- what a callee may change: the objects of L, and what is new -/
abbrev jA (L : List Nat) (N : Nat) : Nat → Prop := fun q => q ∈ L ∨ N ≤ q
theorem jA_sub0 {A : Nat → Prop} {N : Nat} (hf : ∀ q, N ≤ q → A q) : ∀ q, jA [] N q → A q := fun q h => h.elim (fun h => by cases h) (hf q)
theorem jA_sub1 {A : Nat → Prop} {N x : Nat} (h1 : A x) (hf : ∀ q, N ≤ q → A q) : ∀ q, jA [x] N q → A q := fun q h => h.elim (fun h => (List.mem_singleton.mp h) ▸ h1) (hf q)
theorem jA_sub2 {A : Nat → Prop} {N x y : Nat} (h1 : A x) (h2 : A y) (hf : ∀ q, N ≤ q → A q) : ∀ q, jA [x, y] N q → A q := fun q h => h.elim (fun h => (List.mem_cons.mp h).elim (fun h => h ▸ h1) (fun h => (List.mem_singleton.mp h) ▸ h2)) (hf q)
theorem jA_not0 {N b : Nat} (h : b < N) : ¬ jA [] N b := fun h9 => h9.elim (fun h => by cases h) (fun h9 => by omega)
theorem jA_not1 {N b x : Nat} (h1 : b ≠ x) (h : b < N) : ¬ jA [x] N b := fun h9 => h9.elim (fun h => h1 (List.mem_singleton.mp h)) (fun h9 => by omega)
theorem jA_not2 {N b x y : Nat} (h1 : b ≠ x) (h2 : b ≠ y) (h : b < N) : ¬ jA [x, y] N b := fun h9 => h9.elim (fun h => (List.mem_cons.mp h).elim h1 (fun h => h2 (List.mem_singleton.mp h))) (fun h9 => by omega)
theorem jA_in1 {N x : Nat} : jA [x] N x := Or.inl (List.mem_singleton.mpr rfl)
theorem jA_in21 {N x y : Nat} : jA [x, y] N x := Or.inl List.mem_cons_self
theorem jA_in22 {N x y : Nat} : jA [x, y] N y := Or.inl (List.mem_cons_of_mem _ (List.mem_singleton.mpr rfl))
theorem x_sub16 : ∀ j, j < 17 → nI j - 16 ≤ 0 := by decide +kernel
theorem x_half : ∀ j, j < 128 → nI j >>> ((1 : Int32) &&& 31) = nI (j / 2) := by decide +kernel
theorem x_min {a b : Nat} (hb : b ≤ a) (ha : a < 2147483648) : minV (nI a) (nI b) = nI b := by
  unfold minV
  by_cases h : nI b < nI a
  · rw [if_pos h]
  · rw [if_neg h]
    have h9 : ¬ (b < a) := fun h2 => h ((nI_ltI (by omega) (by omega)).mpr h2)
    rw [show a = b by omega]
theorem x_min2 {a b : Nat} (hb : a ≤ b) (ha : b < 2147483648) : minV (nI a) (nI b) = nI a := by
  unfold minV
  rw [if_neg (fun h => by have := (nI_ltI (a := b) (b := a) (by omega) (by omega)).mp h; omega)]
theorem x_max {a b : Nat} (ha : a < 2147483648) (hb : b < 2147483648) : maxV (nI a) (nI b) = nI (max a b) := by
  unfold maxV
  by_cases h : nI a < nI b
  · rw [if_pos h, Nat.max_eq_right (Nat.le_of_lt ((nI_ltI (by omega) (by omega)).mp h))]
  · rw [if_neg h, Nat.max_eq_left (Nat.le_of_not_lt (fun h2 => h ((nI_ltI (by omega) (by omega)).mpr h2)))]
theorem x_i2b : ∀ j, j < 128 → (nI j).toInt8.toInt32 = nI j := by decide +kernel
theorem x_narb : ∀ j, j < 128 → vp_nar .byte (nI j) = nI j := by decide +kernel
def chV (b : Int32) : Int32 := ((b &&& 255).toUInt32 % 65536).toInt32
theorem x_chV : ∀ j, j < 128 → chV (nI j) = nI j := by decide +kernel
theorem x_narc (b : Int32) : narrow .char (.int (chV b)) = .int (chV b) := by
  show Value.int _ = _
  congr 1
  unfold chV
  simp only [UInt32.toUInt32_toUInt16, UInt32.toUInt32_toInt32]
  congr 1
  apply UInt32.toNat_inj.mp
  simp
/-- of an array's contents only the first n count -/
theorem x_aext {D : va_G} {cl : List vw_C} {a n : Nat} {c0 : ClassId} {f g : Nat → Int32} {H : Heap} (h : va_at D cl (a, .inl (c0, (n, .inl f))) H) (hfg : ∀ i, i < n → f i = g i) : va_at D cl (a, .inl (c0, (n, .inl g))) H := by
  have e : vp_cell c0 (n, .inl f) = vp_cell c0 (n, .inl g) := by
    rw [vp_cell_i, vp_cell_i]
    unfold arrV
    rw [show (fun j : Fin n => Value.int (f j.val)) = (fun j : Fin n => Value.int (g j.val)) from funext fun j => by rw [hfg j.val j.isLt]]
  have h1 : H[a]? = some (vp_cell c0 (n, .inl f)) := h
  rw [e] at h1
  exact h1
