/-! more rows for calls, and small ones -/
section X
variable {p : Program} {l : Launch} {e : Env} {R : Room} {s : State} {m : MethodId} {args : Array Value} {below : List Frame} {meth : Method} {c : Code} {H : Heap} {locs : List Loc} {cells slots : Nat} {Q : State → Prop}
theorem x_cwB {own : String} {idx maxL : Nat} {y : MethodName} {cz : ByteArray} {ret : Option FieldType} {rm : Room} (n : Nat) (htg : ∀ w ∈ gw, w.before args s = true) (h5 : Cond.code y cz maxL ret ∈ gw) (hini : Cond.initialized y.cls ∈ gw) (hl : Cond.methodLink own idx y ∈ gw)
    (hd : y.cls ≠ "java/lang/invoke/MethodHandle" ∧ y.cls ≠ "java/lang/invoke/VarHandle" ∧ (parseMethodDescriptor y.desc).map (fun d => d.parameters.length) = some n) (hR : rm.frames + 1 ≤ R.frames ∧ 8 + (maxL + 11) + rm.locals ≤ R.locals) :
    CallB R s args own idx y cz maxL ret (Cond.code y cz maxL ret :: gw) rm rm.cells rm.slots n := callB_of n htg (gw_I h5) rfl rfl rfl (htg _ hini) (htg _ hl) hd hR
/-- a private method on an object of a subclass -/
theorem x_priv {C : String} {y y0 : MethodName} (hy : y.cls ≠ "java/lang/invoke/MethodHandle" ∧ y.cls ≠ "java/lang/invoke/VarHandle") (h0 : y0.cls = y.cls) (hs0 : (Cond.selects C y0 y0).before args s = true) (hpriv : (Cond.privateMethod y).before args s = true) (hinst : (Cond.instanceMethod y).before args s = true) :
    (Cond.selects C y y).before args s = true := by
  obtain ⟨c2, r2, m2, q1, q2, q3, q4, kP, hkP, hkPi⟩ := Cond.selects_spec hs0
  obtain ⟨mk, methM, hnamed, hmethM, -, -⟩ := Cond.instanceMethod_spec hinst
  have hfound : s.methodFound? y.cls y.name y.desc = some mk := State.methodFound?_of_named hnamed hy
  cases (State.methodFound?_of_named q3 (by rw [h0]; exact hy)).symm.trans q2
  have hcls : mk.cls = m2.cls := by
    have h1 := findClass_of_methodNamed hnamed
    have h2 := findClass_of_methodNamed q3
    rw [h0] at h2
    exact Option.some.inj (h1.symm.trans h2)
  have hsel : selectMethod {} s.vm c2 mk = .method mk := selectMethod_private hmethM (Cond.privateMethod_at hpriv mk methM hnamed hmethM)
  rw [← hcls] at hkP
  simp only [Cond.before, Cond.holds, Cond.value, q1, hfound, hnamed, hsel, hkP]
  simp
  exact hkPi
theorem x_wk {A A' : Nat → Prop} {H0 : Heap} (h : va_S A H0 H locs) (hA : ∀ q, A q → A' q) : va_S A' H0 H locs := ⟨h.1, fun x h1 h2 => h.2.1 x h1 (fun a => h2 (hA x a)), fun q hq => hA _ (h.2.2 q hq)⟩
theorem x_app {A : Nat → Prop} {H0 H1 : Heap} {L : List Loc} (h : va_S A H0 H locs) (hz : H.size ≤ H1.size) (hk : ∀ q : Nat, q < H.size → ¬ A q → H1[q]? = H[q]?) (hL : ∀ q ∈ L, A q.base) : va_S A H0 H1 (locs ++ L) :=
  ⟨Nat.le_trans h.1 hz, fun x h1 h2 => (hk x (Nat.lt_of_lt_of_le h1 h.1) h2).trans (h.2.1 x h1 h2), fun q hq => (List.mem_append.mp hq).elim (h.2.2 q) (hL q)⟩
theorem x_at {D : va_G} {cl : List vw_C} {tys : List (ClassId × FieldType)} {ci : Nat} {q : vw_C} (hK : va_K D cl tys s) (hc : cl[ci]? = some q) : ClassAt s q.1 (D.1 ci) := (hK.1 ci q hc).2
/-- a callee that reads alone and answers nothing -/
theorem h_purev {cc : ByteArray} {pc : Nat} {ls : Array Slot} {rest st0 : List Value} {A0 : Nat → Prop} {H0 : Heap} {av : Array Value} (hr : va_Run p l e R s m args below meth c H locs cells slots 0 0 (F0 m pc ls st0) rest (hQv (fun H' => H' = H) noA av) noA) (hS : va_S A0 H0 H locs)
    (kk : ∀ (locs1 : List Loc), va_S A0 H0 H locs1 → W p l e R s m args below meth c H locs1 cells slots Q (F0 m (pc + 3) ls rest)) : W p l e R s m args below meth c H locs cells slots Q (F0 m pc ls st0) :=
  h_callv hr hS (fun _ h => h.elim) (fun H1 locs1 hp _ _ hS1 => by
    subst hp
    exact kk locs1 hS1)
end X
