/-! methods with a table of handlers: their contracts, their calls, the way into a handler -/
section LW
variable {p : Program} {l : Launch} {e : Env} {R : Room} {s : State} {m : MethodId} {args : Array Value} {below : List Frame} {meth : Method} {c : Code} {H : Heap} {locs : List Loc} {cells slots : Nat} {Q : State → Prop}
variable {y : MethodName} {ws ws' : List Cond} {rm : Room} {Pc : Array Value → State → Prop} {Qc : Array Value → State → Outcome → State → Prop} {mc ms : Nat} {free : Addr → Prop}
theorem tMet.ofWH {cc : ByteArray} {maxL : Nat} {ret : Option FieldType} {hh : List (Nat × Nat × Nat × Nat)} (hy : plainName y.cls = true) (hw : ws = Cond.codeWith y cc maxL ret hh :: ws')
    (body : ∀ p e s m args below meth c s₁, BodyLoose p l y (headSpec ws rm) cc maxL ret e s m args below meth c s₁ → c.maxLocals = maxL → c.exceptionTable.toList.map (fun h => (h.startPc, h.endPc, h.handlerPc, h.catchType)) = hh → Pc args s →
      W p l e (headSpec ws rm).room s m args below meth c s.heap [] 0 0 (tMQ below Qc args s mc ms free) (entryFrame m args maxL)) : tMet l y ws rm Pc Qc mc ms free := by
  have hcw : Cond.codeWith y cc maxL ret hh ∈ ws := by rw [hw]; exact List.mem_cons_self
  refine MetFree.of_bodyS (code := cc) (maxLocals := maxL) (ret := ret) hy ?_ ?_
  · intro args s m h hn
    obtain ⟨m9, meth, c, hn9, h1, h2, h3, h4, -, h5, h6, -⟩ := Cond.codeWith_spec (atoms_spec (ws := ws) h _ hcw)
    cases hn.symm.trans hn9
    exact ⟨meth, c, h1, h2, h3, h4, h5, h6⟩
  · intro p e s m args below meth c s₁ B hml hP _
    have hh0 : s₁.heap = s.heap := by rw [B.state]; rfl
    have htab : c.exceptionTable.toList.map (fun h => (h.startPc, h.endPc, h.handlerPc, h.catchType)) = hh := by
      obtain ⟨m9, meth9, c9, hn9, h1, h2, -, -, h3, -⟩ := Cond.codeWith_spec (atoms_spec (ws := ws) B.pre _ hcw)
      cases B.named.symm.trans hn9
      cases B.method.symm.trans h1
      have hc9 : meth.code = some c := (Stand.of_body B).code
      cases hc9.symm.trans h2
      exact h3
    obtain ⟨t, a1, o, b1, b2, b3⟩ := body p e s m args below meth c s₁ B hml htab hP s₁ hh0 (Stand.of_body B)
    exact ⟨t, o, a1, b1, b2, ⟨b3.1, b3.2⟩⟩
/-- the rows of a table, by their numbers -/
def ctT (pl : Platform) (s₀ : State) (d : ClassId) (pc : Nat) (tc : ClassId) : List (Nat × Nat × Nat × Nat) → Nat → Prop
  | [], _ => False
  | x :: t, h => (x.1 ≤ pc ∧ pc < x.2.1) ∧ x.2.2.2 ≠ 0 ∧ ∃ c, s₀.vm.ClassLinks pl d x.2.2.2 c ∧ ((s₀.vm.assignable tc c = true ∧ h = x.2.2.1) ∨ (s₀.vm.assignable tc c = false ∧ ctT pl s₀ d pc tc t h))
theorem ct_T {pl : Platform} {s₀ : State} {d : ClassId} {pc : Nat} {tc : ClassId} {h : Nat} : ∀ (tb : List ExceptionTableEntry) (hh : List (Nat × Nat × Nat × Nat)), tb.map (fun h => (h.startPc, h.endPc, h.handlerPc, h.catchType)) = hh → ctT pl s₀ d pc tc hh h → ctR pl s₀ d pc tc tb h := by
  intro tb
  induction tb with
  | nil => intro hh e hc; subst e; exact hc.elim
  | cons x t ih =>
    intro hh e hc
    subst e
    obtain ⟨h1, h2, c9, h3, h4⟩ := hc
    refine ⟨?_, h2, c9, h3, ?_⟩
    · simp only [covers]
      have a1 : x.startPc ≤ pc := h1.1
      have a2 : pc < x.endPc := h1.2
      simp [a1, a2]
    · rcases h4 with h | ⟨h, h5⟩
      · exact Or.inl h
      · exact Or.inr ⟨h, ih _ rfl h5⟩
theorem ct_hit {D : va_G} {cs : Nat → ClassId} {N0 idx : Nat} {own E C : String} {d tc : ClassId} (hB : gB D cs N0 s) (hown : s.vm.findClass own = some d) (hl : (Cond.classLink own idx C).before args s = true) (hz : (E, C) ∈ zCst) (hf : s.vm.findClass E = some tc) (pl : Platform) (hpl : pl.magicAccessors = ({} : Platform).magicAccessors) : ∃ c, s.vm.ClassLinks pl d idx c ∧ s.vm.assignable tc c = true := by
  obtain ⟨c9, h1, h2⟩ := Cond.classLink_spec hown hl pl hpl
  exact ⟨c9, h2, vb_asgC (hB.2.2.1.2.1 (E, C) hz) _ _ h1 hf⟩
theorem ct_miss {D : va_G} {cs : Nat → ClassId} {N0 idx : Nat} {own E C : String} {d tc : ClassId} (hB : gB D cs N0 s) (hown : s.vm.findClass own = some d) (hl : (Cond.classLink own idx C).before args s = true) (hz : (E, C) ∈ zNcs) (hf : s.vm.findClass E = some tc) (pl : Platform) (hpl : pl.magicAccessors = ({} : Platform).magicAccessors) : ∃ c, s.vm.ClassLinks pl d idx c ∧ s.vm.assignable tc c = false := by
  obtain ⟨c9, h1, h2⟩ := Cond.classLink_spec hown hl pl hpl
  obtain ⟨a, b, g1, g2, g3⟩ := hB.2.2.1.2.2.1 (E, C) hz
  cases hf.symm.trans g1
  cases h1.symm.trans g2
  exact ⟨c9, h2, g3⟩
theorem ct_1 {pl : Platform} {d tc : ClassId} {pc x1 x2 x3 x4 h : Nat} {t : List (Nat × Nat × Nat × Nat)} (h1 : x1 ≤ pc ∧ pc < x2) (h2 : x4 ≠ 0) (h3 : ∃ c, s.vm.ClassLinks pl d x4 c ∧ s.vm.assignable tc c = true) (h4 : h = x3) : ctT pl s d pc tc ((x1, x2, x3, x4) :: t) h := by
  obtain ⟨c9, a, b⟩ := h3
  exact ⟨h1, h2, c9, a, Or.inl ⟨b, h4⟩⟩
theorem ct_0 {pl : Platform} {d tc : ClassId} {pc x1 x2 x3 x4 h : Nat} {t : List (Nat × Nat × Nat × Nat)} (h1 : x1 ≤ pc ∧ pc < x2) (h2 : x4 ≠ 0) (h3 : ∃ c, s.vm.ClassLinks pl d x4 c ∧ s.vm.assignable tc c = false) (h4 : ctT pl s d pc tc t h) : ctT pl s d pc tc ((x1, x2, x3, x4) :: t) h := by
  obtain ⟨c9, a, b⟩ := h3
  exact ⟨h1, h2, c9, a, Or.inr ⟨b, h4⟩⟩
/-- the call of such a method -/
theorem t_callW {U : State} {bytes : ByteArray} {maxL len : Nat} {ret : Option FieldType} {hh : List (Nat × Nat × Nat × Nat)} {g : JFrame} {ig : Instr} {mk : MethodId} {a : Array Value} (hM : tMet l y ws rm Pc Qc mc ms free) (X : Stand p l e R s m args below meth c U locs cells slots) (hg : g.method = m) (hsize : g.locals.size = c.maxLocals) (hdg : decode c.code g.pc = .ok (ig, len))
    (hW : 2 * g.monitorRoom + (g.stack.map fun v => v.category).sum ≤ 8) (hn : U.methodNamed? y = some mk) (hws : ∀ w ∈ ws, w.before a U = true) (hcw : Cond.codeWith y bytes maxL ret hh ∈ ws) (hini : (Cond.initialized y.cls).before a U = true)
    (hrc : rm.cells = mc) (hrs : rm.slots = ms) (hfr : rm.frames + 1 ≤ R.frames) (hlo : 8 + (maxL + 11) + rm.locals ≤ R.locals) (hc : cells + mc ≤ R.cells) (hs : slots + ms ≤ R.slots) (hP : Pc a (U.calling g mk a)) (hnot : ∀ st x t, ¬ Qc a st (.threw x) t) :
    ∃ (v : Option Value) (T' t : State) (L : List Loc), Stand p l e R s m args below meth c T' (locs ++ L) (cells + mc) (slots + ms) ∧ (∀ q ∈ L, free q.base) ∧ T'.heap = t.heap ∧ T'.vm = t.vm ∧ Qc a (U.calling g mk a) (.returned v) t ∧
      Steps p.tables e below (doInvoke e (U.setTop g) [] mk a).1 (T'.setTop { g with pc := g.pc + len, stack := v.toList ++ g.stack }) := by
  obtain ⟨m9, methY, cY, hn9, hmY, hcY, -, hlY, -⟩ := Cond.codeWith_spec (hws _ hcw)
  cases hn.symm.trans hn9
  obtain ⟨kY, hkY, -⟩ := className_of_methodNamed hn
  have hinitY : kY.init = .initialized := Cond.initialized_spec (findClass_of_methodNamed hn) hkY hini
  have h : At U g.method c below := by rw [hg]; exact X.here
  have happ : (headSpec ws rm).appliesLoose y e.platform (U.calling g mk a) = true :=
    Spec.appliesLoose_calling (g := g) h hdg hn hkY hinitY
      (X.room_calling (g := g) (R' := rm) hsize hmY hcY hfr (by rw [hlY]; omega) (by rw [hrc]; exact hc) (by rw [hrs]; exact hs)) (atoms_intro hws)
  obtain ⟨mid, hmid⟩ := h.above
  have hfrm : (U.setTop g).frames = (.java g :: mid) ++ below := by rw [State.frames_setTop' g h.top, hmid]; rfl
  obtain ⟨o, s₂, hsteps, -, hend, hq, L, hE, hL⟩ := Steps.callFree hM p X.admits X.cas X.clock (acts := []) hfrm happ hP trivial
  have hq' : Qc a (U.calling g mk a) o s₂ := hq
  have hE' : tEnd (U.calling g mk a) s₂ L mc ms := hE
  rw [State.frames_setTop' g h.top, X.tail] at hend
  cases o with
  | returned v =>
    obtain ⟨T', X', hW', hsm, ht⟩ := X.outOf hg hdg hend hE'.1 hE'.2
    refine ⟨v, T', s₂, L, X', hL, by rw [ht]; rfl, by rw [ht]; rfl, hq', ?_⟩
    rw [← ht]
    exact hsteps
  | threw x => exact absurd hq' (hnot _ _ _)
/-- a static one that always returns -/
theorem t_SW {cc bytes : ByteArray} {pc nL maxL n index : Nat} {ls : Array Slot} {As rest st0 : List Value} {A1 : Nat → Prop} {post : Option Value → Heap → Prop} {Ts : List Cond} {own : String} {ret : Option FieldType} {hh : List (Nat × Nat × Nat × Nat)} (S : CallFix p m c cc nL s args Ts own) (hM : tMet l y ws rm Pc (hT post (fun _ => False) A1) mc ms A1) (hws : ∀ w ∈ ws, ∀ (a' : Array Value) (U : State), s.WarmedH U.vm → w.before a' U = true) (hcw : Cond.codeWith y bytes maxL ret hh ∈ ws) (hcode : (Cond.codeWith y bytes maxL ret hh).before args s = true)
    (hini : (Cond.initialized y.cls).before args s = true) (hy : y.cls ≠ "java/lang/invoke/MethodHandle" ∧ y.cls ≠ "java/lang/invoke/VarHandle" ∧ (parseMethodDescriptor y.desc).map (fun d => d.parameters.length) = some n) (hlk : (Cond.methodLink own index y).before args s = true) (hstt : (Cond.static y).before args s = true) (hp : PreS s H Pc As)
    (hn : As.length = n) (hsize : ls.size = nL) (hst : st0 = As.reverse ++ rest) (hW : 2 * (F0 m pc ls rest).monitorRoom + (rest.map fun v => v.category).sum ≤ 8) (hdg : decode cc pc = .ok (.invokestatic index, 3)) (hf : cells + mc ≤ R.cells ∧ slots + ms ≤ R.slots) (hrc : rm.cells = mc) (hrs : rm.slots = ms) (hR : rm.frames + 1 ≤ R.frames ∧ 8 + (maxL + 11) + rm.locals ≤ R.locals)
    (kr : ∀ (v : Option Value) (H1 : Heap) (L : List Loc), (∀ q ∈ L, A1 q.base) → post v H1 → H.size ≤ H1.size → (∀ q : Nat, q < H.size → ¬ A1 q → H1[q]? = H[q]?) → W p l e R s m args below meth c H1 (locs ++ L) (cells + mc) (slots + ms) Q (F0 m (pc + 3) ls (v.toList ++ rest))) :
    W p l e R s m args below meth c H locs cells slots Q (F0 m pc ls st0) := by
  obtain ⟨hx, hb, hml, ho, -⟩ := S
  obtain ⟨hbl, hPc⟩ := hp
  obtain ⟨mk, methM, cM, hnamed, hmethM, -, -, -, -, -, -, hsigM⟩ := Cond.codeWith_spec hcode
  have hstatic : methM.isStatic = true := Cond.static_spec hnamed hmethM hstt
  obtain ⟨kP, hkP, -⟩ := className_of_methodNamed hnamed
  have hinitP : kP.init = .initialized := Cond.initialized_spec (findClass_of_methodNamed hnamed) hkP hini
  have hlen : n = methM.sig.parameters.length := by
    have h2 := hy.2.2
    rw [hsigM] at h2
    exact (Option.some.inj h2).symm
  intro T hT X
  obtain ⟨vm₁, X₁, hstep₁⟩ := X.invokestatic hx ho hlk hnamed hmethM hstatic hkP hinitP ⟨hy.1, hy.2.1⟩ (g := F0 m pc ls st0) rfl (argsL := As) (rest := rest) (hn.trans hlen) hst (by rw [hb]; exact hdg)
  have hsz : (T.setVm vm₁).heap = H := hT
  obtain ⟨v, T', t, L, X', hL, e1, e2, hq, st⟩ := t_callW (g := F0 m pc ls rest) (ig := .invokestatic index) (len := 3) (mk := mk) (a := As.toArray) (hh := hh) hM X₁ rfl (hsize.trans hml.symm) (by rw [hb]; exact hdg) hW (X₁.named hnamed) (fun w hw => hws w hw _ _ X₁.warmed) hcw
      (word_at X₁.warmed (Or.inl (by first | rfl | simp [Cond.onTables, Cond.keeps, Cond.steady])) hini) hrc hrs hR.1 hR.2 hf.1 hf.2 (hbl _ _ _ _ (hPc (T.setVm vm₁) hT X₁.warmed)) (fun st x t h => by
        rcases h with ⟨v, hv, -⟩ | ⟨x', E, ce, -, hbad, -⟩
        · cases hv
        · exact hbad)
  rcases hq with ⟨v', hv, hpo, hz, hk⟩ | ⟨x', E, ce, hv, -⟩
  · cases hv
    rw [show ((T.setVm vm₁).calling (F0 m pc ls rest) mk As.toArray).heap = H from hsz] at hz hk
    obtain ⟨t2, a1, b1⟩ := kr v T'.heap L hL (by rw [e1]; exact hpo) (by rw [e1]; exact hz) (fun q h1 h2 => by rw [e1]; exact hk q h1 h2) T' rfl X'
    exact ⟨t2, hstep₁ _ (fun acts => by rw [doInvoke_state]; exact st.trans a1), b1⟩
  · cases hv
end LW
