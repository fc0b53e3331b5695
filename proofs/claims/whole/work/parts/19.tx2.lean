/-! the end of a method that returns or throws: what was thrown is a new object of a known kind; nothing that was there has changed then -/
def hT (post : Option Value → Heap → Prop) (bad : String → Prop) (A : Nat → Prop) : Array Value → State → Outcome → State → Prop := fun _ st o t =>
  (∃ v, o = .returned v ∧ post v t.heap ∧ va_F A st t) ∨ (∃ (x : Addr) (E : String) (ce : Cell), o = .threw x ∧ bad E ∧ t.heap[x]? = some ce ∧ ce.vm = .none ∧ st.vm.findClass E = some ce.cls ∧ st.heap.size ≤ t.heap.size ∧ ∀ q : Nat, q < st.heap.size → t.heap[q]? = st.heap[q]?)
/-- something thrown lies over the method's frame -/
def tW (p : Program) (l : Launch) (e : Env) (R : Room) (s : State) (m : MethodId) (args : Array Value) (below : List Frame) (meth : Method) (c : Code) (H : Heap) (locs : List Loc) (cells slots : Nat) (Q : State → Prop) (g : JFrame) (x : Addr) : Prop :=
  ∀ T : State, T.heap = H → Stand p l e R s m args below meth c T locs cells slots → ∃ t, Steps p.tables e below ((T.setTop g).pushFrame (.throwing x)) t ∧ Q t
theorem same_nil {s U : State} {k n : Nat} (h : s.sameButNew ({ U with vm := s.vm } : State) [] k n) : s.heap.size ≤ U.heap.size ∧ ∀ q : Nat, q < s.heap.size → U.heap[q]? = s.heap[q]? := by
  obtain ⟨-, h2, -, -, -, h6⟩ := h
  refine ⟨h2, fun q hq => ?_⟩
  obtain ⟨c9, e1, e2, e3, e4⟩ := h6 q _ (Array.getElem?_eq_getElem hq)
  have e5 : c9.slots = (s.heap[q]).slots := Array.ext_getElem? fun i => e4 i (fun hm => by cases hm)
  rw [e5] at e2
  have e6 : U.heap[q]? = some c9 := e1
  rw [e6, Array.getElem?_eq_getElem hq]
  exact congrArg some e2
section TX2
variable {p : Program} {l : Launch} {e : Env} {R : Room} {s : State} {m : MethodId} {args : Array Value} {below : List Frame} {meth : Method} {c : Code} {H : Heap} {locs : List Loc} {cells slots : Nat} {Q : State → Prop}
variable {cc : ByteArray} {pc mc ms : Nat} {ls : Array Slot} {rest : List Value} {A : Nat → Prop} {free : Addr → Prop} {post : Option Value → Heap → Prop} {bad : String → Prop}
/-- 'throw new E(text)' in a method that has written nothing, launches without traces -/
theorem t_throw {own cls text : String} {names : List String} {ik is ic : Nat} (hexec : p.tables.exec = Jvm.exec) (hb : c.code = cc) (hl : l.stackTraces = false) (hown : s.vm.findClass own = some m.cls) (hcls : Bundle.fit cls = true) (hnames : ∀ n ∈ names, Bundle.fit n = true)
    (hk : (Cond.classLink own ik cls).before args s = true) (hini : (Cond.initialized cls).before args s = true) (hs : (Cond.stringRef own is text).before args s = true) (h : ∀ a ∈ Bundle.ownAtoms own ic cls names, a.before args s = true)
    (hgrow : s.heap.size ≤ H.size) (hsize : ls.size = c.maxLocals)
    (d0 : decode cc pc = .ok (.new ik, 3)) (d3 : decode cc (pc + 3) = .ok (.dup, 1)) (d4 : decode cc (pc + 4) = .ok (.ldc is, 2)) (d6 : decode cc (pc + 6) = .ok (.invokespecial ic, 3)) (d9 : decode cc (pc + 9) = .ok (.athrow, 1))
    (hno : ∀ x ∈ c.exceptionTable.toList, False) (hRframes : names.length + 3 < R.frames) (hRlocals : (rest.map fun v => v.category).sum + (13 * (names.length + 1) + 43) ≤ R.locals) (hRcells : cells + 1 ≤ R.cells) (hRslots : slots + 6 ≤ R.slots) (hlocks : meth.locks = false)
    (hbad : bad cls) (hc : cells + 1 ≤ mc) (hsl : slots + 6 ≤ ms) :
    W p l e R s m args below meth c H [] cells slots (tMQ below (hT post bad A) args s mc ms free) (F0 m pc ls rest) := by
  intro T0 hT0 X
  subst hb
  have htr : e.platform.stackTraces = false := (show e.platform.stackTraces = l.stackTraces by rw [X.admits.platform]).trans hl
  have hins : (Cond.instantiable cls 6).before args s = true := h _ (by simp [Bundle.ownAtoms])
  obtain ⟨vm₁, cX, kX, hfX, hkX, -, -, X₁, st1⟩ := X.newCold hexec (own := own) (C := cls) (index := ik) (n := 6) hown hk hins hini
    (g := F0 m pc ls rest) rfl d0 hRcells hRslots
  generalize hT : (T0.setVm vm₁).pushCell { cls := cX, slots := kX.instanceTypes.map defaultValue, vm := .none } = T at X₁ st1
  have hcat : (Value.ref T0.heap.size).category = 1 := rfl
  have hcellA : T.heap[T0.heap.size]? = some (freshCell cX kX) := by rw [← hT]; exact State.heap_pushCell_size _ _
  obtain ⟨-, -, -, sa, -, -, -, -, -, hev⟩ := Cond.stringRef_spec hown hs
  obtain ⟨U, hsteps, hrun, hend, hW, hsame, ce, hce, hoc⟩ := X₁.ctorThrowS hexec htr (own := own) (cls := cls) (names := names) (ic := ic) hown hcls hnames h (fun x hx => by cases hx)
    hfX hkX hcellA (by rw [hT0]; exact hgrow) (msg := .ref sa) rfl
    (g := { method := m, pc := pc + 6, locals := ls, stack := .ref sa :: .ref T0.heap.size :: .ref T0.heap.size :: rest, locked := none }) rfl hsize rfl rfl (rest := rest) rfl
    d6 d9 (fun x hx => (hno x hx).elim) hRframes (by simp only [List.map_cons, List.sum_cons, hcat]; omega) hlocks
  have hfr := same_nil hsame
  refine ⟨U, ?_, .threw T0.heap.size, hrun, hend, Or.inr ⟨T0.heap.size, cls, ce, rfl, hbad, hce, hoc.vm, hoc.cls, hfr.1, hfr.2⟩, [], ⟨hW, hsame.mono hc hsl⟩, fun q hq => by cases hq⟩
  refine st1 _ ?_
  show Steps p.tables e below (T.setTop { method := m, pc := pc + 3, locals := ls, stack := .ref T0.heap.size :: rest, locked := none }) _
  jvm_step X₁.here [X₁.here.top, hexec, d3, Value.category]
  exact X₁.ldcString hexec (own := own) (text := text) (index := is) (a := sa) hown hs hev
    (g := { method := m, pc := pc + 4, locals := ls, stack := .ref T0.heap.size :: .ref T0.heap.size :: rest, locked := none }) rfl d4 _ hsteps
/-- what a callee has thrown goes on to the caller: a method without handlers that has written nothing -/
theorem t_out {E : String} {ce : Cell} {x : Addr} {g : JFrame} (hg : g = F0 m pc ls rest) (hno : ∀ z ∈ c.exceptionTable.toList, False) (hlocks : meth.locks = false) (hbad : bad E) (hx : H[x]? = some ce) (hv : ce.vm = .none) (hcl : s.vm.findClass E = some ce.cls) (hc : cells ≤ mc) (hsl : slots ≤ ms) :
    tW p l e R s m args below meth c H [] cells slots (tMQ below (hT post bad A) args s mc ms free) g x := by
  subst hg
  intro T hT X
  obtain ⟨st1, hrun, hend, hW, hsame⟩ := X.leaveThrown x (g := F0 m pc ls rest) rfl rfl rfl (fun z hz => (hno z hz).elim) hlocks
  have hfr := same_nil hsame
  exact ⟨_, st1, .threw x, hrun, hend, Or.inr ⟨x, E, ce, rfl, hbad, (by show T.heap[x]? = some ce; rw [hT]; exact hx), hv, hcl, hfr.1, hfr.2⟩, [], ⟨hW, hsame.mono hc hsl⟩, fun q hq => by cases hq⟩
end TX2
