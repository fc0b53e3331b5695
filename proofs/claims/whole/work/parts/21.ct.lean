/-! a thrown object meets its handler: all rows of the table cover the place, the first whose kind it is takes it -/
def ctR (pl : Platform) (s₀ : State) (d : ClassId) (pc : Nat) (tc : ClassId) : List ExceptionTableEntry → Nat → Prop
  | [], _ => False
  | x :: t, h => covers x pc = true ∧ x.catchType ≠ 0 ∧ ∃ c, s₀.vm.ClassLinks pl d x.catchType c ∧ ((s₀.vm.assignable tc c = true ∧ h = x.handlerPc) ∨ (s₀.vm.assignable tc c = false ∧ ctR pl s₀ d pc tc t h))
theorem ct_go {e : Env} {s₀ : State} {f : JFrame} {a : Addr} {cell : Cell} {h : Nat} (hobj : ∀ k, cell.vm ≠ .statics k) (hk0 : ∃ k, s₀.vm.classes[cell.cls]? = some k) :
    ∀ (tb : List ExceptionTableEntry) (S : State), s₀.WarmedH S.vm → S.heap[a]? = some cell → ctR e.platform s₀ f.method.cls f.pc cell.cls tb h →
      ∃ vm', s₀.WarmedH vm' ∧ ∀ (Q : Handler → Pre) (E : CtlPost) (d : Bool) (acts : List Action), wp (findHandler.go f a tb) Q E e d acts S ↔ Q (.found h) d acts (S.setVm vm') := by
  intro tb
  induction tb with
  | nil => intro S _ _ hr; exact hr.elim
  | cons x t ih =>
    intro S hW hcell hr
    obtain ⟨hx, h0, c, hl, hor⟩ := hr
    have hxx := hx
    simp only [covers] at hxx
    obtain ⟨ha, ht⟩ := (resolveClass_links e.toSetting (hW.classLinks hl)).op (op := VmOp.resolveClass f.method.cls x.catchType) rfl
    obtain ⟨dk, _, _, kt, hd, _, _, _, _, hkt, _, hopen⟩ := hl.here
    have hW' : s₀.WarmedH (S.vm.noted f.method.cls x.catchType (.cls c)) := hW.noted hd hopen (State.rightAt_cls hl)
    obtain ⟨k0, hk0'⟩ := hk0
    obtain ⟨k1, hk1, -⟩ := hW'.alike.2.2 _ _ hk0'
    obtain ⟨k2, hk2, -⟩ := hW'.alike.2.2 _ _ hkt
    rcases hor with ⟨hfit, rfl⟩ | ⟨hno, hrest⟩
    · refine ⟨_, hW', fun Q E d acts => ?_⟩
      have hfit' : (S.vm.noted f.method.cls x.catchType (.cls c)).assignable cell.cls c = true := by rw [hW'.alike.assignable]; exact hfit
      simp [findHandler.go, hxx, h0, ha, ht, hcell, hobj, hk1, hk2, hfit', VmOp.dirties, VmOp.acts]
    · obtain ⟨vm', hW2, hq⟩ := ih (S.setVm (S.vm.noted f.method.cls x.catchType (.cls c))) hW' hcell hrest
      refine ⟨vm', hW2, fun Q E d acts => ?_⟩
      have hno' : (S.vm.noted f.method.cls x.catchType (.cls c)).assignable cell.cls c = false := by rw [hW'.alike.assignable]; exact hno
      have h1 := hq Q E d acts
      rw [← show (S.setVm (S.vm.noted f.method.cls x.catchType (.cls c))).setVm vm' = S.setVm vm' from rfl, ← h1]
      simp [findHandler.go, hxx, h0, ha, ht, hcell, hobj, hk1, hk2, hno', VmOp.dirties, VmOp.acts]
section CT
variable {p : Program} {l : Launch} {e : Env} {R : Room} {s : State} {m : MethodId} {args : Array Value} {below : List Frame} {meth : Method} {c : Code} {H : Heap} {locs : List Loc} {cells slots : Nat} {Q : State → Prop}
theorem t_catch {pc h : Nat} {ls : Array Slot} {rest : List Value} {x : Addr} {ce : Cell} (hcell : H[x]? = some ce) (hv : ce.vm = .none) (hk0 : ∃ k, s.vm.classes[ce.cls]? = some k) (hr : ∀ pl : Platform, pl.magicAccessors = ({} : Platform).magicAccessors → ctR pl s m.cls pc ce.cls c.exceptionTable.toList h)
    (kk : W p l e R s m args below meth c H locs cells slots Q (F0 m h ls [.ref x])) : tW p l e R s m args below meth c H locs cells slots Q (F0 m pc ls rest) x := by
  intro T hT X
  have hpl : e.platform.magicAccessors = ({} : Platform).magicAccessors := by rw [X.admits.platform]
  obtain ⟨vm', hW', hq⟩ := ct_go (e := e) (f := F0 m pc ls rest) (a := x) (fun k hk => by rw [hv] at hk; cases hk) hk0 c.exceptionTable.toList ((T.setTop (F0 m pc ls rest)).pushFrame (.throwing x)) X.warmed (by show T.heap[x]? = some ce; rw [hT]; exact hcell) (hr e.platform hpl)
  obtain ⟨t, a1, b1⟩ := kk (T.setVm vm') hT (X.noted hW')
  refine ⟨t, ?_, b1⟩
  have hA : At T (F0 m pc ls rest).method c below := X.here
  obtain ⟨hgo, hw⟩ := hA.throwing x
  refine Steps.head hgo hw ?_
  have hs : (stepThrowing e ((T.setTop (F0 m pc ls rest)).pushFrame (.throwing x)) x (.java (F0 m pc ls rest) :: T.frames.tail)).Is ((((T.setTop (F0 m pc ls rest)).pushFrame (.throwing x)).setVm vm').setFrames (.java (F0 m h ls [.ref x]) :: T.frames.tail)) [] := by
    simp only [stepThrowing, searchFrame, vmDo]
    generalize hg9 : Sem.go _ e false [] _ = res
    obtain ⟨as, rfl, ha⟩ := Sem.eq_ok_of hg9 (a := Handler.found h) (s' := ((T.setTop (F0 m pc ls rest)).pushFrame (.throwing x)).setVm vm') (acts' := []) (by simp [W.findHandler_eq (f := F0 m pc ls rest) (show (((T.setTop (F0 m pc ls rest)).pushFrame (.throwing x))).vm.method? m = some meth from X.method') X.code, hq _ _ _ _])
    exact ⟨rfl, ha⟩
  rw [stepThread_throwing (frames_entered hA.top _), hs.1]
  obtain ⟨g₀, hfr⟩ := X.frames_eq
  have hfr' : (T.setVm vm').frames = .java g₀ :: below := hfr
  rw [State.setTop_of_frames _ hfr'] at a1
  rw [hfr, List.tail_cons, State.pushFrame, State.setTop_of_frames _ hfr, State.setFrames_setFrames]
  have key : ∀ F G : List Frame, ((T.setFrames F).setVm vm').setFrames G = (T.setVm vm').setFrames G := fun F G => by
    rw [show (T.setFrames F).setVm vm' = (T.setVm vm').setFrames F from rfl, State.setFrames_setFrames]
  rw [key]
  exact a1
end CT
