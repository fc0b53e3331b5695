/-! calls of methods that may throw, from the caller's side -/
theorem noL {L : List Loc} (h : ∀ q ∈ L, noA q.base) : L = [] := List.eq_nil_iff_forall_not_mem.mpr (fun q hq => h q hq)
section TX3
variable {p : Program} {l : Launch} {e : Env} {R : Room} {s : State} {m : MethodId} {args : Array Value} {below : List Frame} {meth : Method} {c : Code} {H : Heap} {locs : List Loc} {cells slots : Nat} {Q : State → Prop}
variable {cc bytes : ByteArray} {pc nL maxL n mc ms index : Nat} {ls : Array Slot} {As rest st0 : List Value} {A1 : Nat → Prop} {post : Option Value → Heap → Prop} {bad : String → Prop}
variable {y : MethodName} {ws Ts : List Cond} {rm : Room} {Pc : Array Value → State → Prop} {own C : String} {b : Addr} {ret : Option FieldType}
theorem t_V (S : CallFix p m c cc nL s args Ts own) (hM : tMet l y ws rm Pc (hT post bad A1) mc ms A1) (cw : CallW R s args own C index y bytes maxL ret ws rm mc ms n) (hp : PreV s H C b Pc As)
    (hn : As.length = n) (hsize : ls.size = nL) (hst : st0 = As.reverse ++ .ref b :: rest) (hW : 2 * (F0 m pc ls rest).monitorRoom + (rest.map fun v => v.category).sum ≤ 8) (hdg : decode cc pc = .ok (.invokevirtual index, 3)) (hf : cells + mc ≤ R.cells ∧ slots + ms ≤ R.slots)
    (kx : ∀ (x : Addr) (E : String) (ce : Cell) (H1 : Heap) (L : List Loc), (∀ q ∈ L, A1 q.base) → bad E → H1[x]? = some ce → ce.vm = .none → s.vm.findClass E = some ce.cls → H.size ≤ H1.size → (∀ q : Nat, q < H.size → H1[q]? = H[q]?) → tW p l e R s m args below meth c H1 (locs ++ L) (cells + mc) (slots + ms) Q (F0 m pc ls rest) x)
    (kr : ∀ (v : Option Value) (H1 : Heap) (L : List Loc), (∀ q ∈ L, A1 q.base) → post v H1 → H.size ≤ H1.size → (∀ q : Nat, q < H.size → ¬ A1 q → H1[q]? = H[q]?) → W p l e R s m args below meth c H1 (locs ++ L) (cells + mc) (slots + ms) Q (F0 m (pc + 3) ls (v.toList ++ rest))) :
    W p l e R s m args below meth c H locs cells slots Q (F0 m pc ls st0) := by
  obtain ⟨⟨hrc, hrs, hfr, hlo, hws, hcw, hcode, hini, hy, hlen, hl⟩, hin, hse⟩ := cw
  obtain ⟨hx, hb, hml, ho, -⟩ := S
  obtain ⟨hbl, ⟨cellB, hcB, hoB, hclB⟩, hPc⟩ := hp
  obtain ⟨mk, methM, hnamed, hmethM, hstM, habM⟩ := Cond.instanceMethod_spec hin
  obtain ⟨methM', cM, hmethM', -, -, -, -, -, -, hsigM⟩ := Cond.code_spec hnamed hcode
  cases hmethM.symm.trans hmethM'
  obtain ⟨c2, r2, m2, q1, q2, q3, q4, kP, hkP, hkPi⟩ := Cond.selects_spec hse
  cases hclB.symm.trans q1
  cases (State.methodFound?_of_named hnamed hy).symm.trans q2
  cases hnamed.symm.trans q3
  intro T hT X
  have hselP : selectMethod e.platform s.vm cellB.cls mk = .method mk := by rw [Launch.admits_selectMethod X.admits]; exact q4
  obtain ⟨vm₁, X₁, hstep₁⟩ := X.invokevirtual hx ho hl hnamed hmethM hstM hkP hkPi hy (a := b) (cell := cellB) (by rw [hT]; exact hcB)
    (fun z h => by rw [h] at hoB; cases hoB) hselP hmethM habM hkP hkPi (g := F0 m pc ls st0) rfl (argsL := As) (rest := rest) (hn.trans (hlen _ hsigM)) hst (by rw [hb]; exact hdg)
  have hsz : (T.setVm vm₁).heap = H := hT
  rcases t_call (g := F0 m pc ls rest) (ig := .invokevirtual index) (len := 3) (mk := mk) (a := (Value.ref b :: As).toArray) hM X₁ rfl (hsize.trans hml.symm) (by rw [hb]; exact hdg) hW (X₁.named hnamed) (fun w hw => hws w hw _ _ X₁.warmed) hcw
      (word_at X₁.warmed (Or.inl (by first | rfl | simp [Cond.onTables, Cond.keeps, Cond.steady])) hini) hrc hrs hfr hlo hf.1 hf.2 (hbl _ _ _ _ (hPc (T.setVm vm₁) hT X₁.warmed)) with ⟨v, T', t, L, X', hL, e1, e2, hq, st⟩ | ⟨x, T', t, L, X', hL, e1, e2, hq, st⟩
  · rcases hq with ⟨v', hv, hpo, hz, hk⟩ | ⟨x', E, ce, hv, -⟩
    · cases hv
      rw [show ((T.setVm vm₁).calling (F0 m pc ls rest) mk (Value.ref b :: As).toArray).heap = H from hsz] at hz hk
      obtain ⟨t2, a1, b1⟩ := kr v T'.heap L hL (by rw [e1]; exact hpo) (by rw [e1]; exact hz) (fun q h1 h2 => by rw [e1]; exact hk q h1 h2) T' rfl X'
      exact ⟨t2, hstep₁ _ (fun acts => by rw [doInvoke_state]; exact st.trans a1), b1⟩
    · cases hv
  · rcases hq with ⟨v', hv, -⟩ | ⟨x', E, ce, hv, hbd, hce, hcv, hcl, hz, hk⟩
    · cases hv
    · cases hv
      rw [show ((T.setVm vm₁).calling (F0 m pc ls rest) mk (Value.ref b :: As).toArray).heap = H from hsz] at hz hk
      have hcl' : s.vm.findClass E = some ce.cls := by
        have h1 : (T.setVm vm₁).vm.findClass E = some ce.cls := hcl
        rw [X₁.warmed.alike.findClass] at h1
        exact h1
      obtain ⟨t2, a1, b1⟩ := kx x E ce T'.heap L hL hbd (by rw [e1]; exact hce) hcv hcl' (by rw [e1]; exact hz) (fun q h1 => by rw [e1]; exact hk q h1) T' rfl X'
      exact ⟨t2, hstep₁ _ (fun acts => by rw [doInvoke_state]; exact st.trans a1), b1⟩
theorem t_S (S : CallFix p m c cc nL s args Ts own) (hM : tMet l y ws rm Pc (hT post bad A1) mc ms A1) (cw : CallB R s args own index y bytes maxL ret ws rm mc ms n ∧ (Cond.static y).before args s = true) (hp : PreS s H Pc As)
    (hn : As.length = n) (hsize : ls.size = nL) (hst : st0 = As.reverse ++ rest) (hW : 2 * (F0 m pc ls rest).monitorRoom + (rest.map fun v => v.category).sum ≤ 8) (hdg : decode cc pc = .ok (.invokestatic index, 3)) (hf : cells + mc ≤ R.cells ∧ slots + ms ≤ R.slots)
    (kx : ∀ (x : Addr) (E : String) (ce : Cell) (H1 : Heap) (L : List Loc), (∀ q ∈ L, A1 q.base) → bad E → H1[x]? = some ce → ce.vm = .none → s.vm.findClass E = some ce.cls → H.size ≤ H1.size → (∀ q : Nat, q < H.size → H1[q]? = H[q]?) → tW p l e R s m args below meth c H1 (locs ++ L) (cells + mc) (slots + ms) Q (F0 m pc ls rest) x)
    (kr : ∀ (v : Option Value) (H1 : Heap) (L : List Loc), (∀ q ∈ L, A1 q.base) → post v H1 → H.size ≤ H1.size → (∀ q : Nat, q < H.size → ¬ A1 q → H1[q]? = H[q]?) → W p l e R s m args below meth c H1 (locs ++ L) (cells + mc) (slots + ms) Q (F0 m (pc + 3) ls (v.toList ++ rest))) :
    W p l e R s m args below meth c H locs cells slots Q (F0 m pc ls st0) := by
  obtain ⟨⟨hrc, hrs, hfr, hlo, hws, hcw, hcode, hini, hy, hlen, hl⟩, hstt⟩ := cw
  obtain ⟨hx, hb, hml, ho, -⟩ := S
  obtain ⟨hbl, hPc⟩ := hp
  obtain ⟨mk, hnamed⟩ := Cond.code_named hcode
  obtain ⟨methM, cM, hmethM, -, -, -, -, -, -, hsigM⟩ := Cond.code_spec hnamed hcode
  have hstatic : methM.isStatic = true := Cond.static_spec hnamed hmethM hstt
  obtain ⟨kP, hkP, -⟩ := className_of_methodNamed hnamed
  have hinitP : kP.init = .initialized := Cond.initialized_spec (findClass_of_methodNamed hnamed) hkP hini
  intro T hT X
  obtain ⟨vm₁, X₁, hstep₁⟩ := X.invokestatic hx ho hl hnamed hmethM hstatic hkP hinitP hy (g := F0 m pc ls st0) rfl (argsL := As) (rest := rest) (hn.trans (hlen _ hsigM)) hst (by rw [hb]; exact hdg)
  have hsz : (T.setVm vm₁).heap = H := hT
  rcases t_call (g := F0 m pc ls rest) (ig := .invokestatic index) (len := 3) (mk := mk) (a := As.toArray) hM X₁ rfl (hsize.trans hml.symm) (by rw [hb]; exact hdg) hW (X₁.named hnamed) (fun w hw => hws w hw _ _ X₁.warmed) hcw
      (word_at X₁.warmed (Or.inl (by first | rfl | simp [Cond.onTables, Cond.keeps, Cond.steady])) hini) hrc hrs hfr hlo hf.1 hf.2 (hbl _ _ _ _ (hPc (T.setVm vm₁) hT X₁.warmed)) with ⟨v, T', t, L, X', hL, e1, e2, hq, st⟩ | ⟨x, T', t, L, X', hL, e1, e2, hq, st⟩
  · rcases hq with ⟨v', hv, hpo, hz, hk⟩ | ⟨x', E, ce, hv, -⟩
    · cases hv
      rw [show ((T.setVm vm₁).calling (F0 m pc ls rest) mk As.toArray).heap = H from hsz] at hz hk
      obtain ⟨t2, a1, b1⟩ := kr v T'.heap L hL (by rw [e1]; exact hpo) (by rw [e1]; exact hz) (fun q h1 h2 => by rw [e1]; exact hk q h1 h2) T' rfl X'
      exact ⟨t2, hstep₁ _ (fun acts => by rw [doInvoke_state]; exact st.trans a1), b1⟩
    · cases hv
  · rcases hq with ⟨v', hv, -⟩ | ⟨x', E, ce, hv, hbd, hce, hcv, hcl, hz, hk⟩
    · cases hv
    · cases hv
      rw [show ((T.setVm vm₁).calling (F0 m pc ls rest) mk As.toArray).heap = H from hsz] at hz hk
      have hcl' : s.vm.findClass E = some ce.cls := by
        have h1 : (T.setVm vm₁).vm.findClass E = some ce.cls := hcl
        rw [X₁.warmed.alike.findClass] at h1
        exact h1
      obtain ⟨t2, a1, b1⟩ := kx x E ce T'.heap L hL hbd (by rw [e1]; exact hce) hcv hcl' (by rw [e1]; exact hz) (fun q h1 => by rw [e1]; exact hk q h1) T' rfl X'
      exact ⟨t2, hstep₁ _ (fun acts => by rw [doInvoke_state]; exact st.trans a1), b1⟩
end TX3
