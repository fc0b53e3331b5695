/-! statics of references that no call writes: their words hold on -/
def gLs (C n d : String) (N0 : Nat) (U : State) : Prop := ∃ (c : ClassId) (k : Class) (i : Nat) (f : Field) (a : Nat) (cell : Cell) (v : Value), U.vm.findClass C = some c ∧ U.fieldFound? C n d = some (c, k, i, f) ∧ f.isStatic = true ∧ k.statics = some a ∧ a < N0 ∧ U.heap[a]? = some cell ∧ cell.vm.isStatics = true ∧ cell.cls = c ∧ f.slot < cell.slots.size ∧ k.staticTypes[f.slot]? = some f.type ∧ cell.slots[f.slot]? = some v ∧ (v = .null ∨ ∃ q, v = .ref q)
theorem gLs.of {C n d : String} {A : Array Value} {U : State} (hl : (Cond.laysStatic C n d).before A U = true) (hr : (Cond.isRef (.static C n d)).before A U = true) : gLs C n d U.heap.size U := by
  obtain ⟨c, k, i, f, a, cell, hc, hi, hst, ha, hcell, hs, hcls, hlt, hty⟩ := Cond.laysStatic_spec hl
  cases hv : (Term.static C n d).eval A U none [] U with
  | none => simp [Cond.before, Cond.holds, Cond.value, hv] at hr
  | some w =>
    obtain ⟨hst', a', cell', ha', hcell', -, hslot⟩ := Term.static_spec hi hv
    cases ha.symm.trans ha'
    cases hcell.symm.trans hcell'
    refine ⟨c, k, i, f, a, cell, w, hc, hi, hst, ha, (Array.getElem?_eq_some_iff.mp hcell).1, hcell, hs, hcls, hlt, hty, hslot, ?_⟩
    simp only [Cond.before, Cond.holds, Cond.value, hv] at hr
    cases w with
    | null => exact Or.inl rfl
    | ref t => exact Or.inr ⟨t, rfl⟩
    | _ => simp at hr
theorem gLs.moved {C n d : String} {N0 : Nat} {u U : State} (hvm : u.vm.Alike U.vm) (hh : ∀ q : Nat, q < N0 → U.heap[q]? = u.heap[q]?) (h : gLs C n d N0 u) : gLs C n d N0 U := by
  obtain ⟨c, k, i, f, a, cell, v, h1, h2, h3, h4, h5, h6, h7⟩ := h
  obtain ⟨k', hi', he⟩ := State.fieldFound?_setVm hvm h2
  exact ⟨c, k', i, f, a, cell, v, by rw [hvm.findClass]; exact h1, hi', h3, by rw [he]; exact h4, h5, by rw [hh a h5]; exact h6, h7.1, h7.2.1, h7.2.2.1, by rw [he]; exact h7.2.2.2.1, h7.2.2.2.2⟩
theorem gLs.lays {C n d : String} {N0 : Nat} {U : State} {A : Array Value} (h : gLs C n d N0 U) : (Cond.laysStatic C n d).before A U = true := by
  obtain ⟨c, k, i, f, a, cell, v, h1, h2, h3, h4, h5, h6, h7, h8, h9, h10, h11, h12⟩ := h
  simp [Cond.before, Cond.holds, Cond.value, h1, h2, h3, h4, h6, h7, h8, h9, h10]
theorem gLs.isRef {C n d : String} {N0 : Nat} {U : State} {A : Array Value} (h : gLs C n d N0 U) : (Cond.isRef (.static C n d)).before A U = true := by
  obtain ⟨c, k, i, f, a, cell, v, h1, h2, h3, h4, h5, h6, h7, h8, h9, h10, h11, h12⟩ := h
  have hn : U.fieldNamed? C n d true = some (c, k, f.slot) := by
    simp [State.fieldNamed?, h2, h3]
  have hv : (Term.static C n d).eval A U none [] U = some v := by
    simp [Term.eval, hn, h4, h6, h7, h11]
  rcases h12 with rfl | ⟨q, rfl⟩ <;> simp [Cond.before, Cond.holds, Cond.value, hv]
def zDcl : List MethodName := [⟨"java/lang/RuntimeException", "<init>", "()V"⟩, ⟨"java/lang/RuntimeException", "<init>", "(Ljava/lang/String;)V"⟩, ⟨"java/lang/Exception", "<init>", "()V"⟩, ⟨"java/lang/Exception", "<init>", "(Ljava/lang/String;)V"⟩, ⟨"java/lang/Throwable", "<init>", "()V"⟩, ⟨"java/lang/Throwable", "<init>", "(Ljava/lang/String;)V"⟩, ⟨"java/lang/Object", "getClass", "()Ljava/lang/Class;"⟩]
def zCst : List (String × String) := [("[B", "java/lang/Cloneable"), ("java/lang/IllegalArgumentException", "java/lang/IllegalArgumentException"), ("java/lang/IllegalStateException", "java/lang/IllegalStateException"), ("java/lang/IndexOutOfBoundsException", "java/lang/IndexOutOfBoundsException"), ("java/lang/ArrayIndexOutOfBoundsException", "java/lang/IndexOutOfBoundsException"), ("java/lang/StringIndexOutOfBoundsException", "java/lang/IndexOutOfBoundsException"), ("NameMerges$Merge", "NameMerges$Merge"), ("NameMerges$Name", "NameMerges$Name"), ("NameMerges$Variant", "NameMerges$Variant"), ("NameMerges", "java/lang/Object"), ("NameMergesModel", "java/lang/Object"), ("java/lang/String", "java/lang/Object"), ("NameMerges$Name", "java/lang/Object"), ("NameMerges$Variant", "java/lang/Object"), ("NameMerges$Days", "java/lang/Object"), ("NameMerges$Merge", "java/lang/Object")]
def zNcs : List (String × String) := [("java/lang/IndexOutOfBoundsException", "java/lang/IllegalStateException"), ("java/lang/IndexOutOfBoundsException", "java/lang/IllegalArgumentException"), ("java/lang/IllegalStateException", "java/lang/IndexOutOfBoundsException"), ("java/lang/IllegalStateException", "java/lang/IllegalArgumentException"), ("java/lang/IllegalArgumentException", "java/lang/IndexOutOfBoundsException"), ("java/lang/IllegalArgumentException", "java/lang/IllegalStateException")]
def zSts : List (String × Nat × String) := [("NameMerges", 49, "the pad is full"), ("NameMerges", 56, "this is no sign"), ("NameMerges", 70, "there are as many names as there may be"), ("NameMerges", 242, "there is no such name"), ("NameMerges", 89, "the name has as many variants as it may have"), ("NameMerges", 91, "the pad is empty"), ("NameMerges", 93, "there is no such language"), ("NameMerges", 248, "this is no day"), ("NameMerges", 250, "the days end ahead of their beginning"), ("NameMerges", 153, "there is no such pair"), ("NameMerges", 156, "there is no such side"), ("NameMerges", 246, "both are the same name"), ("NameMerges", 165, "there is no such kind of decision"), ("NameMerges", 167, "as many merges were told as may be"), ("NameMerges", 214, "no such name was found"), ("NameMerges", 244, "there is no such set"), ("NameMerges", 223, "this is no number outside"), ("NameMerges", 240, "nothing is counted there")]
abbrev zNst : Cond := Cond.methodLinkNest "NameMerges" 74 ⟨"NameMerges$Name", "<init>", "()V"⟩ "NameMerges"
abbrev zSel : Cond := Cond.selects "java/lang/StringBuilder" ⟨"java/lang/AbstractStringBuilder", "ensureCapacityInternal", "(I)V"⟩ ⟨"java/lang/AbstractStringBuilder", "ensureCapacityInternal", "(I)V"⟩
/-- of the tables, beside the good words -/
def gW (U : State) : Prop := (∀ x ∈ zDcl, va_Nw (.declares x) U) ∧ (∀ q ∈ zCst, va_Nw (.castable q.1 q.2) U) ∧ (∀ q ∈ zNcs, va_Nc q.1 q.2 U) ∧ (∀ q ∈ zSts, ∃ a, vk_R q.1 q.2.1 q.2.2 a U) ∧ va_AO "java/lang/Object" U ∧ va_Nw zNst U ∧ va_Nw zSel U
theorem gW.moved {u U : State} (hW : u.WarmedH U.vm) (h : gW u) : gW U :=
  ⟨fun x hx => va_Nw.warmD hW (h.1 x hx), fun q hq => va_Nw.warmC hW (h.2.1 q hq), fun q hq => va_Nc.moved hW.alike (h.2.2.1 q hq), fun q hq => (h.2.2.2.1 q hq).imp fun a ha => vk_R.warm hW ha, va_AO.moved hW.alike h.2.2.2.2.1, va_Nw.warmM hW h.2.2.2.2.2.1, word_at hW (Or.inl rfl) h.2.2.2.2.2.2⟩
/-- of the heap: statics that no call writes; ad: the empty array of the lists -/
def gH (N0 ad mi : Nat) (U : State) : Prop := gLs "java/lang/Throwable" "UNASSIGNED_STACK" "[Ljava/lang/StackTraceElement;" N0 U ∧ gLs "java/lang/Throwable" "SUPPRESSED_SENTINEL" "Ljava/util/List;" N0 U ∧
  va_Z "java/lang/String" "COMPACT_STRINGS" "Z" (.int 1) (fun q => N0 ≤ q) U U.heap ∧ va_Z "java/util/ArrayList" "DEFAULTCAPACITY_EMPTY_ELEMENTDATA" "[Ljava/lang/Object;" (.ref ad) (fun q => N0 ≤ q) U U.heap ∧ va_T (.object "java/lang/Object") ad 0 (fun _ => .null) (fun q => N0 ≤ q) U U.heap ∧
  va_Mi "[Ljava/lang/Object;" mi U ∧ (∃ r : Option Nat, va_Z "jdk/internal/util/Preconditions" "SIOOBE_FORMATTER" "Ljava/util/function/BiFunction;" (va_rf r) (fun q => N0 ≤ q) U U.heap)
theorem gH.moved {N0 ad mi : Nat} {u U : State} (hvm : u.vm.Alike U.vm) (hh : ∀ q : Nat, q < N0 → U.heap[q]? = u.heap[q]?) (h : gH N0 ad mi u) : gH N0 ad mi U := by
  have hk : ∀ a : Nat, a < u.heap.size → ¬ (fun q => N0 ≤ q) a → U.heap[a]? = u.heap[a]? := fun a _ ha => hh a (Nat.lt_of_not_le ha)
  exact ⟨h.1.moved hvm hh, h.2.1.moved hvm hh, (h.2.2.1.kept hk).moved hvm, (h.2.2.2.1.kept hk).moved hvm, (h.2.2.2.2.1.kept hk).moved hvm, h.2.2.2.2.2.1.moved hvm, h.2.2.2.2.2.2.imp fun r hr => (hr.kept hk).moved hvm⟩
