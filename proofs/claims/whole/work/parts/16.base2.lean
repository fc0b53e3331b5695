/-! calls that answer a reference; pure callees; static callees of other owners -/
section HC2
variable {p : Program} {l : Launch} {e : Env} {R : Room} {s : State} {m : MethodId} {args : Array Value} {below : List Frame} {meth : Method} {c : Code} {H : Heap} {locs : List Loc} {cells slots : Nat} {Q : State → Prop}
variable {cc : ByteArray} {pc mc ms : Nat} {ls : Array Slot} {rest st0 : List Value} {A0 A1 : Nat → Prop} {H0 : Heap} {av : Array Value}
theorem lv_eqv {x y : Value} (h : x = y) (k : W p l e R s m args below meth c H locs cells slots Q (F0 m pc ls (y :: rest))) : W p l e R s m args below meth c H locs cells slots Q (F0 m pc ls (x :: rest)) := h ▸ k
theorem h_callq {post : Option Nat → Heap → Prop} (hr : va_Run p l e R s m args below meth c H locs cells slots mc ms (F0 m pc ls st0) rest (hQq post A1 av) A1) (hS : va_S A0 H0 H locs) (hA : ∀ q, A1 q → A0 q)
    (kk : ∀ (r : Option Nat) (H1 : Heap) (locs1 : List Loc), post r H1 → H.size ≤ H1.size → (∀ q : Nat, q < H.size → ¬ A1 q → H1[q]? = H[q]?) → va_S A0 H0 H1 locs1 → W p l e R s m args below meth c H1 locs1 (cells + mc) (slots + ms) Q (F0 m (pc + 3) ls (va_rf r :: rest))) : W p l e R s m args below meth c H locs cells slots Q (F0 m pc ls st0) :=
  va_callq hr hS (fun q _ h => hA q h) hA (fun r u t H1 locs1 ht _ hp hb hz hk hS1 => by
    have hu : u = H1 := hb.symm.trans ht
    subst hu
    exact kk r u locs1 hp hz hk hS1)
/-- a callee that reads alone -/
abbrev noA : Nat → Prop := fun _ => False
theorem h_purei {r0 : Int32} (hr : va_Run p l e R s m args below meth c H locs cells slots 0 0 (F0 m pc ls st0) rest (hQi (fun r H' => H' = H ∧ r = r0) noA av) noA) (hS : va_S A0 H0 H locs)
    (kk : ∀ (locs1 : List Loc), va_S A0 H0 H locs1 → W p l e R s m args below meth c H locs1 cells slots Q (F0 m (pc + 3) ls (.int r0 :: rest))) : W p l e R s m args below meth c H locs cells slots Q (F0 m pc ls st0) :=
  h_calli hr hS (fun _ h => h.elim) (fun r H1 locs1 hp _ _ hS1 => by
    obtain ⟨h1, h2⟩ := hp
    subst h1; subst h2
    exact kk locs1 hS1)
theorem h_pureq {r0 : Option Nat} (hr : va_Run p l e R s m args below meth c H locs cells slots 0 0 (F0 m pc ls st0) rest (hQq (fun r H' => H' = H ∧ r = r0) noA av) noA) (hS : va_S A0 H0 H locs)
    (kk : ∀ (locs1 : List Loc), va_S A0 H0 H locs1 → W p l e R s m args below meth c H locs1 cells slots Q (F0 m (pc + 3) ls (va_rf r0 :: rest))) : W p l e R s m args below meth c H locs cells slots Q (F0 m pc ls st0) :=
  h_callq hr hS (fun _ h => h.elim) (fun r H1 locs1 hp _ _ hS1 => by
    obtain ⟨h1, h2⟩ := hp
    subst h1; subst h2
    exact kk locs1 hS1)
end HC2
theorem noA_in {N0 : Nat} : ∀ q, noA q → N0 ≤ q := fun _ h => h.elim
theorem gw_T {own : String} {idx n : Nat} {z : MethodName} {cz : ByteArray} {rz : Option FieldType} (h1 : Cond.methodLink own idx z ∈ gw) (h2 : Cond.static z ∈ gw) (h4 : Cond.initialized z.cls ∈ gw) (h5 : Cond.code z cz n rz ∈ gw) : GoodIn gw (va_wsS own idx z (Cond.code z cz n rz :: gw)) :=
  gw_sub (gw_cons h1 (gw_cons h2 (gw_cons h4 (gw_cons h5 (fun _ h => h)))))
