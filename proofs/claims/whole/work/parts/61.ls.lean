/-! the law's own state: the class's object, the reference's, the array out; and what they have in common -/
def lsM (N0 : Nat) (xm : Nat) (gm : Nat → Nat) (r : Nat → Nat × Nat) (out : Nat) : Prop := md_sep N0 xm gm ∧ (∀ q, md_A xm gm q → ¬ (r q).1 < 20) ∧ ¬ (r out).1 < 20 ∧ ¬ md_A xm gm out ∧ N0 ≤ out
def lwS (D : va_G) (cs : Nat → ClassId) (N0 : Nat) (H : Heap) (xm : Nat) (gm : Nat → Nat) (out : Nat) (o z : zT) (K : kT) (r : Nat → Nat × Nat) (i : Nat → Int32) (f : Nat → Nat → Int32) (gl : Nat → Int64) : Prop := nmP D cs N0 H o z K r ∧ md_I D cs H xm gm i f ∧ lsM N0 xm gm r out ∧ va_at D vwCl (out, .inl (cs 3, (1, .inr (.inl gl)))) H ∧ rel z K i f
section LSS
variable {D : va_G} {cs : Nat → ClassId} {N0 : Nat} {H H1 H2 Hc : Heap} {xm out : Nat} {gm : Nat → Nat} {o z o' z' : zT} {K K' : kT} {r r' : Nat → Nat × Nat} {i i' : Nat → Int32} {f f' : Nat → Nat → Int32} {gl gl' : Nat → Int64}
theorem md_I.lt (h : md_I D cs H xm gm i f) {q : Nat} (hq : md_A xm gm q) : q < H.size := by
  rcases hq with rfl | ⟨k, hk, rfl⟩
  · exact hx_lt h.1
  · exact hx_lt (h.2 k hk)
theorem md_I.keepA (h : md_I D cs H xm gm i f) (hk : ∀ q, md_A xm gm q → H1[q]? = H[q]?) : md_I D cs H1 xm gm i f := ⟨hx_keep h.1 (hk _ (Or.inl rfl)), fun k hk9 => hx_keep (h.2 k hk9) (hk _ (Or.inr ⟨k, hk9, rfl⟩))⟩
theorem nmP.owned (hI : nmP D cs N0 H o z K r) {q k n : Nat} (hv : nmv z k n) (hq : ¬ (r q).1 < 20) : o k n ≠ q := fun e => hq (by rw [← e, (hI.1 k n hv).2]; exact nmv_lt hv)
/-- the class has changed, then out was written -/
theorem lwS.cls (h : lwS D cs N0 H xm gm out o z K r i f gl) (hn : nmP D cs N0 Hc o' z' K' r') (hr : ∀ q, q < H.size → r' q = r q) (hk : ∀ q : Nat, q < H.size → ¬ (nmA r H.size q ∨ q = out) → H1[q]? = H[q]?) (hf : ∀ q : Nat, q ≠ out → H1[q]? = Hc[q]?) : nmP D cs N0 H1 o' z' K' r' ∧ md_I D cs H1 xm gm i f ∧ lsM N0 xm gm r' out := by
  obtain ⟨h1, h2, ⟨s1, s2, s3, s4, s5⟩, h4, h5⟩ := h
  have hout : out < H.size := hx_lt h4
  have hro : ¬ (r' out).1 < 20 := by rw [hr out hout]; exact s3
  refine ⟨hn.keep (fun k n hv => hf _ (hn.owned hv hro)), h2.keepA (fun q hq => hk q (h2.lt hq) (fun h9 => ?_)), s1, fun q hq => by rw [hr q (h2.lt hq)]; exact s2 q hq, hro, s4, s5⟩
  have hlt := h2.lt hq
  rcases h9 with (h9 | h9) | h9
  · exact s2 q hq h9
  · omega
  · exact s4 (h9 ▸ hq)
/-- nothing that was there has changed -/
theorem lwS.same (h : lwS D cs N0 H xm gm out o z K r i f gl) (hk : ∀ q : Nat, q < H.size → H1[q]? = H[q]?) : lwS D cs N0 H1 xm gm out o z K r i f gl := by
  obtain ⟨h1, h2, h3, h4, h5⟩ := h
  exact ⟨h1.keep (fun k n hv => hk _ (h1.lt hv)), h2.keepA (fun q hq => hk q (h2.lt hq)), h3, hx_keep h4 (hk _ (hx_lt h4)), h5⟩
/-- the reference has changed -/
theorem lwS.mdl (h1 : nmP D cs N0 H1 o z K r) (h3 : lsM N0 xm gm r out) (h4 : va_at D vwCl (out, .inl (cs 3, (1, .inr (.inl gl)))) H1) (hk : ∀ q : Nat, q < H1.size → ¬ md_A xm gm q → H2[q]? = H1[q]?) (hm : md_I D cs H2 xm gm i' f') (hr : rel z K i' f') : lwS D cs N0 H2 xm gm out o z K r i' f' gl :=
  ⟨h1.keep (fun k n hv => hk _ (h1.lt hv) (fun hq => h1.owned hv (h3.2.1 _ hq) rfl)), hm, h3, hx_keep h4 (hk _ (hx_lt h4) h3.2.2.2.1), hr⟩
end LSS
theorem goV_0 {a b c : Bool} : goV a b c = 0 ↔ goB a b c = true := by
  unfold goV goB
  cases a <;> cases b <;> cases c <;> simp <;> decide
theorem goV_n {a b c : Bool} (h : ¬ goV a b c = 0) : ¬ goB a b c = true := fun h9 => h (goV_0.mpr h9)
theorem nu1 {q : Int32} : (!decide (q < 1) && !decide (999999 < q)) = numB q := by
  unfold numB
  congr 2
  rw [decide_eq_decide]
  constructor
  · intro h
    refine Int32.not_lt.mp (fun h9 => ?_)
    obtain ⟨j, hj, e⟩ := nI_of (fun h8 : q < 0 => Int32.lt_irrefl (Int32.lt_trans h8 h9))
    rw [e] at h h9
    have a1 := (nI_ltI (a := j) (b := 1) (by omega) (by omega)).mp h
    have a2 := (nI_ltI (a := 0) (b := j) (by omega) (by omega)).mp h9
    omega
  · intro h
    exact Int32.lt_of_le_of_lt h (by decide)
theorem lg6 {q : Int32} : decide (6 ≤ q) = decide (5 < q) := by
  rw [decide_eq_decide]
  constructor
  · intro h
    exact Int32.lt_of_lt_of_le (by decide) h
  · intro h
    obtain ⟨j, hj, e⟩ := nI_of (fun h8 : q < 0 => Int32.lt_irrefl (Int32.lt_trans h8 (Int32.lt_trans (by decide) h)))
    rw [e] at h ⊢
    have a1 := (nI_ltI (a := 5) (b := j) (by omega) (by omega)).mp h
    exact (nI_leI (a := 6) (b := j) (by omega) (by omega)).mpr (by omega)
