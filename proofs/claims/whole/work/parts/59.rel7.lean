/-! counts, new variants, found pairs: the same answers -/
section R7
variable {z : zT} {K : kT} {i : Nat → Int32} {f : Nat → Nat → Int32}
theorem sumTo_congr {F G : Nat → Nat} : ∀ m, (∀ k, k < m → F k = G k) → sumTo F m = sumTo G m
  | 0, _ => rfl
  | m + 1, h => by rw [sumTo, sumTo, sumTo_congr m (fun k hk => h k (by omega)), h m (Nat.lt_succ_self _)]
theorem sumTo_zero {F : Nat → Nat} {n : Nat} : ∀ d, (∀ k, n ≤ k → k < n + d → F k = 0) → sumTo F (n + d) = sumTo F n
  | 0, _ => rfl
  | d + 1, h => by
    rw [show n + (d + 1) = (n + d) + 1 by omega, sumTo, h (n + d) (by omega) (by omega), sumTo_zero d (fun k a b => h k a (by omega))]
    rfl
theorem cv_sum : ∀ m, upt (cvS z) m 0 = nI (sumTo (z 11) m)
  | 0 => rfl
  | m + 1 => by
    show cvS z (upt (cvS z) m 0) m = _
    unfold cvS
    rw [show upt (fun a n => a + nI (z 11 n)) m 0 = nI (sumTo (z 11) m) from cv_sum m, nI_add, sumTo]
theorem cnt_congr {P Q : Nat → Bool} : ∀ m, (∀ k, k < m → P k = Q k) → cntTo P m = cntTo Q m
  | 0, _ => rfl
  | m + 1, h => by rw [cntTo, cntTo, cnt_congr m (fun k hk => h k (by omega)), h m (Nat.lt_succ_self _)]
theorem cd_cnt : ∀ m, upt (cdS K) m 0 = nI (cntTo (fun k => !decide (K 7 0 k = 0)) m)
  | 0 => rfl
  | m + 1 => by
    show cdS K (upt (cdS K) m 0) m = _
    have ih := cd_cnt m
    generalize upt (cdS K) m 0 = X at ih ⊢
    unfold cdS
    rw [ih, cntTo]
    by_cases e : K 7 0 m = 0
    · rw [if_pos e, decide_eq_true e]; rfl
    · rw [if_neg e, decide_eq_false e, nI_1]; rfl
theorem cnt_add {P : Nat → Bool} {m : Nat} : ∀ d, cntTo P (m + d) = cntTo P m + cntTo (fun k => P (m + k)) d
  | 0 => rfl
  | d + 1 => by
    rw [show m + (d + 1) = (m + d) + 1 by omega, cntTo, cntTo, cnt_add d]
    omega
theorem cb_cnt (h : rel z K i f) {br : Nat → Bool} (hn : ∀ a, a < z 3 0 → ∀ b, b < 32 → bt (K 10 a 2) b = (decide (b < 24) && br (24 * a + b))) : ∀ m, m ≤ z 3 0 → upt (cbS K) m 0 = nI (cntTo br (24 * m))
  | 0, _ => rfl
  | m + 1, hm => by
    have ih := cb_cnt h hn m (by omega)
    show cbS K (upt (cbS K) m 0) m = _
    generalize upt (cbS K) m 0 = X at ih ⊢
    unfold cbS
    have e1 : cntTo (bt (K 10 m 2)) 32 = cntTo (fun k => br (24 * m + k)) 24 := by
      rw [show (32 : Nat) = 24 + 8 from rfl, cnt_ext 8 (fun k a b => by rw [hn m (by omega) k (by omega), decide_eq_false (by omega)]; rfl)]
      exact cnt_congr 24 (fun k hk => by rw [hn m (by omega) k (by omega), decide_eq_true hk]; rfl)
    rw [ih, bc_ok, e1, nI_add, show 24 * (m + 1) = 24 * m + 24 by omega, cnt_add]
/-- count -/
theorem rel.cnt (h : rel z K i f) {w : Int32} (hw : (!decide (w < 0) && !decide (5 < w)) = true) : cntC z K w = cntR f (mnF z) (z 1 0) (z 3 0) (z 5 0) w := by
  have h24 : z 3 0 ≤ 24 := h.bnd.2.2.1
  unfold cntC cntR cntX
  by_cases e0 : w = 0
  · rw [if_pos e0, if_pos e0]
  rw [if_neg e0, if_neg e0]
  by_cases e1 : w = 1
  · rw [if_pos e1, if_pos e1]
  rw [if_neg e1, if_neg e1]
  by_cases e2 : w = 2
  · rw [if_pos e2, if_neg (by rw [e2]; decide), if_pos e2, cv_sum]
    congr 1
    have := sumTo_zero (F := mnF z) (n := z 3 0) (24 - z 3 0) (fun k a _ => if_neg (by omega))
    rw [show z 3 0 + (24 - z 3 0) = 24 by omega] at this
    rw [this]
    exact sumTo_congr _ (fun k hk => (if_pos hk).symm)
  rw [if_neg e2]
  by_cases e3 : w = 3
  · rw [if_pos e3, if_pos e3]
  rw [if_neg e3, if_neg e3, if_neg e2]
  by_cases e4 : w = 4
  · rw [if_pos e4, if_pos (Or.inl e4), cd_cnt]
    refine congrArg nI (cnt_congr _ (fun k hk => ?_))
    unfold cntP
    rw [if_pos e4]
    have ek : k = 24 * (k / 24) + k % 24 := by omega
    by_cases hab : k / 24 < k % 24
    · have e9 := h.dec.1 (k / 24) (k % 24) (by omega) (by omega) (by omega)
      rw [Nat.min_eq_left (by omega), Nat.max_eq_right (by omega), ← ek, show k / 24 * 24 + k % 24 = k by omega] at e9
      have hn := h.dec.2.2 k hk
      rw [e9, decide_eq_true hab, Bool.and_true]
      congr 1
      rw [decide_eq_decide]
      constructor
      · intro q; rw [q]; decide
      · intro q
        obtain ⟨j, hj, e⟩ := nI_of hn
        rw [e] at q ⊢
        have : j ≤ 0 := (nI_leI (a := j) (b := 0) (by omega) (by omega)).mp q
        rw [show j = 0 by omega]
        rfl
    · have e9 := h.dec.2.1 (k / 24) (k % 24) (by omega) (by omega) hab
      rw [show k / 24 * 24 + k % 24 = k by omega] at e9
      rw [e9, decide_eq_false hab]
      simp
  · have e5 : w = 5 := by
      simp only [Bool.and_eq_true, Bool.not_eq_true', decide_eq_false_iff_not] at hw
      obtain ⟨j, hj, rfl⟩ := nI_of hw.1
      have h5 : ¬ 5 < j := fun h9 => hw.2 ((nI_ltI (a := 5) (b := j) (by omega) (by omega)).mpr h9)
      rcases (show j = 0 ∨ j = 1 ∨ j = 2 ∨ j = 3 ∨ j = 4 ∨ j = 5 by omega) with q | q | q | q | q | q
      · exact absurd (by rw [q]; rfl) e0
      · exact absurd (by rw [q]; rfl) e1
      · exact absurd (by rw [q]; rfl) e2
      · exact absurd (by rw [q]; rfl) e3
      · exact absurd (by rw [q]; rfl) e4
      · rw [q]; rfl
    obtain ⟨br, b1, b2, b3, -⟩ := h.brd
    rw [if_neg e4, if_pos (Or.inr e5), cb_cnt h b3 (z 3 0) (Nat.le_refl _)]
    refine congrArg nI ?_
    have e6 : cntTo br 576 = cntTo br (24 * z 3 0) := by
      have := cnt_ext (Q := br) (n := 24 * z 3 0) (576 - 24 * z 3 0) (fun p a1 a2 => by
        rw [show p = 24 * (p / 24) + p % 24 by omega]
        exact b2 _ _ (by omega) (by omega) (Or.inl (by omega)))
      rw [show 24 * z 3 0 + (576 - 24 * z 3 0) = 576 by omega] at this
      exact this
    rw [← e6]
    refine cnt_congr _ (fun k hk => ?_)
    unfold cntP
    rw [if_neg (by rw [e5]; decide), b1 k hk]
    cases br k <;> rfl
/-- candidates were looked for -/
theorem rel.candd {x : Int32} {c c9 : Nat} {g w : Nat → Int32} {Q : Nat → Bool} {F9 : Nat → Nat → Int32} (h : rel z K i f) (hc : okS Q (c, g) 576) (hcl : clI Q 576 (F9 18) (F9 19) c9) (hF : ∀ q, q ≠ 17 → q ≠ 18 → q ≠ 19 → q ≠ 21 → F9 q = f q) (hc276 : c ≤ 276) : nI c = nI c9 ∧ rel (upZ z 0 0 c) (upK (upK K 8 0 g) 9 0 w) (upd (upd i 0 x) 4 (nI c9)) F9 := by
  have e : c = c9 := hc.1.trans hcl.1.symm
  subst e
  refine ⟨rfl, ⟨hc276, h.bnd.2⟩, h.ok, ⟨h.pad.1, ?_⟩, h.nam, ?_, ?_, ?_, ?_, ?_, ?_, ⟨rfl, fun k hk => ?_⟩, ?_⟩
  · rw [hF 0 (by decide) (by decide) (by decide) (by decide)]; exact h.pad.2
  · unfold rVar
    rw [hF 1 (by decide) (by decide) (by decide) (by decide), hF 2 (by decide) (by decide) (by decide) (by decide), hF 3 (by decide) (by decide) (by decide) (by decide), hF 4 (by decide) (by decide) (by decide) (by decide), hF 5 (by decide) (by decide) (by decide) (by decide), hF 6 (by decide) (by decide) (by decide) (by decide)]
    exact h.var
  · unfold rDat
    rw [hF 7 (by decide) (by decide) (by decide) (by decide), hF 8 (by decide) (by decide) (by decide) (by decide)]
    exact h.dat
  · unfold rDec
    rw [hF 9 (by decide) (by decide) (by decide) (by decide)]
    exact h.dec
  · unfold rBrd
    rw [hF 10 (by decide) (by decide) (by decide) (by decide)]
    exact h.brd
  · unfold rNum
    rw [hF 12 (by decide) (by decide) (by decide) (by decide)]
    exact h.num
  · unfold rMrg
    rw [hF 13 (by decide) (by decide) (by decide) (by decide), hF 14 (by decide) (by decide) (by decide) (by decide), hF 15 (by decide) (by decide) (by decide) (by decide), hF 16 (by decide) (by decide) (by decide) (by decide)]
    exact h.mrg
  · have hk' : k < c := hk
    have hlt : k < (selL Q 576).length := by rw [← hc.1]; exact hk'
    obtain ⟨p, eg⟩ : ∃ p, (selL Q 576)[k]? = some p := ⟨_, List.getElem?_eq_getElem hlt⟩
    have hp : p < 576 := by
      have := List.mem_of_getElem? eg
      unfold selL at this
      exact List.mem_range.mp (List.mem_filter.mp this).1
    obtain ⟨a1, a2⟩ := hcl.2 k _ eg
    refine ⟨p / 24, p % 24, by omega, by omega, a1, a2, ?_⟩
    show g k = _
    rw [show g k = nI p from hc.2 k _ eg, show p / 24 * 24 + p % 24 = p by omega]
  · unfold rFnd
    rw [hF 20 (by decide) (by decide) (by decide) (by decide)]
    exact h.fnd
end R7
