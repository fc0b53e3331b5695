/-! likeness, candidates, lost: the same answers -/
section R6
variable {z : zT} {K : kT} {i : Nat → Int32} {f : Nat → Nat → Int32}
theorem rel.wf (h : rel z K i f) : wfV f (mnF z) (lnF z) := by
  obtain ⟨v1, v2, v3, -, -⟩ := h.var
  have h4 := h.bnd.2.2.2.2.2.2.1
  have h17 := h.bnd.2.2.2.2.2.2.2
  refine ⟨fun a ha => ⟨v1 a ha, ?_⟩, fun v hv => ⟨v2 v hv, ?_⟩, fun a j ha hj => ?_⟩
  · unfold mnF
    split
    · exact h4 a
    · omega
  · unfold lnF
    split
    · exact h17 v
    · omega
  · unfold mnF at hj
    by_cases hn : a < z 3 0
    · rw [if_pos hn] at hj
      have := h4 a
      have hv : (4 * a + j) / 4 < z 3 0 ∧ (4 * a + j) % 4 < z 11 ((4 * a + j) / 4) := by
        rw [show (4 * a + j) / 4 = a by omega, show (4 * a + j) % 4 = j by omega]
        exact ⟨hn, hj⟩
      unfold lnF
      rw [if_pos hv]
      exact (v3 _ hv.1 hv.2).1
    · rw [if_neg hn] at hj
      omega
theorem vld4 {a j : Nat} (ha : a < z 3 0) (hj : j < z 11 a) (h4 : z 11 a ≤ 4) : (a * 4 + j) / 4 < z 3 0 ∧ (a * 4 + j) % 4 < z 11 ((a * 4 + j) / 4) := by
  rw [show (a * 4 + j) / 4 = a by omega, show (a * 4 + j) % 4 = j by omega]
  exact ⟨ha, hj⟩
theorem rel.pts (h : rel z K i f) {v w : Nat} (hv : v / 4 < z 3 0 ∧ v % 4 < z 11 (v / 4)) (hw : w / 4 < z 3 0 ∧ w % 4 < z 11 (w / 4)) : ptV (z 17 v) (z 17 w) (K 17 v) (K 17 w) = nI (ptsV f (lnF z) v w) ∧ ptsV f (lnF z) v w ≤ 240 := by
  obtain ⟨v1, v2, v3, -, -⟩ := h.var
  have hbv := h.bnd.2.2.2.2.2.2.2 v
  have hbw := h.bnd.2.2.2.2.2.2.2 w
  obtain ⟨a1, a2, -⟩ := v3 v hv.1 hv.2
  obtain ⟨b1, b2, -⟩ := v3 w hw.1 hw.2
  have hch : ∀ u, (u / 4 < z 3 0 ∧ u % 4 < z 11 (u / 4)) → ∀ j, j < z 17 u → chV (K 17 u j) = K 17 u j := fun u hu j hj => by
    obtain ⟨q, hq, e⟩ := sgN_lt (h.ok.2 u j hu.1 hu.2 hj)
    rw [e, x_chV q hq]
  have els := ls_ok (A := K 17 v) (B := K 17 w) (s := tx9 f v) (t := tx9 f w) (ka := z 17 v) (kb := z 17 w) (by omega) (fun j hj => by rw [hch v hv j hj]; exact (a2 j hj).symm) (fun j hj => by rw [hch w hw j hj]; exact (b2 j hj).symm)
  have hl : lcs (tx9 f v) (tx9 f w) (z 17 v) (z 17 w) ≤ z 17 v := lcs_le9 _ _
  have el : lcsV f (lnF z) v w = lcs (tx9 f v) (tx9 f w) (z 17 v) (z 17 w) := by
    unfold lcsV lnF
    rw [if_pos hv, if_pos hw]
  unfold ptsV
  rw [el, show lnF z v = z 17 v from if_pos hv, show lnF z w = z 17 w from if_pos hw]
  generalize lcs (tx9 f v) (tx9 f w) (z 17 v) (z 17 w) = Lc at els hl
  refine ⟨?_, Nat.le_trans (Nat.div_le_self _ _) (by omega)⟩
  unfold ptV
  rw [if_neg (by omega), els, show (20 : Int32) = nI 20 from rfl, pk_mul, pk_div (by omega) (by omega) (by omega)]
theorem max_nI {a b : Nat} (ha : a < 1000) (hb : b < 1000) : maxV (nI a) (nI b) = nI (if a < b then b else a) := by
  unfold maxV
  by_cases h : a < b
  · rw [if_pos h, if_pos ((nI_ltI (by omega) (by omega)).mpr h)]
  · rw [if_neg h, if_neg (fun h9 => h ((nI_ltI (by omega) (by omega)).mp h9))]
theorem rel.mp (h : rel z K i f) {a b : Nat} (ha : a < z 3 0) (hb : b < z 3 0) : mpV z K a b = nI (mx2 f (lnF z) (mnF z) a b (mnF z a)) := by
  have h4a := h.bnd.2.2.2.2.2.2.1 a
  have h4b := h.bnd.2.2.2.2.2.2.1 b
  have inner : ∀ j, j < z 11 a → ∀ c0, c0 ≤ 240 → ∀ k, k ≤ z 11 b → upt (mpS z K a b j) k (nI c0) = nI (mxTo (ptP f (lnF z) a b j) c0 k) ∧ mxTo (ptP f (lnF z) a b j) c0 k ≤ 240 := by
    intro j hj c0 hc0 k
    induction k with
    | zero => intro _; exact ⟨rfl, hc0⟩
    | succ k ih =>
      intro hk
      obtain ⟨e1, e2⟩ := ih (by omega)
      obtain ⟨p1, p2⟩ := h.pts (vld4 ha hj h4a) (vld4 hb (show k < z 11 b by omega) h4b)
      have ep : ptP f (lnF z) a b j k = ptsV f (lnF z) (a * 4 + j) (b * 4 + k) := by unfold ptP; rw [show 4 * a + j = a * 4 + j by omega, show 4 * b + k = b * 4 + k by omega]
      show mpS z K a b j (upt (mpS z K a b j) k (nI c0)) k = _ ∧ _
      unfold mpS at e1 ⊢
      rw [e1, p1, max_nI (by omega) (by omega), mxTo, ep]
      refine ⟨rfl, ?_⟩
      split <;> omega
  have outer : ∀ j, j ≤ z 11 a → upt (mpR z K a b) j 0 = nI (mx2 f (lnF z) (mnF z) a b j) ∧ mx2 f (lnF z) (mnF z) a b j ≤ 240 := by
    intro j
    induction j with
    | zero => intro _; exact ⟨rfl, Nat.zero_le _⟩
    | succ j ih =>
      intro hj
      obtain ⟨e1, e2⟩ := ih (by omega)
      obtain ⟨q1, q2⟩ := inner j (by omega) _ e2 (z 11 b) (Nat.le_refl _)
      show mpR z K a b (upt (mpR z K a b) j 0) j = _ ∧ _
      unfold mpR at e1 ⊢
      rw [e1, q1, mx2, show mnF z b = z 11 b from if_pos hb]
      exact ⟨rfl, q2⟩
  rw [show mnF z a = z 11 a from if_pos ha]
  exact (outer _ (Nat.le_refl _)).1
theorem mask_any {x y : Int32} {P Q : Nat → Int32} {na nb c0 : Nat} (hx : ∀ l, l < 32 → bt x l = anyTo (fun j => decide (P j = nI (c0 + l))) na) (hy : ∀ l, l < 32 → bt y l = anyTo (fun j => decide (Q j = nI (c0 + l))) nb) (hP : ∀ j, j < na → ∃ l, l < 32 ∧ P j = nI (c0 + l)) : decide (x &&& y = 0) = !anyTo (fun j => anyTo (fun k => decide (P j = Q k)) nb) na := by
  cases hA : anyTo (fun j => anyTo (fun k => decide (P j = Q k)) nb) na
  · have : x &&& y = 0 := and_zero.mpr fun l hl hb => by
      obtain ⟨h1, h2⟩ := hb
      rw [hx l hl] at h1
      rw [hy l hl] at h2
      obtain ⟨j, hj, e1⟩ := (anyTo_iff _).mp h1
      obtain ⟨k, hk, e2⟩ := (anyTo_iff _).mp h2
      have e3 := of_decide_eq_true e1
      have e4 := of_decide_eq_true e2
      have : anyTo (fun j => anyTo (fun k => decide (P j = Q k)) nb) na = true := (anyTo_iff _).mpr ⟨j, hj, (anyTo_iff _).mpr ⟨k, hk, decide_eq_true (e3.trans e4.symm)⟩⟩
      rw [this] at hA
      cases hA
    rw [decide_eq_true this]
    rfl
  · obtain ⟨j, hj, e1⟩ := (anyTo_iff _).mp hA
    obtain ⟨k, hk, e2⟩ := (anyTo_iff _).mp e1
    have e3 := of_decide_eq_true e2
    obtain ⟨l, hl, e4⟩ := hP j hj
    have : ¬ (x &&& y = 0) := fun h9 => (and_zero.mp h9) l hl ⟨by rw [hx l hl]; exact (anyTo_iff _).mpr ⟨j, hj, decide_eq_true e4⟩, by rw [hy l hl]; exact (anyTo_iff _).mpr ⟨k, hk, decide_eq_true (e3 ▸ e4)⟩⟩
    rw [decide_eq_false this]
    rfl
theorem rel.lk (h : rel z K i f) {a b : Nat} (ha : a < z 3 0) (hb : b < z 3 0) : lkV z K a b = likeV f (lnF z) (mnF z) a b := by
  have h24 : z 3 0 ≤ 24 := h.bnd.2.2.1
  obtain ⟨-, -, v3, v4, -⟩ := h.var
  have h4a := h.bnd.2.2.2.2.2.2.1 a
  have es := mask_any (c0 := 0) (fun l hl => by rw [Nat.zero_add]; exact v4 a ha l hl) (fun l hl => by rw [Nat.zero_add]; exact v4 b hb l hl) (fun j hj => by
    have hv := vld4 ha hj h4a
    obtain ⟨-, -, ⟨l, hl, e⟩, -⟩ := v3 _ hv.1 hv.2
    exact ⟨l, by omega, by rw [Nat.zero_add, show 4 * a + j = a * 4 + j by omega]; exact e⟩)
  have esam : samB f (mnF z) a b = !decide (K 10 a 0 &&& K 10 b 0 = 0) := by
    rw [es, Bool.not_not]
    unfold samB samP
    rw [show mnF z a = z 11 a from if_pos ha, show mnF z b = z 11 b from if_pos hb]
  have da := h.dat a (by omega)
  have db := h.dat b (by omega)
  unfold lkV likeV
  rw [h.mp ha hb, esam]
  have e1 : (if K 10 a 0 &&& K 10 b 0 = 0 then nI (mx2 f (lnF z) (mnF z) a b (mnF z a)) else nI (mx2 f (lnF z) (mnF z) a b (mnF z a)) + 2) = nI (mx2 f (lnF z) (mnF z) a b (mnF z a)) + (if (!decide (K 10 a 0 &&& K 10 b 0 = 0)) = true then 2 else 0) := by
    by_cases e : K 10 a 0 &&& K 10 b 0 = 0
    · rw [if_pos e, decide_eq_true e, if_neg (by simp), Int32.add_zero]
    · rw [if_neg e, decide_eq_false e, if_pos (by simp)]
  rw [e1]
  congr 1
  unfold togB datB
  by_cases ea : 0 < z 14 a
  · rw [if_pos ⟨ha, ea⟩] at da
    by_cases eb : 0 < z 14 b
    · rw [if_pos ⟨hb, eb⟩] at db
      rw [if_neg (by omega), decide_eq_false da.2.2, decide_eq_false db.2.2, ← da.1, ← da.2.1, ← db.1, ← db.2.1]
      unfold meetB
      simp
    · rw [if_neg (fun q => eb q.2)] at db
      rw [if_pos (by omega), decide_eq_true db]
      simp
  · rw [if_neg (fun q => ea q.2)] at da
    rw [if_pos (by omega), decide_eq_true da]
    simp
/-- lost -/
theorem rel.los (h : rel z K i f) {q : Int32} : lostV z K q = losB f (lnF z) (mnF z) q (z 3 0) := by
  obtain ⟨-, -, v3, -, v5⟩ := h.var
  unfold lostV losB
  refine anyTo_congr _ (fun a ha => anyTo_congr _ (fun b hb => ?_))
  have h4a := h.bnd.2.2.2.2.2.2.1 a
  have es := mask_any (c0 := 97) (v5 a ha) (v5 b hb) (fun j hj => by
    have hv := vld4 ha hj h4a
    obtain ⟨w1, w2, -⟩ := v3 _ hv.1 hv.2
    obtain ⟨q9, q1, q2, e⟩ := h.ok.2 _ 0 hv.1 hv.2 (by omega)
    refine ⟨q9 - 97, by omega, ?_⟩
    rw [show 97 + (q9 - 97) = q9 by omega, show 12 * (4 * a + j) = 12 * (a * 4 + j) + 0 by omega, w2 0 (by omega)]
    exact e)
  unfold lowP
  congr 1
  unfold lostQ lostP losP
  rw [h.lk ha hb, es]
  congr 1
  unfold begB begP
  rw [show mnF z a = z 11 a from if_pos ha, show mnF z b = z 11 b from if_pos hb]
/-- candidate -/
theorem sd01 {sd : Int32} : (!decide (sd < 0) && !decide (1 < sd)) = (decide (sd = 0) || decide (sd = 1)) := by
  rw [Bool.eq_iff_iff]
  simp only [Bool.and_eq_true, Bool.or_eq_true, Bool.not_eq_true', decide_eq_true_eq, decide_eq_false_iff_not]
  constructor
  · rintro ⟨h1, h2⟩
    obtain ⟨j, hj, rfl⟩ := nI_of h1
    have : ¬ 1 < j := fun h9 => h2 ((nI_ltI (a := 1) (b := j) (by omega) (by omega)).mpr h9)
    rcases (show j = 0 ∨ j = 1 by omega) with e | e
    · exact Or.inl (by rw [e]; rfl)
    · exact Or.inr (by rw [e]; rfl)
  · rintro (rfl | rfl)
    · exact ⟨by decide, by decide⟩
    · exact ⟨by decide, by decide⟩
theorem rel.cnd (h : rel z K i f) {j : Nat} {sd : Int32} (hj : j < z 0 0) : cndV K j sd = if sd = 0 then f 18 j else f 19 j := by
  obtain ⟨a, b, ha, hb, e1, e2, e3⟩ := h.pai.2 j hj
  unfold cndV
  rw [e3, e1, e2, show (24 : Int32) = nI 24 from rfl]
  by_cases e : sd = 0
  · rw [if_pos e, if_pos e, pk_div (by omega) (by omega) (by omega), show (a * 24 + b) / 24 = a by omega]
  · rw [if_neg e, if_neg e, pk_rem (by omega) (by omega) (by omega), show (a * 24 + b) % 24 = b by omega]
theorem cnt_mono {P Q : Nat → Bool} (h : ∀ p, P p = true → Q p = true) : ∀ m, cntTo P m ≤ cntTo Q m
  | 0 => Nat.le_refl _
  | m + 1 => by
    have := cnt_mono h m
    have hm := h m
    rw [cntTo, cntTo]
    cases hp : P m
    · simp; omega
    · rw [hm hp]; simp; omega
theorem cnt_up (P : Nat → Bool) {m : Nat} : ∀ d, cntTo P m ≤ cntTo P (m + d)
  | 0 => Nat.le_refl _
  | d + 1 => by
    have := cnt_up P (m := m) d
    rw [show m + (d + 1) = (m + d) + 1 by omega, cntTo]
    omega
theorem tri_cnt : cntTo triB 576 = 276 := by decide +kernel
def okS (Q : Nat → Bool) (st : Nat × (Nat → Int32)) (m : Nat) : Prop := st.1 = (selL Q m).length ∧ ∀ k p, (selL Q m)[k]? = some p → st.2 k = nI p
theorem okS_no {Q : Nat → Bool} {st : Nat × (Nat → Int32)} {m : Nat} (h : okS Q st m) : ∀ d, (∀ p, m ≤ p → p < m + d → Q p = false) → okS Q st (m + d)
  | 0, _ => h
  | d + 1, hq => by
    obtain ⟨h1, h2⟩ := okS_no h d (fun p a b => hq p a (by omega))
    unfold okS
    rw [show m + (d + 1) = (m + d) + 1 by omega, selL_succ, hq (m + d) (by omega) (by omega), if_neg (by simp), List.append_nil]
    exact ⟨h1, h2⟩
theorem okS_yes {Q : Nat → Bool} {st : Nat × (Nat → Int32)} {m : Nat} (h : okS Q st m) (hq : Q m = true) (hc : st.1 < 276) : okS Q (kpS st (nI m)) (m + 1) := by
  unfold okS kpS
  rw [selL_succ, if_pos hq, if_pos hc, List.length_append]
  refine ⟨by rw [h.1]; rfl, fun k p hk => ?_⟩
  by_cases e : k < (selL Q m).length
  · rw [List.getElem?_append_left e] at hk
    show upd st.2 st.1 (nI m) k = nI p
    rw [upd_ne (by rw [h.1]; omega)]
    exact h.2 k p hk
  · rw [List.getElem?_append_right (by omega)] at hk
    have e2 : k = (selL Q m).length := by
      obtain ⟨hlt, -⟩ := List.getElem?_eq_some_iff.mp hk
      simp at hlt
      omega
    rw [e2, Nat.sub_self] at hk
    show upd st.2 st.1 (nI m) k = nI p
    rw [e2, ← h.1, upd_self]
    simp at hk
    rw [hk]
/-- candidates -/
theorem rel.cans (h : rel z K i f) {q : Int32} {mo mt : Nat → Nat} (hG : ∀ dy, isD dy = true → ∀ a, a < 24 → (∀ b, 24 ≤ b → bt (owV z K (nI a) dy) b = false) ∧ ∀ b, bt (owV z K (nI a) dy) b = true ↔ conn mo mt (holdB f dy) (z 5 0) a b) {g0 : Nat → Int32} : okS (canQ f (lnF z) (mnF z) mo mt (z 5 0) (z 3 0) q) (upt (cnR z K q) (z 3 0) (0, g0)) 576 := by
  have h24 : z 3 0 ≤ 24 := h.bnd.2.2.1
  have hQ : ∀ a b, b < 24 → canQ f (lnF z) (mnF z) mo mt (z 5 0) (z 3 0) q (24 * a + b) = (decide (a < b) && (decide (b < z 3 0) && (decide (f 9 (24 * a + b) = 0) && (!oneB mo mt (holdB f 100000) (z 5 0) a b && !decide (likeV f (lnF z) (mnF z) a b < q))))) := fun a b hb => by
    unfold canQ triB
    rw [show (24 * a + b) / 24 = a by omega, show (24 * a + b) % 24 = b by omega]
  have hle : ∀ m, m < 576 → canQ f (lnF z) (mnF z) mo mt (z 5 0) (z 3 0) q m = true → (selL (canQ f (lnF z) (mnF z) mo mt (z 5 0) (z 3 0) q) m).length < 276 := fun m hm hq => by
    have h1 := cnt_mono (P := canQ f (lnF z) (mnF z) mo mt (z 5 0) (z 3 0) q) (Q := triB) (fun p hp => by unfold canQ at hp; simp only [Bool.and_eq_true] at hp; exact hp.1) (m + 1)
    have h2 := cnt_up triB (m := m + 1) (576 - (m + 1))
    rw [show m + 1 + (576 - (m + 1)) = 576 by omega, tri_cnt] at h2
    rw [cntTo, hq, if_pos rfl] at h1
    rw [selL_cnt]
    omega
  have inner : ∀ a, a < z 3 0 → ∀ st, okS (canQ f (lnF z) (mnF z) mo mt (z 5 0) (z 3 0) q) st (24 * a) → ∀ b, b ≤ z 3 0 → okS (canQ f (lnF z) (mnF z) mo mt (z 5 0) (z 3 0) q) (upt (cnS z K q a) b st) (24 * a + b) := by
    intro a ha st hst b
    induction b with
    | zero => intro _; exact hst
    | succ b ih =>
      intro hb
      have hi := ih (by omega)
      have hbn : b < z 3 0 := by omega
      have eQ : canQ f (lnF z) (mnF z) mo mt (z 5 0) (z 3 0) q (24 * a + b) = (decide (a < b) && canP z K q a b) := by
        rw [hQ a b (by omega), decide_eq_true hbn, Bool.true_and]
        unfold canP
        rw [has_one (hG 100000 (by decide) a (by omega)).2 (show b < 24 by omega), h.lk ha hbn]
        by_cases hab : a < b
        · have e9 := h.dec.1 a b (by omega) (by omega) (by omega)
          rw [Nat.min_eq_left (by omega), Nat.max_eq_right (by omega)] at e9
          rw [e9]
          cases decide (a < b) <;> cases oneB mo mt (holdB f 100000) (z 5 0) a b <;> cases decide (K 7 0 (a * 24 + b) = 0) <;> simp
        · rw [decide_eq_false hab]; rfl
      show okS _ (cnS z K q a (upt (cnS z K q a) b st) b) (24 * a + b + 1)
      unfold cnS at hi ⊢
      by_cases hc : (decide (a < b) && canP z K q a b) = true
      · rw [if_pos hc, show a * 24 + b = 24 * a + b by omega]
        refine okS_yes hi (by rw [eQ]; exact hc) ?_
        rw [hi.1]
        exact hle _ (by omega) (by rw [eQ]; exact hc)
      · rw [if_neg hc]
        exact okS_no hi 1 (fun p a1 a2 => by
          rw [show p = 24 * a + b by omega, eQ]
          simpa using hc)
  have outer : ∀ a, a ≤ z 3 0 → okS (canQ f (lnF z) (mnF z) mo mt (z 5 0) (z 3 0) q) (upt (cnR z K q) a (0, g0)) (24 * a) := by
    intro a
    induction a with
    | zero => intro _; exact ⟨rfl, fun k p hk => by cases hk⟩
    | succ a ih =>
      intro ha
      have hi := inner a (by omega) _ (ih (by omega)) (z 3 0) (Nat.le_refl _)
      have hn := okS_no hi (24 - z 3 0) (fun p a1 a2 => by
        have e : p = 24 * a + (p - 24 * a) := by omega
        rw [e, hQ a _ (by omega), decide_eq_false (show ¬ p - 24 * a < z 3 0 by omega)]
        simp)
      rw [show 24 * a + z 3 0 + (24 - z 3 0) = 24 * (a + 1) by omega] at hn
      exact hn
  have hn := okS_no (outer _ (Nat.le_refl _)) (576 - 24 * z 3 0) (fun p a1 a2 => by
    have e : p = 24 * (p / 24) + p % 24 := by omega
    rw [e, hQ _ _ (by omega)]
    by_cases hab : p / 24 < p % 24
    · rw [decide_eq_false (show ¬ p % 24 < z 3 0 by omega)]; simp
    · rw [decide_eq_false hab]; rfl)
  rw [show 24 * z 3 0 + (576 - 24 * z 3 0) = 576 by omega] at hn
  exact hn
end R6
