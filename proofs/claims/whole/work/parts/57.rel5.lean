/-! numbers outside, what was found, searches: the same answers -/
section R5
variable {z : zT} {K : kT} {i : Nat → Int32} {f : Nat → Nat → Int32}
theorem numB_pos {q : Int32} (h : numB q = true) : ¬ q ≤ 0 := by
  unfold numB at h
  simp only [Bool.and_eq_true, Bool.not_eq_true', decide_eq_false_iff_not] at h
  exact h.1
theorem frs_none {P : Nat → Bool} : ∀ (n k : Nat), (∀ j, k ≤ j → j < k + n → P j = false) → frs P n k = -1
  | 0, _, _ => rfl
  | n + 1, k, h => by
    rw [frs, if_neg (by rw [h k (by omega) (by omega)]; simp)]
    exact frs_none n (k + 1) (fun j h1 h2 => h j (by omega) (by omega))
theorem rel.own (h : rel z K i f) {st : Nat} {q : Int32} (hs : st < 4) : ownV z K st q = fstFrom (ownP f st q) 0 (z 3 0) := by
  have h24 : z 3 0 ≤ 24 := h.bnd.2.2.1
  rw [← frs_from]
  unfold ownV
  by_cases hq : numB q = true
  · rw [if_pos hq]
    refine frs_congr _ _ (fun j _ hj => ?_)
    have e := (h.num j st (by omega) hs).1
    rw [if_pos (by omega)] at e
    unfold ownP
    rw [decide_eq_false (numB_pos hq), e]
    rfl
  · rw [if_neg hq]
    refine (frs_none _ _ (fun j _ hj => ?_)).symm
    unfold ownP
    by_cases h0 : q ≤ 0
    · rw [decide_eq_true h0]; rfl
    · have e := (h.num j st (by omega) hs).2
      rw [decide_eq_false (p := f 12 (4 * j + st) = q), Bool.and_false]
      intro e9
      rw [e9] at e
      rcases e with e | e
      · rw [e] at h0; exact h0 (by decide)
      · exact hq e
theorem selL_succ (Q : Nat → Bool) (m : Nat) : selL Q (m + 1) = selL Q m ++ (if Q m = true then [m] else []) := by
  unfold selL
  rw [List.range_succ, List.filter_append]
  congr 1
  by_cases h : Q m = true
  · rw [if_pos h]; simp [h]
  · rw [if_neg h]; simp [h]
theorem selL_ext {P Q : Nat → Bool} {n : Nat} : ∀ (d : Nat), (∀ m, m < n → P m = Q m) → (∀ m, n ≤ m → m < n + d → Q m = false) → selL P n = selL Q (n + d)
  | 0, h1, _ => by
    unfold selL
    exact List.filter_congr (fun m hm => h1 m (List.mem_range.mp hm))
  | d + 1, h1, h2 => by
    rw [show n + (d + 1) = (n + d) + 1 by omega, selL_succ, h2 (n + d) (by omega) (by omega), if_neg (by simp), List.append_nil]
    exact selL_ext d h1 (fun m a b => h2 m a (by omega))
theorem selL_cnt (Q : Nat → Bool) : ∀ m, (selL Q m).length = cntTo Q m
  | 0 => rfl
  | m + 1 => by
    rw [selL_succ, List.length_append, selL_cnt Q m, cntTo]
    split <;> rfl
theorem cnt_ext {Q : Nat → Bool} {n : Nat} : ∀ d, (∀ m, n ≤ m → m < n + d → Q m = false) → cntTo Q (n + d) = cntTo Q n
  | 0, _ => rfl
  | d + 1, h => by
    rw [show n + (d + 1) = (n + d) + 1 by omega, cntTo, h (n + d) (by omega) (by omega), if_neg (by simp)]
    exact cnt_ext d (fun m a b => h m a (by omega))
theorem bc_sel {x : Int32} (h : ∀ l, 24 ≤ l → bt x l = false) : bcV x = nI (selL (bt x) 24).length := by
  rw [bc_ok, selL_cnt, show (32 : Nat) = 24 + 8 from rfl, cnt_ext 8 (fun m a _ => h m a)]
theorem sel_low {x : Int32} {p : Nat} {t : List Nat} (h : selL (bt x) 24 = p :: t) : p < 24 ∧ bt x p = true ∧ (∀ j, j < p → bt x j = false) ∧ selL (bt (x &&& (x - 1))) 24 = t := by
  have hm : ∀ j, j ∈ selL (bt x) 24 ↔ j < 24 ∧ bt x j = true := fun j => by unfold selL; rw [List.mem_filter, List.mem_range]
  have hp := (hm p).mp (by rw [h]; exact List.mem_cons_self)
  have hpw : (selL (bt x) 24).Pairwise (· < ·) := by unfold selL; exact List.Pairwise.filter _ List.pairwise_lt_range
  rw [h] at hpw
  have hlt := (List.pairwise_cons.mp hpw).1
  have hlow : ∀ j, j < p → bt x j = false := fun j hj => by
    cases hx : bt x j
    · rfl
    · have hj2 := (hm j).mpr ⟨by omega, hx⟩
      rw [h] at hj2
      rcases List.mem_cons.mp hj2 with e | e
      · omega
      · have := hlt j e; omega
  refine ⟨hp.1, hp.2, hlow, ?_⟩
  have e1 : selL (bt (x &&& (x - 1))) 24 = (selL (bt x) 24).filter (fun n => !decide (n = p)) := by
    unfold selL
    rw [List.filter_filter]
    refine List.filter_congr (fun n _ => ?_)
    rw [low_clear hp.2 hlow, Bool.and_comm]
  rw [e1, h, List.filter_cons_of_neg (by simp)]
  exact List.filter_eq_self.mpr (fun n hn => by
    have := hlt n hn
    simp
    omega)
theorem sel_drop {x : Int32} : ∀ k, k ≤ (selL (bt x) 24).length → selL (bt (upt clrS k x)) 24 = (selL (bt x) 24).drop k
  | 0, _ => rfl
  | k + 1, hk => by
    have ih := sel_drop (x := x) k (by omega)
    have hlt : k < (selL (bt x) 24).length := by omega
    rw [List.drop_eq_getElem_cons hlt] at ih
    exact (sel_low ih).2.2.2
theorem found_eq {x : Int32} {k p : Nat} (h : (selL (bt x) 24)[k]? = some p) : ntV (upt clrS k x) = nI p := by
  obtain ⟨hlt, hg⟩ := List.getElem?_eq_some_iff.mp h
  have e := sel_drop (x := x) k (by omega)
  rw [List.drop_eq_getElem_cons hlt, hg] at e
  obtain ⟨a1, a2, a3, -⟩ := sel_low e
  exact ntV_low (by omega) a2 a3
/-- found -/
theorem rel.fnds (h : rel z K i f) : ∃ c, i 5 = nI c ∧ c ≤ 24 ∧ bcV (K 0 0 0) = nI c ∧ ∀ j, j < c → ntV (upt clrS j (K 0 0 0)) = f 20 j := by
  obtain ⟨c, h1, h2, h3, h4, h5⟩ := h.fnd
  refine ⟨c, h1, h2, by rw [bc_sel h3, ← h4], fun j hj => ?_⟩
  have hlt : j < (selL (bt (K 0 0 0)) 24).length := by rw [← h4]; exact hj
  have e := List.getElem?_eq_getElem hlt
  rw [found_eq e, h5 j _ e]
/-- is a name called so: the pad's signs and a variant's -/
theorem rel.cal (h : rel z K i f) {n : Nat} {day : Int32} (hn : n < z 3 0) : calB z K n day (z 1 0) (padF z K) = anyTo (hasP f (z 1 0) n day) (z 11 n) := by
  have h24 : z 3 0 ≤ 24 := h.bnd.2.2.1
  have h4 := h.bnd.2.2.2.2.2.2.1 n
  have h12 : z 1 0 ≤ 12 := h.bnd.2.1
  obtain ⟨v1, v2, v3, -, -⟩ := h.var
  unfold calB
  refine anyTo_congr _ (fun j hj => ?_)
  have hv : (n * 4 + j) / 4 < z 3 0 ∧ (n * 4 + j) % 4 < z 11 ((n * 4 + j) / 4) := by
    rw [show (n * 4 + j) / 4 = n by omega, show (n * 4 + j) % 4 = j by omega]
    exact ⟨hn, hj⟩
  obtain ⟨w1, w2, -, w4, w5⟩ := v3 (n * 4 + j) hv.1 hv.2
  have w17 := h.bnd.2.2.2.2.2.2.2 (n * 4 + j)
  have e2 := v2 (n * 4 + j) (by omega)
  unfold lnF at e2
  rw [if_pos hv] at e2
  unfold calP hasP inB
  rw [show 4 * n + j = n * 4 + j by omega, w4, w5]
  congr 1
  unfold isPadB eqB
  rw [e2]
  have hall : ∀ m, m ≤ z 1 0 → z 17 (n * 4 + j) = z 1 0 → (allTo (padP f (n * 4 + j)) m = true ↔ ∀ k, k < m → K 17 (n * 4 + j) k = padF z K k) := by
    intro m
    induction m with
    | zero => intro _ _; exact ⟨fun _ k hk => absurd hk (Nat.not_lt_zero _), fun _ => rfl⟩
    | succ m ih =>
      intro hm hl
      rw [allTo, Bool.and_eq_true, ih (by omega) hl]
      have ep : padP f (n * 4 + j) m = decide (K 17 (n * 4 + j) m = padF z K m) := by
        unfold padP padF
        rw [w2 m (by omega), h.pad.2 m (by omega), pk_cpy_in (Nat.zero_le _) (by omega), Nat.zero_add, Nat.sub_zero]
      rw [ep, decide_eq_true_eq]
      constructor
      · rintro ⟨a, b⟩ k hk
        by_cases e : k = m
        · rw [e]; exact b
        · exact a k (by omega)
      · intro a
        exact ⟨fun k hk => a k (by omega), a m (by omega)⟩
  rw [Bool.eq_iff_iff]
  simp only [decide_eq_true_eq, Bool.and_eq_true, Bool.not_eq_true', decide_eq_false_iff_not, nI_eq (a := z 17 (n * 4 + j)) (b := z 1 0) (by omega) (by omega)]
  constructor
  · rintro ⟨a, b⟩
    exact ⟨⟨by omega, a⟩, (hall _ (Nat.le_refl _) a).mpr (fun k hk => b k (by omega))⟩
  · rintro ⟨⟨a, b⟩, c⟩
    exact ⟨b, fun k hk => (hall _ (Nat.le_refl _) b).mp c k (by omega)⟩
theorem fn_bits {day : Int32} (m : Nat) : ∀ n, bt (upt (fnS z K day) n 0) m = anyTo (fun k => calB z K k day (z 1 0) (padF z K) && bt (owV z K (nI k) day) m) n
  | 0 => bt_0 m
  | n + 1 => by
    show bt (fnS z K day (upt (fnS z K day) n 0) n) m = _
    rw [anyTo, ← fn_bits m n]
    unfold fnS
    by_cases h : calB z K n day (z 1 0) (padF z K) = true
    · rw [if_pos h, bt_or, h, Bool.true_and]
    · rw [if_neg h]
      have h0 : calB z K n day (z 1 0) (padF z K) = false := by simpa using h
      rw [h0, Bool.false_and, Bool.or_false]
/-- find -/
theorem rel.find {x day : Int32} {c9 : Nat} {F9 : Nat → Nat → Int32} (h : rel z K i f) (hday : isD day = true) {mo mt : Nat → Nat} (hmm : ∀ k, k < z 5 0 → mo k < z 3 0 ∧ mt k < z 3 0) (hG : ∀ dy, isD dy = true → ∀ a, a < 24 → (∀ b, 24 ≤ b → bt (owV z K (nI a) dy) b = false) ∧ ∀ b, bt (owV z K (nI a) dy) b = true ↔ conn mo mt (holdB f dy) (z 5 0) a b) (hfl : flI (fdQ f (mnF z) mo mt (z 5 0) (z 1 0) (z 3 0) day) (z 3 0) (F9 20) c9) (hF : ∀ q, q ≠ 17 → q ≠ 20 → F9 q = f q) : bcV (upt (fnS z K day) (z 3 0) 0) = nI c9 ∧ rel z (upK K 0 0 (upd (K 0 0) 0 (upt (fnS z K day) (z 3 0) 0))) (upd (upd i 0 x) 5 (nI c9)) F9 := by
  have h24 : z 3 0 ≤ 24 := h.bnd.2.2.1
  have hcn : ∀ a b, a < z 3 0 → conn mo mt (holdB f day) (z 5 0) a b → b < z 3 0 := fun a b ha hc => hc (fun x => x < z 3 0) (fun k hk _ => ⟨fun _ => (hmm k hk).2, fun _ => (hmm k hk).1⟩) ha
  have hbit : ∀ m, m < z 3 0 → fdQ f (mnF z) mo mt (z 5 0) (z 1 0) (z 3 0) day m = bt (upt (fnS z K day) (z 3 0) 0) m := fun m hm => by
    rw [fn_bits]
    unfold fdQ
    refine anyTo_congr _ (fun k hk => ?_)
    unfold fdP
    rw [h.cal hk, ← has_one (hG day hday k (by omega)).2 (show m < 24 by omega), hasB_bt (by omega), Bool.and_comm, show mnF z k = z 11 k from if_pos hk]
  have hout : ∀ m, z 3 0 ≤ m → bt (upt (fnS z K day) (z 3 0) 0) m = false := fun m hm => by
    rw [fn_bits]
    cases hx : anyTo (fun k => calB z K k day (z 1 0) (padF z K) && bt (owV z K (nI k) day) m) (z 3 0)
    · rfl
    · obtain ⟨k, hk, hp⟩ := (anyTo_iff _).mp hx
      simp only [Bool.and_eq_true] at hp
      have := hcn k m hk (((hG day hday k (by omega)).2 m).mp hp.2)
      omega
  have hsel : selL (fdQ f (mnF z) mo mt (z 5 0) (z 1 0) (z 3 0) day) (z 3 0) = selL (bt (upt (fnS z K day) (z 3 0) 0)) 24 := by
    have := selL_ext (P := fdQ f (mnF z) mo mt (z 5 0) (z 1 0) (z 3 0) day) (Q := bt (upt (fnS z K day) (z 3 0) 0)) (n := z 3 0) (24 - z 3 0) hbit (fun m a _ => hout m a)
    rw [show z 3 0 + (24 - z 3 0) = 24 by omega] at this
    exact this
  have hb24 : ∀ l, 24 ≤ l → bt (upt (fnS z K day) (z 3 0) 0) l = false := fun l hl => hout l (by omega)
  obtain ⟨f1, f2⟩ := hfl
  rw [hsel] at f1 f2
  have hc9 : c9 ≤ 24 := by rw [f1, selL_cnt]; exact cnt_le _ 24
  refine ⟨by rw [bc_sel hb24, ← f1], ?_⟩
  have q := h
  refine ⟨h.bnd, h.ok, ⟨h.pad.1, ?_⟩, h.nam, ?_, ?_, ?_, ?_, ?_, ?_, ?_, ⟨c9, rfl, hc9, hb24, f1, f2⟩⟩
  · rw [hF 0 (by decide) (by decide)]; exact h.pad.2
  · unfold rVar
    rw [hF 1 (by decide) (by decide), hF 2 (by decide) (by decide), hF 3 (by decide) (by decide), hF 4 (by decide) (by decide), hF 5 (by decide) (by decide), hF 6 (by decide) (by decide)]
    exact h.var
  · unfold rDat
    rw [hF 7 (by decide) (by decide), hF 8 (by decide) (by decide)]
    exact h.dat
  · unfold rDec
    rw [hF 9 (by decide) (by decide)]
    exact h.dec
  · unfold rBrd
    rw [hF 10 (by decide) (by decide)]
    exact h.brd
  · unfold rNum
    rw [hF 12 (by decide) (by decide)]
    exact h.num
  · unfold rMrg
    rw [hF 13 (by decide) (by decide), hF 14 (by decide) (by decide), hF 15 (by decide) (by decide), hF 16 (by decide) (by decide)]
    exact h.mrg
  · unfold rPai
    rw [hF 18 (by decide) (by decide), hF 19 (by decide) (by decide)]
    exact h.pai
end R5
