/-! merges, partings, groups: the same answers -/
theorem isD_lt {q : Int32} (h : isD q = true) : ¬ q < 0 ∧ ¬ 100000 < q := by
  simpa [isD] using h
theorem isD_m1 {q : Int32} (h : isD q = true) : ¬ q = -1 := fun e => by rw [e] at h; exact absurd h (by decide)
theorem hold_eq {K : kT} {f : Nat → Nat → Int32} {k : Nat} {dy : Int32} (hdy : isD dy = true) (h1 : K 19 k 1 = f 15 k) (h2 : (f 16 k = -1 ∧ K 19 k 2 = 100001) ∨ (isD (f 16 k) = true ∧ K 19 k 2 = f 16 k)) : holdV (K 19 k 1) (K 19 k 2) dy = holdB f dy k := by
  unfold holdV holdB
  rw [h1]
  rcases h2 with ⟨e1, e2⟩ | ⟨e1, e2⟩
  · have h9 : ¬ (100001 : Int32) ≤ dy := fun h9 => (isD_lt hdy).2 (Int32.lt_of_lt_of_le (by decide) h9)
    rw [e1, e2, decide_eq_false h9]
    simp
  · rw [e2, decide_eq_false (isD_m1 e1)]
    simp
section R3
variable {z : zT} {K : kT} {i : Nat → Int32} {f : Nat → Nat → Int32}
theorem rel.grp (h : rel z K i f) : ∃ mo mt : Nat → Nat, (∀ k, k < z 5 0 → f 13 k = nI (mo k) ∧ mo k < 24) ∧ (∀ k, k < z 5 0 → f 14 k = nI (mt k) ∧ mt k < 24) ∧ (∀ k, k < z 5 0 → mo k < z 3 0 ∧ mt k < z 3 0) ∧ ∀ dy, isD dy = true → ∀ a, a < 24 → (∀ b, 24 ≤ b → bt (owV z K (nI a) dy) b = false) ∧ ∀ b, bt (owV z K (nI a) dy) b = true ↔ conn mo mt (holdB f dy) (z 5 0) a b := by
  obtain ⟨h3, mo, mt, hm⟩ := h.mrg
  have h24 : z 3 0 ≤ 24 := h.bnd.2.2.1
  refine ⟨mo, mt, fun k hk => ⟨(hm k hk).1, Nat.lt_of_lt_of_le (hm k hk).2.1 h24⟩, fun k hk => ⟨(hm k hk).2.2.1, Nat.lt_of_lt_of_le (hm k hk).2.2.2.1 h24⟩, fun k hk => ⟨(hm k hk).2.1, (hm k hk).2.2.2.1⟩, fun dy hdy a ha => ?_⟩
  exact ow_conn (fun k hk => ⟨(hm k hk).2.2.2.2.2.1, Nat.lt_of_lt_of_le (hm k hk).2.1 h24, Nat.lt_of_lt_of_le (hm k hk).2.2.2.1 h24, hold_eq hdy (hm k hk).2.2.2.2.2.2.1 (hm k hk).2.2.2.2.2.2.2.2⟩) ha
theorem has_one {mo mt : Nat → Nat} {hd : Nat → Bool} {m a b : Nat} {R : Int32} (hR : ∀ b, bt R b = true ↔ conn mo mt hd m a b) (hb : b < 24) : hasB R (nI b) = oneB mo mt hd m a b := by
  rw [hasB_bt (by omega)]
  unfold oneB
  by_cases h : conn mo mt hd m a b
  · rw [(hR b).mpr h, @decide_eq_true _ (Classical.propDecidable _) h]
  · rw [@decide_eq_false _ (Classical.propDecidable _) h]
    cases hx : bt R b
    · rfl
    · exact absurd ((hR b).mp hx) h
theorem anyTo_congr {P Q : Nat → Bool} : ∀ (m : Nat), (∀ k, k < m → P k = Q k) → anyTo P m = anyTo Q m
  | 0, _ => rfl
  | m + 1, h => by rw [anyTo, anyTo, anyTo_congr m (fun k hk => h k (by omega)), h m (Nat.lt_succ_self _)]
theorem anyTo_iff {P : Nat → Bool} : ∀ (m : Nat), anyTo P m = true ↔ ∃ k, k < m ∧ P k = true
  | 0 => ⟨fun h => (by cases h), fun ⟨k, hk, _⟩ => absurd hk (Nat.not_lt_zero _)⟩
  | m + 1 => by
    rw [anyTo, Bool.or_eq_true, anyTo_iff m]
    constructor
    · rintro (⟨k, hk, hp⟩ | hp)
      · exact ⟨k, by omega, hp⟩
      · exact ⟨m, by omega, hp⟩
    · rintro ⟨k, hk, hp⟩
      by_cases e : k = m
      · exact Or.inr (e ▸ hp)
      · exact Or.inl ⟨k, by omega, hp⟩
/-- areOneFrom -/
theorem rel.aof (h : rel z K i f) {mo mt : Nat → Nat} (hG : ∀ dy, isD dy = true → ∀ a, a < 24 → (∀ b, 24 ≤ b → bt (owV z K (nI a) dy) b = false) ∧ ∀ b, bt (owV z K (nI a) dy) b = true ↔ conn mo mt (holdB f dy) (z 5 0) a b) {a b : Nat} {dy : Int32} (hdy : isD dy = true) (ha : a < 24) (hb : b < 24) : aofB z K (nI a) (nI b) dy = evB f mo mt (z 5 0) a b dy := by
  obtain ⟨h3, mo', mt', hm⟩ := h.mrg
  unfold aofB evB
  rw [has_one (hG dy hdy a ha).2 hb]
  congr 1
  refine anyTo_congr _ (fun k hk => ?_)
  have hk1 := (hm k hk).2.2.2.2.2.2.1
  have hk2 := (hm k hk).2.2.2.2.2.2.2.1
  unfold aofP evP
  rw [hk1, has_one (hG (f 15 k) hk2 a ha).2 hb]
/-- as: the lowest of the group -/
theorem ntV_low {x : Int32} {k : Nat} (hk : k < 31) (h1 : bt x k = true) (h0 : ∀ j, j < k → bt x j = false) : ntV x = nI k := by
  unfold ntV
  rw [low_mask (by omega) h1 h0]
  exact ntS_ones k hk
theorem low_ex {x : Int32} : ∀ (n : Nat), (∃ k, k < n ∧ bt x k = true) → ∃ k, k < n ∧ bt x k = true ∧ ∀ j, j < k → bt x j = false
  | 0, ⟨k, hk, _⟩ => absurd hk (Nat.not_lt_zero _)
  | n + 1, ⟨k, hk, hb⟩ => by
    by_cases h : ∃ k, k < n ∧ bt x k = true
    · obtain ⟨k', a, b, c⟩ := low_ex n h
      exact ⟨k', by omega, b, c⟩
    · have hkn : k = n := by
        rcases Nat.lt_or_ge k n with h9 | h9
        · exact absurd ⟨k, h9, hb⟩ h
        · omega
      subst hkn
      refine ⟨k, by omega, hb, fun j hj => ?_⟩
      cases hx : bt x j
      · rfl
      · exact absurd ⟨j, hj, hx⟩ h
theorem as_eq {mo mt : Nat → Nat} {hd : Nat → Bool} {m a zz : Nat} {R : Int32} (ha : a < 24) (h24 : ∀ b, 24 ≤ b → bt R b = false) (hR : ∀ b, bt R b = true ↔ conn mo mt hd m a b) (h1 : conn mo mt hd m a zz) (h2 : ∀ y, conn mo mt hd m a y → zz ≤ y) : ntV R = nI zz := by
  have hz : bt R zz = true := (hR zz).mpr h1
  refine ntV_low ?_ hz (fun j hj => ?_)
  · rcases Nat.lt_or_ge zz 24 with h | h
    · omega
    · rw [h24 zz h] at hz; cases hz
  · cases hx : bt R j
    · rfl
    · have := h2 j ((hR j).mp hx)
      omega
/-- a merge is told -/
theorem rel.mrgd {x dy : Int32} {a b cap : Nat} {g5 : Nat → Int32} (h : rel z K i f) (hB : nmB (upZ (upZ z 6 0 cap) 5 0 (z 5 0 + 1))) (hK : nmK (upZ (upZ z 6 0 cap) 5 0 (z 5 0 + 1)) (upK (upK K 19 (z 5 0) (fun i => if i = 0 then setV (nI a) (nI b) else if i = 1 then dy else 100001)) 5 0 g5)) (ha : a < z 3 0) (hb : b < z 3 0) (hab : a ≠ b) (hdy : isD dy = true) : rel (upZ (upZ z 6 0 cap) 5 0 (z 5 0 + 1)) (upK (upK K 19 (z 5 0) (fun i => if i = 0 then setV (nI a) (nI b) else if i = 1 then dy else 100001)) 5 0 g5) (upd (upd i 0 x) 3 (nI (z 5 0 + 1))) (updA (updA (updA (updA f 13 (z 5 0) (nI a)) 14 (z 5 0) (nI b)) 15 (z 5 0) dy) 16 (z 5 0) (-1)) := by
  obtain ⟨h3, mo, mt, hm⟩ := h.mrg
  refine ⟨hB, hK, h.pad, h.nam, h.var, h.dat, h.dec, h.brd, h.num, ⟨rfl, fun k => if k = z 5 0 then a else mo k, fun k => if k = z 5 0 then b else mt k, fun k hk => ?_⟩, h.pai, h.fnd⟩
  have hk' : k < z 5 0 + 1 := hk
  show upd (f 13) (z 5 0) (nI a) k = nI (if k = z 5 0 then a else mo k) ∧ (if k = z 5 0 then a else mo k) < z 3 0 ∧ upd (f 14) (z 5 0) (nI b) k = nI (if k = z 5 0 then b else mt k) ∧ (if k = z 5 0 then b else mt k) < z 3 0 ∧ (if k = z 5 0 then a else mo k) ≠ (if k = z 5 0 then b else mt k) ∧ upK K 19 (z 5 0) (fun i => if i = 0 then setV (nI a) (nI b) else if i = 1 then dy else 100001) 19 k 0 = setV (nI (if k = z 5 0 then a else mo k)) (nI (if k = z 5 0 then b else mt k)) ∧ upK K 19 (z 5 0) (fun i => if i = 0 then setV (nI a) (nI b) else if i = 1 then dy else 100001) 19 k 1 = upd (f 15) (z 5 0) dy k ∧ isD (upd (f 15) (z 5 0) dy k) = true ∧ ((upd (f 16) (z 5 0) (-1) k = -1 ∧ upK K 19 (z 5 0) (fun i => if i = 0 then setV (nI a) (nI b) else if i = 1 then dy else 100001) 19 k 2 = 100001) ∨ (isD (upd (f 16) (z 5 0) (-1) k) = true ∧ upK K 19 (z 5 0) (fun i => if i = 0 then setV (nI a) (nI b) else if i = 1 then dy else 100001) 19 k 2 = upd (f 16) (z 5 0) (-1) k))
  by_cases e : k = z 5 0
  · subst e
    rw [upd_self, upd_self, upd_self, upd_self, upK_s, if_pos rfl, if_pos rfl]
    exact ⟨rfl, ha, rfl, hb, hab, rfl, rfl, hdy, Or.inl ⟨rfl, rfl⟩⟩
  · rw [upd_ne e, upd_ne e, upd_ne e, upd_ne e, upK_n (by omega), if_neg e, if_neg e]
    exact hm k (by omega)
/-- a parting is told -/
theorem rel.prtd {x dy : Int32} {j : Nat} (h : rel z K i f) (hj : j < z 5 0) (hdy : isD dy = true) : rel z (upK K 19 j (upd (K 19 j) 2 dy)) (upd i 0 x) (updA f 16 j dy) := by
  obtain ⟨h3, mo, mt, hm⟩ := h.mrg
  refine ⟨h.bnd, h.ok, h.pad, h.nam, h.var, h.dat, h.dec, h.brd, h.num, ⟨h3, mo, mt, fun k hk => ?_⟩, h.pai, h.fnd⟩
  obtain ⟨a1, a2, a3, a4, a5, a6, a7, a8, a9⟩ := hm k hk
  show f 13 k = nI (mo k) ∧ mo k < z 3 0 ∧ f 14 k = nI (mt k) ∧ mt k < z 3 0 ∧ mo k ≠ mt k ∧ upK K 19 j (upd (K 19 j) 2 dy) 19 k 0 = setV (nI (mo k)) (nI (mt k)) ∧ upK K 19 j (upd (K 19 j) 2 dy) 19 k 1 = f 15 k ∧ isD (f 15 k) = true ∧ ((upd (f 16) j dy k = -1 ∧ upK K 19 j (upd (K 19 j) 2 dy) 19 k 2 = 100001) ∨ (isD (upd (f 16) j dy k) = true ∧ upK K 19 j (upd (K 19 j) 2 dy) 19 k 2 = upd (f 16) j dy k))
  by_cases e : k = j
  · subst e
    rw [upK_s, upd_self]
    exact ⟨a1, a2, a3, a4, a5, a6, a7, a8, Or.inr ⟨hdy, rfl⟩⟩
  · rw [upK_n (by omega), upd_ne e]
    exact ⟨a1, a2, a3, a4, a5, a6, a7, a8, a9⟩
theorem frs_from {P : Nat → Bool} : ∀ (n k : Nat), frs P n k = fstFrom P k n
  | 0, _ => rfl
  | n + 1, k => by rw [frs, fstFrom, frs_from n (k + 1)]
theorem frs_congr {P Q : Nat → Bool} : ∀ (n k : Nat), (∀ j, k ≤ j → j < k + n → P j = Q j) → frs P n k = frs Q n k
  | 0, _, _ => rfl
  | n + 1, k, h => by rw [frs, frs, h k (by omega) (by omega), frs_congr n (k + 1) (fun j h1 h2 => h j (by omega) (by omega))]
/-- the set of two names says which two -/
theorem setV_inj {a b u v : Nat} (ha : a < 24) (hb : b < 24) (hu : u < 24) (hv : v < 24) (hab : a ≠ b) : setV (nI a) (nI b) = setV (nI u) (nI v) ↔ (a = u ∧ b = v) ∨ (a = v ∧ b = u) := by
  constructor
  · intro e
    have h1 : ∀ n, (decide (a = n) || decide (b = n)) = (decide (u = n) || decide (v = n)) := fun n => by rw [← bt_set (by omega) (by omega), e, bt_set (by omega) (by omega)]
    have ha' := h1 a
    have hb' := h1 b
    have hu' := h1 u
    have hv' := h1 v
    simp at ha' hb' hu' hv'
    omega
  · rintro (⟨rfl, rfl⟩ | ⟨rfl, rfl⟩)
    · rfl
    · exact bt_ext fun n _ => by rw [bt_set (by omega) (by omega), bt_set (by omega) (by omega), Bool.or_comm]
/-- part finds the same merge -/
theorem rel.prt (h : rel z K i f) {a b : Nat} {dy : Int32} (ha : a < 24) (hb : b < 24) : frs (prtP K (setV (nI a) (nI b)) dy) (z 5 0) 0 = fstFrom (partP f (nI a) (nI b) dy) 0 (z 5 0) := by
  obtain ⟨h3, mo, mt, hm⟩ := h.mrg
  rw [← frs_from]
  have h24 : z 3 0 ≤ 24 := h.bnd.2.2.1
  refine frs_congr _ _ (fun k _ hk => ?_)
  obtain ⟨a1, a2, a3, a4, a5, a6, a7, a8, a9⟩ := hm k (by omega)
  unfold prtP partP
  have e1 : decide (K 19 k 0 = setV (nI a) (nI b)) = ((decide (f 13 k = nI a) && decide (f 14 k = nI b)) || (decide (f 13 k = nI b) && decide (f 14 k = nI a))) := by
    rw [a6, a1, a3]
    have := setV_inj (Nat.lt_of_lt_of_le a2 h24) (Nat.lt_of_lt_of_le a4 h24) ha hb a5
    have n1 := nI_eq (a := mo k) (b := a) (by omega) (by omega)
    have n2 := nI_eq (a := mt k) (b := b) (by omega) (by omega)
    have n3 := nI_eq (a := mo k) (b := b) (by omega) (by omega)
    have n4 := nI_eq (a := mt k) (b := a) (by omega) (by omega)
    rw [Bool.eq_iff_iff]
    simp only [decide_eq_true_eq, Bool.or_eq_true, Bool.and_eq_true, this, n1, n2, n3, n4]
  have e2 : decide (K 19 k 2 = 100001) = decide (f 16 k = -1) := by
    rcases a9 with ⟨q1, q2⟩ | ⟨q1, q2⟩
    · rw [q1, q2]; rfl
    · rw [q2, decide_eq_false (isD_m1 q1), decide_eq_false]
      intro e
      rw [e] at q1
      exact absurd q1 (by decide)
  rw [e1, e2, a7]
end R3
