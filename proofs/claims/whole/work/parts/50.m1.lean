theorem lcsR_le {t : Nat → Int32} {pv : Nat → Nat} {c : Int32} {m : Nat} (h : ∀ j, pv j ≤ m) : ∀ j, lcsR t pv c j ≤ m + 1
  | 0 => Nat.zero_le _
  | j + 1 => by
    have h1 := lcsR_le (t := t) (c := c) h j
    have h2 := h j
    have h3 := h (j + 1)
    rw [lcsR]
    split
    · omega
    · split <;> omega
theorem lcs_le9 {s t : Nat → Int32} : ∀ i j, lcs s t i j ≤ i
  | 0, _ => Nat.le_refl _
  | i + 1, j => lcsR_le (lcs_le9 i) j
theorem lcs_z {s t : Nat → Int32} : ∀ i, lcs s t i 0 = 0
  | 0 => rfl
  | _ + 1 => rfl
theorem ls_in {B t : Nat → Int32} {pv : Nat → Nat} {w : Nat → Int32} {c : Int32} {kb m : Nat} (hm : m < 1000) (hpv : ∀ j, pv j ≤ m) (h0 : pv 0 = 0) (hw : ∀ j, j ≤ kb → w j = nI (pv j)) (hB : ∀ j, j < kb → chV (B j) = t j) : ∀ j0, j0 ≤ kb →
    (∀ j, j ≤ kb → (upt (lsS c B) j0 (w, 0)).1 j = nI (if j ≤ j0 then lcsR t pv c j else pv j)) ∧ (upt (lsS c B) j0 (w, 0)).2 = nI (pv j0)
  | 0, _ => by
    refine ⟨fun j hj => ?_, by rw [h0]; rfl⟩
    show w j = _
    rw [hw j hj]
    by_cases h : j ≤ 0
    · rw [if_pos h, show j = 0 by omega, h0]; rfl
    · rw [if_neg h]
  | j0 + 1, hj0 => by
    obtain ⟨i1, i2⟩ := ls_in (w := w) (c := c) (kb := kb) hm hpv h0 hw hB j0 (by omega)
    have e1 := i1 (j0 + 1) hj0
    rw [if_neg (by omega)] at e1
    have e0 := i1 j0 (by omega)
    rw [if_pos (Nat.le_refl _)] at e0
    have hL := lcsR_le (t := t) (c := c) hpv j0
    have hP := hpv (j0 + 1)
    have hP0 := hpv j0
    show (∀ j, j ≤ kb → upd (upt (lsS c B) j0 (w, 0)).1 (j0 + 1) (if c = chV (B j0) then (upt (lsS c B) j0 (w, 0)).2 + 1 else maxV ((upt (lsS c B) j0 (w, 0)).1 (j0 + 1)) ((upt (lsS c B) j0 (w, 0)).1 j0)) j = _) ∧ (upt (lsS c B) j0 (w, 0)).1 (j0 + 1) = _
    refine ⟨fun j hj => ?_, e1⟩
    unfold upd
    by_cases h : j = j0 + 1
    · rw [if_pos h, h, if_pos (Nat.le_refl _), e1, e0, i2, hB j0 (by omega), lcsR]
      by_cases hc : c = t j0
      · rw [if_pos hc, if_pos hc, nI_1]
      · rw [if_neg hc, if_neg hc, maxV]
        by_cases hl : lcsR t pv c j0 < pv (j0 + 1)
        · rw [if_pos hl, if_neg (fun h9 => by have := (nI_ltI (by omega) (by omega)).mp h9; omega)]
        · rw [if_neg hl]
          by_cases he : pv (j0 + 1) < lcsR t pv c j0
          · rw [if_pos ((nI_ltI (by omega) (by omega)).mpr he)]
          · rw [if_neg (fun h9 => he ((nI_ltI (by omega) (by omega)).mp h9)), show pv (j0 + 1) = lcsR t pv c j0 by omega]
    · rw [if_neg h, i1 j hj]
      by_cases h2 : j ≤ j0
      · rw [if_pos h2, if_pos (by omega)]
      · rw [if_neg h2, if_neg (by omega)]
theorem ls_rows {A B s t : Nat → Int32} {kb : Nat} (hB : ∀ j, j < kb → chV (B j) = t j) : ∀ i, i < 900 → (∀ j, j < i → chV (A j) = s j) → ∀ j, j ≤ kb → upt (lsRow A B kb) i (fun _ => 0) j = nI (lcs s t i j)
  | 0, _, _ => fun _ _ => rfl
  | i + 1, hi, hA => fun j hj => by
    have ih := ls_rows (A := A) (s := s) hB i (by omega) (fun j hj => hA j (by omega))
    have h := (ls_in (c := chV (A i)) (m := i) (by omega) (fun j => lcs_le9 (s := s) (t := t) i j) (lcs_z i) ih hB kb (Nat.le_refl _)).1 j hj
    rw [if_pos hj, hA i (by omega)] at h
    show (upt (lsS (chV (A i)) B) kb (upt (lsRow A B kb) i (fun _ => 0), 0)).1 j = _
    rw [hA i (by omega)]
    exact h
/-- the rolling row counts as the reference does -/
theorem ls_ok {A B s t : Nat → Int32} {ka kb : Nat} (hk : ka < 900) (hA : ∀ j, j < ka → chV (A j) = s j) (hB : ∀ j, j < kb → chV (B j) = t j) : lsV ka kb A B = nI (lcs s t ka kb) := ls_rows hB ka hk hA kb (Nat.le_refl _)
