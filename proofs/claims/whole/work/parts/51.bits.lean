/-! sets of names as the bits of an int -/
def bt (x : Int32) (n : Nat) : Bool := x.toBitVec.getLsbD n
theorem one_shl : ∀ n, n < 32 → ((1 : Int32) <<< (nI n &&& 31)).toBitVec = BitVec.twoPow 32 n := by decide +kernel
theorem bt_or (x y : Int32) (n : Nat) : bt (x ||| y) n = (bt x n || bt y n) := by
  unfold bt
  rw [Int32.toBitVec_or, BitVec.getLsbD_or]
theorem bt_and (x y : Int32) (n : Nat) : bt (x &&& y) n = (bt x n && bt y n) := by
  unfold bt
  rw [Int32.toBitVec_and, BitVec.getLsbD_and]
theorem bt_0 (n : Nat) : bt 0 n = false := by
  show BitVec.getLsbD 0#32 n = false
  exact BitVec.getLsbD_zero
theorem bt_one {m n : Nat} (hm : m < 32) : bt ((1 : Int32) <<< (nI m &&& 31)) n = decide (m = n) := by
  unfold bt
  rw [one_shl m hm, BitVec.getLsbD_twoPow]
  by_cases h : m = n
  · simp [h]; omega
  · simp [h]
theorem bt_ge {x : Int32} {n : Nat} (h : 32 ≤ n) : bt x n = false := BitVec.getLsbD_of_ge _ _ h
theorem bt_ext {x y : Int32} (h : ∀ n, n < 32 → bt x n = bt y n) : x = y := Int32.toBitVec_inj.mp (BitVec.eq_of_getLsbD_eq h)
theorem bt_zero {x : Int32} : x = 0 ↔ ∀ n, n < 32 → bt x n = false := ⟨fun h n _ => by rw [h, bt_0], fun h => bt_ext fun n hn => by rw [h n hn, bt_0]⟩
theorem hasB_bt {x : Int32} {n : Nat} (hn : n < 32) : hasB x (nI n) = bt x n := by
  unfold hasB
  by_cases h : bt x n = true
  · rw [h]
    have : ¬ (x &&& ((1 : Int32) <<< (nI n &&& 31)) = 0) := fun h9 => by
      have h2 := bt_zero.mp h9 n hn
      rw [bt_and, bt_one hn, h] at h2
      simp at h2
    simp [this]
  · have h1 : bt x n = false := by simpa using h
    rw [h1]
    have : x &&& ((1 : Int32) <<< (nI n &&& 31)) = 0 := bt_zero.mpr fun k _ => by
      rw [bt_and, bt_one hn]
      by_cases hk : n = k
      · subst hk; simp [h1]
      · simp [hk]
    simp [this]
theorem bt_set {a b n : Nat} (ha : a < 32) (hb : b < 32) : bt (setV (nI a) (nI b)) n = (decide (a = n) || decide (b = n)) := by
  unfold setV
  rw [bt_or, bt_one ha, bt_one hb]
theorem and_zero {x y : Int32} : x &&& y = 0 ↔ ∀ n, n < 32 → ¬ (bt x n = true ∧ bt y n = true) := by
  rw [bt_zero]
  constructor
  · intro h n hn h2
    have h3 := h n hn
    rw [bt_and, h2.1, h2.2] at h3
    simp at h3
  · intro h n hn
    rw [bt_and]
    have := h n hn
    cases hx : bt x n <;> cases hy : bt y n <;> simp_all
