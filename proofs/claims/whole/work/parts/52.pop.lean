theorem bt_nat (x : Int32) (j : Nat) : bt x j = x.toBitVec.toNat.testBit j := rfl
theorem sub1_nat {x : Int32} (h : 0 < x.toBitVec.toNat) : (x - 1).toBitVec.toNat = x.toBitVec.toNat - 1 := by
  have hlt := x.toBitVec.isLt
  rw [Int32.toBitVec_sub, BitVec.toNat_sub, show (1 : Int32).toBitVec.toNat = 1 from rfl]
  omega
/-- one less: the lowest bit goes, those below it come -/
theorem low_sub {x : Int32} {k : Nat} (h1 : bt x k = true) (h0 : ∀ j, j < k → bt x j = false) (j : Nat) : bt (x - 1) j = if j < k then true else if j = k then false else bt x j := by
  generalize hv : x.toBitVec.toNat = v
  have hm : v % 2 ^ k = 0 := by
    apply Nat.eq_of_testBit_eq
    intro i
    rw [Nat.testBit_mod_two_pow, Nat.zero_testBit]
    by_cases hi : i < k
    · have := h0 i hi
      rw [bt_nat, hv] at this
      simp [this]
    · simp [hi]
  have hq : v = 2 ^ k * (v / 2 ^ k) := by
    have := Nat.div_add_mod v (2 ^ k)
    omega
  have hodd : (v / 2 ^ k) % 2 = 1 := by
    have h2 : (v / 2 ^ k).testBit 0 = true := by
      rw [Nat.testBit_div_two_pow, Nat.zero_add, ← hv]
      exact h1
    rw [Nat.testBit_zero] at h2
    simpa using h2
  generalize hqq : v / 2 ^ k = q at hq hodd
  have hpos : 0 < 2 ^ k := Nat.two_pow_pos k
  obtain ⟨p, rfl⟩ : ∃ p, q = 2 * p + 1 := ⟨q / 2, by omega⟩
  have hv1 : v - 1 = 2 ^ k * (2 * p) + (2 ^ k - 1) := by
    rw [hq, Nat.mul_add, Nat.mul_one]
    omega
  have hvp : 0 < v := by
    rw [hq, Nat.mul_add, Nat.mul_one]
    omega
  rw [bt_nat, sub1_nat (by rw [hv]; exact hvp), hv, hv1, Nat.testBit_two_pow_mul_add _ (by omega)]
  by_cases hj : j < k
  · rw [if_pos hj, if_pos hj, Nat.testBit_two_pow_sub_one]
    simp [hj]
  · rw [if_neg hj, if_neg hj]
    by_cases he : j = k
    · subst he
      simp
    · rw [if_neg he, bt_nat, hv, hq, show 2 ^ k * (2 * p + 1) = 2 ^ k * (2 * p + 1) + 0 from rfl, Nat.testBit_two_pow_mul_add _ hpos, if_neg hj]
      obtain ⟨d, hd⟩ : ∃ d, j - k = d + 1 := ⟨j - k - 1, by omega⟩
      rw [hd, Nat.testBit_succ, Nat.testBit_succ]
      congr 1
      omega
theorem bt_ones {k n : Nat} (hk : k < 32) : bt (nI (2 ^ k - 1)) n = decide (n < k) := by
  have hp : 2 ^ k ≤ 2 ^ 31 := Nat.pow_le_pow_right (by decide) (by omega)
  have : (nI (2 ^ k - 1)).toBitVec.toNat = 2 ^ k - 1 := by
    show (BitVec.ofNat 32 (2 ^ k - 1)).toNat = _
    rw [BitVec.toNat_ofNat, Nat.mod_eq_of_lt (by omega)]
  rw [bt_nat, this, Nat.testBit_two_pow_sub_one]
theorem bt_m1 {n : Nat} (hn : n < 32) : bt (-1) n = true := by
  show BitVec.getLsbD (-1#32) n = true
  revert n
  decide +kernel
theorem bt_xor (x y : Int32) (n : Nat) : bt (x ^^^ y) n = (bt x n ^^ bt y n) := by
  unfold bt
  rw [Int32.toBitVec_xor, BitVec.getLsbD_xor]
theorem low_mask {x : Int32} {k : Nat} (hk : k < 32) (h1 : bt x k = true) (h0 : ∀ j, j < k → bt x j = false) : (x ^^^ (-1)) &&& (x - 1) = nI (2 ^ k - 1) := by
  apply bt_ext
  intro n hn
  rw [bt_and, bt_xor, bt_m1 hn, low_sub h1 h0, bt_ones hk]
  by_cases h : n < k
  · simp [h, h0 n h]
  · by_cases h2 : n = k
    · simp [h2]
    · simp [h, h2]
theorem low_clear {x : Int32} {k : Nat} (h1 : bt x k = true) (h0 : ∀ j, j < k → bt x j = false) (n : Nat) : bt (x &&& (x - 1)) n = (bt x n && !decide (n = k)) := by
  rw [bt_and, low_sub h1 h0]
  by_cases h : n < k
  · simp [h, h0 n h]
  · by_cases h2 : n = k
    · simp [h2]
    · simp [h, h2]
/-! the count of bits, byte by byte -/
abbrev nb (x : Int32) : Nat := x.toBitVec.toNat
theorem nb_ush (x b : Int32) (k : Nat) (hb : b.toUInt32 &&& Int32.toUInt32 31 = UInt32.ofNat k) (hk : k < 32) : nb (ush x b) = nb x / 2 ^ k := by
  unfold ush
  rw [hb]
  show (x.toUInt32 >>> UInt32.ofNat k).toBitVec.toNat = _
  rw [UInt32.toBitVec_shiftRight]
  have : ((UInt32.ofNat k).toBitVec % 32#32 : BitVec 32).toNat = k := by
    simp [BitVec.toNat_umod]
    omega
  show (x.toUInt32.toBitVec >>> ((UInt32.ofNat k).toBitVec % 32#32).toNat).toNat = _
  rw [this, BitVec.toNat_ushiftRight, Nat.shiftRight_eq_div_pow]
  rfl
theorem nb_and (x y : Int32) : nb (x &&& y) = nb x &&& nb y := by
  show (x &&& y).toBitVec.toNat = _
  rw [Int32.toBitVec_and, BitVec.toNat_and]
theorem nb_add (x y : Int32) (h : nb x + nb y < 2 ^ 32) : nb (x + y) = nb x + nb y := by
  show (x + y).toBitVec.toNat = _
  rw [Int32.toBitVec_add, BitVec.toNat_add, Nat.mod_eq_of_lt h]
theorem nb_sub (x y : Int32) (h : nb y ≤ nb x) : nb (x - y) = nb x - nb y := by
  have hx := x.toBitVec.isLt
  have h' : y.toBitVec.toNat ≤ x.toBitVec.toNat := h
  show (x - y).toBitVec.toNat = x.toBitVec.toNat - y.toBitVec.toNat
  rw [Int32.toBitVec_sub, BitVec.toNat_sub]
  omega
theorem land256 (a m A M : Nat) (ha : a < 256) (hm : m < 256) : (a + 256 * A) &&& (m + 256 * M) = (a &&& m) + 256 * (A &&& M) := by
  have hlt : a &&& m < 256 := Nat.lt_of_le_of_lt Nat.and_le_left ha
  apply Nat.eq_of_testBit_eq
  intro i
  rw [Nat.testBit_and, Nat.add_comm a, Nat.add_comm m, Nat.add_comm (a &&& m), show (256 : Nat) = 2 ^ 8 from rfl, Nat.testBit_two_pow_mul_add _ ha, Nat.testBit_two_pow_mul_add _ hm, Nat.testBit_two_pow_mul_add _ hlt]
  by_cases h : i < 8
  · rw [if_pos h, if_pos h, if_pos h, Nat.testBit_and]
  · rw [if_neg h, if_neg h, if_neg h, Nat.testBit_and]
def w4 (a b c d : Nat) : Nat := a + 256 * (b + 256 * (c + 256 * d))
theorem w4_and {a b c d m n p q : Nat} (ha : a < 256) (hb : b < 256) (hc : c < 256) (hm : m < 256) (hn : n < 256) (hp : p < 256) : w4 a b c d &&& w4 m n p q = w4 (a &&& m) (b &&& n) (c &&& p) (d &&& q) := by
  unfold w4
  rw [land256 _ _ _ _ ha hm, land256 _ _ _ _ hb hn, land256 _ _ _ _ hc hp]
def f1 (b : Nat) : Nat := b - ((b / 2) &&& 85)
def f2 (b : Nat) : Nat := (b &&& 51) + ((b / 4) &&& 51)
def f3 (b : Nat) : Nat := (b + b / 16) &&& 15
theorem f1_in : ∀ t, t < 2 → ∀ b, b < 256 → (b / 2 + 128 * t) &&& 85 = (b / 2) &&& 85 := by decide +kernel
theorem f1_le : ∀ b, b < 256 → (b / 2) &&& 85 ≤ b := by decide +kernel
theorem f2_in : ∀ t, t < 4 → ∀ b, b < 256 → (b / 4 + 64 * t) &&& 51 = (b / 4) &&& 51 := by decide +kernel
theorem f2_lt : ∀ b, b < 256 → f2 b < 256 ∧ f2 (f1 b) % 16 ≤ 4 ∧ f2 (f1 b) / 16 ≤ 4 ∧ f2 (f1 b) ≤ 68 := by decide +kernel
theorem f3_in : ∀ t, t < 5 → ∀ b, b < 69 → (b + (b / 16 + 16 * t)) &&& 15 = f3 b := by decide +kernel
def pop8 (b : Nat) : Nat := cntTo (fun i => b.testBit i) 8
theorem f_pop : ∀ b, b < 256 → f3 (f2 (f1 b)) = pop8 b := by decide +kernel
theorem pop8_le : ∀ b, b < 256 → pop8 b ≤ 8 := by decide +kernel
theorem bc1_w {x : Int32} {a b c d : Nat} (hx : nb x = w4 a b c d) (ha : a < 256) (hb : b < 256) (hc : c < 256) (hd : d < 256) : nb (bc1 x) = w4 (f1 a) (f1 b) (f1 c) (f1 d) := by
  have e1 : nb (ush x 1 &&& 1431655765) = w4 (a / 2 &&& 85) (b / 2 &&& 85) (c / 2 &&& 85) (d / 2 &&& 85) := by
    rw [nb_and, nb_ush x 1 1 (by decide) (by decide), hx, show nb 1431655765 = w4 85 85 85 85 from rfl,
      show w4 a b c d / 2 ^ 1 = w4 (a / 2 + 128 * (b % 2)) (b / 2 + 128 * (c % 2)) (c / 2 + 128 * (d % 2)) (d / 2 + 128 * 0) by unfold w4; omega,
      w4_and (by omega) (by omega) (by omega) (by decide) (by decide) (by decide), f1_in _ (by omega) a ha, f1_in _ (by omega) b hb, f1_in _ (by omega) c hc, f1_in _ (by omega) d hd]
  have h1 := f1_le a ha
  have h2 := f1_le b hb
  have h3 := f1_le c hc
  have h4 := f1_le d hd
  unfold bc1
  rw [nb_sub _ _ (by rw [e1, hx]; unfold w4; omega), e1, hx]
  unfold w4 f1
  omega
theorem bc2_w {x : Int32} {a b c d : Nat} (hx : nb x = w4 a b c d) (ha : a < 256) (hb : b < 256) (hc : c < 256) (hd : d < 256) : nb (bc2 x) = w4 (f2 a) (f2 b) (f2 c) (f2 d) := by
  have e1 : nb (ush x 2 &&& 858993459) = w4 (a / 4 &&& 51) (b / 4 &&& 51) (c / 4 &&& 51) (d / 4 &&& 51) := by
    rw [nb_and, nb_ush x 2 2 (by decide) (by decide), hx, show nb 858993459 = w4 51 51 51 51 from rfl,
      show w4 a b c d / 2 ^ 2 = w4 (a / 4 + 64 * (b % 4)) (b / 4 + 64 * (c % 4)) (c / 4 + 64 * (d % 4)) (d / 4 + 64 * 0) by unfold w4; omega,
      w4_and (by omega) (by omega) (by omega) (by decide) (by decide) (by decide), f2_in _ (by omega) a ha, f2_in _ (by omega) b hb, f2_in _ (by omega) c hc, f2_in _ (by omega) d hd]
  have e2 : nb (x &&& 858993459) = w4 (a &&& 51) (b &&& 51) (c &&& 51) (d &&& 51) := by
    rw [nb_and, hx, show nb 858993459 = w4 51 51 51 51 from rfl, w4_and ha hb hc (by decide) (by decide) (by decide)]
  have h1 := (f2_lt a ha).1
  have h2 := (f2_lt b hb).1
  have h3 := (f2_lt c hc).1
  have h4 := (f2_lt d hd).1
  unfold f2 at h1 h2 h3 h4
  unfold bc2
  rw [nb_add _ _ (by rw [e1, e2]; unfold w4; omega), e1, e2]
  unfold w4 f2
  omega
theorem bc3_w {x : Int32} {a b c d : Nat} (hx : nb x = w4 a b c d) (ha : a ≤ 68) (hb : b ≤ 68 ∧ b % 16 ≤ 4) (hc : c ≤ 68 ∧ c % 16 ≤ 4) (hd : d ≤ 68 ∧ d % 16 ≤ 4) : nb (bc3 x) = w4 (f3 a) (f3 b) (f3 c) (f3 d) := by
  have e1 : nb (x + ush x 4) = w4 (a + (a / 16 + 16 * (b % 16))) (b + (b / 16 + 16 * (c % 16))) (c + (c / 16 + 16 * (d % 16))) (d + (d / 16 + 16 * 0)) := by
    have e2 : nb (ush x 4) = w4 a b c d / 16 := by rw [nb_ush x 4 4 (by decide) (by decide), hx]
    rw [nb_add _ _ (by rw [e2, hx]; unfold w4; omega), e2, hx]
    unfold w4
    omega
  unfold bc3
  rw [nb_and, e1, show nb 252645135 = w4 15 15 15 15 from rfl, w4_and (by omega) (by omega) (by omega) (by decide) (by decide) (by decide), f3_in _ (by omega) a (by omega), f3_in _ (by omega) b (by omega), f3_in _ (by omega) c (by omega), f3_in _ (by omega) d (by omega)]
theorem bc_last {x : Int32} {a b c d : Nat} (hx : nb x = w4 a b c d) (ha : a ≤ 8) (hb : b ≤ 8) (hc : c ≤ 8) (hd : d ≤ 8) : nb (bc5 (bc4 x) &&& 63) = a + b + c + d := by
  have e4 : nb (bc4 x) = w4 (a + b) (b + c) (c + d) d := by
    have e2 : nb (ush x 8) = w4 a b c d / 256 := by rw [nb_ush x 8 8 (by decide) (by decide), hx]
    unfold bc4
    rw [nb_add _ _ (by rw [e2, hx]; unfold w4; omega), e2, hx]
    unfold w4
    omega
  have e5 : nb (bc5 (bc4 x)) = w4 (a + b + c + d) (b + c + d) (c + d) d := by
    have e2 : nb (ush (bc4 x) 16) = w4 (a + b) (b + c) (c + d) d / 65536 := by rw [nb_ush (bc4 x) 16 16 (by decide) (by decide), e4]
    unfold bc5
    rw [nb_add _ _ (by rw [e2, e4]; unfold w4; omega), e2, e4]
    unfold w4
    omega
  rw [nb_and, e5, show nb 63 = 2 ^ 6 - 1 from rfl, Nat.and_two_pow_sub_one_eq_mod]
  unfold w4
  omega
theorem bt_w4 {x : Int32} {a b c d : Nat} (hx : nb x = w4 a b c d) (ha : a < 256) (hb : b < 256) (hc : c < 256) (i : Nat) : bt x i = if i < 8 then a.testBit i else if i - 8 < 8 then b.testBit (i - 8) else if i - 8 - 8 < 8 then c.testBit (i - 8 - 8) else d.testBit (i - 8 - 8 - 8) := by
  show (nb x).testBit i = _
  rw [hx]
  unfold w4
  rw [Nat.add_comm a, show (256 : Nat) = 2 ^ 8 from rfl, Nat.testBit_two_pow_mul_add _ ha, Nat.add_comm b, Nat.testBit_two_pow_mul_add _ hb, Nat.add_comm c, Nat.testBit_two_pow_mul_add _ hc]
theorem bc_ok (x : Int32) : bcV x = nI (cntTo (bt x) 32) := by
  have hlt : nb x < 2 ^ 32 := x.toBitVec.isLt
  obtain ⟨a, b, c, d, ha, hb, hc, hd, hx⟩ : ∃ a b c d, a < 256 ∧ b < 256 ∧ c < 256 ∧ d < 256 ∧ nb x = w4 a b c d := ⟨nb x % 256, nb x / 256 % 256, nb x / 65536 % 256, nb x / 16777216, by omega, by omega, by omega, by omega, by unfold w4; omega⟩
  have f1lt : ∀ b, b < 256 → f1 b < 256 := fun b hb => Nat.lt_of_le_of_lt (Nat.sub_le _ _) hb
  have e1 := bc1_w hx ha hb hc hd
  have e2 := bc2_w e1 (f1lt a ha) (f1lt b hb) (f1lt c hc) (f1lt d hd)
  have qa := (f2_lt a ha).2
  have qb := (f2_lt b hb).2
  have qc := (f2_lt c hc).2
  have qd := (f2_lt d hd).2
  have e3 := bc3_w e2 qa.2.2 ⟨qb.2.2, qb.1⟩ ⟨qc.2.2, qc.1⟩ ⟨qd.2.2, qd.1⟩
  rw [f_pop a ha, f_pop b hb, f_pop c hc, f_pop d hd] at e3
  have e6 := bc_last e3 (pop8_le a ha) (pop8_le b hb) (pop8_le c hc) (pop8_le d hd)
  have hcnt : cntTo (bt x) 32 = pop8 a + pop8 b + pop8 c + pop8 d := by
    have h := bt_w4 hx ha hb hc
    simp only [cntTo, pop8, h]
    simp
    omega
  have hle := pop8_le a ha
  have hle2 := pop8_le b hb
  have hle3 := pop8_le c hc
  have hle4 := pop8_le d hd
  apply Int32.toBitVec_inj.mp
  apply BitVec.eq_of_toNat_eq
  show nb (bcV x) = nb (nI (cntTo (bt x) 32))
  rw [hcnt, show nb (bcV x) = nb (bc5 (bc4 (bc3 (bc2 (bc1 x)))) &&& 63) from rfl, e6]
  show _ = (BitVec.ofNat 32 (pop8 a + pop8 b + pop8 c + pop8 d)).toNat
  rw [BitVec.toNat_ofNat, Nat.mod_eq_of_lt (by omega)]
