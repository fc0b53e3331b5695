/-! WHAT THE CLASS'S AND THE REFERENCE'S STATES HAVE IN COMMON: z, K of the class's heap; i, f of the reference's -/
abbrev zT := Nat → Nat → Nat
abbrev kT := Nat → Nat → Nat → Int32
def mnF (z : zT) : Nat → Nat := fun a => if a < z 3 0 then z 11 a else 0
def lnF (z : zT) : Nat → Nat := fun m => if m / 4 < z 3 0 ∧ m % 4 < z 11 (m / 4) then z 17 m else 0
def rPad (z : zT) (K : kT) (i : Nat → Int32) (f : Nat → Nat → Int32) : Prop := i 1 = nI (z 1 0) ∧ ∀ j, j < z 1 0 → f 0 j = K 2 0 j
def rNam (z : zT) (i : Nat → Int32) : Prop := i 2 = nI (z 3 0)
def rVar (z : zT) (K : kT) (f : Nat → Nat → Int32) : Prop := (∀ a, a < 24 → f 1 a = nI (mnF z a)) ∧ (∀ m, m < 96 → f 2 m = nI (lnF z m)) ∧
  (∀ m, m / 4 < z 3 0 → m % 4 < z 11 (m / 4) → 1 ≤ z 17 m ∧ (∀ j, j < z 17 m → f 3 (12 * m + j) = K 17 m j) ∧ (∃ l, l < 6 ∧ f 4 m = nI l) ∧ f 5 m = K 18 m 0 ∧ f 6 m = K 18 m 1) ∧
  (∀ a, a < z 3 0 → ∀ l, l < 32 → bt (K 10 a 0) l = anyTo (fun j => decide (f 4 (4 * a + j) = nI l)) (z 11 a)) ∧
  (∀ a, a < z 3 0 → ∀ l, l < 32 → bt (K 10 a 1) l = anyTo (fun j => decide (f 3 (12 * (4 * a + j)) = nI (97 + l))) (z 11 a))
def rDat (z : zT) (K : kT) (f : Nat → Nat → Int32) : Prop := ∀ a, a < 24 → if a < z 3 0 ∧ 0 < z 14 a then (f 7 a = K 14 a 0 ∧ f 8 a = K 14 a 1 ∧ ¬ f 8 a = -1) else f 8 a = -1
def rDec (K : kT) (f : Nat → Nat → Int32) : Prop := (∀ a b, a < 24 → b < 24 → a ≠ b → f 9 (24 * a + b) = K 7 0 (min a b * 24 + max a b)) ∧ (∀ a b, a < 24 → b < 24 → ¬ a < b → K 7 0 (a * 24 + b) = 0) ∧ (∀ k, k < 576 → ¬ K 7 0 k < 0)
def rBrd (z : zT) (K : kT) (f : Nat → Nat → Int32) : Prop := ∃ br : Nat → Bool, (∀ k, k < 576 → f 10 k = bI (br k)) ∧ (∀ a b, b < 24 → a < 24 → (z 3 0 ≤ a ∨ z 3 0 ≤ b) → br (24 * a + b) = false) ∧ (∀ a, a < z 3 0 → ∀ b, b < 32 → bt (K 10 a 2) b = (decide (b < 24) && br (24 * a + b))) ∧ (∀ a, a < z 3 0 → ∀ b, b < 32 → bt (K 10 a 3) b = (decide (b < 24) && fwT br 24 (24 * a + b))) ∧ ∀ a, a < 24 → fwT br 24 (24 * a + a) = false
def rNum (z : zT) (K : kT) (f : Nat → Nat → Int32) : Prop := ∀ a s, a < 24 → s < 4 → (f 12 (4 * a + s) = if a < z 3 0 then K 13 a s else 0) ∧ (f 12 (4 * a + s) = 0 ∨ numB (f 12 (4 * a + s)) = true)
def rMrg (z : zT) (K : kT) (i : Nat → Int32) (f : Nat → Nat → Int32) : Prop := i 3 = nI (z 5 0) ∧ ∃ mo mt : Nat → Nat, ∀ k, k < z 5 0 → f 13 k = nI (mo k) ∧ mo k < z 3 0 ∧ f 14 k = nI (mt k) ∧ mt k < z 3 0 ∧ mo k ≠ mt k ∧ K 19 k 0 = setV (nI (mo k)) (nI (mt k)) ∧ K 19 k 1 = f 15 k ∧ isD (f 15 k) = true ∧ ((f 16 k = -1 ∧ K 19 k 2 = 100001) ∨ (isD (f 16 k) = true ∧ K 19 k 2 = f 16 k))
def rPai (z : zT) (K : kT) (i : Nat → Int32) (f : Nat → Nat → Int32) : Prop := i 4 = nI (z 0 0) ∧ ∀ k, k < z 0 0 → ∃ a b, a < 24 ∧ b < 24 ∧ f 18 k = nI a ∧ f 19 k = nI b ∧ K 8 0 k = nI (a * 24 + b)
def rFnd (K : kT) (i : Nat → Int32) (f : Nat → Nat → Int32) : Prop := ∃ c, i 5 = nI c ∧ c ≤ 24 ∧ (∀ l, 24 ≤ l → bt (K 0 0 0) l = false) ∧ flI (bt (K 0 0 0)) 24 (f 20) c
def rel (z : zT) (K : kT) (i : Nat → Int32) (f : Nat → Nat → Int32) : Prop := nmB z ∧ nmK z K ∧ rPad z K i f ∧ rNam z i ∧ rVar z K f ∧ rDat z K f ∧ rDec K f ∧ rBrd z K f ∧ rNum z K f ∧ rMrg z K i f ∧ rPai z K i f ∧ rFnd K i f
theorem rel.bnd {z : zT} {K : kT} {i : Nat → Int32} {f : Nat → Nat → Int32} (h : rel z K i f) : nmB z := h.1
theorem rel.ok {z : zT} {K : kT} {i : Nat → Int32} {f : Nat → Nat → Int32} (h : rel z K i f) : nmK z K := h.2.1
theorem rel.pad {z : zT} {K : kT} {i : Nat → Int32} {f : Nat → Nat → Int32} (h : rel z K i f) : rPad z K i f := h.2.2.1
theorem rel.nam {z : zT} {K : kT} {i : Nat → Int32} {f : Nat → Nat → Int32} (h : rel z K i f) : rNam z i := h.2.2.2.1
theorem rel.var {z : zT} {K : kT} {i : Nat → Int32} {f : Nat → Nat → Int32} (h : rel z K i f) : rVar z K f := h.2.2.2.2.1
theorem rel.dat {z : zT} {K : kT} {i : Nat → Int32} {f : Nat → Nat → Int32} (h : rel z K i f) : rDat z K f := h.2.2.2.2.2.1
theorem rel.dec {z : zT} {K : kT} {i : Nat → Int32} {f : Nat → Nat → Int32} (h : rel z K i f) : rDec K f := h.2.2.2.2.2.2.1
theorem rel.brd {z : zT} {K : kT} {i : Nat → Int32} {f : Nat → Nat → Int32} (h : rel z K i f) : rBrd z K f := h.2.2.2.2.2.2.2.1
theorem rel.num {z : zT} {K : kT} {i : Nat → Int32} {f : Nat → Nat → Int32} (h : rel z K i f) : rNum z K f := h.2.2.2.2.2.2.2.2.1
theorem rel.mrg {z : zT} {K : kT} {i : Nat → Int32} {f : Nat → Nat → Int32} (h : rel z K i f) : rMrg z K i f := h.2.2.2.2.2.2.2.2.2.1
theorem rel.pai {z : zT} {K : kT} {i : Nat → Int32} {f : Nat → Nat → Int32} (h : rel z K i f) : rPai z K i f := h.2.2.2.2.2.2.2.2.2.2.1
theorem rel.fnd {z : zT} {K : kT} {i : Nat → Int32} {f : Nat → Nat → Int32} (h : rel z K i f) : rFnd K i f := h.2.2.2.2.2.2.2.2.2.2.2
section RST
variable {z : zT} {K : kT} {i : Nat → Int32} {f : Nat → Nat → Int32}
/-- the room for shared signs, and the reference's scratch, do not count -/
theorem rel.k9 {w : Nat → Int32} (h : rel z K i f) : rel z (upK K 9 0 w) i f := ⟨h.bnd, h.ok, h.pad, h.nam, h.var, h.dat, h.dec, h.brd, h.num, h.mrg, h.pai, h.fnd⟩
theorem rel.of9 {w : Nat → Int32} (h : rel z (upK K 9 0 w) i f) : rel z K i f := ⟨h.bnd, h.ok, h.pad, h.nam, h.var, h.dat, h.dec, h.brd, h.num, h.mrg, h.pai, h.fnd⟩
theorem rel.i0 {x : Int32} (h : rel z K i f) : rel z K (upd i 0 x) f := ⟨h.bnd, h.ok, h.pad, h.nam, h.var, h.dat, h.dec, h.brd, h.num, h.mrg, h.pai, h.fnd⟩
theorem rel.f11 {R : Nat → Int32} (h : rel z K i f) : rel z K i (setA f 11 R) := ⟨h.bnd, h.ok, h.pad, h.nam, h.var, h.dat, h.dec, h.brd, h.num, h.mrg, h.pai, h.fnd⟩
theorem rel.f17 {R : Nat → Int32} (h : rel z K i f) : rel z K i (setA f 17 R) := ⟨h.bnd, h.ok, h.pad, h.nam, h.var, h.dat, h.dec, h.brd, h.num, h.mrg, h.pai, h.fnd⟩
theorem rel.f21 {R : Nat → Int32} (h : rel z K i f) : rel z K i (setA f 21 R) := ⟨h.bnd, h.ok, h.pad, h.nam, h.var, h.dat, h.dec, h.brd, h.num, h.mrg, h.pai, h.fnd⟩
/-- unit -/
theorem rel.unit {q ml x : Int32} (h : rel z K i f) (h12 : z 1 0 < 12) (hq : isSg q = true) : rel (upZ z 1 0 (z 1 0 + 1)) (upK (upK K 1 0 (fun _ => ml)) 2 0 (upd (K 2 0) (z 1 0) q)) (upd (upd i 0 x) 1 (nI (z 1 0 + 1))) (updA f 0 (z 1 0) q) := by
  have hB := h.bnd
  refine ⟨⟨hB.1, show z 1 0 + 1 ≤ 12 by omega, hB.2.2⟩, ⟨?_, h.ok.2⟩, ⟨rfl, ?_⟩, h.nam, h.var, h.dat, h.dec, h.brd, h.num, h.mrg, h.pai, h.fnd⟩
  · obtain ⟨j, hj, e⟩ := sg_of hq
    exact pad_sg h.ok.1 ⟨j, hj.1, hj.2, e⟩
  · intro j hj
    have hj' : j < z 1 0 + 1 := hj
    show upd (f 0) (z 1 0) q j = upd (K 2 0) (z 1 0) q j
    by_cases hn : j = z 1 0
    · rw [hn, upd_self, upd_self]
    · rw [upd_ne hn, upd_ne hn]
      exact h.pad.2 j (by omega)
/-- clear -/
theorem rel.clear {ml x : Int32} (h : rel z K i f) : rel (upZ z 1 0 0) (upK (upK K 1 0 (fun _ => ml)) 2 0 (K 2 0)) (upd (upd i 0 x) 1 0) f := by
  have hB := h.bnd
  exact ⟨⟨hB.1, Nat.zero_le _, hB.2.2⟩, ⟨fun j hj => absurd hj (Nat.not_lt_zero _), h.ok.2⟩, ⟨rfl, fun j hj => absurd hj (Nat.not_lt_zero _)⟩, h.nam, h.var, h.dat, h.dec, h.brd, h.num, h.mrg, h.pai, h.fnd⟩
/-- decide -/
theorem rel.dcd {x kd : Int32} {a b : Nat} (h : rel z K i f) (ha : a < 24) (hb : b < 24) (hab : a ≠ b) (hk : ¬ kd < 0) : rel z (upK K 7 0 (upd (K 7 0) (min a b * 24 + max a b) kd)) (upd i 0 x) (updA (updA f 9 (24 * a + b) kd) 9 (24 * b + a) kd) := by
  refine ⟨h.bnd, h.ok, h.pad, h.nam, h.var, h.dat, ⟨?_, ?_, ?_⟩, h.brd, h.num, h.mrg, h.pai, h.fnd⟩
  · intro u v hu hv huv
    show upd (upd (f 9) (24 * a + b) kd) (24 * b + a) kd (24 * u + v) = upd (K 7 0) (min a b * 24 + max a b) kd (min u v * 24 + max u v)
    by_cases h1 : 24 * u + v = 24 * b + a
    · rw [h1, upd_self, show min u v * 24 + max u v = min a b * 24 + max a b by omega, upd_self]
    · rw [upd_ne h1]
      by_cases h2 : 24 * u + v = 24 * a + b
      · rw [h2, upd_self, show min u v * 24 + max u v = min a b * 24 + max a b by omega, upd_self]
      · rw [upd_ne h2, upd_ne (by omega)]
        exact h.dec.1 u v hu hv huv
  · intro u v hu hv huv
    show upd (K 7 0) (min a b * 24 + max a b) kd (u * 24 + v) = 0
    rw [upd_ne (by omega)]
    exact h.dec.2.1 u v hu hv huv
  · intro k hk9
    show ¬ upd (K 7 0) (min a b * 24 + max a b) kd k < 0
    by_cases h1 : k = min a b * 24 + max a b
    · rw [h1, upd_self]; exact hk
    · rw [upd_ne h1]; exact h.dec.2.2 k hk9
/-- outside -/
theorem rel.out {x nu : Int32} {a s : Nat} (h : rel z K i f) (ha : a < z 3 0) (hs : s < 4) (hnu : numB nu = true) : rel z (upK K 13 a (upd (K 13 a) s nu)) (upd i 0 x) (updA f 12 (4 * a + s) nu) := by
  have hB := h.bnd
  refine ⟨h.bnd, h.ok, h.pad, h.nam, h.var, h.dat, h.dec, h.brd, ?_, h.mrg, h.pai, h.fnd⟩
  intro u v hu hv
  show (upd (f 12) (4 * a + s) nu (4 * u + v) = if u < z 3 0 then upK K 13 a (upd (K 13 a) s nu) 13 u v else 0) ∧ (upd (f 12) (4 * a + s) nu (4 * u + v) = 0 ∨ numB (upd (f 12) (4 * a + s) nu (4 * u + v)) = true)
  by_cases h1 : u = a
  · subst h1
    rw [if_pos ha, upK_s]
    by_cases h2 : v = s
    · rw [h2, upd_self, upd_self]
      exact ⟨rfl, Or.inr hnu⟩
    · rw [upd_ne (by omega), upd_ne h2]
      have q := h.num u v hu hv
      rw [if_pos ha] at q
      exact q
  · rw [upd_ne (by omega), upK_n (by omega)]
    exact h.num u v hu hv
/-- dates -/
theorem rel.dts {x u v : Int32} {a : Nat} (h : rel z K i f) (ha : a < z 3 0) (hv : isD v = true) : rel (upZ z 14 a 1) (upK K 14 a (fun k => if k = 0 then u else v)) (upd i 0 x) (updA (updA f 7 a u) 8 a v) := by
  have hB := h.bnd
  refine ⟨h.bnd, h.ok, h.pad, h.nam, h.var, ?_, h.dec, h.brd, h.num, h.mrg, h.pai, h.fnd⟩
  intro b hb
  show if b < z 3 0 ∧ 0 < upZ z 14 a 1 14 b then (upd (f 7) a u b = upK K 14 a (fun k => if k = 0 then u else v) 14 b 0 ∧ upd (f 8) a v b = upK K 14 a (fun k => if k = 0 then u else v) 14 b 1 ∧ ¬ upd (f 8) a v b = -1) else upd (f 8) a v b = -1
  by_cases h1 : b = a
  · subst h1
    rw [if_pos ⟨ha, by rw [upZ_s]; decide⟩, upd_self, upd_self, upK_s]
    refine ⟨rfl, rfl, fun h9 => ?_⟩
    rw [h9] at hv
    exact absurd hv (by decide)
  · rw [upZ_n (by omega), upd_ne h1, upd_ne h1, upK_n (by omega)]
    exact h.dat b hb
end RST
