/-! broader names: closures as sets of bits; new names -/
theorem fw_k {br : Nat → Bool} {t u v : Nat} (hv : v < 24) : fwT br (t + 1) (24 * u + v) = (fwT br t (24 * u + v) || (fwT br t (24 * u + t) && fwT br t (24 * t + v))) := by
  show (fwT br t (24 * u + v) || (fwT br t (24 * ((24 * u + v) / 24) + t) && fwT br t (24 * t + (24 * u + v) % 24))) = _
  rw [show (24 * u + v) / 24 = u by omega, show (24 * u + v) % 24 = v by omega]
theorem fw_row {br : Nat → Bool} {a : Nat} (h : ∀ b, b < 24 → br (24 * a + b) = false) : ∀ t, t ≤ 24 → ∀ b, b < 24 → fwT br t (24 * a + b) = false
  | 0, _, b, hb => h b hb
  | t + 1, ht, b, hb => by rw [fw_k hb, fw_row h t (by omega) b hb, fw_row h t (by omega) t (by omega)]; rfl
theorem fw_base {br : Nat → Bool} {u v : Nat} (hv : v < 24) (h : br (24 * u + v) = true) : ∀ t, fwT br t (24 * u + v) = true
  | 0 => h
  | t + 1 => by rw [fw_k hv, fw_base hv h t]; rfl
theorem fw_tr {br : Nat → Bool} : ∀ t, t ≤ 24 → ∀ u x v, x < t → x < 24 → v < 24 → fwT br t (24 * u + x) = true → fwT br t (24 * x + v) = true → fwT br t (24 * u + v) = true
  | 0, _, _, _, _, hx, _, _, _, _ => absurd hx (Nat.not_lt_zero _)
  | t + 1, ht, u, x, v, hx, hx24, hv, h1, h2 => by
    rw [fw_k hx24] at h1
    rw [fw_k hv] at h2 ⊢
    simp only [Bool.or_eq_true, Bool.and_eq_true] at h1 h2 ⊢
    by_cases e : x = t
    · subst e
      have a1 : fwT br x (24 * u + x) = true := h1.elim id (fun q => q.1)
      have a2 : fwT br x (24 * x + v) = true := h2.elim id (fun q => q.2)
      exact Or.inr ⟨a1, a2⟩
    · have hxt : x < t := by omega
      rcases h1 with h1 | h1 <;> rcases h2 with h2 | h2
      · exact Or.inl (fw_tr t (by omega) u x v hxt hx24 hv h1 h2)
      · exact Or.inr ⟨fw_tr t (by omega) u x t hxt hx24 (by omega) h1 h2.1, h2.2⟩
      · exact Or.inr ⟨h1.1, fw_tr t (by omega) t x v hxt hx24 hv h1.2 h2⟩
      · exact Or.inr ⟨h1.1, h2.2⟩
theorem fw_min {br : Nat → Bool} (R : Nat → Nat → Prop) (hb : ∀ u v, u < 24 → v < 24 → br (24 * u + v) = true → R u v) (ht : ∀ u x v, u < 24 → x < 24 → v < 24 → R u x → R x v → R u v) : ∀ t, t ≤ 24 → ∀ u v, u < 24 → v < 24 → fwT br t (24 * u + v) = true → R u v
  | 0, _, u, v, hu, hv, h => hb u v hu hv h
  | t + 1, h24, u, v, hu, hv, h => by
    rw [fw_k hv] at h
    simp only [Bool.or_eq_true, Bool.and_eq_true] at h
    rcases h with h | h
    · exact fw_min R hb ht t (by omega) u v hu hv h
    · exact ht u t v hu (by omega) hv (fw_min R hb ht t (by omega) u t hu (by omega) h.1) (fw_min R hb ht t (by omega) t v (by omega) hv h.2)
def brU (br : Nat → Bool) (k : Nat) : Nat → Bool := fun j => if j = k then true else br j
/-- one more told: what is reached then -/
theorem fw_add {br : Nat → Bool} {a b u v : Nat} (ha : a < 24) (hb : b < 24) (hu : u < 24) (hv : v < 24) : fwT (brU br (24 * a + b)) 24 (24 * u + v) = (fwT br 24 (24 * u + v) || ((decide (u = a) || fwT br 24 (24 * u + a)) && (decide (v = b) || fwT br 24 (24 * b + v)))) := by
  have tr : ∀ u x v, x < 24 → v < 24 → fwT br 24 (24 * u + x) = true → fwT br 24 (24 * x + v) = true → fwT br 24 (24 * u + v) = true := fun u x v hx hv h1 h2 => fw_tr 24 (Nat.le_refl _) u x v hx hx hv h1 h2
  have tr' : ∀ u x v, x < 24 → v < 24 → fwT (brU br (24 * a + b)) 24 (24 * u + x) = true → fwT (brU br (24 * a + b)) 24 (24 * x + v) = true → fwT (brU br (24 * a + b)) 24 (24 * u + v) = true := fun u x v hx hv h1 h2 => fw_tr 24 (Nat.le_refl _) u x v hx hx hv h1 h2
  have sub : ∀ u v, u < 24 → v < 24 → fwT br 24 (24 * u + v) = true → fwT (brU br (24 * a + b)) 24 (24 * u + v) = true := fun u v hu hv => fw_min (br := br) (fun u v => fwT (brU br (24 * a + b)) 24 (24 * u + v) = true) (fun u v hu hv h => fw_base hv (by unfold brU; split; rfl; exact h) 24) (fun u x v _ hx hv h1 h2 => tr' u x v hx hv h1 h2) 24 (Nat.le_refl _) u v hu hv
  have hab : fwT (brU br (24 * a + b)) 24 (24 * a + b) = true := fw_base hb (if_pos rfl) 24
  rw [Bool.eq_iff_iff]
  simp only [Bool.or_eq_true, Bool.and_eq_true, decide_eq_true_eq]
  constructor
  · refine fw_min (br := brU br (24 * a + b)) (fun u v => fwT br 24 (24 * u + v) = true ∨ ((u = a ∨ fwT br 24 (24 * u + a) = true) ∧ (v = b ∨ fwT br 24 (24 * b + v) = true))) (fun u v hu hv h => ?_) (fun u x v hu hx hv h1 h2 => ?_) 24 (Nat.le_refl _) u v hu hv
    · unfold brU at h
      by_cases e : 24 * u + v = 24 * a + b
      · exact Or.inr ⟨Or.inl (by omega), Or.inl (by omega)⟩
      · rw [if_neg e] at h
        exact Or.inl (fw_base hv h 24)
    · rcases h1 with h1 | ⟨h1, h1'⟩ <;> rcases h2 with h2 | ⟨h2, h2'⟩
      · exact Or.inl (tr u x v hx hv h1 h2)
      · refine Or.inr ⟨Or.inr ?_, h2'⟩
        rcases h2 with e | e
        · rw [← e]; exact h1
        · exact tr u x a hx ha h1 e
      · refine Or.inr ⟨h1, Or.inr ?_⟩
        rcases h1' with e | e
        · rw [← e]; exact h2
        · exact tr b x v hx hv e h2
      · exact Or.inr ⟨h1, h2'⟩
  · rintro (h | ⟨h1, h2⟩)
    · exact sub u v hu hv h
    · have p1 : fwT (brU br (24 * a + b)) 24 (24 * u + b) = true := by
        rcases h1 with e | e
        · rw [e]; exact hab
        · exact tr' u a b ha hb (sub u a hu ha e) hab
      rcases h2 with e | e
      · rw [e]; exact p1
      · exact tr' u b v hb hv p1 (sub b v hb hv e)
/-- what coverBelow does to each name -/
theorem cv_upt {nm : Nat} {th : Int32} {K : kT} : ∀ (m k u j : Nat), upt (cvB nm th) m K k u j = if k = 10 ∧ j = 3 ∧ u < m ∧ (u = nm ∨ hasB (K 10 u 3) (nI nm) = true) then K 10 u 3 ||| th else K k u j
  | 0, k, u, j => by rw [if_neg (by omega)]; rfl
  | m + 1, k, u, j => by
    have ih := cv_upt (nm := nm) (th := th) (K := K) m
    show cvB nm th (upt (cvB nm th) m K) m k u j = _
    have em : upt (cvB nm th) m K 10 m 3 = K 10 m 3 := by rw [ih, if_neg (by omega)]
    generalize upt (cvB nm th) m K = G at ih em ⊢
    unfold cvB
    rw [em]
    by_cases hc : m = nm ∨ hasB (K 10 m 3) (nI nm) = true
    · rw [if_pos hc]
      by_cases hk : k = 10 ∧ u = m
      · obtain ⟨rfl, rfl⟩ := hk
        rw [upK_s]
        by_cases hj : j = 3
        · subst hj
          rw [upd_self, if_pos ⟨rfl, rfl, Nat.lt_succ_self _, hc⟩]
        · rw [upd_ne hj, if_neg (by omega), ih, if_neg (by omega)]
      · rw [upK_n hk, ih]
        by_cases h1 : k = 10 ∧ j = 3 ∧ u < m ∧ (u = nm ∨ hasB (K 10 u 3) (nI nm) = true)
        · rw [if_pos h1, if_pos ⟨h1.1, h1.2.1, by omega, h1.2.2.2⟩]
        · rw [if_neg h1, if_neg (fun h2 => h1 ⟨h2.1, h2.2.1, by omega, h2.2.2.2⟩)]
    · rw [if_neg hc, ih]
      by_cases h1 : k = 10 ∧ j = 3 ∧ u < m ∧ (u = nm ∨ hasB (K 10 u 3) (nI nm) = true)
      · rw [if_pos h1, if_pos ⟨h1.1, h1.2.1, by omega, h1.2.2.2⟩]
      · rw [if_neg h1, if_neg (fun h2 => h1 ⟨h2.1, h2.2.1, by
          rcases Nat.lt_succ_iff_lt_or_eq.mp h2.2.2.1 with h3 | h3
          · exact h3
          · exact absurd (h3 ▸ h2.2.2.2) hc, h2.2.2.2⟩)]
section R4
variable {z : zT} {K K' : kT} {i : Nat → Int32} {f f' : Nat → Nat → Int32}
theorem rel.brdd {x : Int32} (h : rel z K i f) (h1 : ∀ k u, k ≠ 10 → K' k u = K k u) (h2 : ∀ u, K' 10 u 0 = K 10 u 0 ∧ K' 10 u 1 = K 10 u 1) (hf : ∀ k, k ≠ 10 → k ≠ 11 → f' k = f k) (hb : rBrd z K' f') : rel z K' (upd i 0 x) f' := by
  refine ⟨h.bnd, ?_, ?_, h.nam, ?_, ?_, ?_, hb, ?_, ?_, ?_, ?_⟩
  · have q := h.ok
    refine ⟨fun j hj => ?_, fun n j a b c => ?_⟩
    · rw [h1 2 0 (by decide)]; exact q.1 j hj
    · rw [h1 17 n (by decide)]; exact q.2 n j a b c
  · refine ⟨h.pad.1, fun j hj => ?_⟩
    rw [hf 0 (by decide) (by decide), h1 2 0 (by decide)]
    exact h.pad.2 j hj
  · obtain ⟨v1, v2, v3, v4, v5⟩ := h.var
    unfold rVar
    rw [hf 1 (by decide) (by decide), hf 2 (by decide) (by decide), hf 3 (by decide) (by decide), hf 4 (by decide) (by decide), hf 5 (by decide) (by decide), hf 6 (by decide) (by decide)]
    refine ⟨v1, v2, fun m a b => ?_, fun a ha l hl => ?_, fun a ha l hl => ?_⟩
    · rw [h1 17 m (by decide), h1 18 m (by decide)]; exact v3 m a b
    · rw [(h2 a).1]; exact v4 a ha l hl
    · rw [(h2 a).2]; exact v5 a ha l hl
  · intro a ha
    rw [hf 7 (by decide) (by decide), hf 8 (by decide) (by decide), h1 14 a (by decide)]
    exact h.dat a ha
  · unfold rDec
    rw [hf 9 (by decide) (by decide), h1 7 0 (by decide)]
    exact h.dec
  · intro a s ha hs
    rw [hf 12 (by decide) (by decide), h1 13 a (by decide)]
    exact h.num a s ha hs
  · obtain ⟨m1, mo, mt, hm⟩ := h.mrg
    refine ⟨m1, mo, mt, fun k hk => ?_⟩
    rw [hf 13 (by decide) (by decide), hf 14 (by decide) (by decide), hf 15 (by decide) (by decide), hf 16 (by decide) (by decide), h1 19 k (by decide)]
    exact hm k hk
  · unfold rPai
    rw [hf 18 (by decide) (by decide), hf 19 (by decide) (by decide), h1 8 0 (by decide)]
    exact h.pai
  · unfold rFnd
    rw [hf 20 (by decide) (by decide), h1 0 0 (by decide)]
    exact h.fnd
theorem hasB_cov (h : rel z K i f) {br : Nat → Bool} (hc : ∀ a, a < z 3 0 → ∀ b, b < 32 → bt (K 10 a 3) b = (decide (b < 24) && fwT br 24 (24 * a + b))) {a b : Nat} (ha : a < z 3 0) (hb : b < 24) : hasB (K 10 a 3) (nI b) = fwT br 24 (24 * a + b) := by
  rw [hasB_bt (by omega), hc a ha b (by omega), decide_eq_true hb]
  rfl
/-- broader is told -/
theorem rel.brd1 {x : Int32} {a b : Nat} {br : Nat → Bool} {R : Nat → Int32} (h : rel z K i f) (hf10 : ∀ k, k < 576 → f 10 k = bI (br k)) (hout : ∀ a b, b < 24 → a < 24 → (z 3 0 ≤ a ∨ z 3 0 ≤ b) → br (24 * a + b) = false) (hn : ∀ a, a < z 3 0 → ∀ b, b < 32 → bt (K 10 a 2) b = (decide (b < 24) && br (24 * a + b))) (hc : ∀ a, a < z 3 0 → ∀ b, b < 32 → bt (K 10 a 3) b = (decide (b < 24) && fwT br 24 (24 * a + b))) (hring : ∀ a, a < 24 → fwT br 24 (24 * a + a) = false) (ha : a < z 3 0) (hb : b < z 3 0) (hab : a ≠ b) (hnc : fwT br 24 (24 * b + a) = false) : rel z (upt (cvB a (K 10 b 3 ||| (1 : Int32) <<< (nI b &&& 31))) (z 3 0) (upK K 10 a (upd (K 10 a) 2 (K 10 a 2 ||| (1 : Int32) <<< (nI b &&& 31))))) (upd i 0 x) (setA (updA f 10 (24 * a + b) 1) 11 R) := by
  have h24 : z 3 0 ≤ 24 := h.bnd.2.2.1
  have eK : ∀ k u j, ¬ (k = 10 ∧ j = 3) → upt (cvB a (K 10 b 3 ||| (1 : Int32) <<< (nI b &&& 31))) (z 3 0) (upK K 10 a (upd (K 10 a) 2 (K 10 a 2 ||| (1 : Int32) <<< (nI b &&& 31)))) k u j = upK K 10 a (upd (K 10 a) 2 (K 10 a 2 ||| (1 : Int32) <<< (nI b &&& 31))) k u j := fun k u j hk => by rw [cv_upt, if_neg (fun h9 => hk ⟨h9.1, h9.2.1⟩)]
  refine h.brdd (fun k u hk => ?_) (fun u => ⟨?_, ?_⟩) (fun k h1 h2 => ?_) ⟨brU br (24 * a + b), fun k hk => ?_, fun u v hv hu hz => ?_, fun u hu v hv => ?_, fun u hu v hv => ?_, fun u hu => ?_⟩
  · funext j
    rw [eK k u j (by omega), upK_n (by omega)]
  · rw [eK 10 u 0 (by omega)]
    by_cases e : u = a
    · subst e; rw [upK_s]; rfl
    · rw [upK_n (by omega)]
  · rw [eK 10 u 1 (by omega)]
    by_cases e : u = a
    · subst e; rw [upK_s]; rfl
    · rw [upK_n (by omega)]
  · rw [setA_ne h2, updA_ne h1]
  · show upd (f 10) (24 * a + b) 1 k = bI (brU br (24 * a + b) k)
    unfold brU
    by_cases e : k = 24 * a + b
    · rw [e, upd_self, if_pos rfl]; rfl
    · rw [upd_ne e, if_neg e]; exact hf10 k hk
  · unfold brU
    rw [if_neg (by omega)]
    exact hout u v hv hu hz
  · rw [eK 10 u 2 (by omega)]
    unfold brU
    by_cases e : u = a
    · subst e
      rw [upK_s, upd_self, bt_or, hn u hu v hv, bt_one (by omega)]
      by_cases e2 : v = b
      · subst e2
        rw [if_pos rfl, decide_eq_true (show v < 24 by omega)]
        simp
      · rw [if_neg (by omega), decide_eq_false (p := b = v) (fun h9 => e2 h9.symm), Bool.or_false]
    · rw [upK_n (by omega), hn u hu v hv]
      by_cases hv24 : v < 24
      · rw [if_neg (by omega)]
      · simp [hv24]
  · have e3 : upK K 10 a (upd (K 10 a) 2 (K 10 a 2 ||| (1 : Int32) <<< (nI b &&& 31))) 10 u 3 = K 10 u 3 := brd_same
    rw [cv_upt, e3, hasB_cov h hc hu (show a < 24 by omega)]
    by_cases hv24 : v < 24
    · rw [decide_eq_true hv24, Bool.true_and, fw_add (by omega) (by omega) (by omega) hv24]
      by_cases hq : u = a ∨ fwT br 24 (24 * u + a) = true
      · rw [if_pos ⟨rfl, rfl, hu, hq⟩, bt_or, bt_or, hc u hu v hv, hc b hb v hv, bt_one (by omega), decide_eq_true hv24]
        have : (decide (u = a) || fwT br 24 (24 * u + a)) = true := by simpa using hq
        rw [this, Bool.true_and, Bool.true_and, Bool.true_and, show decide (b = v) = decide (v = b) from decide_eq_decide.mpr eq_comm, Bool.or_comm (fwT br 24 (24 * b + v))]
      · rw [if_neg (fun h9 => hq h9.2.2.2), hc u hu v hv, decide_eq_true hv24]
        have : (decide (u = a) || fwT br 24 (24 * u + a)) = false := by
          rw [Bool.eq_false_iff]
          intro h9
          exact hq (by simpa using h9)
        rw [this]
        simp
    · rw [decide_eq_false hv24, Bool.false_and]
      by_cases hq : u = a ∨ fwT br 24 (24 * u + a) = true
      · rw [if_pos ⟨rfl, rfl, hu, hq⟩, bt_or, bt_or, hc u hu v hv, hc b hb v hv, bt_one (by omega), decide_eq_false hv24, decide_eq_false (show ¬ b = v by omega)]
        rfl
      · rw [if_neg (fun h9 => hq h9.2.2.2), hc u hu v hv, decide_eq_false hv24]
        rfl
  · rw [fw_add (by omega) (by omega) hu hu, hring u hu, Bool.false_or]
    rw [Bool.eq_false_iff]
    intro h9
    simp only [Bool.and_eq_true, Bool.or_eq_true, decide_eq_true_eq] at h9
    have hx : fwT br 24 (24 * b + a) = true := by
      rcases h9.1 with e | e <;> rcases h9.2 with e2 | e2
      · exact absurd (e.symm.trans e2) hab
      · rw [← e]; rw [e] at e2; rw [e]; exact e2
      · rw [← e2]; exact e
      · exact fw_tr 24 (Nat.le_refl _) b u a hu hu (by omega) e2 e
    rw [hnc] at hx
    cases hx
/-- a new name -/
theorem rel.named {x : Int32} {cap : Nat} {g3 : Nat → Int32} (h : rel z K i f) (h24 : z 3 0 < 24) (hB : nmB (upZ (upZ (upZ (upZ z 11 (z 3 0) 0) 14 (z 3 0) 0) 4 0 cap) 3 0 (z 3 0 + 1))) (hK : nmK (upZ (upZ (upZ (upZ z 11 (z 3 0) 0) 14 (z 3 0) 0) 4 0 cap) 3 0 (z 3 0 + 1)) (upK (upK (upK (upK K 10 (z 3 0) (fun _ => 0)) 11 (z 3 0) (fun _ => 0)) 13 (z 3 0) (fun _ => 0)) 3 0 g3)) : rel (upZ (upZ (upZ (upZ z 11 (z 3 0) 0) 14 (z 3 0) 0) 4 0 cap) 3 0 (z 3 0 + 1)) (upK (upK (upK (upK K 10 (z 3 0) (fun _ => 0)) 11 (z 3 0) (fun _ => 0)) 13 (z 3 0) (fun _ => 0)) 3 0 g3) (upd (upd i 0 x) 2 (nI (z 3 0 + 1))) f := by
  have z11 : ∀ a, (if a < z 3 0 + 1 then upZ z 11 (z 3 0) 0 11 a else 0) = if a < z 3 0 then z 11 a else 0 := fun a => by
    by_cases e : a = z 3 0
    · rw [e, if_pos (Nat.lt_succ_self _), upZ_s, if_neg (Nat.lt_irrefl _)]
    · rw [upZ_n (by omega)]
      by_cases h1 : a < z 3 0
      · rw [if_pos h1, if_pos (by omega)]
      · rw [if_neg h1, if_neg (by omega)]
  have vl : ∀ m, (m / 4 < z 3 0 + 1 ∧ m % 4 < upZ z 11 (z 3 0) 0 11 (m / 4)) ↔ (m / 4 < z 3 0 ∧ m % 4 < z 11 (m / 4)) := fun m => by
    by_cases e : m / 4 = z 3 0
    · rw [e, upZ_s]; omega
    · rw [upZ_n (by omega)]; omega
  obtain ⟨v1, v2, v3, v4, v5⟩ := h.var
  obtain ⟨br, b1, b2, b3, b4, b5⟩ := h.brd
  obtain ⟨m1, mo, mt, hm⟩ := h.mrg
  refine ⟨hB, hK, h.pad, rfl, ⟨fun a ha => ?_, fun m hm9 => ?_, fun m a b => ?_, fun a ha l hl => ?_, fun a ha l hl => ?_⟩, fun a ha => ?_, h.dec, ⟨br, b1, fun a b hb ha hz => b2 a b hb ha ?_, fun a ha b hb => ?_, fun a ha b hb => ?_, b5⟩, fun a s ha hs => ?_, ⟨m1, mo, mt, fun k hk => ?_⟩, h.pai, h.fnd⟩
  · show f 1 a = nI (if a < z 3 0 + 1 then upZ z 11 (z 3 0) 0 11 a else 0)
    rw [z11]; exact v1 a ha
  · show f 2 m = nI (if m / 4 < z 3 0 + 1 ∧ m % 4 < upZ z 11 (z 3 0) 0 11 (m / 4) then z 17 m else 0)
    rw [v2 m hm9]
    unfold lnF
    by_cases hv : m / 4 < z 3 0 ∧ m % 4 < z 11 (m / 4)
    · rw [if_pos hv, if_pos ((vl m).mpr hv)]
    · rw [if_neg hv, if_neg (fun h9 => hv ((vl m).mp h9))]
  · have hv := (vl m).mp ⟨a, b⟩
    exact v3 m hv.1 hv.2
  · have ha' : a < z 3 0 + 1 := ha
    show bt (upK K 10 (z 3 0) (fun _ => 0) 10 a 0) l = anyTo (fun j => decide (f 4 (4 * a + j) = nI l)) (upZ z 11 (z 3 0) 0 11 a)
    by_cases e : a = z 3 0
    · rw [e, upK_s, upZ_s, bt_0]; rfl
    · rw [upK_n (by omega), upZ_n (by omega)]; exact v4 a (by omega) l hl
  · have ha' : a < z 3 0 + 1 := ha
    show bt (upK K 10 (z 3 0) (fun _ => 0) 10 a 1) l = anyTo (fun j => decide (f 3 (12 * (4 * a + j)) = nI (97 + l))) (upZ z 11 (z 3 0) 0 11 a)
    by_cases e : a = z 3 0
    · rw [e, upK_s, upZ_s, bt_0]; rfl
    · rw [upK_n (by omega), upZ_n (by omega)]; exact v5 a (by omega) l hl
  · have q := h.dat a ha
    show if a < z 3 0 + 1 ∧ 0 < upZ (upZ z 11 (z 3 0) 0) 14 (z 3 0) 0 14 a then (f 7 a = K 14 a 0 ∧ f 8 a = K 14 a 1 ∧ ¬ f 8 a = -1) else f 8 a = -1
    by_cases e : a = z 3 0
    · rw [e, upZ_s, if_neg (by omega)]
      rw [e, if_neg (by omega)] at q
      exact q
    · rw [upZ_n (by omega)]
      by_cases h1 : a < z 3 0 ∧ 0 < z 14 a
      · rw [if_pos h1] at q
        have h2 : a < z 3 0 + 1 ∧ 0 < upZ z 11 (z 3 0) 0 14 a := ⟨by omega, h1.2⟩
        rw [if_pos h2]; exact q
      · rw [if_neg h1] at q
        have h2 : ¬ (a < z 3 0 + 1 ∧ 0 < upZ z 11 (z 3 0) 0 14 a) := fun h9 => h1 ⟨by omega, h9.2⟩
        rw [if_neg h2]; exact q
  · have hz' : z 3 0 + 1 ≤ a ∨ z 3 0 + 1 ≤ b := hz
    omega
  · have ha' : a < z 3 0 + 1 := ha
    show bt (upK K 10 (z 3 0) (fun _ => 0) 10 a 2) b = _
    by_cases e : a = z 3 0
    · rw [e, upK_s, bt_0]
      by_cases hb24 : b < 24
      · rw [b2 (z 3 0) b hb24 h24 (Or.inl (Nat.le_refl _)), Bool.and_false]
      · simp [hb24]
    · rw [upK_n (by omega)]; exact b3 a (by omega) b hb
  · have ha' : a < z 3 0 + 1 := ha
    show bt (upK K 10 (z 3 0) (fun _ => 0) 10 a 3) b = _
    by_cases e : a = z 3 0
    · rw [e, upK_s, bt_0]
      by_cases hb24 : b < 24
      · rw [fw_row (fun b hb => b2 (z 3 0) b hb h24 (Or.inl (Nat.le_refl _))) 24 (Nat.le_refl _) b hb24, Bool.and_false]
      · simp [hb24]
    · rw [upK_n (by omega)]; exact b4 a (by omega) b hb
  · show (f 12 (4 * a + s) = if a < z 3 0 + 1 then upK (upK (upK K 10 (z 3 0) (fun _ => 0)) 11 (z 3 0) (fun _ => 0)) 13 (z 3 0) (fun _ => 0) 13 a s else 0) ∧ (f 12 (4 * a + s) = 0 ∨ numB (f 12 (4 * a + s)) = true)
    have q := h.num a s ha hs
    by_cases e : a = z 3 0
    · rw [e, upK_s, if_pos (Nat.lt_succ_self _)]
      rw [e, if_neg (Nat.lt_irrefl _)] at q
      exact q
    · rw [upK_n (by omega)]
      by_cases h1 : a < z 3 0
      · rw [if_pos h1] at q
        rw [if_pos (by omega)]; exact q
      · rw [if_neg h1] at q
        rw [if_neg (by omega)]; exact q
  · obtain ⟨a1, a2, a3, a4, a5⟩ := hm k hk
    exact ⟨a1, Nat.lt_succ_of_lt a2, a3, Nat.lt_succ_of_lt a4, a5⟩
end R4
