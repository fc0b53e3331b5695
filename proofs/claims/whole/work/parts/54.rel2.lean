/-! groups of merged names as sets of bits -/
theorem bt_sub_cnt {x y : Int32} (h : ∀ n, bt x n = true → bt y n = true) : ∀ m, cntTo (bt x) m ≤ cntTo (bt y) m ∧ (cntTo (bt x) m = cntTo (bt y) m → ∀ n, n < m → bt x n = bt y n)
  | 0 => ⟨Nat.le_refl _, fun _ n hn => absurd hn (Nat.not_lt_zero _)⟩
  | m + 1 => by
    obtain ⟨h1, h2⟩ := bt_sub_cnt h m
    have h3 := h m
    rw [cntTo, cntTo]
    cases hx : bt x m <;> cases hy : bt y m
    · refine ⟨by simpa using h1, fun e n hn => ?_⟩
      rcases Nat.lt_succ_iff_lt_or_eq.mp hn with h4 | h4
      · exact h2 (by simpa using e) n h4
      · rw [h4, hx, hy]
    · refine ⟨by simp; omega, fun e => ?_⟩
      simp at e
      omega
    · rw [hx, hy] at h3
      exact absurd (h3 rfl) (by simp)
    · refine ⟨by simpa using h1, fun e n hn => ?_⟩
      rcases Nat.lt_succ_iff_lt_or_eq.mp hn with h4 | h4
      · exact h2 (by simpa using e) n h4
      · rw [h4, hx, hy]
theorem cnt_le (P : Nat → Bool) : ∀ m, cntTo P m ≤ m
  | 0 => Nat.le_refl _
  | m + 1 => by
    have := cnt_le P m
    rw [cntTo]
    split <;> omega
theorem bt_anti {x y : Int32} (h1 : ∀ n, bt x n = true → bt y n = true) (h2 : ∀ n, bt y n = true → bt x n = true) : x = y := bt_ext fun n _ => by
  have a := h1 n
  have b := h2 n
  cases hx : bt x n <;> cases hy : bt y n <;> simp_all
/-- rounds until nothing is new -/
theorem owR_fix {F : Int32 → Int32} (hF : ∀ g n, bt g n = true → bt (F g) n = true) (h24 : ∀ g, (∀ n, 24 ≤ n → bt g n = false) → ∀ n, 24 ≤ n → bt (F g) n = false) : ∀ (t : Nat) (g b : Int32), (∀ n, 24 ≤ n → bt g n = false) → (g = b → F g = g) → (F g = g ∨ 25 ≤ t + cntTo (bt g) 24) → F (owR F t g b) = owR F t g b
  | 0, g, b, hg, hb, hc => by
    show F g = g
    rcases hc with h | h
    · exact h
    · have := cnt_le (bt g) 24
      omega
  | t + 1, g, b, hg, hb, hc => by
    rw [owR]
    by_cases h : g = b
    · rw [if_pos h]
      exact hb h
    · rw [if_neg h]
      refine owR_fix hF h24 t (F g) g (h24 g hg) (fun e => by rw [e]; exact e) ?_
      by_cases h2 : F g = g
      · exact Or.inl (by rw [h2]; exact h2)
      · refine Or.inr ?_
        rcases hc with h3 | h3
        · exact absurd h3 h2
        · obtain ⟨a1, a2⟩ := bt_sub_cnt (x := g) (y := F g) (hF g) 24
          have : cntTo (bt g) 24 ≠ cntTo (bt (F g)) 24 := fun e => h2 (bt_ext fun n hn => by
            rcases Nat.lt_or_ge n 24 with h4 | h4
            · exact (a2 e n h4).symm
            · rw [hg n h4, h24 g hg n h4])
          omega
theorem owR_inv {F : Int32 → Int32} (P : Int32 → Prop) (hF : ∀ g, P g → P (F g)) : ∀ (t : Nat) (g b : Int32), P g → P (owR F t g b)
  | 0, _, _, h => h
  | t + 1, g, b, h => by
    rw [owR]
    by_cases e : g = b
    · rw [if_pos e]; exact h
    · rw [if_neg e]; exact owR_inv P hF t (F g) g (hF g h)
theorem upt_inv {α : Type} {s : α → Nat → α} (P : α → Prop) : ∀ (m : Nat), (∀ a k, k < m → P a → P (s a k)) → ∀ a, P a → P (upt s m a)
  | 0, _, _, h => h
  | m + 1, hs, a, h => hs _ m (Nat.lt_succ_self _) (upt_inv P m (fun a k hk => hs a k (by omega)) a h)
/-- what one round may not change, no step of it changes -/
theorem upt_fix {s : Int32 → Nat → Int32} (hs : ∀ g k n, bt g n = true → bt (s g k) n = true) {g : Int32} : ∀ (m : Nat), upt s m g = g → ∀ k, k < m → s g k = g
  | 0, _, _, hk => absurd hk (Nat.not_lt_zero _)
  | m + 1, h, k, hk => by
    have hm : ∀ (j : Nat) (n : Nat), bt g n = true → bt (upt s j g) n = true := fun j n hn => upt_inv (s := s) (fun a => bt a n = true) j (fun a k _ h => hs a k n h) g hn
    have h1 : upt s m g = g := bt_anti (fun n hn => by rw [← h]; exact hs _ m n hn) (hm m)
    rcases Nat.lt_succ_iff_lt_or_eq.mp hk with h2 | h2
    · exact upt_fix hs m h1 k h2
    · subst h2
      have h3 : s (upt s k g) k = g := h
      rw [h1] at h3
      exact h3
section GRP
variable {K : kT} {dy : Int32} {m : Nat} {mo mt : Nat → Nat} {hd : Nat → Bool}
theorem owS_inf (K : kT) (dy : Int32) (g : Int32) (k n : Nat) (h : bt g n = true) : bt (owS K dy g k) n = true := by
  unfold owS
  split
  · rw [bt_or, h]; rfl
  · exact h
theorem ow_conn (hK : ∀ k, k < m → K 19 k 0 = setV (nI (mo k)) (nI (mt k)) ∧ mo k < 24 ∧ mt k < 24 ∧ holdV (K 19 k 1) (K 19 k 2) dy = hd k) {a : Nat} (ha : a < 24) : (∀ b, 24 ≤ b → bt (owR (owF m K dy) 24 ((1 : Int32) <<< (nI a &&& 31)) 0) b = false) ∧ ∀ b, bt (owR (owF m K dy) 24 ((1 : Int32) <<< (nI a &&& 31)) 0) b = true ↔ conn mo mt hd m a b := by
  have hin : ∀ g n, bt g n = true → bt (owF m K dy g) n = true := fun g n hn => upt_inv (s := owS K dy) (fun x => bt x n = true) m (fun x k _ h => owS_inf K dy x k n h) g hn
  have hst : ∀ (g : Int32) (k : Nat), k < m → ∀ n, bt (owS K dy g k) n = true → bt g n = true ∨ (hd k = true ∧ (bt g (mo k) = true ∨ bt g (mt k) = true) ∧ (n = mo k ∨ n = mt k)) := by
    intro g k hk n hn
    obtain ⟨e1, e2, e3, e4⟩ := hK k hk
    unfold owS at hn
    by_cases hc : holdV (K 19 k 1) (K 19 k 2) dy = true ∧ ¬ (g &&& K 19 k 0 = 0)
    · rw [if_pos hc, bt_or, e1, bt_set (by omega) (by omega)] at hn
      cases hg : bt g n
      · rw [hg] at hn
        refine Or.inr ⟨e4 ▸ hc.1, ?_, ?_⟩
        · have h9 := hc.2
          rw [and_zero] at h9
          refine Classical.byContradiction fun h8 => h9 fun x hx hb => ?_
          rw [e1, bt_set (by omega) (by omega)] at hb
          have h7 := hb.2
          simp only [Bool.or_eq_true, decide_eq_true_eq] at h7
          rcases h7 with h7 | h7
          · exact h8 (Or.inl (h7 ▸ hb.1))
          · exact h8 (Or.inr (h7 ▸ hb.1))
        · simp only [Bool.false_or, Bool.or_eq_true, decide_eq_true_eq] at hn
          rcases hn with h7 | h7
          · exact Or.inl h7.symm
          · exact Or.inr h7.symm
      · exact Or.inl rfl
    · rw [if_neg hc] at hn
      exact Or.inl hn
  have h24 : ∀ g, (∀ n, 24 ≤ n → bt g n = false) → ∀ n, 24 ≤ n → bt (owF m K dy g) n = false := fun g hg => upt_inv (s := owS K dy) (fun x => ∀ n, 24 ≤ n → bt x n = false) m (fun x k hk h n hn => by
    obtain ⟨e1, e2, e3, e4⟩ := hK k hk
    cases hb : bt (owS K dy x k) n
    · rfl
    · rcases hst x k hk n hb with h8 | ⟨-, -, h8⟩
      · rw [h n hn] at h8; cases h8
      · omega) g hg
  have hg0 : ∀ n, bt ((1 : Int32) <<< (nI a &&& 31)) n = decide (a = n) := fun n => bt_one (by omega)
  have h240 : ∀ n, 24 ≤ n → bt ((1 : Int32) <<< (nI a &&& 31)) n = false := fun n hn => by rw [hg0]; exact decide_eq_false (by omega)
  have hfix := owR_fix hin h24 24 ((1 : Int32) <<< (nI a &&& 31)) 0 h240 (fun e => by
      have := hg0 a
      rw [e, bt_0] at this
      simp at this) (Or.inr (by
      have hpos : 1 ≤ cntTo (bt ((1 : Int32) <<< (nI a &&& 31))) 24 := by
        have hc := (bt_sub_cnt (x := 0) (y := (1 : Int32) <<< (nI a &&& 31)) (fun n hn => by rw [bt_0] at hn; cases hn) 24)
        rcases Nat.eq_zero_or_pos (cntTo (bt ((1 : Int32) <<< (nI a &&& 31))) 24) with h0 | h0
        · have hz : cntTo (bt 0) 24 = 0 := by omega
          have := hc.2 (by omega) a ha
          rw [bt_0, hg0] at this
          simp at this
        · exact h0
      omega))
  generalize hR : owR (owF m K dy) 24 ((1 : Int32) <<< (nI a &&& 31)) 0 = R at hfix ⊢
  have hb24 : ∀ n, 24 ≤ n → bt R n = false := hR ▸ owR_inv (F := owF m K dy) (fun x => ∀ n, 24 ≤ n → bt x n = false) h24 24 _ 0 h240
  have hRa : bt R a = true := hR ▸ owR_inv (F := owF m K dy) (fun x => bt x a = true) (fun g h => hin g a h) 24 _ 0 (by rw [hg0]; simp)
  have hsound : ∀ n, bt R n = true → conn mo mt hd m a n := hR ▸ owR_inv (F := owF m K dy) (fun x => ∀ n, bt x n = true → conn mo mt hd m a n) (fun g h => upt_inv (s := owS K dy) (fun x => ∀ n, bt x n = true → conn mo mt hd m a n) m (fun x k hk h n hn => by
      rcases hst x k hk n hn with h8 | ⟨h7, h8, h9⟩
      · exact h n h8
      · have hed := conn.ed (mo := mo) (mt := mt) hk h7
        have hmo : conn mo mt hd m a (mo k) := h8.elim (fun q => h _ q) (fun q => (h _ q).tr hed.sy)
        rcases h9 with e | e
        · rw [e]; exact hmo
        · rw [e]; exact hmo.tr hed) g h) 24 _ 0 (fun n hn => by
        rw [hg0] at hn
        have := of_decide_eq_true hn
        rw [← this]
        exact conn.rf)
  refine ⟨hb24, fun b => ⟨hsound b, fun hc => hc (fun x => bt R x = true) (fun k hk hh => ?_) hRa⟩⟩
  have hone : owS K dy R k = R := upt_fix (owS_inf K dy) m hfix k hk
  obtain ⟨e1, e2, e3, e4⟩ := hK k hk
  have key : ∀ x, (x = mo k ∨ x = mt k) → bt R x = true → (bt R (mo k) = true ∧ bt R (mt k) = true) := fun x hx hbx => by
    have hcond : holdV (K 19 k 1) (K 19 k 2) dy = true ∧ ¬ (R &&& K 19 k 0 = 0) := ⟨e4 ▸ hh, fun h9 => by
      rw [and_zero] at h9
      refine h9 x (by omega) ⟨hbx, ?_⟩
      rw [e1, bt_set (by omega) (by omega)]
      rcases hx with h | h <;> simp [h]⟩
    unfold owS at hone
    rw [if_pos hcond] at hone
    refine ⟨?_, ?_⟩
    · rw [← hone, bt_or, e1, bt_set (by omega) (by omega)]; simp
    · rw [← hone, bt_or, e1, bt_set (by omega) (by omega)]; simp
  exact ⟨fun h => (key _ (Or.inl rfl) h).2, fun h => (key _ (Or.inr rfl) h).1⟩
end GRP
