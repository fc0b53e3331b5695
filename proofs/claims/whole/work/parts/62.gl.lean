theorem val_inj {a b : Int32} (h : some (Value.int a) = some (Value.int b)) : a = b := Value.int.inj (Option.some.inj h)
theorem mn_is {z : zT} {q : Int32} (h24 : z 3 0 ≤ 24) : (isN (z 3 0) q && !decide (4 ≤ mnF z (tn q))) = (isN (z 3 0) q && !decide (4 ≤ z 11 (tn q))) := by
  cases hq : isN (z 3 0) q
  · rfl
  · obtain ⟨j, hj, rfl⟩ := isN_of hq (by omega)
    rw [tnI (j := j) (by omega), show mnF z j = z 11 j from if_pos hj]
theorem updA_same {f : Nat → Nat → Int32} {k j : Nat} {v : Int32} (h : f k j = v) : updA f k j v = f := by
  funext a
  unfold updA
  by_cases e : a = k
  · rw [if_pos e, e]
    funext b
    unfold upd
    by_cases e2 : b = j
    · rw [if_pos e2, e2, h]
    · rw [if_neg e2]
  · rw [if_neg e]
theorem gl_unit {D : va_G} {cs : Nat → ClassId} {N0 N xm : Nat} {gm : Nat → Nat} {H Hc H2 : Heap} {o z : zT} {K : kT} {r : Nat → Nat × Nat} {i : Nat → Int32} {f : Nat → Nat → Int32} {wv r9 : Int32} {q : Int32} (hI : nmP D cs N0 H o z K r) (hr : rel z K i f) (hc : (fun (v : Option Value) (H' : Heap) => goV (decide (z 1 0 < 12)) (isSg q) true = 0 ∧ v = some (.int (nI (z 1 0 + 1))) ∧ nmP D cs N0 H' o (upZ z 1 0 (z 1 0 + 1)) (upK (upK K 1 0 (fun _ => K 1 0 0)) 2 0 (upd (K 2 0) (z 1 0) q)) r) (some (.int wv)) Hc) (hm : (fun (x : Nat) (g : Nat → Nat) (i : Nat → Int32) (f : Nat → Nat → Int32) (q : Int32) (pn : Nat) => (fun (r : Int32) (H' : Heap) => if goB (decide (pn < 12)) (isSg q) true = true then (md_I D cs H' x g (upd (upd i 0 (goV (decide (pn < 12)) (isSg q) true)) 1 (nI (pn + 1))) (updA f 0 pn q) ∧ r = nI (pn + 1)) else (md_I D cs H' x g (upd i 0 (goV (decide (pn < 12)) (isSg q) true)) f ∧ r = 0))) xm gm i f q (z 1 0) r9 H2) : wv = r9 ∧ ∃ (o' z' : zT) (K' : kT) (r' : Nat → Nat × Nat) (i' : Nat → Int32) (f' : Nat → Nat → Int32), nmP D cs N0 Hc o' z' K' r' ∧ (∀ q, q < N → r' q = r q) ∧ md_I D cs H2 xm gm i' f' ∧ i' 0 = 0 ∧ rel z' K' i' f' ∧ o' 0 0 = o 0 0 := by
  have h24 : z 3 0 ≤ 24 := hr.bnd.2.2.1
  have hg := goV_0.mp hc.1
  rw [if_pos hg] at hm
  simp only [goB, Bool.and_eq_true, decide_eq_true_eq] at hg
  exact ⟨(val_inj hc.2.1).trans hm.2.symm, o, _, _, r, _, _, hc.2.2, fun _ _ => rfl, hm.1, hc.1, hr.unit hg.1.1 hg.1.2, rfl⟩
theorem gx_unit {D : va_G} {cs : Nat → ClassId} {xm : Nat} {gm : Nat → Nat} {H2 : Heap} {z : zT} {K : kT} {i : Nat → Int32} {f : Nat → Nat → Int32} {r9 : Int32} {q : Int32} (hr : rel z K i f) (hG : ¬ goV (decide (z 1 0 < 12)) (isSg q) true = 0) (hm : (fun (x : Nat) (g : Nat → Nat) (i : Nat → Int32) (f : Nat → Nat → Int32) (q : Int32) (pn : Nat) => (fun (r : Int32) (H' : Heap) => if goB (decide (pn < 12)) (isSg q) true = true then (md_I D cs H' x g (upd (upd i 0 (goV (decide (pn < 12)) (isSg q) true)) 1 (nI (pn + 1))) (updA f 0 pn q) ∧ r = nI (pn + 1)) else (md_I D cs H' x g (upd i 0 (goV (decide (pn < 12)) (isSg q) true)) f ∧ r = 0))) xm gm i f q (z 1 0) r9 H2) : ∃ (i' : Nat → Int32) (f' : Nat → Nat → Int32), md_I D cs H2 xm gm i' f' ∧ i' 0 = goV (decide (z 1 0 < 12)) (isSg q) true ∧ rel z K i' f' := by
  have hg := goV_n hG
  rw [if_neg hg] at hm
  exact ⟨_, _, hm.1, rfl, hr.i0⟩
theorem gl_name {D : va_G} {cs : Nat → ClassId} {N0 N xm : Nat} {gm : Nat → Nat} {H Hc H2 : Heap} {o z : zT} {K : kT} {r : Nat → Nat × Nat} {i : Nat → Int32} {f : Nat → Nat → Int32} {wv r9 : Int32} (hI : nmP D cs N0 H o z K r) (hr : rel z K i f) (hc : (fun (v : Option Value) (H' : Heap) => goV (decide (z 3 0 < 24)) true true = 0 ∧ v = some (.int (nI (z 3 0))) ∧ ∃ (a u w ea cap : Nat) (mc : Int32) (r' : Nat → Nat × Nat), nmP D cs N0 H' (upZ (upZ (upZ (upZ o 10 (z 3 0) a) 11 (z 3 0) u) 13 (z 3 0) w) 4 0 ea) (upZ (upZ (upZ (upZ z 11 (z 3 0) 0) 14 (z 3 0) 0) 4 0 cap) 3 0 (z 3 0 + 1)) (upK (upK (upK (upK K 10 (z 3 0) (fun _ => 0)) 11 (z 3 0) (fun _ => 0)) 13 (z 3 0) (fun _ => 0)) 3 0 (fun _ => mc)) r' ∧ ∀ q, q < N → r' q = r q) (some (.int wv)) Hc) (hm : (fun (x : Nat) (g : Nat → Nat) (i : Nat → Int32) (f : Nat → Nat → Int32) (n : Nat) => (fun (r : Int32) (H' : Heap) => if goB (decide (n < 24)) true true = true then (md_I D cs H' x g (upd (upd i 0 (goV (decide (n < 24)) true true)) 2 (nI (n + 1))) f ∧ r = nI n) else (md_I D cs H' x g (upd i 0 (goV (decide (n < 24)) true true)) f ∧ r = 0))) xm gm i f (z 3 0) r9 H2) : wv = r9 ∧ ∃ (o' z' : zT) (K' : kT) (r' : Nat → Nat × Nat) (i' : Nat → Int32) (f' : Nat → Nat → Int32), nmP D cs N0 Hc o' z' K' r' ∧ (∀ q, q < N → r' q = r q) ∧ md_I D cs H2 xm gm i' f' ∧ i' 0 = 0 ∧ rel z' K' i' f' ∧ o' 0 0 = o 0 0 := by
  have h24 : z 3 0 ≤ 24 := hr.bnd.2.2.1
  have hg := goV_0.mp hc.1
  rw [if_pos hg] at hm
  simp only [goB, Bool.and_eq_true, decide_eq_true_eq] at hg
  obtain ⟨hG, hw, a, u, w, ea, cap, mc, r', hn, hrr⟩ := hc
  exact ⟨(val_inj hw).trans hm.2.symm, _, _, _, r', _, _, hn, hrr, hm.1, hG, hr.named hg.1.1 hn.2.2.1 hn.2.2.2, rfl⟩
theorem gx_name {D : va_G} {cs : Nat → ClassId} {xm : Nat} {gm : Nat → Nat} {H2 : Heap} {z : zT} {K : kT} {i : Nat → Int32} {f : Nat → Nat → Int32} {r9 : Int32} (hr : rel z K i f) (hG : ¬ goV (decide (z 3 0 < 24)) true true = 0) (hm : (fun (x : Nat) (g : Nat → Nat) (i : Nat → Int32) (f : Nat → Nat → Int32) (n : Nat) => (fun (r : Int32) (H' : Heap) => if goB (decide (n < 24)) true true = true then (md_I D cs H' x g (upd (upd i 0 (goV (decide (n < 24)) true true)) 2 (nI (n + 1))) f ∧ r = nI n) else (md_I D cs H' x g (upd i 0 (goV (decide (n < 24)) true true)) f ∧ r = 0))) xm gm i f (z 3 0) r9 H2) : ∃ (i' : Nat → Int32) (f' : Nat → Nat → Int32), md_I D cs H2 xm gm i' f' ∧ i' 0 = goV (decide (z 3 0 < 24)) true true ∧ rel z K i' f' := by
  have hg := goV_n hG
  rw [if_neg hg] at hm
  exact ⟨_, _, hm.1, rfl, hr.i0⟩
theorem gl_dates {D : va_G} {cs : Nat → ClassId} {N0 N xm : Nat} {gm : Nat → Nat} {H Hc H2 : Heap} {o z : zT} {K : kT} {r : Nat → Nat × Nat} {i : Nat → Int32} {f : Nat → Nat → Int32} {wv r9 : Int32} {q u w : Int32} (hI : nmP D cs N0 H o z K r) (hr : rel z K i f) (hc : (fun (v : Option Value) (H' : Heap) => goV (isN (z 3 0) q) (daysB u w) true = 0 ∧ (if (!decide (z 14 (tn q) = 0) && decide (K 14 (tn q) 0 = u) && decide (K 14 (tn q) 1 = w)) = true then (v = some (.int 0) ∧ nmP D cs N0 H' o z K r) else (v = some (.int 1) ∧ ∃ a : Nat, N ≤ a ∧ nmP D cs N0 H' (upZ o 14 (tn q) a) (upZ z 14 (tn q) 1) (upK K 14 (tn q) (fun i => if i = 0 then u else w)) (upR r a 14 (tn q))))) (some (.int wv)) Hc) (hm : (fun (x : Nat) (g : Nat → Nat) (i : Nat → Int32) (f : Nat → Nat → Int32) (q : Int32) (u : Int32) (v : Int32) (n : Nat) => (fun (r : Int32) (H' : Heap) => if goB (isN n q) (isD u && isD v && !decide (v < u)) true = true then (md_I D cs H' x g (upd i 0 (goV (isN n q) (isD u && isD v && !decide (v < u)) true)) (updA (updA f 7 (tn q) u) 8 (tn q) v) ∧ r = bI (!(decide (f 8 (tn q) = v) && decide (f 7 (tn q) = u)))) else (md_I D cs H' x g (upd i 0 (goV (isN n q) (isD u && isD v && !decide (v < u)) true)) f ∧ r = 0))) xm gm i f q u w (z 3 0) r9 H2) : wv = r9 ∧ ∃ (o' z' : zT) (K' : kT) (r' : Nat → Nat × Nat) (i' : Nat → Int32) (f' : Nat → Nat → Int32), nmP D cs N0 Hc o' z' K' r' ∧ (∀ q, q < N → r' q = r q) ∧ md_I D cs H2 xm gm i' f' ∧ i' 0 = 0 ∧ rel z' K' i' f' ∧ o' 0 0 = o 0 0 := by
  have h24 : z 3 0 ≤ 24 := hr.bnd.2.2.1
  rw [show (isD u && isD w && !decide (w < u)) = daysB u w from rfl] at hm
  have hg := goV_0.mp hc.1
  rw [if_pos hg] at hm
  simp only [goB, Bool.and_eq_true] at hg
  obtain ⟨j, hj, rfl⟩ := isN_of hg.1.1 (by omega)
  simp only [tnI (j := j) (by omega)] at hc hm
  have hw := hg.1.2
  unfold daysB at hw
  simp only [Bool.and_eq_true] at hw
  have hd := hr.dat j (by omega)
  obtain ⟨hG, hc⟩ := hc
  by_cases e : (!decide (z 14 j = 0) && decide (K 14 j 0 = u) && decide (K 14 j 1 = w)) = true
  · rw [if_pos e] at hc
    simp only [Bool.and_eq_true, Bool.not_eq_true', decide_eq_false_iff_not, decide_eq_true_eq] at e
    rw [if_pos ⟨hj, by omega⟩] at hd
    have e7 : f 7 j = u := hd.1.trans e.1.2
    have e8 : f 8 j = w := hd.2.1.trans e.2
    refine ⟨(val_inj hc.1).trans (hm.2.trans (by rw [e7, e8]; simp [bI])).symm, o, z, K, r, _, _, hc.2, fun _ _ => rfl, hm.1, hG, ?_, rfl⟩
    rw [updA_same e7, updA_same e8]
    exact hr.i0
  · rw [if_neg e] at hc
    obtain ⟨hv, a, ha, hn⟩ := hc
    refine ⟨(val_inj hv).trans (hm.2.trans ?_).symm, _, _, _, _, _, _, hn, upR_old ha, hm.1, hG, hr.dts hj hw.1.2, rfl⟩
    have : (decide (f 8 j = w) && decide (f 7 j = u)) = false := by
      rw [Bool.eq_false_iff]
      intro h9
      simp only [Bool.and_eq_true, decide_eq_true_eq] at h9
      by_cases e0 : 0 < z 14 j
      · rw [if_pos ⟨hj, e0⟩] at hd
        refine e ?_
        rw [decide_eq_false (show ¬ z 14 j = 0 by omega), decide_eq_true (hd.1.symm.trans h9.2), decide_eq_true (hd.2.1.symm.trans h9.1)]
        rfl
      · rw [if_neg (fun q => e0 q.2)] at hd
        exact isD_m1 hw.1.2 (h9.1.symm.trans hd)
    rw [this]
    rfl
theorem gx_dates {D : va_G} {cs : Nat → ClassId} {xm : Nat} {gm : Nat → Nat} {H2 : Heap} {z : zT} {K : kT} {i : Nat → Int32} {f : Nat → Nat → Int32} {r9 : Int32} {q u w : Int32} (hr : rel z K i f) (hG : ¬ goV (isN (z 3 0) q) (daysB u w) true = 0) (hm : (fun (x : Nat) (g : Nat → Nat) (i : Nat → Int32) (f : Nat → Nat → Int32) (q : Int32) (u : Int32) (v : Int32) (n : Nat) => (fun (r : Int32) (H' : Heap) => if goB (isN n q) (isD u && isD v && !decide (v < u)) true = true then (md_I D cs H' x g (upd i 0 (goV (isN n q) (isD u && isD v && !decide (v < u)) true)) (updA (updA f 7 (tn q) u) 8 (tn q) v) ∧ r = bI (!(decide (f 8 (tn q) = v) && decide (f 7 (tn q) = u)))) else (md_I D cs H' x g (upd i 0 (goV (isN n q) (isD u && isD v && !decide (v < u)) true)) f ∧ r = 0))) xm gm i f q u w (z 3 0) r9 H2) : ∃ (i' : Nat → Int32) (f' : Nat → Nat → Int32), md_I D cs H2 xm gm i' f' ∧ i' 0 = goV (isN (z 3 0) q) (daysB u w) true ∧ rel z K i' f' := by
  rw [show (isD u && isD w && !decide (w < u)) = daysB u w from rfl] at hm
  have hg := goV_n hG
  rw [if_neg hg] at hm
  exact ⟨_, _, hm.1, rfl, hr.i0⟩
theorem gl_score {D : va_G} {cs : Nat → ClassId} {N0 N xm : Nat} {gm : Nat → Nat} {H Hc H2 : Heap} {o z : zT} {K : kT} {r : Nat → Nat × Nat} {i : Nat → Int32} {f : Nat → Nat → Int32} {wv r9 : Int32} {qa qb : Int32} (hI : nmP D cs N0 H o z K r) (hr : rel z K i f) (hc : (fun (v : Option Value) (H' : Heap) => goV (isN (z 3 0) qa && isN (z 3 0) qb) true true = 0 ∧ v = some (.int (lkV z K (tn qa) (tn qb))) ∧ ∃ w : Nat → Int32, nmP D cs N0 H' o z (upK K 9 0 w) r) (some (.int wv)) Hc) (hm : (fun (x : Nat) (g : Nat → Nat) (i : Nat → Int32) (f : Nat → Nat → Int32) (qa : Int32) (qb : Int32) (n : Nat) (mn : Nat → Nat) (ln : Nat → Nat) => (fun (r : Int32) (H' : Heap) => if goB (isN n qa && isN n qb) true true = true then (∃ R : Nat → Int32, md_I D cs H' x g (upd i 0 (goV (isN n qa && isN n qb) true true)) (setA f 21 R) ∧ r = likeV f ln mn (tn qa) (tn qb)) else (md_I D cs H' x g (upd i 0 (goV (isN n qa && isN n qb) true true)) f ∧ r = 0))) xm gm i f qa qb (z 3 0) (mnF z) (lnF z) r9 H2) : wv = r9 ∧ ∃ (o' z' : zT) (K' : kT) (r' : Nat → Nat × Nat) (i' : Nat → Int32) (f' : Nat → Nat → Int32), nmP D cs N0 Hc o' z' K' r' ∧ (∀ q, q < N → r' q = r q) ∧ md_I D cs H2 xm gm i' f' ∧ i' 0 = 0 ∧ rel z' K' i' f' ∧ o' 0 0 = o 0 0 := by
  have h24 : z 3 0 ≤ 24 := hr.bnd.2.2.1
  have hg := goV_0.mp hc.1
  rw [if_pos hg] at hm
  simp only [goB, Bool.and_eq_true] at hg
  obtain ⟨a, ha, rfl⟩ := isN_of hg.1.1.1 (by omega)
  obtain ⟨b, hb, rfl⟩ := isN_of hg.1.1.2 (by omega)
  simp only [tnI (j := a) (by omega), tnI (j := b) (by omega)] at hc hm
  obtain ⟨hG, hv, w, hn⟩ := hc
  obtain ⟨R, hm1, hm2⟩ := hm
  exact ⟨(val_inj hv).trans ((hr.lk ha hb).trans hm2.symm), o, z, _, r, _, _, hn, fun _ _ => rfl, hm1, hG, hr.k9.i0.f21, rfl⟩
theorem gx_score {D : va_G} {cs : Nat → ClassId} {xm : Nat} {gm : Nat → Nat} {H2 : Heap} {z : zT} {K : kT} {i : Nat → Int32} {f : Nat → Nat → Int32} {r9 : Int32} {qa qb : Int32} (hr : rel z K i f) (hG : ¬ goV (isN (z 3 0) qa && isN (z 3 0) qb) true true = 0) (hm : (fun (x : Nat) (g : Nat → Nat) (i : Nat → Int32) (f : Nat → Nat → Int32) (qa : Int32) (qb : Int32) (n : Nat) (mn : Nat → Nat) (ln : Nat → Nat) => (fun (r : Int32) (H' : Heap) => if goB (isN n qa && isN n qb) true true = true then (∃ R : Nat → Int32, md_I D cs H' x g (upd i 0 (goV (isN n qa && isN n qb) true true)) (setA f 21 R) ∧ r = likeV f ln mn (tn qa) (tn qb)) else (md_I D cs H' x g (upd i 0 (goV (isN n qa && isN n qb) true true)) f ∧ r = 0))) xm gm i f qa qb (z 3 0) (mnF z) (lnF z) r9 H2) : ∃ (i' : Nat → Int32) (f' : Nat → Nat → Int32), md_I D cs H2 xm gm i' f' ∧ i' 0 = goV (isN (z 3 0) qa && isN (z 3 0) qb) true true ∧ rel z K i' f' := by
  have hg := goV_n hG
  rw [if_neg hg] at hm
  exact ⟨_, _, hm.1, rfl, hr.i0⟩
theorem gl_decide {D : va_G} {cs : Nat → ClassId} {N0 N xm : Nat} {gm : Nat → Nat} {H Hc H2 : Heap} {o z : zT} {K : kT} {r : Nat → Nat × Nat} {i : Nat → Int32} {f : Nat → Nat → Int32} {wv r9 : Int32} {qa qb kd : Int32} (hI : nmP D cs N0 H o z K r) (hr : rel z K i f) (hc : (fun (v : Option Value) (H' : Heap) => goV (isN (z 3 0) qa && isN (z 3 0) qb) (!decide (qa = qb) && !decide (kd < 0) && !decide (2 < kd)) true = 0 ∧ v = some (.int (K 7 0 (min (tn qa) (tn qb) * 24 + max (tn qa) (tn qb)))) ∧ nmP D cs N0 H' o z (upK K 7 0 (upd (K 7 0) (min (tn qa) (tn qb) * 24 + max (tn qa) (tn qb)) kd)) r) (some (.int wv)) Hc) (hm : (fun (x : Nat) (g : Nat → Nat) (i : Nat → Int32) (f : Nat → Nat → Int32) (qa : Int32) (qb : Int32) (kd : Int32) (n : Nat) => (fun (r : Int32) (H' : Heap) => if goB (isN n qa && isN n qb) (!decide (qa = qb) && !decide (kd < 0) && !decide (2 < kd)) true = true then (md_I D cs H' x g (upd i 0 (goV (isN n qa && isN n qb) (!decide (qa = qb) && !decide (kd < 0) && !decide (2 < kd)) true)) (updA (updA f 9 (24 * tn qa + tn qb) kd) 9 (24 * tn qb + tn qa) kd) ∧ r = f 9 (24 * tn qa + tn qb)) else (md_I D cs H' x g (upd i 0 (goV (isN n qa && isN n qb) (!decide (qa = qb) && !decide (kd < 0) && !decide (2 < kd)) true)) f ∧ r = 0))) xm gm i f qa qb kd (z 3 0) r9 H2) : wv = r9 ∧ ∃ (o' z' : zT) (K' : kT) (r' : Nat → Nat × Nat) (i' : Nat → Int32) (f' : Nat → Nat → Int32), nmP D cs N0 Hc o' z' K' r' ∧ (∀ q, q < N → r' q = r q) ∧ md_I D cs H2 xm gm i' f' ∧ i' 0 = 0 ∧ rel z' K' i' f' ∧ o' 0 0 = o 0 0 := by
  have h24 : z 3 0 ≤ 24 := hr.bnd.2.2.1
  have hg := goV_0.mp hc.1
  rw [if_pos hg] at hm
  simp only [goB, Bool.and_eq_true] at hg
  obtain ⟨a, ha, rfl⟩ := isN_of hg.1.1.1 (by omega)
  obtain ⟨b, hb, rfl⟩ := isN_of hg.1.1.2 (by omega)
  simp only [tnI (j := a) (by omega), tnI (j := b) (by omega)] at hc hm
  obtain ⟨hG, hv, hn⟩ := hc
  have hq := hg.1.2
  simp only [Bool.not_eq_true', decide_eq_false_iff_not] at hq
  have hab : a ≠ b := fun e => hq.1.1 (by rw [e])
  exact ⟨(val_inj hv).trans ((hr.dec.1 a b (by omega) (by omega) hab).symm.trans hm.2.symm), o, z, _, r, _, _, hn, fun _ _ => rfl, hm.1, hG, hr.dcd (by omega) (by omega) hab hq.1.2, rfl⟩
theorem gx_decide {D : va_G} {cs : Nat → ClassId} {xm : Nat} {gm : Nat → Nat} {H2 : Heap} {z : zT} {K : kT} {i : Nat → Int32} {f : Nat → Nat → Int32} {r9 : Int32} {qa qb kd : Int32} (hr : rel z K i f) (hG : ¬ goV (isN (z 3 0) qa && isN (z 3 0) qb) (!decide (qa = qb) && !decide (kd < 0) && !decide (2 < kd)) true = 0) (hm : (fun (x : Nat) (g : Nat → Nat) (i : Nat → Int32) (f : Nat → Nat → Int32) (qa : Int32) (qb : Int32) (kd : Int32) (n : Nat) => (fun (r : Int32) (H' : Heap) => if goB (isN n qa && isN n qb) (!decide (qa = qb) && !decide (kd < 0) && !decide (2 < kd)) true = true then (md_I D cs H' x g (upd i 0 (goV (isN n qa && isN n qb) (!decide (qa = qb) && !decide (kd < 0) && !decide (2 < kd)) true)) (updA (updA f 9 (24 * tn qa + tn qb) kd) 9 (24 * tn qb + tn qa) kd) ∧ r = f 9 (24 * tn qa + tn qb)) else (md_I D cs H' x g (upd i 0 (goV (isN n qa && isN n qb) (!decide (qa = qb) && !decide (kd < 0) && !decide (2 < kd)) true)) f ∧ r = 0))) xm gm i f qa qb kd (z 3 0) r9 H2) : ∃ (i' : Nat → Int32) (f' : Nat → Nat → Int32), md_I D cs H2 xm gm i' f' ∧ i' 0 = goV (isN (z 3 0) qa && isN (z 3 0) qb) (!decide (qa = qb) && !decide (kd < 0) && !decide (2 < kd)) true ∧ rel z K i' f' := by
  have hg := goV_n hG
  rw [if_neg hg] at hm
  exact ⟨_, _, hm.1, rfl, hr.i0⟩
theorem gl_covers {D : va_G} {cs : Nat → ClassId} {N0 N xm : Nat} {gm : Nat → Nat} {H Hc H2 : Heap} {o z : zT} {K : kT} {r : Nat → Nat × Nat} {i : Nat → Int32} {f : Nat → Nat → Int32} {wv r9 : Int32} {qa qb : Int32} (hI : nmP D cs N0 H o z K r) (hr : rel z K i f) {br : Nat → Bool} (b5 : ∀ a, a < 24 → fwT br 24 (24 * a + a) = false) (b1 : ∀ k, k < 576 → f 10 k = bI (br k)) (b2 : ∀ a b, b < 24 → a < 24 → (z 3 0 ≤ a ∨ z 3 0 ≤ b) → br (24 * a + b) = false) (b3 : ∀ a, a < z 3 0 → ∀ b, b < 32 → bt (K 10 a 2) b = (decide (b < 24) && br (24 * a + b))) (b4 : ∀ a, a < z 3 0 → ∀ b, b < 32 → bt (K 10 a 3) b = (decide (b < 24) && fwT br 24 (24 * a + b))) (hc : (fun (v : Option Value) (H' : Heap) => goV (isN (z 3 0) qa && isN (z 3 0) qb) true true = 0 ∧ H' = H ∧ v = some (.int (bI (hasB (K 10 (tn qa) 3) qb)))) (some (.int wv)) Hc) (hm : (fun (x : Nat) (g : Nat → Nat) (i : Nat → Int32) (f : Nat → Nat → Int32) (qa : Int32) (qb : Int32) (n : Nat) (br : Nat → Bool) => (fun (r : Int32) (H' : Heap) => if goB (isN n qa && isN n qb) true true = true then (∃ R : Nat → Int32, md_I D cs H' x g (upd i 0 (goV (isN n qa && isN n qb) true true)) (setA f 11 R) ∧ r = bI (fwT br 24 (24 * tn qa + tn qb))) else (md_I D cs H' x g (upd i 0 (goV (isN n qa && isN n qb) true true)) f ∧ r = 0))) xm gm i f qa qb (z 3 0) br r9 H2) : wv = r9 ∧ ∃ (o' z' : zT) (K' : kT) (r' : Nat → Nat × Nat) (i' : Nat → Int32) (f' : Nat → Nat → Int32), nmP D cs N0 Hc o' z' K' r' ∧ (∀ q, q < N → r' q = r q) ∧ md_I D cs H2 xm gm i' f' ∧ i' 0 = 0 ∧ rel z' K' i' f' ∧ o' 0 0 = o 0 0 := by
  have h24 : z 3 0 ≤ 24 := hr.bnd.2.2.1
  have hg := goV_0.mp hc.1
  rw [if_pos hg] at hm
  simp only [goB, Bool.and_eq_true] at hg
  obtain ⟨a, ha, rfl⟩ := isN_of hg.1.1.1 (by omega)
  obtain ⟨b, hb, rfl⟩ := isN_of hg.1.1.2 (by omega)
  simp only [tnI (j := a) (by omega), tnI (j := b) (by omega)] at hc hm
  obtain ⟨hG, rfl, hv⟩ := hc
  obtain ⟨R, hm1, hm2⟩ := hm
  exact ⟨(val_inj hv).trans ((congrArg bI (hasB_cov hr b4 ha (by omega))).trans hm2.symm), o, z, K, r, _, _, hI, fun _ _ => rfl, hm1, hG, hr.i0.f11, rfl⟩
theorem gx_covers {D : va_G} {cs : Nat → ClassId} {xm : Nat} {gm : Nat → Nat} {H2 : Heap} {z : zT} {K : kT} {i : Nat → Int32} {f : Nat → Nat → Int32} {r9 : Int32} {qa qb : Int32} (hr : rel z K i f) {br : Nat → Bool} (b5 : ∀ a, a < 24 → fwT br 24 (24 * a + a) = false) (b1 : ∀ k, k < 576 → f 10 k = bI (br k)) (b2 : ∀ a b, b < 24 → a < 24 → (z 3 0 ≤ a ∨ z 3 0 ≤ b) → br (24 * a + b) = false) (b3 : ∀ a, a < z 3 0 → ∀ b, b < 32 → bt (K 10 a 2) b = (decide (b < 24) && br (24 * a + b))) (b4 : ∀ a, a < z 3 0 → ∀ b, b < 32 → bt (K 10 a 3) b = (decide (b < 24) && fwT br 24 (24 * a + b))) (hG : ¬ goV (isN (z 3 0) qa && isN (z 3 0) qb) true true = 0) (hm : (fun (x : Nat) (g : Nat → Nat) (i : Nat → Int32) (f : Nat → Nat → Int32) (qa : Int32) (qb : Int32) (n : Nat) (br : Nat → Bool) => (fun (r : Int32) (H' : Heap) => if goB (isN n qa && isN n qb) true true = true then (∃ R : Nat → Int32, md_I D cs H' x g (upd i 0 (goV (isN n qa && isN n qb) true true)) (setA f 11 R) ∧ r = bI (fwT br 24 (24 * tn qa + tn qb))) else (md_I D cs H' x g (upd i 0 (goV (isN n qa && isN n qb) true true)) f ∧ r = 0))) xm gm i f qa qb (z 3 0) br r9 H2) : ∃ (i' : Nat → Int32) (f' : Nat → Nat → Int32), md_I D cs H2 xm gm i' f' ∧ i' 0 = goV (isN (z 3 0) qa && isN (z 3 0) qb) true true ∧ rel z K i' f' := by
  have hg := goV_n hG
  rw [if_neg hg] at hm
  exact ⟨_, _, hm.1, rfl, hr.i0⟩
theorem gl_candidate {D : va_G} {cs : Nat → ClassId} {N0 N xm : Nat} {gm : Nat → Nat} {H Hc H2 : Heap} {o z : zT} {K : kT} {r : Nat → Nat × Nat} {i : Nat → Int32} {f : Nat → Nat → Int32} {wv r9 : Int32} {q sd : Int32} (hI : nmP D cs N0 H o z K r) (hr : rel z K i f) (hc : (fun (v : Option Value) (H' : Heap) => goV (isN (z 0 0) q && (!decide (sd < 0) && !decide (1 < sd))) true true = 0 ∧ H' = H ∧ v = some (.int (cndV K (tn q) sd))) (some (.int wv)) Hc) (hm : (fun (x : Nat) (g : Nat → Nat) (i : Nat → Int32) (f : Nat → Nat → Int32) (q : Int32) (sd : Int32) (pc : Nat) => (fun (r : Int32) (H' : Heap) => if goB (isN pc q && (decide (sd = 0) || decide (sd = 1))) true true = true then (md_I D cs H' x g (upd i 0 (goV (isN pc q && (decide (sd = 0) || decide (sd = 1))) true true)) f ∧ r = if sd = 0 then f 18 (tn q) else f 19 (tn q)) else (md_I D cs H' x g (upd i 0 (goV (isN pc q && (decide (sd = 0) || decide (sd = 1))) true true)) f ∧ r = 0))) xm gm i f q sd (z 0 0) r9 H2) : wv = r9 ∧ ∃ (o' z' : zT) (K' : kT) (r' : Nat → Nat × Nat) (i' : Nat → Int32) (f' : Nat → Nat → Int32), nmP D cs N0 Hc o' z' K' r' ∧ (∀ q, q < N → r' q = r q) ∧ md_I D cs H2 xm gm i' f' ∧ i' 0 = 0 ∧ rel z' K' i' f' ∧ o' 0 0 = o 0 0 := by
  have h24 : z 3 0 ≤ 24 := hr.bnd.2.2.1
  rw [← sd01] at hm
  have hg := goV_0.mp hc.1
  rw [if_pos hg] at hm
  simp only [goB, Bool.and_eq_true] at hg
  obtain ⟨j, hj, rfl⟩ := isN_of hg.1.1.1 (by have := hr.bnd.1; omega)
  have h276 := hr.bnd.1
  simp only [tnI (j := j) (by omega)] at hc hm
  obtain ⟨hG, rfl, hv⟩ := hc
  exact ⟨(val_inj hv).trans ((hr.cnd hj).trans hm.2.symm), o, z, K, r, _, _, hI, fun _ _ => rfl, hm.1, hG, hr.i0, rfl⟩
theorem gx_candidate {D : va_G} {cs : Nat → ClassId} {xm : Nat} {gm : Nat → Nat} {H2 : Heap} {z : zT} {K : kT} {i : Nat → Int32} {f : Nat → Nat → Int32} {r9 : Int32} {q sd : Int32} (hr : rel z K i f) (hG : ¬ goV (isN (z 0 0) q && (!decide (sd < 0) && !decide (1 < sd))) true true = 0) (hm : (fun (x : Nat) (g : Nat → Nat) (i : Nat → Int32) (f : Nat → Nat → Int32) (q : Int32) (sd : Int32) (pc : Nat) => (fun (r : Int32) (H' : Heap) => if goB (isN pc q && (decide (sd = 0) || decide (sd = 1))) true true = true then (md_I D cs H' x g (upd i 0 (goV (isN pc q && (decide (sd = 0) || decide (sd = 1))) true true)) f ∧ r = if sd = 0 then f 18 (tn q) else f 19 (tn q)) else (md_I D cs H' x g (upd i 0 (goV (isN pc q && (decide (sd = 0) || decide (sd = 1))) true true)) f ∧ r = 0))) xm gm i f q sd (z 0 0) r9 H2) : ∃ (i' : Nat → Int32) (f' : Nat → Nat → Int32), md_I D cs H2 xm gm i' f' ∧ i' 0 = goV (isN (z 0 0) q && (!decide (sd < 0) && !decide (1 < sd))) true true ∧ rel z K i' f' := by
  rw [← sd01] at hm
  have hg := goV_n hG
  rw [if_neg hg] at hm
  exact ⟨_, _, hm.1, rfl, hr.i0⟩
theorem gl_broader {D : va_G} {cs : Nat → ClassId} {N0 N xm : Nat} {gm : Nat → Nat} {H Hc H2 : Heap} {o z : zT} {K : kT} {r : Nat → Nat × Nat} {i : Nat → Int32} {f : Nat → Nat → Int32} {wv r9 : Int32} {qa qb : Int32} (hI : nmP D cs N0 H o z K r) (hr : rel z K i f) {br : Nat → Bool} (b5 : ∀ a, a < 24 → fwT br 24 (24 * a + a) = false) (b1 : ∀ k, k < 576 → f 10 k = bI (br k)) (b2 : ∀ a b, b < 24 → a < 24 → (z 3 0 ≤ a ∨ z 3 0 ≤ b) → br (24 * a + b) = false) (b3 : ∀ a, a < z 3 0 → ∀ b, b < 32 → bt (K 10 a 2) b = (decide (b < 24) && br (24 * a + b))) (b4 : ∀ a, a < z 3 0 → ∀ b, b < 32 → bt (K 10 a 3) b = (decide (b < 24) && fwT br 24 (24 * a + b))) (hc : (fun (v : Option Value) (H' : Heap) => goV (isN (z 3 0) qa && isN (z 3 0) qb) true true = 0 ∧ (if (decide (qa = qb) || hasB (K 10 (tn qb) 3) qa) = true then (v = some (.int (-1)) ∧ nmP D cs N0 H' o z K r) else if hasB (K 10 (tn qa) 2) qb = true then (v = some (.int 0) ∧ nmP D cs N0 H' o z K r) else (v = some (.int 1) ∧ nmP D cs N0 H' o z (upt (cvB (tn qa) (K 10 (tn qb) 3 ||| (1 : Int32) <<< (qb &&& 31))) (z 3 0) (upK K 10 (tn qa) (upd (K 10 (tn qa)) 2 (K 10 (tn qa) 2 ||| (1 : Int32) <<< (qb &&& 31))))) r))) (some (.int wv)) Hc) (hm : (fun (x : Nat) (g : Nat → Nat) (i : Nat → Int32) (f : Nat → Nat → Int32) (qa : Int32) (qb : Int32) (n : Nat) (br : Nat → Bool) => (fun (r : Int32) (H' : Heap) => if goB (isN n qa && isN n qb) true true = true then (if br (24 * tn qa + tn qb) = true then (∃ R : Nat → Int32, md_I D cs H' x g (upd i 0 (goV (isN n qa && isN n qb) true true)) (setA f 11 R) ∧ r = 0) else if (decide (qa = qb) || fwT br 24 (24 * tn qb + tn qa)) = true then (∃ R : Nat → Int32, md_I D cs H' x g (upd i 0 (goV (isN n qa && isN n qb) true true)) (setA f 11 R) ∧ r = -1) else (∃ R : Nat → Int32, md_I D cs H' x g (upd i 0 (goV (isN n qa && isN n qb) true true)) (setA (updA f 10 (24 * tn qa + tn qb) 1) 11 R) ∧ r = 1)) else (md_I D cs H' x g (upd i 0 (goV (isN n qa && isN n qb) true true)) f ∧ r = 0))) xm gm i f qa qb (z 3 0) br r9 H2) : wv = r9 ∧ ∃ (o' z' : zT) (K' : kT) (r' : Nat → Nat × Nat) (i' : Nat → Int32) (f' : Nat → Nat → Int32), nmP D cs N0 Hc o' z' K' r' ∧ (∀ q, q < N → r' q = r q) ∧ md_I D cs H2 xm gm i' f' ∧ i' 0 = 0 ∧ rel z' K' i' f' ∧ o' 0 0 = o 0 0 := by
  have h24 : z 3 0 ≤ 24 := hr.bnd.2.2.1
  have hg := goV_0.mp hc.1
  rw [if_pos hg] at hm
  simp only [goB, Bool.and_eq_true] at hg
  obtain ⟨a, ha, rfl⟩ := isN_of hg.1.1.1 (by omega)
  obtain ⟨b, hb, rfl⟩ := isN_of hg.1.1.2 (by omega)
  simp only [tnI (j := a) (by omega), tnI (j := b) (by omega)] at hc hm
  have ec := hasB_cov hr b4 hb (show a < 24 by omega)
  have en : hasB (K 10 a 2) (nI b) = br (24 * a + b) := by
    rw [hasB_bt (by omega), b3 a ha b (by omega), decide_eq_true (show b < 24 by omega)]
    rfl
  rw [ec, en] at hc
  obtain ⟨hG, hc⟩ := hc
  by_cases e1 : br (24 * a + b) = true
  · rw [if_pos e1] at hm
    have hf1 : fwT br 24 (24 * a + b) = true := fw_base (by omega) e1 24
    have e2 : ¬ (decide (nI a = nI b) || fwT br 24 (24 * b + a)) = true := fun h9 => by
      simp only [Bool.or_eq_true, decide_eq_true_eq] at h9
      have hx : fwT br 24 (24 * a + a) = true := by
        rcases h9 with h9 | h9
        · have := (nI_eq (by omega) (by omega)).mp h9
          rw [← this] at hf1
          exact hf1
        · exact fw_tr 24 (Nat.le_refl _) a b a (by omega) (by omega) (by omega) hf1 h9
      rw [b5 a (by omega)] at hx
      cases hx
    rw [if_neg e2, if_pos e1] at hc
    obtain ⟨R, hm1, hm2⟩ := hm
    exact ⟨(val_inj hc.1).trans hm2.symm, o, z, K, r, _, _, hc.2, fun _ _ => rfl, hm1, hG, hr.i0.f11, rfl⟩
  · rw [if_neg e1] at hm
    by_cases e2 : (decide (nI a = nI b) || fwT br 24 (24 * b + a)) = true
    · rw [if_pos e2] at hm hc
      obtain ⟨R, hm1, hm2⟩ := hm
      exact ⟨(val_inj hc.1).trans hm2.symm, o, z, K, r, _, _, hc.2, fun _ _ => rfl, hm1, hG, hr.i0.f11, rfl⟩
    · rw [if_neg e2] at hm hc
      rw [if_neg e1] at hc
      obtain ⟨R, hm1, hm2⟩ := hm
      have e3 : ¬ nI a = nI b ∧ fwT br 24 (24 * b + a) = false := by
        simp only [Bool.or_eq_true, decide_eq_true_eq] at e2
        refine ⟨fun h9 => e2 (Or.inl h9), ?_⟩
        rw [Bool.eq_false_iff]
        exact fun h9 => e2 (Or.inr h9)
      exact ⟨(val_inj hc.1).trans hm2.symm, o, z, _, r, _, _, hc.2, fun _ _ => rfl, hm1, hG, hr.brd1 b1 b2 b3 b4 b5 ha hb (fun h9 => e3.1 (by rw [h9])) e3.2, rfl⟩
theorem gx_broader {D : va_G} {cs : Nat → ClassId} {xm : Nat} {gm : Nat → Nat} {H2 : Heap} {z : zT} {K : kT} {i : Nat → Int32} {f : Nat → Nat → Int32} {r9 : Int32} {qa qb : Int32} (hr : rel z K i f) {br : Nat → Bool} (b5 : ∀ a, a < 24 → fwT br 24 (24 * a + a) = false) (b1 : ∀ k, k < 576 → f 10 k = bI (br k)) (b2 : ∀ a b, b < 24 → a < 24 → (z 3 0 ≤ a ∨ z 3 0 ≤ b) → br (24 * a + b) = false) (b3 : ∀ a, a < z 3 0 → ∀ b, b < 32 → bt (K 10 a 2) b = (decide (b < 24) && br (24 * a + b))) (b4 : ∀ a, a < z 3 0 → ∀ b, b < 32 → bt (K 10 a 3) b = (decide (b < 24) && fwT br 24 (24 * a + b))) (hG : ¬ goV (isN (z 3 0) qa && isN (z 3 0) qb) true true = 0) (hm : (fun (x : Nat) (g : Nat → Nat) (i : Nat → Int32) (f : Nat → Nat → Int32) (qa : Int32) (qb : Int32) (n : Nat) (br : Nat → Bool) => (fun (r : Int32) (H' : Heap) => if goB (isN n qa && isN n qb) true true = true then (if br (24 * tn qa + tn qb) = true then (∃ R : Nat → Int32, md_I D cs H' x g (upd i 0 (goV (isN n qa && isN n qb) true true)) (setA f 11 R) ∧ r = 0) else if (decide (qa = qb) || fwT br 24 (24 * tn qb + tn qa)) = true then (∃ R : Nat → Int32, md_I D cs H' x g (upd i 0 (goV (isN n qa && isN n qb) true true)) (setA f 11 R) ∧ r = -1) else (∃ R : Nat → Int32, md_I D cs H' x g (upd i 0 (goV (isN n qa && isN n qb) true true)) (setA (updA f 10 (24 * tn qa + tn qb) 1) 11 R) ∧ r = 1)) else (md_I D cs H' x g (upd i 0 (goV (isN n qa && isN n qb) true true)) f ∧ r = 0))) xm gm i f qa qb (z 3 0) br r9 H2) : ∃ (i' : Nat → Int32) (f' : Nat → Nat → Int32), md_I D cs H2 xm gm i' f' ∧ i' 0 = goV (isN (z 3 0) qa && isN (z 3 0) qb) true true ∧ rel z K i' f' := by
  have hg := goV_n hG
  rw [if_neg hg] at hm
  exact ⟨_, _, hm.1, rfl, hr.i0⟩
theorem gl_outside {D : va_G} {cs : Nat → ClassId} {N0 N xm : Nat} {gm : Nat → Nat} {H Hc H2 : Heap} {o z : zT} {K : kT} {r : Nat → Nat × Nat} {i : Nat → Int32} {f : Nat → Nat → Int32} {wv r9 : Int32} {q st nu : Int32} (hI : nmP D cs N0 H o z K r) (hr : rel z K i f) (hc : (fun (v : Option Value) (H' : Heap) => goV (isN (z 3 0) q && isSt st) (numB nu) true = 0 ∧ (if (!decide (ownV z K (tn st) nu = -1) && !decide (ownV z K (tn st) nu = q)) = true then (v = some (.int 0) ∧ nmP D cs N0 H' o z K r) else (v = some (.int 1) ∧ nmP D cs N0 H' o z (upK K 13 (tn q) (upd (K 13 (tn q)) (tn st) nu)) r))) (some (.int wv)) Hc) (hm : (fun (x : Nat) (g : Nat → Nat) (i : Nat → Int32) (f : Nat → Nat → Int32) (q : Int32) (st : Int32) (nu : Int32) (n : Nat) => (fun (r : Int32) (H' : Heap) => if goB (isN n q && isSt st) (!decide (nu < 1) && !decide (999999 < nu)) true = true then (if (!decide (fstFrom (ownP f (tn st) nu) 0 n = -1) && !decide (fstFrom (ownP f (tn st) nu) 0 n = q)) = true then (md_I D cs H' x g (upd i 0 (goV (isN n q && isSt st) (!decide (nu < 1) && !decide (999999 < nu)) true)) f ∧ r = 0) else (md_I D cs H' x g (upd i 0 (goV (isN n q && isSt st) (!decide (nu < 1) && !decide (999999 < nu)) true)) (updA f 12 (4 * tn q + tn st) nu) ∧ r = 1)) else (md_I D cs H' x g (upd i 0 (goV (isN n q && isSt st) (!decide (nu < 1) && !decide (999999 < nu)) true)) f ∧ r = 0))) xm gm i f q st nu (z 3 0) r9 H2) : wv = r9 ∧ ∃ (o' z' : zT) (K' : kT) (r' : Nat → Nat × Nat) (i' : Nat → Int32) (f' : Nat → Nat → Int32), nmP D cs N0 Hc o' z' K' r' ∧ (∀ q, q < N → r' q = r q) ∧ md_I D cs H2 xm gm i' f' ∧ i' 0 = 0 ∧ rel z' K' i' f' ∧ o' 0 0 = o 0 0 := by
  have h24 : z 3 0 ≤ 24 := hr.bnd.2.2.1
  rw [nu1] at hm
  have hg := goV_0.mp hc.1
  rw [if_pos hg] at hm
  simp only [goB, Bool.and_eq_true] at hg
  obtain ⟨j, hj, rfl⟩ := isN_of hg.1.1.1 (by omega)
  obtain ⟨s9, hs, rfl⟩ := isSt_of hg.1.1.2
  simp only [tnI (j := j) (by omega), tnI (j := s9) (by omega)] at hc hm
  obtain ⟨hG, hc⟩ := hc
  rw [hr.own hs] at hc
  by_cases e : (!decide (fstFrom (ownP f s9 nu) 0 (z 3 0) = -1) && !decide (fstFrom (ownP f s9 nu) 0 (z 3 0) = nI j)) = true
  · rw [if_pos e] at hc hm
    exact ⟨(val_inj hc.1).trans hm.2.symm, o, z, K, r, _, _, hc.2, fun _ _ => rfl, hm.1, hG, hr.i0, rfl⟩
  · rw [if_neg e] at hc hm
    exact ⟨(val_inj hc.1).trans hm.2.symm, o, z, _, r, _, _, hc.2, fun _ _ => rfl, hm.1, hG, hr.out hj hs hg.1.2, rfl⟩
theorem gx_outside {D : va_G} {cs : Nat → ClassId} {xm : Nat} {gm : Nat → Nat} {H2 : Heap} {z : zT} {K : kT} {i : Nat → Int32} {f : Nat → Nat → Int32} {r9 : Int32} {q st nu : Int32} (hr : rel z K i f) (hG : ¬ goV (isN (z 3 0) q && isSt st) (numB nu) true = 0) (hm : (fun (x : Nat) (g : Nat → Nat) (i : Nat → Int32) (f : Nat → Nat → Int32) (q : Int32) (st : Int32) (nu : Int32) (n : Nat) => (fun (r : Int32) (H' : Heap) => if goB (isN n q && isSt st) (!decide (nu < 1) && !decide (999999 < nu)) true = true then (if (!decide (fstFrom (ownP f (tn st) nu) 0 n = -1) && !decide (fstFrom (ownP f (tn st) nu) 0 n = q)) = true then (md_I D cs H' x g (upd i 0 (goV (isN n q && isSt st) (!decide (nu < 1) && !decide (999999 < nu)) true)) f ∧ r = 0) else (md_I D cs H' x g (upd i 0 (goV (isN n q && isSt st) (!decide (nu < 1) && !decide (999999 < nu)) true)) (updA f 12 (4 * tn q + tn st) nu) ∧ r = 1)) else (md_I D cs H' x g (upd i 0 (goV (isN n q && isSt st) (!decide (nu < 1) && !decide (999999 < nu)) true)) f ∧ r = 0))) xm gm i f q st nu (z 3 0) r9 H2) : ∃ (i' : Nat → Int32) (f' : Nat → Nat → Int32), md_I D cs H2 xm gm i' f' ∧ i' 0 = goV (isN (z 3 0) q && isSt st) (numB nu) true ∧ rel z K i' f' := by
  rw [nu1] at hm
  have hg := goV_n hG
  rw [if_neg hg] at hm
  exact ⟨_, _, hm.1, rfl, hr.i0⟩
theorem gl_whose {D : va_G} {cs : Nat → ClassId} {N0 N xm : Nat} {gm : Nat → Nat} {H Hc H2 : Heap} {o z : zT} {K : kT} {r : Nat → Nat × Nat} {i : Nat → Int32} {f : Nat → Nat → Int32} {wv r9 : Int32} {st q : Int32} (hI : nmP D cs N0 H o z K r) (hr : rel z K i f) (hc : (fun (v : Option Value) (H' : Heap) => goV (isSt st) true true = 0 ∧ H' = H ∧ v = some (.int (ownV z K (tn st) q))) (some (.int wv)) Hc) (hm : (fun (x : Nat) (g : Nat → Nat) (i : Nat → Int32) (f : Nat → Nat → Int32) (st : Int32) (nu : Int32) (n : Nat) => (fun (r : Int32) (H' : Heap) => if goB (isSt st) true true = true then (md_I D cs H' x g (upd i 0 (goV (isSt st) true true)) f ∧ r = fstFrom (ownP f (tn st) nu) 0 n) else (md_I D cs H' x g (upd i 0 (goV (isSt st) true true)) f ∧ r = 0))) xm gm i f st q (z 3 0) r9 H2) : wv = r9 ∧ ∃ (o' z' : zT) (K' : kT) (r' : Nat → Nat × Nat) (i' : Nat → Int32) (f' : Nat → Nat → Int32), nmP D cs N0 Hc o' z' K' r' ∧ (∀ q, q < N → r' q = r q) ∧ md_I D cs H2 xm gm i' f' ∧ i' 0 = 0 ∧ rel z' K' i' f' ∧ o' 0 0 = o 0 0 := by
  have h24 : z 3 0 ≤ 24 := hr.bnd.2.2.1
  have hg := goV_0.mp hc.1
  rw [if_pos hg] at hm
  simp only [goB, Bool.and_eq_true] at hg
  obtain ⟨s9, hs, rfl⟩ := isSt_of hg.1.1
  simp only [tnI (j := s9) (by omega)] at hc hm
  obtain ⟨hG, rfl, hv⟩ := hc
  exact ⟨(val_inj hv).trans ((hr.own hs).trans hm.2.symm), o, z, K, r, _, _, hI, fun _ _ => rfl, hm.1, hG, hr.i0, rfl⟩
theorem gx_whose {D : va_G} {cs : Nat → ClassId} {xm : Nat} {gm : Nat → Nat} {H2 : Heap} {z : zT} {K : kT} {i : Nat → Int32} {f : Nat → Nat → Int32} {r9 : Int32} {st q : Int32} (hr : rel z K i f) (hG : ¬ goV (isSt st) true true = 0) (hm : (fun (x : Nat) (g : Nat → Nat) (i : Nat → Int32) (f : Nat → Nat → Int32) (st : Int32) (nu : Int32) (n : Nat) => (fun (r : Int32) (H' : Heap) => if goB (isSt st) true true = true then (md_I D cs H' x g (upd i 0 (goV (isSt st) true true)) f ∧ r = fstFrom (ownP f (tn st) nu) 0 n) else (md_I D cs H' x g (upd i 0 (goV (isSt st) true true)) f ∧ r = 0))) xm gm i f st q (z 3 0) r9 H2) : ∃ (i' : Nat → Int32) (f' : Nat → Nat → Int32), md_I D cs H2 xm gm i' f' ∧ i' 0 = goV (isSt st) true true ∧ rel z K i' f' := by
  have hg := goV_n hG
  rw [if_neg hg] at hm
  exact ⟨_, _, hm.1, rfl, hr.i0⟩
theorem gl_count {D : va_G} {cs : Nat → ClassId} {N0 N xm : Nat} {gm : Nat → Nat} {H Hc H2 : Heap} {o z : zT} {K : kT} {r : Nat → Nat × Nat} {i : Nat → Int32} {f : Nat → Nat → Int32} {wv r9 : Int32} {q : Int32} (hI : nmP D cs N0 H o z K r) (hr : rel z K i f) (hc : (fun (v : Option Value) (H' : Heap) => goV (!decide (q < 0) && !decide (5 < q)) true true = 0 ∧ H' = H ∧ v = some (.int (cntC z K q))) (some (.int wv)) Hc) (hm : (fun (x : Nat) (g : Nat → Nat) (i : Nat → Int32) (f : Nat → Nat → Int32) (w : Int32) (pn : Nat) (n : Nat) (mn : Nat → Nat) (mg : Nat) => (fun (r : Int32) (H' : Heap) => if goB (!decide (w < 0) && !decide (5 < w)) true true = true then (md_I D cs H' x g (upd i 0 (goV (!decide (w < 0) && !decide (5 < w)) true true)) f ∧ r = cntR f mn pn n mg w) else (md_I D cs H' x g (upd i 0 (goV (!decide (w < 0) && !decide (5 < w)) true true)) f ∧ r = 0))) xm gm i f q (z 1 0) (z 3 0) (mnF z) (z 5 0) r9 H2) : wv = r9 ∧ ∃ (o' z' : zT) (K' : kT) (r' : Nat → Nat × Nat) (i' : Nat → Int32) (f' : Nat → Nat → Int32), nmP D cs N0 Hc o' z' K' r' ∧ (∀ q, q < N → r' q = r q) ∧ md_I D cs H2 xm gm i' f' ∧ i' 0 = 0 ∧ rel z' K' i' f' ∧ o' 0 0 = o 0 0 := by
  have h24 : z 3 0 ≤ 24 := hr.bnd.2.2.1
  have hg := goV_0.mp hc.1
  rw [if_pos hg] at hm
  simp only [goB, Bool.and_eq_true] at hg
  obtain ⟨hG, rfl, hv⟩ := hc
  exact ⟨(val_inj hv).trans ((hr.cnt (by simp only [Bool.and_eq_true]; exact hg.1.1)).trans hm.2.symm), o, z, K, r, _, _, hI, fun _ _ => rfl, hm.1, hG, hr.i0, rfl⟩
theorem gx_count {D : va_G} {cs : Nat → ClassId} {xm : Nat} {gm : Nat → Nat} {H2 : Heap} {z : zT} {K : kT} {i : Nat → Int32} {f : Nat → Nat → Int32} {r9 : Int32} {q : Int32} (hr : rel z K i f) (hG : ¬ goV (!decide (q < 0) && !decide (5 < q)) true true = 0) (hm : (fun (x : Nat) (g : Nat → Nat) (i : Nat → Int32) (f : Nat → Nat → Int32) (w : Int32) (pn : Nat) (n : Nat) (mn : Nat → Nat) (mg : Nat) => (fun (r : Int32) (H' : Heap) => if goB (!decide (w < 0) && !decide (5 < w)) true true = true then (md_I D cs H' x g (upd i 0 (goV (!decide (w < 0) && !decide (5 < w)) true true)) f ∧ r = cntR f mn pn n mg w) else (md_I D cs H' x g (upd i 0 (goV (!decide (w < 0) && !decide (5 < w)) true true)) f ∧ r = 0))) xm gm i f q (z 1 0) (z 3 0) (mnF z) (z 5 0) r9 H2) : ∃ (i' : Nat → Int32) (f' : Nat → Nat → Int32), md_I D cs H2 xm gm i' f' ∧ i' 0 = goV (!decide (q < 0) && !decide (5 < q)) true true ∧ rel z K i' f' := by
  have hg := goV_n hG
  rw [if_neg hg] at hm
  exact ⟨_, _, hm.1, rfl, hr.i0⟩
theorem gl_found {D : va_G} {cs : Nat → ClassId} {N0 N xm : Nat} {gm : Nat → Nat} {H Hc H2 : Heap} {o z : zT} {K : kT} {r : Nat → Nat × Nat} {i : Nat → Int32} {f : Nat → Nat → Int32} {wv r9 : Int32} {q : Int32} (hI : nmP D cs N0 H o z K r) (hr : rel z K i f) {fc : Nat} (hfc : i 5 = nI fc) (hfc24 : fc ≤ 24) (hbc : bcV (K 0 0 0) = nI fc) (hfnd : ∀ j, j < fc → ntV (upt clrS j (K 0 0 0)) = f 20 j) (hc : (fun (v : Option Value) (H' : Heap) => goV (!decide (q < 0) && !decide (bcV (K 0 0 0) ≤ q)) true true = 0 ∧ H' = H ∧ v = some (.int (ntV (upt clrS (tn q) (K 0 0 0))))) (some (.int wv)) Hc) (hm : (fun (x : Nat) (g : Nat → Nat) (i : Nat → Int32) (f : Nat → Nat → Int32) (q : Int32) (fc : Nat) => (fun (r : Int32) (H' : Heap) => if goB (isN fc q) true true = true then (md_I D cs H' x g (upd i 0 (goV (isN fc q) true true)) f ∧ r = f 20 (tn q)) else (md_I D cs H' x g (upd i 0 (goV (isN fc q) true true)) f ∧ r = 0))) xm gm i f q fc r9 H2) : wv = r9 ∧ ∃ (o' z' : zT) (K' : kT) (r' : Nat → Nat × Nat) (i' : Nat → Int32) (f' : Nat → Nat → Int32), nmP D cs N0 Hc o' z' K' r' ∧ (∀ q, q < N → r' q = r q) ∧ md_I D cs H2 xm gm i' f' ∧ i' 0 = 0 ∧ rel z' K' i' f' ∧ o' 0 0 = o 0 0 := by
  have h24 : z 3 0 ≤ 24 := hr.bnd.2.2.1
  rw [hbc, show (!decide (q < 0) && !decide (nI fc ≤ q)) = isN fc q from rfl] at hc
  have hg := goV_0.mp hc.1
  rw [if_pos hg] at hm
  simp only [goB, Bool.and_eq_true] at hg
  obtain ⟨j, hj, rfl⟩ := isN_of hg.1.1 (by omega)
  simp only [tnI (j := j) (by omega)] at hc hm
  obtain ⟨hG, rfl, hv⟩ := hc
  exact ⟨(val_inj hv).trans ((hfnd j hj).trans hm.2.symm), o, z, K, r, _, _, hI, fun _ _ => rfl, hm.1, hG, hr.i0, rfl⟩
theorem gx_found {D : va_G} {cs : Nat → ClassId} {xm : Nat} {gm : Nat → Nat} {H2 : Heap} {z : zT} {K : kT} {i : Nat → Int32} {f : Nat → Nat → Int32} {r9 : Int32} {q : Int32} (hr : rel z K i f) {fc : Nat} (hfc : i 5 = nI fc) (hfc24 : fc ≤ 24) (hbc : bcV (K 0 0 0) = nI fc) (hfnd : ∀ j, j < fc → ntV (upt clrS j (K 0 0 0)) = f 20 j) (hG : ¬ goV (!decide (q < 0) && !decide (bcV (K 0 0 0) ≤ q)) true true = 0) (hm : (fun (x : Nat) (g : Nat → Nat) (i : Nat → Int32) (f : Nat → Nat → Int32) (q : Int32) (fc : Nat) => (fun (r : Int32) (H' : Heap) => if goB (isN fc q) true true = true then (md_I D cs H' x g (upd i 0 (goV (isN fc q) true true)) f ∧ r = f 20 (tn q)) else (md_I D cs H' x g (upd i 0 (goV (isN fc q) true true)) f ∧ r = 0))) xm gm i f q fc r9 H2) : ∃ (i' : Nat → Int32) (f' : Nat → Nat → Int32), md_I D cs H2 xm gm i' f' ∧ i' 0 = goV (!decide (q < 0) && !decide (bcV (K 0 0 0) ≤ q)) true true ∧ rel z K i' f' := by
  rw [hbc, show (!decide (q < 0) && !decide (nI fc ≤ q)) = isN fc q from rfl] at hG ⊢
  have hg := goV_n hG
  rw [if_neg hg] at hm
  exact ⟨_, _, hm.1, rfl, hr.i0⟩
theorem gl_part {D : va_G} {cs : Nat → ClassId} {N0 N xm : Nat} {gm : Nat → Nat} {H Hc H2 : Heap} {o z : zT} {K : kT} {r : Nat → Nat × Nat} {i : Nat → Int32} {f : Nat → Nat → Int32} {wv r9 : Int32} {qa qb dy : Int32} (hI : nmP D cs N0 H o z K r) (hr : rel z K i f) (hc : (fun (v : Option Value) (H' : Heap) => goV (isN (z 3 0) qa && isN (z 3 0) qb) (isD dy) true = 0 ∧ (if frs (prtP K (setV qa qb) dy) (z 5 0) 0 = -1 then (v = some (.int 0) ∧ nmP D cs N0 H' o z K r) else (v = some (.int 1) ∧ nmP D cs N0 H' o z (upK K 19 (tn (frs (prtP K (setV qa qb) dy) (z 5 0) 0)) (upd (K 19 (tn (frs (prtP K (setV qa qb) dy) (z 5 0) 0))) 2 dy)) r))) (some (.int wv)) Hc) (hm : (fun (x : Nat) (g : Nat → Nat) (i : Nat → Int32) (f : Nat → Nat → Int32) (qa : Int32) (qb : Int32) (dy : Int32) (n : Nat) (mg : Nat) => (fun (r : Int32) (H' : Heap) => if goB (isN n qa && isN n qb) (isD dy) true = true then (if fstFrom (partP f qa qb dy) 0 mg = -1 then (md_I D cs H' x g (upd i 0 (goV (isN n qa && isN n qb) (isD dy) true)) f ∧ r = 0) else (md_I D cs H' x g (upd i 0 (goV (isN n qa && isN n qb) (isD dy) true)) (updA f 16 (tn (fstFrom (partP f qa qb dy) 0 mg)) dy) ∧ r = 1)) else (md_I D cs H' x g (upd i 0 (goV (isN n qa && isN n qb) (isD dy) true)) f ∧ r = 0))) xm gm i f qa qb dy (z 3 0) (z 5 0) r9 H2) : wv = r9 ∧ ∃ (o' z' : zT) (K' : kT) (r' : Nat → Nat × Nat) (i' : Nat → Int32) (f' : Nat → Nat → Int32), nmP D cs N0 Hc o' z' K' r' ∧ (∀ q, q < N → r' q = r q) ∧ md_I D cs H2 xm gm i' f' ∧ i' 0 = 0 ∧ rel z' K' i' f' ∧ o' 0 0 = o 0 0 := by
  have h24 : z 3 0 ≤ 24 := hr.bnd.2.2.1
  have hg := goV_0.mp hc.1
  rw [if_pos hg] at hm
  simp only [goB, Bool.and_eq_true] at hg
  obtain ⟨a, ha, rfl⟩ := isN_of hg.1.1.1 (by omega)
  obtain ⟨b, hb, rfl⟩ := isN_of hg.1.1.2 (by omega)
  have hp := hr.prt (a := a) (b := b) (dy := dy) (by omega) (by omega)
  rw [hp] at hc
  obtain ⟨hG, hc⟩ := hc
  by_cases e : fstFrom (partP f (nI a) (nI b) dy) 0 (z 5 0) = -1
  · rw [if_pos e] at hc hm
    exact ⟨(val_inj hc.1).trans hm.2.symm, o, z, K, r, _, _, hc.2, fun _ _ => rfl, hm.1, hG, hr.i0, rfl⟩
  · rw [if_neg e] at hc hm
    have h60 : z 5 0 ≤ 60 := hr.bnd.2.2.2.1
    rcases frs_ne (P := prtP K (setV (nI a) (nI b)) dy) (z 5 0) 0 (by omega) with h1 | ⟨j, -, hj, e2, -⟩
    · exact absurd (hp.symm.trans h1) e
    · rw [← hp, e2, tnI (j := j) (by omega)] at hc hm
      exact ⟨(val_inj hc.1).trans hm.2.symm, o, z, _, r, _, _, hc.2, fun _ _ => rfl, hm.1, hG, hr.prtd (by omega) hg.1.2, rfl⟩
theorem gx_part {D : va_G} {cs : Nat → ClassId} {xm : Nat} {gm : Nat → Nat} {H2 : Heap} {z : zT} {K : kT} {i : Nat → Int32} {f : Nat → Nat → Int32} {r9 : Int32} {qa qb dy : Int32} (hr : rel z K i f) (hG : ¬ goV (isN (z 3 0) qa && isN (z 3 0) qb) (isD dy) true = 0) (hm : (fun (x : Nat) (g : Nat → Nat) (i : Nat → Int32) (f : Nat → Nat → Int32) (qa : Int32) (qb : Int32) (dy : Int32) (n : Nat) (mg : Nat) => (fun (r : Int32) (H' : Heap) => if goB (isN n qa && isN n qb) (isD dy) true = true then (if fstFrom (partP f qa qb dy) 0 mg = -1 then (md_I D cs H' x g (upd i 0 (goV (isN n qa && isN n qb) (isD dy) true)) f ∧ r = 0) else (md_I D cs H' x g (upd i 0 (goV (isN n qa && isN n qb) (isD dy) true)) (updA f 16 (tn (fstFrom (partP f qa qb dy) 0 mg)) dy) ∧ r = 1)) else (md_I D cs H' x g (upd i 0 (goV (isN n qa && isN n qb) (isD dy) true)) f ∧ r = 0))) xm gm i f qa qb dy (z 3 0) (z 5 0) r9 H2) : ∃ (i' : Nat → Int32) (f' : Nat → Nat → Int32), md_I D cs H2 xm gm i' f' ∧ i' 0 = goV (isN (z 3 0) qa && isN (z 3 0) qb) (isD dy) true ∧ rel z K i' f' := by
  have hg := goV_n hG
  rw [if_neg hg] at hm
  exact ⟨_, _, hm.1, rfl, hr.i0⟩
theorem gl_as {D : va_G} {cs : Nat → ClassId} {N0 N xm : Nat} {gm : Nat → Nat} {H Hc H2 : Heap} {o z : zT} {K : kT} {r : Nat → Nat × Nat} {i : Nat → Int32} {f : Nat → Nat → Int32} {wv r9 : Int32} {q day : Int32} (hI : nmP D cs N0 H o z K r) (hr : rel z K i f) {mo mt : Nat → Nat} (hmm : ∀ k, k < z 5 0 → mo k < z 3 0 ∧ mt k < z 3 0) (hgr : ∀ dy, isD dy = true → ∀ a, a < 24 → (∀ b, 24 ≤ b → bt (owV z K (nI a) dy) b = false) ∧ ∀ b, bt (owV z K (nI a) dy) b = true ↔ conn mo mt (holdB f dy) (z 5 0) a b) (hc : (fun (v : Option Value) (H' : Heap) => goV (isN (z 3 0) q) (isD day) true = 0 ∧ H' = H ∧ v = some (.int (ntV (owV z K q day)))) (some (.int wv)) Hc) (hm : (fun (x : Nat) (g : Nat → Nat) (i : Nat → Int32) (f : Nat → Nat → Int32) (q : Int32) (dy : Int32) (n : Nat) (mg : Nat) (mo : Nat → Nat) (mt : Nat → Nat) => (fun (r : Int32) (H' : Heap) => if goB (isN n q) (isD dy) true = true then (∃ (G : Nat → Int32) (z : Nat), md_I D cs H' x g (upd i 0 (goV (isN n q) (isD dy) true)) (setA f 17 G) ∧ r = nI z ∧ conn mo mt (holdB f dy) mg (tn q) z ∧ ∀ y, conn mo mt (holdB f dy) mg (tn q) y → z ≤ y) else (md_I D cs H' x g (upd i 0 (goV (isN n q) (isD dy) true)) f ∧ r = 0))) xm gm i f q day (z 3 0) (z 5 0) mo mt r9 H2) : wv = r9 ∧ ∃ (o' z' : zT) (K' : kT) (r' : Nat → Nat × Nat) (i' : Nat → Int32) (f' : Nat → Nat → Int32), nmP D cs N0 Hc o' z' K' r' ∧ (∀ q, q < N → r' q = r q) ∧ md_I D cs H2 xm gm i' f' ∧ i' 0 = 0 ∧ rel z' K' i' f' ∧ o' 0 0 = o 0 0 := by
  have h24 : z 3 0 ≤ 24 := hr.bnd.2.2.1
  have hg := goV_0.mp hc.1
  rw [if_pos hg] at hm
  simp only [goB, Bool.and_eq_true] at hg
  obtain ⟨a, ha, rfl⟩ := isN_of hg.1.1 (by omega)
  simp only [tnI (j := a) (by omega)] at hm
  obtain ⟨hG, rfl, hv⟩ := hc
  obtain ⟨G9, zz, hm1, hm2, hm3, hm4⟩ := hm
  have hq := hgr day hg.1.2 a (by omega)
  exact ⟨(val_inj hv).trans ((as_eq (by omega) hq.1 hq.2 hm3 hm4).trans hm2.symm), o, z, K, r, _, _, hI, fun _ _ => rfl, hm1, hG, hr.i0.f17, rfl⟩
theorem gx_as {D : va_G} {cs : Nat → ClassId} {xm : Nat} {gm : Nat → Nat} {H2 : Heap} {z : zT} {K : kT} {i : Nat → Int32} {f : Nat → Nat → Int32} {r9 : Int32} {q day : Int32} (hr : rel z K i f) {mo mt : Nat → Nat} (hmm : ∀ k, k < z 5 0 → mo k < z 3 0 ∧ mt k < z 3 0) (hgr : ∀ dy, isD dy = true → ∀ a, a < 24 → (∀ b, 24 ≤ b → bt (owV z K (nI a) dy) b = false) ∧ ∀ b, bt (owV z K (nI a) dy) b = true ↔ conn mo mt (holdB f dy) (z 5 0) a b) (hG : ¬ goV (isN (z 3 0) q) (isD day) true = 0) (hm : (fun (x : Nat) (g : Nat → Nat) (i : Nat → Int32) (f : Nat → Nat → Int32) (q : Int32) (dy : Int32) (n : Nat) (mg : Nat) (mo : Nat → Nat) (mt : Nat → Nat) => (fun (r : Int32) (H' : Heap) => if goB (isN n q) (isD dy) true = true then (∃ (G : Nat → Int32) (z : Nat), md_I D cs H' x g (upd i 0 (goV (isN n q) (isD dy) true)) (setA f 17 G) ∧ r = nI z ∧ conn mo mt (holdB f dy) mg (tn q) z ∧ ∀ y, conn mo mt (holdB f dy) mg (tn q) y → z ≤ y) else (md_I D cs H' x g (upd i 0 (goV (isN n q) (isD dy) true)) f ∧ r = 0))) xm gm i f q day (z 3 0) (z 5 0) mo mt r9 H2) : ∃ (i' : Nat → Int32) (f' : Nat → Nat → Int32), md_I D cs H2 xm gm i' f' ∧ i' 0 = goV (isN (z 3 0) q) (isD day) true ∧ rel z K i' f' := by
  have hg := goV_n hG
  rw [if_neg hg] at hm
  exact ⟨_, _, hm.1, rfl, hr.i0⟩
theorem gl_merge {D : va_G} {cs : Nat → ClassId} {N0 N xm : Nat} {gm : Nat → Nat} {H Hc H2 : Heap} {o z : zT} {K : kT} {r : Nat → Nat × Nat} {i : Nat → Int32} {f : Nat → Nat → Int32} {wv r9 : Int32} {qa qb dy : Int32} (hI : nmP D cs N0 H o z K r) (hr : rel z K i f) {mo mt : Nat → Nat} (hmm : ∀ k, k < z 5 0 → mo k < z 3 0 ∧ mt k < z 3 0) (hgr : ∀ dy, isD dy = true → ∀ a, a < 24 → (∀ b, 24 ≤ b → bt (owV z K (nI a) dy) b = false) ∧ ∀ b, bt (owV z K (nI a) dy) b = true ↔ conn mo mt (holdB f dy) (z 5 0) a b) (hc : (fun (v : Option Value) (H' : Heap) => goV (isN (z 3 0) qa && isN (z 3 0) qb) (decide (z 5 0 < 60)) (!decide (qa = qb) && isD dy) = 0 ∧ (if K 7 0 (min (tn qa) (tn qb) * 24 + max (tn qa) (tn qb)) = 2 then (v = some (.int 1) ∧ nmP D cs N0 H' o z K r) else if aofB z K qa qb dy = true then (v = some (.int 2) ∧ nmP D cs N0 H' o z K r) else (v = some (.int 0) ∧ ∃ (a ea cap : Nat) (mc : Int32) (r' : Nat → Nat × Nat), nmP D cs N0 H' (upZ (upZ o 19 (z 5 0) a) 6 0 ea) (upZ (upZ z 6 0 cap) 5 0 (z 5 0 + 1)) (upK (upK K 19 (z 5 0) (fun i => if i = 0 then setV qa qb else if i = 1 then dy else 100001)) 5 0 (fun _ => mc)) r' ∧ ∀ q, q < N → r' q = r q))) (some (.int wv)) Hc) (hm : (fun (x : Nat) (g : Nat → Nat) (i : Nat → Int32) (f : Nat → Nat → Int32) (qa : Int32) (qb : Int32) (dy : Int32) (n : Nat) (mg : Nat) (mo : Nat → Nat) (mt : Nat → Nat) => (fun (r : Int32) (H' : Heap) => if goB (isN n qa && isN n qb) (decide (mg < 60)) (!decide (qa = qb) && isD dy) = true then (if f 9 (24 * tn qa + tn qb) = 2 then (md_I D cs H' x g (upd i 0 (goV (isN n qa && isN n qb) (decide (mg < 60)) (!decide (qa = qb) && isD dy))) f ∧ r = 1) else if evB f mo mt mg (tn qa) (tn qb) dy = true then (∃ G : Nat → Int32, md_I D cs H' x g (upd i 0 (goV (isN n qa && isN n qb) (decide (mg < 60)) (!decide (qa = qb) && isD dy))) (setA f 17 G) ∧ r = 2) else (∃ G : Nat → Int32, md_I D cs H' x g (upd (upd i 0 (goV (isN n qa && isN n qb) (decide (mg < 60)) (!decide (qa = qb) && isD dy))) 3 (nI (mg + 1))) (setA (updA (updA (updA (updA f 13 mg qa) 14 mg qb) 15 mg dy) 16 mg (-1)) 17 G) ∧ r = 0)) else (md_I D cs H' x g (upd i 0 (goV (isN n qa && isN n qb) (decide (mg < 60)) (!decide (qa = qb) && isD dy))) f ∧ r = 0))) xm gm i f qa qb dy (z 3 0) (z 5 0) mo mt r9 H2) : wv = r9 ∧ ∃ (o' z' : zT) (K' : kT) (r' : Nat → Nat × Nat) (i' : Nat → Int32) (f' : Nat → Nat → Int32), nmP D cs N0 Hc o' z' K' r' ∧ (∀ q, q < N → r' q = r q) ∧ md_I D cs H2 xm gm i' f' ∧ i' 0 = 0 ∧ rel z' K' i' f' ∧ o' 0 0 = o 0 0 := by
  have h24 : z 3 0 ≤ 24 := hr.bnd.2.2.1
  have hg := goV_0.mp hc.1
  rw [if_pos hg] at hm
  simp only [goB, Bool.and_eq_true] at hg
  obtain ⟨a, ha, rfl⟩ := isN_of hg.1.1.1 (by omega)
  obtain ⟨b, hb, rfl⟩ := isN_of hg.1.1.2 (by omega)
  simp only [tnI (j := a) (by omega), tnI (j := b) (by omega)] at hc hm
  have hq := hg.2
  simp only [Bool.not_eq_true', decide_eq_false_iff_not] at hq
  have hab : a ≠ b := fun e => hq.1 (by rw [e])
  rw [hr.dec.1 a b (by omega) (by omega) hab] at hm
  rw [hr.aof hgr hq.2 (by omega) (by omega)] at hc
  obtain ⟨hG, hc⟩ := hc
  by_cases e1 : K 7 0 (min a b * 24 + max a b) = 2
  · rw [if_pos e1] at hc hm
    exact ⟨(val_inj hc.1).trans hm.2.symm, o, z, K, r, _, _, hc.2, fun _ _ => rfl, hm.1, hG, hr.i0, rfl⟩
  · rw [if_neg e1] at hc hm
    by_cases e2 : evB f mo mt (z 5 0) a b dy = true
    · rw [if_pos e2] at hc hm
      obtain ⟨G9, hm1, hm2⟩ := hm
      exact ⟨(val_inj hc.1).trans hm2.symm, o, z, K, r, _, _, hc.2, fun _ _ => rfl, hm1, hG, hr.i0.f17, rfl⟩
    · rw [if_neg e2] at hc hm
      obtain ⟨G9, hm1, hm2⟩ := hm
      obtain ⟨hv, a9, ea, cap, mc, r', hn, hrr⟩ := hc
      exact ⟨(val_inj hv).trans hm2.symm, _, _, _, r', _, _, hn, hrr, hm1, hG, (hr.mrgd hn.2.2.1 hn.2.2.2 ha hb hab hq.2).f17, rfl⟩
theorem gx_merge {D : va_G} {cs : Nat → ClassId} {xm : Nat} {gm : Nat → Nat} {H2 : Heap} {z : zT} {K : kT} {i : Nat → Int32} {f : Nat → Nat → Int32} {r9 : Int32} {qa qb dy : Int32} (hr : rel z K i f) {mo mt : Nat → Nat} (hmm : ∀ k, k < z 5 0 → mo k < z 3 0 ∧ mt k < z 3 0) (hgr : ∀ dy, isD dy = true → ∀ a, a < 24 → (∀ b, 24 ≤ b → bt (owV z K (nI a) dy) b = false) ∧ ∀ b, bt (owV z K (nI a) dy) b = true ↔ conn mo mt (holdB f dy) (z 5 0) a b) (hG : ¬ goV (isN (z 3 0) qa && isN (z 3 0) qb) (decide (z 5 0 < 60)) (!decide (qa = qb) && isD dy) = 0) (hm : (fun (x : Nat) (g : Nat → Nat) (i : Nat → Int32) (f : Nat → Nat → Int32) (qa : Int32) (qb : Int32) (dy : Int32) (n : Nat) (mg : Nat) (mo : Nat → Nat) (mt : Nat → Nat) => (fun (r : Int32) (H' : Heap) => if goB (isN n qa && isN n qb) (decide (mg < 60)) (!decide (qa = qb) && isD dy) = true then (if f 9 (24 * tn qa + tn qb) = 2 then (md_I D cs H' x g (upd i 0 (goV (isN n qa && isN n qb) (decide (mg < 60)) (!decide (qa = qb) && isD dy))) f ∧ r = 1) else if evB f mo mt mg (tn qa) (tn qb) dy = true then (∃ G : Nat → Int32, md_I D cs H' x g (upd i 0 (goV (isN n qa && isN n qb) (decide (mg < 60)) (!decide (qa = qb) && isD dy))) (setA f 17 G) ∧ r = 2) else (∃ G : Nat → Int32, md_I D cs H' x g (upd (upd i 0 (goV (isN n qa && isN n qb) (decide (mg < 60)) (!decide (qa = qb) && isD dy))) 3 (nI (mg + 1))) (setA (updA (updA (updA (updA f 13 mg qa) 14 mg qb) 15 mg dy) 16 mg (-1)) 17 G) ∧ r = 0)) else (md_I D cs H' x g (upd i 0 (goV (isN n qa && isN n qb) (decide (mg < 60)) (!decide (qa = qb) && isD dy))) f ∧ r = 0))) xm gm i f qa qb dy (z 3 0) (z 5 0) mo mt r9 H2) : ∃ (i' : Nat → Int32) (f' : Nat → Nat → Int32), md_I D cs H2 xm gm i' f' ∧ i' 0 = goV (isN (z 3 0) qa && isN (z 3 0) qb) (decide (z 5 0 < 60)) (!decide (qa = qb) && isD dy) ∧ rel z K i' f' := by
  have hg := goV_n hG
  rw [if_neg hg] at hm
  exact ⟨_, _, hm.1, rfl, hr.i0⟩
theorem gl_find {D : va_G} {cs : Nat → ClassId} {N0 N xm : Nat} {gm : Nat → Nat} {H Hc H2 : Heap} {o z : zT} {K : kT} {r : Nat → Nat × Nat} {i : Nat → Int32} {f : Nat → Nat → Int32} {wv r9 : Int32} {day : Int32} (hI : nmP D cs N0 H o z K r) (hr : rel z K i f) {mo mt : Nat → Nat} (hmm : ∀ k, k < z 5 0 → mo k < z 3 0 ∧ mt k < z 3 0) (hgr : ∀ dy, isD dy = true → ∀ a, a < 24 → (∀ b, 24 ≤ b → bt (owV z K (nI a) dy) b = false) ∧ ∀ b, bt (owV z K (nI a) dy) b = true ↔ conn mo mt (holdB f dy) (z 5 0) a b) (hc : (fun (v : Option Value) (H' : Heap) => goV (isD day) true true = 0 ∧ v = some (.int (bcV (upt (fnS z K day) (z 3 0) 0))) ∧ nmP D cs N0 H' o z (upK K 0 0 (upd (K 0 0) 0 (upt (fnS z K day) (z 3 0) 0))) r) (some (.int wv)) Hc) (hm : (fun (x : Nat) (g : Nat → Nat) (i : Nat → Int32) (f : Nat → Nat → Int32) (dy : Int32) (n : Nat) (pn : Nat) (mn : Nat → Nat) (mg : Nat) (mo : Nat → Nat) (mt : Nat → Nat) => (fun (r : Int32) (H' : Heap) => if goB (isD dy) true true = true then (∃ (c9 : Nat) (F9 : Nat → Nat → Int32), md_I D cs H' x g (upd (upd i 0 (goV (isD dy) true true)) 5 (nI c9)) F9 ∧ r = nI c9 ∧ flI (fdQ f mn mo mt mg pn n dy) n (F9 20) c9 ∧ ∀ q, q ≠ 17 → q ≠ 20 → F9 q = f q) else (md_I D cs H' x g (upd i 0 (goV (isD dy) true true)) f ∧ r = 0))) xm gm i f day (z 3 0) (z 1 0) (mnF z) (z 5 0) mo mt r9 H2) : wv = r9 ∧ ∃ (o' z' : zT) (K' : kT) (r' : Nat → Nat × Nat) (i' : Nat → Int32) (f' : Nat → Nat → Int32), nmP D cs N0 Hc o' z' K' r' ∧ (∀ q, q < N → r' q = r q) ∧ md_I D cs H2 xm gm i' f' ∧ i' 0 = 0 ∧ rel z' K' i' f' ∧ o' 0 0 = o 0 0 := by
  have h24 : z 3 0 ≤ 24 := hr.bnd.2.2.1
  have hg := goV_0.mp hc.1
  rw [if_pos hg] at hm
  simp only [goB, Bool.and_eq_true] at hg
  obtain ⟨hG, hv, hn⟩ := hc
  obtain ⟨c9, F9, hm1, hm2, hm3, hm4⟩ := hm
  have hq := hr.find (x := goV (isD day) true true) hg.1.1 hmm hgr hm3 hm4
  exact ⟨(val_inj hv).trans (hq.1.trans hm2.symm), o, z, _, r, _, _, hn, fun _ _ => rfl, hm1, hG, hq.2, rfl⟩
theorem gx_find {D : va_G} {cs : Nat → ClassId} {xm : Nat} {gm : Nat → Nat} {H2 : Heap} {z : zT} {K : kT} {i : Nat → Int32} {f : Nat → Nat → Int32} {r9 : Int32} {day : Int32} (hr : rel z K i f) {mo mt : Nat → Nat} (hmm : ∀ k, k < z 5 0 → mo k < z 3 0 ∧ mt k < z 3 0) (hgr : ∀ dy, isD dy = true → ∀ a, a < 24 → (∀ b, 24 ≤ b → bt (owV z K (nI a) dy) b = false) ∧ ∀ b, bt (owV z K (nI a) dy) b = true ↔ conn mo mt (holdB f dy) (z 5 0) a b) (hG : ¬ goV (isD day) true true = 0) (hm : (fun (x : Nat) (g : Nat → Nat) (i : Nat → Int32) (f : Nat → Nat → Int32) (dy : Int32) (n : Nat) (pn : Nat) (mn : Nat → Nat) (mg : Nat) (mo : Nat → Nat) (mt : Nat → Nat) => (fun (r : Int32) (H' : Heap) => if goB (isD dy) true true = true then (∃ (c9 : Nat) (F9 : Nat → Nat → Int32), md_I D cs H' x g (upd (upd i 0 (goV (isD dy) true true)) 5 (nI c9)) F9 ∧ r = nI c9 ∧ flI (fdQ f mn mo mt mg pn n dy) n (F9 20) c9 ∧ ∀ q, q ≠ 17 → q ≠ 20 → F9 q = f q) else (md_I D cs H' x g (upd i 0 (goV (isD dy) true true)) f ∧ r = 0))) xm gm i f day (z 3 0) (z 1 0) (mnF z) (z 5 0) mo mt r9 H2) : ∃ (i' : Nat → Int32) (f' : Nat → Nat → Int32), md_I D cs H2 xm gm i' f' ∧ i' 0 = goV (isD day) true true ∧ rel z K i' f' := by
  have hg := goV_n hG
  rw [if_neg hg] at hm
  exact ⟨_, _, hm.1, rfl, hr.i0⟩
theorem gl_variant {D : va_G} {cs : Nat → ClassId} {N0 N xm : Nat} {gm : Nat → Nat} {H Hc H2 : Heap} {o z : zT} {K : kT} {r : Nat → Nat × Nat} {i : Nat → Int32} {f : Nat → Nat → Int32} {wv r9 : Int32} {q lg fr tw : Int32} (hI : nmP D cs N0 H o z K r) (hr : rel z K i f) (hc : (fun (v : Option Value) (H' : Heap) => goV (isN (z 3 0) q) (isN (z 3 0) q && !decide (4 ≤ z 11 (tn q)) && !decide (z 1 0 ≤ 0)) (!decide (lg < 0) && !decide (6 ≤ lg) && daysB fr tw) = 0 ∧ v = some (.int (nI (z 11 (tn q) + 1))) ∧ ∃ (vr sg by9 dy ea : Nat) (mc ml : Int32) (r' : Nat → Nat × Nat), nmP D cs N0 H' (upZ (upZ (upZ (upZ (upZ o 15 ((tn q) * 4 + z 11 (tn q)) vr) 16 ((tn q) * 4 + z 11 (tn q)) sg) 17 ((tn q) * 4 + z 11 (tn q)) by9) 18 ((tn q) * 4 + z 11 (tn q)) dy) 12 (tn q) ea) (upZ (upZ (upZ z 17 ((tn q) * 4 + z 11 (tn q)) (z 1 0)) 11 (tn q) (z 11 (tn q) + 1)) 1 0 0) (upK (upK (upK (upK (upK (upK K 16 ((tn q) * 4 + z 11 (tn q)) (fun _ => 0)) 17 ((tn q) * 4 + z 11 (tn q)) (padF z K)) 18 ((tn q) * 4 + z 11 (tn q)) (fun i => if i = 0 then fr else tw)) 11 (tn q) (fun _ => mc)) 10 (tn q) (fun i => if i = 0 then K 10 (tn q) 0 ||| (1 : Int32) <<< (lg &&& 31) else if i = 1 then K 10 (tn q) 1 ||| (1 : Int32) <<< ((chV (K 2 0 0) - 97) &&& 31) else K 10 (tn q) i)) 1 0 (fun _ => ml)) r' ∧ ∀ q, q < N → r' q = r q) (some (.int wv)) Hc) (hm : (fun (x : Nat) (g : Nat → Nat) (i : Nat → Int32) (f : Nat → Nat → Int32) (q : Int32) (lg : Int32) (fr : Int32) (to : Int32) (n : Nat) (pn : Nat) (mn : Nat → Nat) => (fun (r : Int32) (H' : Heap) => if goB (isN n q) (isN n q && !decide (4 ≤ mn (tn q)) && !decide (pn ≤ 0)) (!decide (lg < 0) && !decide (5 < lg) && isD fr && isD to && !decide (to < fr)) = true then (∃ S3 : Nat → Int32, md_I D cs H' x g (upd (upd i 0 (goV (isN n q) (isN n q && !decide (4 ≤ mn (tn q)) && !decide (pn ≤ 0)) (!decide (lg < 0) && !decide (5 < lg) && isD fr && isD to && !decide (to < fr)))) 1 0) (updA (updA (updA (updA (setA (updA f 2 (4 * tn q + mn (tn q)) (nI pn)) 3 S3) 4 (4 * tn q + mn (tn q)) lg) 5 (4 * tn q + mn (tn q)) fr) 6 (4 * tn q + mn (tn q)) to) 1 (tn q) (nI (mn (tn q) + 1))) ∧ (∀ j, j < pn → S3 (12 * (4 * tn q + mn (tn q)) + j) = f 0 j) ∧ (∀ j, (j < 12 * (4 * tn q + mn (tn q)) ∨ 12 * (4 * tn q + mn (tn q)) + pn ≤ j) → S3 j = f 3 j) ∧ r = nI (mn (tn q) + 1)) else (md_I D cs H' x g (upd i 0 (goV (isN n q) (isN n q && !decide (4 ≤ mn (tn q)) && !decide (pn ≤ 0)) (!decide (lg < 0) && !decide (5 < lg) && isD fr && isD to && !decide (to < fr)))) f ∧ r = 0))) xm gm i f q lg fr tw (z 3 0) (z 1 0) (mnF z) r9 H2) : wv = r9 ∧ ∃ (o' z' : zT) (K' : kT) (r' : Nat → Nat × Nat) (i' : Nat → Int32) (f' : Nat → Nat → Int32), nmP D cs N0 Hc o' z' K' r' ∧ (∀ q, q < N → r' q = r q) ∧ md_I D cs H2 xm gm i' f' ∧ i' 0 = 0 ∧ rel z' K' i' f' ∧ o' 0 0 = o 0 0 := by
  have h24 : z 3 0 ≤ 24 := hr.bnd.2.2.1
  rw [show (!decide (lg < 0) && !decide (5 < lg) && isD fr && isD tw && !decide (tw < fr)) = (!decide (lg < 0) && !decide (6 ≤ lg) && daysB fr tw) by rw [lg6]; unfold daysB; simp only [Bool.and_assoc]] at hm
  rw [mn_is hr.bnd.2.2.1] at hm
  have hg := goV_0.mp hc.1
  rw [if_pos hg] at hm
  simp only [goB, Bool.and_eq_true] at hg
  obtain ⟨j, hj, rfl⟩ := isN_of hg.1.1 (by omega)
  simp only [tnI (j := j) (by omega)] at hc hm hg
  rw [show mnF z j = z 11 j from if_pos hj] at hm
  obtain ⟨hG, hv, vr, sg, by9, dy, ea, mc, ml, r', hn, hrr⟩ := hc
  obtain ⟨S3, hm1, hm2, hm3, hm4⟩ := hm
  have q1 := hg.1.2
  have q2 := hg.2
  simp only [Bool.not_eq_true', decide_eq_false_iff_not] at q1 q2
  obtain ⟨lq, hl9, elq⟩ := nI_of q2.1.1
  have hlq : lq < 6 := by
    rcases Nat.lt_or_ge lq 6 with h9 | h9
    · exact h9
    · exact absurd (by rw [elq]; exact (nI_leI (a := 6) (b := lq) (by omega) (by omega)).mpr h9) q2.1.2
  exact ⟨(val_inj hv).trans hm4.symm, _, _, _, r', _, _, hn, hrr, hm1, hG, hr.vard hn.2.2.1 hn.2.2.2 hj (by omega) (by omega) hlq elq hm2 hm3, rfl⟩
theorem gx_variant {D : va_G} {cs : Nat → ClassId} {xm : Nat} {gm : Nat → Nat} {H2 : Heap} {z : zT} {K : kT} {i : Nat → Int32} {f : Nat → Nat → Int32} {r9 : Int32} {q lg fr tw : Int32} (hr : rel z K i f) (hG : ¬ goV (isN (z 3 0) q) (isN (z 3 0) q && !decide (4 ≤ z 11 (tn q)) && !decide (z 1 0 ≤ 0)) (!decide (lg < 0) && !decide (6 ≤ lg) && daysB fr tw) = 0) (hm : (fun (x : Nat) (g : Nat → Nat) (i : Nat → Int32) (f : Nat → Nat → Int32) (q : Int32) (lg : Int32) (fr : Int32) (to : Int32) (n : Nat) (pn : Nat) (mn : Nat → Nat) => (fun (r : Int32) (H' : Heap) => if goB (isN n q) (isN n q && !decide (4 ≤ mn (tn q)) && !decide (pn ≤ 0)) (!decide (lg < 0) && !decide (5 < lg) && isD fr && isD to && !decide (to < fr)) = true then (∃ S3 : Nat → Int32, md_I D cs H' x g (upd (upd i 0 (goV (isN n q) (isN n q && !decide (4 ≤ mn (tn q)) && !decide (pn ≤ 0)) (!decide (lg < 0) && !decide (5 < lg) && isD fr && isD to && !decide (to < fr)))) 1 0) (updA (updA (updA (updA (setA (updA f 2 (4 * tn q + mn (tn q)) (nI pn)) 3 S3) 4 (4 * tn q + mn (tn q)) lg) 5 (4 * tn q + mn (tn q)) fr) 6 (4 * tn q + mn (tn q)) to) 1 (tn q) (nI (mn (tn q) + 1))) ∧ (∀ j, j < pn → S3 (12 * (4 * tn q + mn (tn q)) + j) = f 0 j) ∧ (∀ j, (j < 12 * (4 * tn q + mn (tn q)) ∨ 12 * (4 * tn q + mn (tn q)) + pn ≤ j) → S3 j = f 3 j) ∧ r = nI (mn (tn q) + 1)) else (md_I D cs H' x g (upd i 0 (goV (isN n q) (isN n q && !decide (4 ≤ mn (tn q)) && !decide (pn ≤ 0)) (!decide (lg < 0) && !decide (5 < lg) && isD fr && isD to && !decide (to < fr)))) f ∧ r = 0))) xm gm i f q lg fr tw (z 3 0) (z 1 0) (mnF z) r9 H2) : ∃ (i' : Nat → Int32) (f' : Nat → Nat → Int32), md_I D cs H2 xm gm i' f' ∧ i' 0 = goV (isN (z 3 0) q) (isN (z 3 0) q && !decide (4 ≤ z 11 (tn q)) && !decide (z 1 0 ≤ 0)) (!decide (lg < 0) && !decide (6 ≤ lg) && daysB fr tw) ∧ rel z K i' f' := by
  rw [show (!decide (lg < 0) && !decide (5 < lg) && isD fr && isD tw && !decide (tw < fr)) = (!decide (lg < 0) && !decide (6 ≤ lg) && daysB fr tw) by rw [lg6]; unfold daysB; simp only [Bool.and_assoc]] at hm
  rw [mn_is hr.bnd.2.2.1] at hm
  have hg := goV_n hG
  rw [if_neg hg] at hm
  exact ⟨_, _, hm.1, rfl, hr.i0⟩
