/-! both sides count, stop, make FRAMES -/
def DG0 (y z : st) : Prop := IM y ∧ SG y z
def stp (y : st) : Nat := nv (y 4 0 0) + nv (y 4 0 1)
theorem fit_eq {y z : st} {n : Int32} (S : SG y z) : fitZ z n ↔ fitY y n := by
  obtain ⟨⟨a1, a2, a3, a4, a5, a6, a7⟩, -⟩ := S
  unfold fitZ fitY
  rw [a1, a2, a4, a5, a7]
theorem cnt_pair0 {y z : st} {n : Nat} (h : DG0 y z) (hn : n ≤ 9) (hf : fitY y (nI n)) : DG0 (cntY y (nI n)) (cntZ z (nI n)) ∧ (∀ d, KC d y (cntY y (nI n))) ∧ (∀ d, KR d z (cntZ z (nI n))) ∧ rem (cntY y (nI n)) + n = rem y ∧ stp (cntY y (nI n)) = stp y + n ∧ (∀ k, k ≠ 4 → cntY y (nI n) k = y k) ∧ cntY y (nI n) 4 0 6 = y 4 0 6 ∧ cntY y (nI n) 4 0 5 = y 4 0 5 := by
  obtain ⟨⟨⟨i0, i1, i3, i4, i5, i6⟩, ⟨j0, j1⟩, ⟨r4, r5⟩, ⟨q4, q5⟩, hr⟩, S⟩ := h
  have S0 := S
  obtain ⟨⟨a1, a2, a3, a4, a5, a6, a7⟩, ⟨b1, b2, b3, b4⟩, ⟨c1, c2⟩, hd, he, hk⟩ := S
  unfold fitY at hf
  unfold cntY cntZ
  rw [a7]
  by_cases h6 : y 4 0 6 = 0
  · rw [if_pos h6] at hf
    rw [if_pos h6, if_pos h6]
    have e0 : y 4 0 0 + nI n = nI (nv (y 4 0 0) + n) := by rw [i0.1, nI_add, nv_nI (nv_lt _)]
    have l0 := i0.2
    have l3 := i3.2
    rw [e0, i3.1, nI_leI (by omega) (by omega)] at hf
    have v0 : nv (nI (nv (y 4 0 0) + n)) = nv (y 4 0 0) + n := nv_nI (by omega)
    rw [a1, e0]
    refine ⟨⟨⟨⟨?_, ?_, ?_, ?_, ?_, ?_⟩, ⟨?_, ?_⟩, ⟨?_, ?_⟩, ⟨?_, ?_⟩, ?_⟩, ⟨⟨?_, ?_, ?_, ?_, ?_, ?_, ?_⟩, ⟨?_, ?_, ?_, ?_⟩, ⟨?_, ?_⟩, ?_, ?_, ?_⟩⟩, ?_, ?_, ?_, ?_, ?_, ?_, ?_⟩
    · simp only [sx_app]; simp; exact isN.of (by omega) (by omega)
    · simpa [sx_app] using i1
    · simpa [sx_app] using i3
    · simpa [sx_app] using i4
    · simpa [sx_app] using i5
    · simp [sx_app, h6]
    · simp [sx_app, v0]; omega
    · simpa [sx_app] using j1
    · simpa [sx_app] using r4
    · simpa [sx_app] using r5
    · simp [sx_app, v0]; omega
    · simp [sx_app, v0]; omega
    · simpa [sx_app] using hr
    · simp [sx_app]
    · simpa [sx_app] using a2
    · simpa [sx_app] using a3
    · simpa [sx_app] using a4
    · simpa [sx_app] using a5
    · simpa [sx_app] using a6
    · simpa [sx_app] using a7
    · simpa [sx_app] using b1
    · simpa [sx_app] using b2
    · simpa [sx_app] using b3
    · simpa [sx_app] using b4
    · simpa [sx_app] using c1
    · simpa [sx_app] using c2
    · simpa [sx_app] using hd
    · simpa [sx_app] using he
    · simpa [sx_app] using hk
    · intro d
      exact ⟨fun k hk => sx_k _ (by omega), sx_k _ (by decide), ⟨by simp [sx_app], by simp [sx_app]⟩, fun f _ => ⟨by rw [sx_k _ (by decide)], by rw [sx_k _ (by decide)], by rw [sx_k _ (by decide)]⟩⟩
    · intro d
      refine ⟨⟨fun k hk => sx_k _ (by omega), fun k _ _ => sx_k _ (by omega), by simp [sx_app], by simp [sx_app]⟩, ⟨fun i _ => ⟨?_, ?_, ?_, ?_, ?_, ?_, ?_⟩, fun j _ => ?_, fun j _ => ?_⟩, ⟨?_, ?_⟩, fun i _ => ⟨?_, ?_⟩⟩ <;> simp [sx_app]
    · unfold rem; simp [sx_app, h6, v0]; omega
    · unfold stp; simp [sx_app, v0]; omega
    · intro k hk; exact sx_k _ hk
    · simp [sx_app]
    · simp [sx_app]
  · rw [if_neg h6] at hf
    rw [if_neg h6, if_neg h6]
    have e0 : y 4 0 1 + nI n = nI (nv (y 4 0 1) + n) := by rw [i1.1, nI_add, nv_nI (nv_lt _)]
    have l0 := i1.2
    have l3 := i4.2
    rw [e0, i4.1, nI_leI (by omega) (by omega)] at hf
    have v0 : nv (nI (nv (y 4 0 1) + n)) = nv (y 4 0 1) + n := nv_nI (by omega)
    rw [a2, e0]
    refine ⟨⟨⟨⟨?_, ?_, ?_, ?_, ?_, ?_⟩, ⟨?_, ?_⟩, ⟨?_, ?_⟩, ⟨?_, ?_⟩, ?_⟩, ⟨⟨?_, ?_, ?_, ?_, ?_, ?_, ?_⟩, ⟨?_, ?_, ?_, ?_⟩, ⟨?_, ?_⟩, ?_, ?_, ?_⟩⟩, ?_, ?_, ?_, ?_, ?_, ?_, ?_⟩
    · simpa [sx_app] using i0
    · simp only [sx_app]; simp; exact isN.of (by omega) (by omega)
    · simpa [sx_app] using i3
    · simpa [sx_app] using i4
    · simpa [sx_app] using i5
    · simpa [sx_app] using i6
    · simpa [sx_app] using j0
    · simp [sx_app, v0]; omega
    · simpa [sx_app] using r4
    · simpa [sx_app] using r5
    · simp [sx_app, v0]; omega
    · simp [sx_app, v0]; omega
    · simpa [sx_app] using hr
    · simpa [sx_app] using a1
    · simp [sx_app]
    · simpa [sx_app] using a3
    · simpa [sx_app] using a4
    · simpa [sx_app] using a5
    · simpa [sx_app] using a6
    · simpa [sx_app] using a7
    · simpa [sx_app] using b1
    · simpa [sx_app] using b2
    · simpa [sx_app] using b3
    · simpa [sx_app] using b4
    · simpa [sx_app] using c1
    · simpa [sx_app] using c2
    · simpa [sx_app] using hd
    · simpa [sx_app] using he
    · simpa [sx_app] using hk
    · intro d
      exact ⟨fun k hk => sx_k _ (by omega), sx_k _ (by decide), ⟨by simp [sx_app], by simp [sx_app]⟩, fun f _ => ⟨by rw [sx_k _ (by decide)], by rw [sx_k _ (by decide)], by rw [sx_k _ (by decide)]⟩⟩
    · intro d
      refine ⟨⟨fun k hk => sx_k _ (by omega), fun k _ _ => sx_k _ (by omega), by simp [sx_app], by simp [sx_app]⟩, ⟨fun i _ => ⟨?_, ?_, ?_, ?_, ?_, ?_, ?_⟩, fun j _ => ?_, fun j _ => ?_⟩, ⟨?_, ?_⟩, fun i _ => ⟨?_, ?_⟩⟩ <;> simp [sx_app]
    · unfold rem; simp [sx_app, h6, v0]; omega
    · unfold stp; simp [sx_app, v0]; omega
    · intro k hk; exact sx_k _ hk
    · simp [sx_app]
    · simp [sx_app]
theorem ovS_app (z : st) (d k i j : Nat) : ovS z d k i j = if k = 66 ∧ i = 0 ∧ j < d then (if z 62 0 j = 0 then 0 else z 66 0 j) else if k = 67 ∧ i = 0 ∧ j < d then z 51 0 (nv (z 57 0 j)) - 1 else if k = 30 ∧ i = 0 ∧ j = 35 then 1 else if k = 30 ∧ i = 0 ∧ j = 38 then nI d - 1 else if k = 30 ∧ i = 0 ∧ j = 37 then 1 else z k i j := by
  unfold ovS ovL nv
  simp [sx_app]
theorem ovS_k {z : st} {d k : Nat} (h1 : k ≠ 66) (h2 : k ≠ 67) (h3 : k ≠ 30) : ovS z d k = z k := by
  funext i j
  rw [ovS_app]
  simp [h1, h2, h3]
/-- the stop: both sides -/
theorem stop_pair0 {y z : st} {d : Nat} (h : DG0 y z) (h6 : y 4 0 6 = 0) : DG0 (sx y 4 0 6 1) (ovS z d) ∧ KS d z (ovS z d) := by
  obtain ⟨⟨⟨i0, i1, i3, i4, i5, i6⟩, ⟨j0, j1⟩, ⟨r4, r5⟩, ⟨q4, q5⟩, hr⟩, S⟩ := h
  obtain ⟨⟨a1, a2, a3, a4, a5, a6, a7⟩, ⟨b1, b2, b3, b4⟩, ⟨c1, c2⟩, hd, he, hk⟩ := S
  refine ⟨⟨⟨⟨?_, ?_, ?_, ?_, ?_, ?_⟩, ⟨?_, ?_⟩, ⟨?_, ?_⟩, ⟨?_, ?_⟩, ?_⟩, ⟨⟨?_, ?_, ?_, ?_, ?_, ?_, ?_⟩, ⟨?_, ?_, ?_, ?_⟩, ⟨?_, ?_⟩, ?_, ?_, ?_⟩⟩, ⟨⟨fun k hk => ?_, fun k h1 h2 => ?_, ?_, ?_⟩, ⟨fun i hi => ⟨?_, ?_, ?_, ?_, ?_, ?_, ?_⟩, fun j hj => ?_, fun j hj => ?_⟩, ?_, fun i hi => ⟨?_, ?_⟩⟩⟩
  · simpa [sx_app] using i0
  · simpa [sx_app] using i1
  · simpa [sx_app] using i3
  · simpa [sx_app] using i4
  · simpa [sx_app] using i5
  · simp [sx_app]
  · simpa [sx_app] using j0
  · simpa [sx_app] using j1
  · simpa [sx_app] using r4
  · simpa [sx_app] using r5
  · simpa [sx_app] using q4
  · simpa [sx_app] using q5
  · simpa [sx_app] using hr
  · simpa [sx_app, ovS_app] using a1
  · simpa [sx_app, ovS_app] using a2
  · simpa [sx_app, ovS_app] using a3
  · simpa [sx_app, ovS_app] using a4
  · simpa [sx_app, ovS_app] using a5
  · simpa [sx_app, ovS_app] using a6
  · simp [sx_app, ovS_app]
  · simpa [sx_app, ovS_app] using b1
  · simpa [sx_app, ovS_app] using b2
  · simpa [sx_app, ovS_app] using b3
  · simpa [sx_app, ovS_app] using b4
  · simpa [sx_app, ovS_app] using c1
  · simpa [sx_app, ovS_app] using c2
  · simpa [sx_app, ovS_app] using hd
  · simpa [sx_app, ovS_app] using he
  · simpa [sx_app, ovS_app] using hk
  · exact ovS_k (by omega) (by omega) (by omega)
  · exact ovS_k (by omega) (by omega) (by omega)
  · simp [ovS_app]
  · simp [ovS_app]
  · simp [ovS_app]
  · simp [ovS_app]
  · simp [ovS_app]
  · simp [ovS_app]
  · simp [ovS_app]
  · simp [ovS_app]
  · simp [ovS_app]
  · simp [ovS_app]
  · simp [ovS_app]
  · simp [ovS_app]
  · simp [ovS_app, hi]
  · simp [ovS_app, hi]
/-- the end: both sides -/
theorem end_pair0 {y z : st} (h : DG0 y z) : DG0 (sx y 4 0 2 1) (sx (sx z 80 0 7 1) 30 0 36 1) ∧ K0 z (sx (sx z 80 0 7 1) 30 0 36 1) := by
  obtain ⟨⟨⟨i0, i1, i3, i4, i5, i6⟩, ⟨j0, j1⟩, ⟨r4, r5⟩, ⟨q4, q5⟩, hr⟩, S⟩ := h
  obtain ⟨⟨a1, a2, a3, a4, a5, a6, a7⟩, ⟨b1, b2, b3, b4⟩, ⟨c1, c2⟩, hd, he, hk⟩ := S
  refine ⟨⟨⟨⟨?_, ?_, ?_, ?_, ?_, ?_⟩, ⟨?_, ?_⟩, ⟨?_, ?_⟩, ⟨?_, ?_⟩, ?_⟩, ⟨⟨?_, ?_, ?_, ?_, ?_, ?_, ?_⟩, ⟨?_, ?_, ?_, ?_⟩, ⟨?_, ?_⟩, ?_, ?_, ?_⟩⟩, ⟨fun k hk => ?_, fun k h1 h2 => ?_, ?_, ?_⟩⟩
  · simpa [sx_app] using i0
  · simpa [sx_app] using i1
  · simpa [sx_app] using i3
  · simpa [sx_app] using i4
  · simpa [sx_app] using i5
  · simpa [sx_app] using i6
  · simpa [sx_app] using j0
  · simpa [sx_app] using j1
  · simpa [sx_app] using r4
  · simpa [sx_app] using r5
  · simpa [sx_app] using q4
  · simpa [sx_app] using q5
  · simpa [sx_app] using hr
  · simpa [sx_app] using a1
  · simpa [sx_app] using a2
  · simp [sx_app]
  · simpa [sx_app] using a4
  · simpa [sx_app] using a5
  · simpa [sx_app] using a6
  · simpa [sx_app] using a7
  · simpa [sx_app] using b1
  · simpa [sx_app] using b2
  · simpa [sx_app] using b3
  · simpa [sx_app] using b4
  · simpa [sx_app] using c1
  · simpa [sx_app] using c2
  · simpa [sx_app] using hd
  · simpa [sx_app] using he
  · simpa [sx_app] using hk
  · rw [sx_k _ (by omega), sx_k _ (by omega)]
  · rw [sx_k _ (by omega), sx_k _ (by omega)]
  · simp [sx_app]
  · simp [sx_app]
/-- CLEANS run are no more than STEPS -/
def IC (y : st) : Prop := isN (y 2 0 3) 600 ∧ nv (y 2 0 3) ≤ stp y
def DG (y z : st) : Prop := DG0 y z ∧ IC y
theorem cnt_pair {y z : st} {n : Nat} (h : DG y z) (hn : n ≤ 9) (hf : fitY y (nI n)) : DG (cntY y (nI n)) (cntZ z (nI n)) ∧ (∀ d, KC d y (cntY y (nI n))) ∧ (∀ d, KR d z (cntZ z (nI n))) ∧ rem (cntY y (nI n)) + n = rem y ∧ stp (cntY y (nI n)) = stp y + n ∧ (∀ k, k ≠ 4 → cntY y (nI n) k = y k) ∧ cntY y (nI n) 4 0 6 = y 4 0 6 ∧ cntY y (nI n) 4 0 5 = y 4 0 5 := by
  obtain ⟨h1, h2, h3, h4, h5, h6, h7⟩ := cnt_pair0 h.1 hn hf
  refine ⟨⟨h1, ?_⟩, h2, h3, h4, h5, h6, h7⟩
  unfold IC
  rw [h6 2 (by decide), h5]
  exact ⟨h.2.1, by have := h.2.2; omega⟩
theorem stop_pair {y z : st} {d : Nat} (h : DG y z) (h6 : y 4 0 6 = 0) : DG (sx y 4 0 6 1) (ovS z d) ∧ KS d z (ovS z d) := by
  obtain ⟨h1, h2⟩ := stop_pair0 (d := d) h.1 h6
  refine ⟨⟨h1, ?_⟩, h2⟩
  have := h.2
  unfold IC stp at this ⊢
  simpa [sx_app] using this
theorem end_pair {y z : st} (h : DG y z) : DG (sx y 4 0 2 1) (sx (sx z 80 0 7 1) 30 0 36 1) ∧ K0 z (sx (sx z 80 0 7 1) 30 0 36 1) := by
  obtain ⟨h1, h2⟩ := end_pair0 h.1
  refine ⟨⟨h1, ?_⟩, h2⟩
  have := h.2
  unfold IC stp at this ⊢
  simpa [sx_app] using this
