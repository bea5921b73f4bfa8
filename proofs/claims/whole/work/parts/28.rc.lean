theorem ncY_k {y : st} {b l d : Int32} {k : Nat} (h : k ≠ 2 ∧ k ≠ 3) : ncY y b l d k = y k := by
  unfold ncY
  split
  · exact sx_k _ h.1
  · rw [sx_k _ h.1, sx_k _ h.2, sx_k _ h.2, sx_k _ h.2]
theorem ncY_2 {y : st} {b l d : Int32} {j : Nat} : ncY y b l d 2 0 j = if j = 3 then y 2 0 3 + 1 else y 2 0 j := by
  unfold ncY
  split <;> simp [sx_app]
theorem ncY_3 {y : st} {b l d : Int32} {j : Nat} : ncY y b l d 3 0 j = if 100 ≤ y 2 0 3 then y 3 0 j else if j = 3 * nv (y 2 0 3) + 2 then d else if j = 3 * nv (y 2 0 3) + 1 then l else if j = 3 * nv (y 2 0 3) then b else y 3 0 j := by
  unfold ncY
  split <;> simp [sx_app]
theorem rcZ_k {z : st} {f : Nat} {b l d : Int32} {k : Nat} (h : k ≠ 66 ∧ k ≠ 67 ∧ k ≠ 80 ∧ k ≠ 81 ∧ k ≠ 82 ∧ k ≠ 83) : rcZ z f b l d k = z k := by
  obtain ⟨h1, h2, h3, h4, h5, h6⟩ := h
  unfold rcZ
  split
  · rw [sx_k _ h2, sx_k _ h1, sx_k _ h3]
  · rw [sx_k _ h2, sx_k _ h1, sx_k _ h3, sx_k _ h6, sx_k _ h5, sx_k _ h4]
theorem rcZ_80 {z : st} {f : Nat} {b l d : Int32} {j : Nat} : rcZ z f b l d 80 0 j = if j = 5 then z 80 0 5 + 1 else z 80 0 j := by
  unfold rcZ
  split <;> simp [sx_app]
theorem rcZ_6 {z : st} {f : Nat} {b l d : Int32} {j : Nat} : rcZ z f b l d 66 0 j = (if j = f then z 66 0 f ||| (1 <<< (z 67 0 f &&& 31)) else z 66 0 j) ∧ rcZ z f b l d 67 0 j = (if j = f then z 67 0 f - 1 else z 67 0 j) := by
  unfold rcZ
  split <;> simp [sx_app]
theorem rcZ_8 {z : st} {f : Nat} {b l d : Int32} {j : Nat} : rcZ z f b l d 81 0 j = (if 100 ≤ z 80 0 5 then z 81 0 j else if j = nv (z 80 0 5) then b else z 81 0 j) ∧ rcZ z f b l d 82 0 j = (if 100 ≤ z 80 0 5 then z 82 0 j else if j = nv (z 80 0 5) then l else z 82 0 j) ∧ rcZ z f b l d 83 0 j = (if 100 ≤ z 80 0 5 then z 83 0 j else if j = nv (z 80 0 5) then d else z 83 0 j) := by
  unfold rcZ
  split <;> simp [sx_app]
theorem stp_lt_aux {y : st} (ic : IC y) (h : IM y) : stp y ≤ 600 ∧ nv (y 2 0 3) ≤ 600 := by
  obtain ⟨⟨i0, i1, -⟩, -⟩ := h
  have a := i0.2
  have b := i1.2
  have c := ic.1.2
  unfold stp
  omega
def rcY (y : st) (f c : Nat) (b d : Int32) : st := ncY (sx y 12 f 5 (y 12 f 5 ||| (1 <<< (nI c &&& 31)))) b (y 12 f 2) d
theorem rcY_k {y : st} {f c : Nat} {b d : Int32} {k : Nat} (h : k ≠ 2 ∧ k ≠ 3 ∧ k ≠ 12) : rcY y f c b d k = y k := by
  unfold rcY
  rw [ncY_k ⟨h.1, h.2.1⟩, sx_k _ h.2.2]
theorem rcY_12 {y : st} {f c : Nat} {b d : Int32} {i j : Nat} : rcY y f c b d 12 i j = if i = f ∧ j = 5 then y 12 f 5 ||| (1 <<< (nI c &&& 31)) else y 12 i j := by
  unfold rcY
  rw [ncY_k (by decide), sx_app]
  simp
theorem rc_fin {y z : st} {f c : Nat} {b d : Int32} (h : DG y z) (hic : nv (y 2 0 3) + 1 ≤ stp y) (h57 : z 57 0 f = y 12 f 2) (h66 : z 66 0 f = y 12 f 5) (h67 : z 67 0 f = nI c) :
    DG (rcY y f c b d) (rcZ z f b (z 57 0 f) d) ∧ KC f y (rcY y f c b d) ∧ KR f z (rcZ z f b (z 57 0 f) d) ∧ (∀ e, SF e y z → SF e (rcY y f c b d) (rcZ z f b (z 57 0 f) d)) ∧ (∀ e, IF e y → IF e (rcY y f c b d)) ∧
    rcZ z f b (z 57 0 f) d 66 0 f = rcY y f c b d 12 f 5 ∧ rcZ z f b (z 57 0 f) d 67 0 f = nI c - 1 := by
  obtain ⟨⟨IM0, S⟩, ic⟩ := h
  obtain ⟨⟨a1, a2, a3, a4, a5, a6, a7⟩, ⟨b1, b2, b3, b4⟩, ⟨c1, c2⟩, hd, he, hk⟩ := S
  have e4 : rcY y f c b d 4 = y 4 := rcY_k (by decide)
  have e23 : rcY y f c b d 2 0 3 = y 2 0 3 + 1 := by unfold rcY; rw [ncY_2]; simp [sx_app]
  have hl := stp_lt_aux ic IM0
  refine ⟨⟨⟨?_, ?_⟩, ?_⟩, ?_, ?_, fun e hSF => ?_, fun e hIF => ?_, ?_, ?_⟩
  · unfold IM at IM0 ⊢
    rw [e4, rcY_k (k := 5) (by decide), rcY_k (k := 7) (by decide), rcY_k (k := 8) (by decide)]
    exact IM0
  · unfold SG
    rw [e4, rcY_k (k := 5) (by decide), rcY_k (k := 7) (by decide), rcY_k (k := 8) (by decide), rcY_k (k := 9) (by decide), rcY_k (k := 6) (by decide), rcZ_k (k := 30) (by decide), rcZ_k (k := 70) (by decide), rcZ_k (k := 71) (by decide), rcZ_k (k := 72) (by decide), rcZ_k (k := 73) (by decide)]
    simp only [rcZ_80]
    refine ⟨⟨a1, a2, a3, a4, a5, a6, a7⟩, ⟨?_, ?_, ?_, ?_⟩, ⟨c1, c2⟩, hd, he, fun j hj => ?_⟩
    · unfold rcY; rw [ncY_2]; simp [sx_app, b1]
    · rw [e23]; simp [b2]
    · unfold rcY; rw [ncY_2]; simp [sx_app, b3]
    · unfold rcY; rw [ncY_2]; simp [sx_app, b4]
    · obtain ⟨q1, q2, q3⟩ := rcZ_8 (z := z) (f := f) (b := b) (l := z 57 0 f) (d := d) (j := j)
      rw [q1, q2, q3, b2]
      unfold rcY
      simp only [ncY_3]
      have s23 : (sx y 12 f 5 (y 12 f 5 ||| (1 <<< (nI c &&& 31)))) 2 0 3 = y 2 0 3 := by simp [sx_app]
      have s3 : ∀ q, (sx y 12 f 5 (y 12 f 5 ||| (1 <<< (nI c &&& 31)))) 3 0 q = y 3 0 q := fun q => by simp [sx_app]
      rw [s23, s3, s3, s3]
      obtain ⟨k1, k2, k3⟩ := hk j hj
      by_cases hc : 100 ≤ y 2 0 3
      · simp only [hc, if_true]; exact ⟨k1, k2, k3⟩
      · simp only [hc, if_false]
        by_cases hj2 : j = nv (y 2 0 3)
        · subst hj2
          refine ⟨?_, ?_, ?_⟩
          · rw [if_pos rfl, if_neg (by omega), if_neg (by omega), if_pos rfl]
          · rw [if_pos rfl, if_neg (by omega), if_pos rfl, h57]
          · rw [if_pos rfl, if_pos rfl]
        · refine ⟨?_, ?_, ?_⟩
          · rw [if_neg hj2, if_neg (by omega), if_neg (by omega), if_neg (by omega)]; exact k1
          · rw [if_neg hj2, if_neg (by omega), if_neg (by omega), if_neg (by omega)]; exact k2
          · rw [if_neg hj2, if_neg (by omega), if_neg (by omega), if_neg (by omega)]; exact k3
  · unfold IC stp
    rw [e4, e23, ic.1.1, nI_add1, nv_nI (by omega)]
    unfold stp at hic hl
    exact ⟨isN.of (by omega) (by omega), hic⟩
  · exact ⟨fun k hk => rcY_k (by omega), rcY_k (by decide), ⟨by rw [e4], by rw [e4], by unfold rcY; simp [sx_app, ncY_2], by unfold rcY; simp [sx_app, ncY_2], by rw [e4]; exact Or.inl rfl⟩, fun i hi => ⟨by funext j; rw [rcY_12, if_neg (by omega)], by rw [rcY_k (by decide)], by rw [rcY_k (by decide)]⟩⟩
  · refine ⟨⟨fun k hk => rcZ_k (by omega), fun k h1 h2 => rcZ_k (by omega), by rw [rcZ_k (by decide)], by rw [rcZ_k (by decide)], by simp [rcZ_80], by simp [rcZ_80]⟩, ⟨fun i hi => ⟨by rw [rcZ_k (by decide)], by rw [rcZ_k (by decide)], by rw [rcZ_k (by decide)], by rw [rcZ_k (by decide)], by rw [rcZ_k (by decide)], by rw [rcZ_k (by decide)], by rw [rcZ_k (by decide)]⟩, fun j _ => by rw [rcZ_k (by decide)], fun j _ => by rw [rcZ_k (by decide)]⟩, ⟨by rw [rcZ_k (by decide)], by rw [rcZ_k (by decide)]⟩, fun i hi => ?_⟩
    obtain ⟨q1, q2⟩ := rcZ_6 (z := z) (f := f) (b := b) (l := z 57 0 f) (d := d) (j := i)
    rw [q1, q2, if_neg (by omega), if_neg (by omega)]
    exact ⟨rfl, rfl⟩
  · intro i hi
    rw [rcZ_k (k := 57) (by decide), rcZ_k (k := 58) (by decide), rcZ_k (k := 59) (by decide), rcZ_k (k := 60) (by decide), rcY_k (k := 13) (by decide), rcY_k (k := 14) (by decide), rcY_12, rcY_12, if_neg (by omega), if_neg (by omega)]
    exact hSF i hi
  · intro i hi
    rw [rcY_k (k := 14) (by decide), rcY_k (k := 5) (by decide), rcY_12, rcY_12, if_neg (by omega), if_neg (by omega)]
    exact hIF i hi
  · rw [rcZ_6.1, if_pos rfl, rcY_12, if_pos ⟨rfl, rfl⟩, h66, h67]
  · rw [rcZ_6.2, if_pos rfl, h67]
