def nfY (y : st) (f : Nat) (m num row : Int32) : st := nfS (bgS y f m num row) (nI (f + 1))
def mkZ (z : st) (f : Nat) (m num row cl : Int32) : st := mk2 (mk1 (mkN (mk0 z f m) f num row) f cl) f
theorem nfY_k {y : st} {f : Nat} {m num row : Int32} {k : Nat} (h : k ≠ 2 ∧ k ≠ 12 ∧ k ≠ 13 ∧ k ≠ 14) : nfY y f m num row k = y k := by
  unfold nfY nfS bgS
  rw [sx_k _ h.1, sx_k _ h.1, sx_k _ h.2.1, sx_k _ h.2.1, sx_k _ h.2.1, sx_k _ h.2.1, sx_k _ h.2.2.2, sx_k _ h.2.2.1, sxA_k _ h.2.2.2, sxA_k _ h.2.2.1]
theorem nfY_f {y : st} {f : Nat} {m num row : Int32} {k i : Nat} (h : i ≠ f) (hk : k ≠ 2) : nfY y f m num row k i = y k i := by
  unfold nfY nfS bgS
  rw [sx_k _ hk, sx_k _ hk, sx_i _ h, sx_i _ h, sx_i _ h, sx_i _ h, sx_i _ h, sx_i _ h, sxA_app, if_neg (fun c => h c.2), sxA_app, if_neg (fun c => h c.2)]
theorem mkZ_k {z : st} {f : Nat} {m num row cl : Int32} {k : Nat} (h : k ≠ 30 ∧ k ≠ 57 ∧ k ≠ 58 ∧ k ≠ 59 ∧ k ≠ 60 ∧ k ≠ 61 ∧ k ≠ 62 ∧ k ≠ 66 ∧ k ≠ 80) : mkZ z f m num row cl k = z k := by
  obtain ⟨h1, h2, h3, h4, h5, h6, h7, h8, h9⟩ := h
  unfold mkZ mk2 mk1 mkN mk0 fl60 fl59
  rw [sx_k _ h9, sx_k _ h9, sx_k _ h1, sx_k _ h8, sx_k _ h7, sx_k _ h6, sx_k _ h5, sx_k _ h4, sxA_k _ h5, sxA_k _ h4, sx_k _ h3, sx_k _ h2]
theorem mkZ_30 {z : st} {f : Nat} {m num row cl : Int32} {j : Nat} : mkZ z f m num row cl 30 0 j = if j = 16 then nI (f + 1) else z 30 0 j := by
  unfold mkZ mk2 mk1 mkN mk0 fl60 fl59
  simp [sx_app, sxA_app]
theorem mkZ_80 {z : st} {f : Nat} {m num row cl : Int32} {j : Nat} : mkZ z f m num row cl 80 0 j = if j = 8 then (if nI (f + 1) ≤ z 80 0 8 then z 80 0 8 else nI (f + 1)) else if j = 4 then z 80 0 4 + 1 else z 80 0 j := by
  unfold mkZ mk2 mk1 mkN mk0 fl60 fl59
  simp [sx_app, sxA_app]
theorem mkZ_59 {z : st} {f : Nat} {m num row cl : Int32} {j : Nat} : mkZ z f m num row cl 59 0 j = if j = 6 * f then num else if 6 * f ≤ j ∧ j < 6 * f + 6 then 0 else z 59 0 j := by
  unfold mkZ mk2 mk1 mkN mk0 fl60 fl59
  simp [sx_app, sxA_app]
theorem mkZ_60 {z : st} {f : Nat} {m num row cl : Int32} {j : Nat} : mkZ z f m num row cl 60 0 j = if j = 3 * f then row else if 3 * f ≤ j ∧ j < 3 * f + 3 then (-3) else z 60 0 j := by
  unfold mkZ mk2 mk1 mkN mk0 fl60 fl59
  simp [sx_app, sxA_app]
theorem mkZ_1 {z : st} {f : Nat} {m num row cl : Int32} {j : Nat} : mkZ z f m num row cl 57 0 j = (if j = f then m else z 57 0 j) ∧ mkZ z f m num row cl 58 0 j = (if j = f then 0 else z 58 0 j) ∧ mkZ z f m num row cl 61 0 j = (if j = f then cl else z 61 0 j) ∧ mkZ z f m num row cl 62 0 j = (if j = f then 0 else z 62 0 j) ∧ mkZ z f m num row cl 66 0 j = (if j = f then 0 else z 66 0 j) := by
  unfold mkZ mk2 mk1 mkN mk0 fl60 fl59
  simp [sx_app, sxA_app]
theorem nfY_13 {y : st} {f : Nat} {m num row : Int32} {j : Nat} (hj : j < 6) : nfY y f m num row 13 f j = if j = 0 then num else 0 := by
  unfold nfY nfS bgS
  simp [sx_app, sxA_app, hj]
theorem nfY_14 {y : st} {f : Nat} {m num row : Int32} {j : Nat} (hj : j < 3) : nfY y f m num row 14 f j = if j = 0 then row else (-3) := by
  unfold nfY nfS bgS
  simp [sx_app, sxA_app, hj]
theorem nfY_12 {y : st} {f : Nat} {m num row : Int32} : nfY y f m num row 12 f 2 = m ∧ nfY y f m num row 12 f 3 = 0 ∧ nfY y f m num row 12 f 5 = 0 := by
  unfold nfY nfS bgS
  simp [sx_app, sxA_app]
theorem nfY_2 {y : st} {f : Nat} {m num row : Int32} {j : Nat} : nfY y f m num row 2 0 j = if j = 5 then (if y 2 0 5 < nI (f + 1) then nI (f + 1) else y 2 0 5) else if j = 2 then y 2 0 2 + 1 else y 2 0 j := by
  unfold nfY nfS bgS
  simp [sx_app, sxA_app]
/-- a FRAME on both sides -/
theorem mk_pair0 {y z : st} {f : Nat} {m num row cl : Int32} (h : DG0 y z) :
    DG0 (nfY y f m num row) (mkZ z f m num row cl) ∧ KC f y (nfY y f m num row) ∧ KR f z (mkZ z f m num row cl) ∧
    (SF f y z → SF (f + 1) (nfY y f m num row) (mkZ z f m num row cl)) ∧
    (IF f y → isN m 7 → (row = -3 ∨ (isN row 600 ∧ nv row < nv (y 5 0 4))) → IF (f + 1) (nfY y f m num row)) := by
  obtain ⟨IM0, S⟩ := h
  obtain ⟨⟨a1, a2, a3, a4, a5, a6, a7⟩, ⟨b1, b2, b3, b4⟩, ⟨c1, c2⟩, hd, he, hk⟩ := S
  have k1 : KC f y (nfY y f m num row) := ⟨fun k hk => nfY_k (by omega), nfY_k (by decide), ⟨by rw [nfY_k (by decide)], by rw [nfY_k (by decide)], by simp [nfY_2], by simp [nfY_2], by rw [nfY_k (by decide)]; exact Or.inl rfl⟩, fun i hi => ⟨nfY_f (by omega) (by decide), nfY_f (by omega) (by decide), nfY_f (by omega) (by decide)⟩⟩
  have k2 : KR f z (mkZ z f m num row cl) := by
    refine ⟨⟨fun k hk => mkZ_k (by omega), fun k h1 h2 => mkZ_k (by omega), by simp [mkZ_30], by simp [mkZ_30], by simp [mkZ_80], by simp [mkZ_80]⟩, ⟨fun i hi => ?_, fun j hj => ?_, fun j hj => ?_⟩, ⟨by simp [mkZ_30], by simp [mkZ_30]⟩, fun i hi => ?_⟩
    · obtain ⟨q1, q2, q3, q4, q5⟩ := mkZ_1 (z := z) (f := f) (m := m) (num := num) (row := row) (cl := cl) (j := i)
      have hne : i ≠ f := by omega
      rw [if_neg hne] at q1 q2 q3 q4 q5
      exact ⟨q1, q2, q3, q4, by rw [mkZ_k (by decide)], by rw [mkZ_k (by decide)], by rw [mkZ_k (by decide)]⟩
    · rw [mkZ_59, if_neg (by omega), if_neg (by omega)]
    · rw [mkZ_60, if_neg (by omega), if_neg (by omega)]
    · obtain ⟨q1, q2, q3, q4, q5⟩ := mkZ_1 (z := z) (f := f) (m := m) (num := num) (row := row) (cl := cl) (j := i)
      rw [if_neg (by omega)] at q5
      exact ⟨q5, by rw [mkZ_k (by decide)]⟩
  refine ⟨⟨?_, ?_⟩, k1, k2, fun hSF => ?_, fun hIF hm hrow => ?_⟩
  · unfold IM at IM0 ⊢
    rw [nfY_k (k := 4) (by decide), nfY_k (k := 5) (by decide), nfY_k (k := 7) (by decide), nfY_k (k := 8) (by decide)]
    exact IM0
  · unfold SG
    rw [nfY_k (k := 4) (by decide), nfY_k (k := 5) (by decide), nfY_k (k := 7) (by decide), nfY_k (k := 8) (by decide), nfY_k (k := 9) (by decide), nfY_k (k := 6) (by decide), nfY_k (k := 3) (by decide), mkZ_k (k := 72) (by decide), mkZ_k (k := 71) (by decide), mkZ_k (k := 70) (by decide), mkZ_k (k := 73) (by decide), mkZ_k (k := 81) (by decide), mkZ_k (k := 82) (by decide), mkZ_k (k := 83) (by decide)]
    simp only [mkZ_80, mkZ_30, nfY_2]
    refine ⟨⟨a1, a2, a3, a4, a5, a6, a7⟩, ⟨?_, b2, b3, ?_⟩, ⟨c1, c2⟩, hd, he, hk⟩
    · simp [b1]
    · simp only [if_true]
      rw [b4]
      rcases i32_le_or_lt (nI (f + 1)) (y 2 0 5) with q | q
      · rw [if_pos q, if_neg (Int32.not_lt.mpr q)]
      · rw [if_neg (Int32.not_le.mpr q), if_pos q]
  · intro i hi
    by_cases hif : i = f
    · subst hif
      obtain ⟨q1, q2, -⟩ := mkZ_1 (z := z) (f := i) (m := m) (num := num) (row := row) (cl := cl) (j := i)
      rw [if_pos rfl] at q1 q2
      obtain ⟨p1, p2, -⟩ := nfY_12 (y := y) (f := i) (m := m) (num := num) (row := row)
      refine ⟨q1.trans p1.symm, q2.trans p2.symm, fun j hj => ?_, fun j hj => ?_⟩
      · rw [mkZ_59, nfY_13 hj]
        by_cases h0 : j = 0
        · subst h0; rw [if_pos (by omega), if_pos rfl]
        · rw [if_neg (by omega), if_neg h0, if_pos (by omega)]
      · rw [mkZ_60, nfY_14 hj]
        by_cases h0 : j = 0
        · subst h0; rw [if_pos (by omega), if_pos rfl]
        · rw [if_neg (by omega), if_neg h0, if_pos (by omega)]
    · exact (hSF.kc k1 k2.2.1 (Nat.le_refl f)) i (by omega)
  · intro i hi
    by_cases hif : i = f
    · subst hif
      obtain ⟨p1, p2, -⟩ := nfY_12 (y := y) (f := i) (m := m) (num := num) (row := row)
      rw [p1, p2]
      refine ⟨hm, isN.of (n := 0) (by omega) (by omega), fun j hj => ?_⟩
      rw [nfY_14 hj, nfY_k (k := 5) (by decide)]
      by_cases h0 : j = 0
      · rw [if_pos h0]; exact hrow
      · rw [if_neg h0]; exact Or.inl rfl
    · exact (hIF.kc k1 (Nat.le_refl f) (by rw [nfY_k (k := 5) (by decide)]; exact Nat.le_refl _)) i (by omega)
theorem mk_pair {y z : st} {f : Nat} {m num row cl : Int32} (h : DG y z) :
    DG (nfY y f m num row) (mkZ z f m num row cl) ∧ KC f y (nfY y f m num row) ∧ KR f z (mkZ z f m num row cl) ∧
    (SF f y z → SF (f + 1) (nfY y f m num row) (mkZ z f m num row cl)) ∧
    (IF f y → isN m 7 → (row = -3 ∨ (isN row 600 ∧ nv row < nv (y 5 0 4))) → IF (f + 1) (nfY y f m num row)) := by
  obtain ⟨h1, h2⟩ := mk_pair0 (f := f) (m := m) (num := num) (row := row) (cl := cl) h.1
  refine ⟨⟨h1, ?_⟩, h2⟩
  have := h.2
  unfold IC stp at this ⊢
  rw [nfY_k (k := 4) (by decide), nfY_2]
  simpa using this
