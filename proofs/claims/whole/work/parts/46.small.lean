/-! the small calls: both sides -/
theorem latest_in {z : st} {j : Nat} (hj : j ≤ 8) : f_X11_latest (nI j) z = some (z 80 0 j, z) := by
  have hin : ¬ (nI j < 0 ∨ 8 < nI j) := by
    intro c
    rcases c with c | c
    · exact nI_pos (by omega) c
    · rw [n8, nI_ltI (by decide) (by omega)] at c; omega
  unfold f_X11_latest
  rw [bnd_of in_eq, if_neg hin, if_neg (by decide), inb_nI (show j < 9 by omega) (by decide), if_pos rfl, nI_clamp (by omega)]
theorem latest_pair {y z : st} {a : Int32} (h : Sim y z) : ∃ r, f_X10_latest a y = some (r, y) ∧ f_X11_latest a z = some (r, z) := by
  obtain ⟨-, -, -, ⟨e0, e1, e2, e3, e4, e5, e6, e7, e8⟩, ⟨h02, -⟩, -⟩ := h
  by_cases hin : a < 0 ∨ 8 < a
  · refine ⟨-1, ?_, ?_⟩
    · unfold f_X10_latest
      rw [if_neg (fun q => by subst q; revert hin; decide), if_neg (fun q => by subst q; revert hin; decide), if_neg (fun q => by subst q; revert hin; decide), if_neg (fun q => by subst q; revert hin; decide), if_neg (fun q => by subst q; revert hin; decide), if_neg (fun q => by subst q; revert hin; decide), if_neg (fun q => by subst q; revert hin; decide), if_neg (fun q => by subst q; revert hin; decide), if_neg (fun q => by subst q; revert hin; decide)]
    · unfold f_X11_latest
      rw [bnd_of in_eq, if_pos hin, if_pos rfl]
  · obtain ⟨j, hj, rfl⟩ := nI_of (fun q => hin (Or.inl q))
    have hj8 : j ≤ 8 := by
      have : ¬ (8 : Int32) < nI j := fun q => hin (Or.inr q)
      rw [n8, nI_ltI (by decide) (by omega)] at this
      omega
    rw [latest_in hj8]
    have hc : j = 0 ∨ j = 1 ∨ j = 2 ∨ j = 3 ∨ j = 4 ∨ j = 5 ∨ j = 6 ∨ j = 7 ∨ j = 8 := by omega
    rcases hc with rfl | rfl | rfl | rfl | rfl | rfl | rfl | rfl | rfl
    · exact ⟨y 2 0 0, rfl, by rw [e0]⟩
    · exact ⟨y 2 0 1, rfl, by rw [e1]⟩
    · exact ⟨y 4 0 0, rfl, by rw [e2]⟩
    · exact ⟨y 4 0 1, rfl, by rw [e3]⟩
    · exact ⟨y 2 0 2, rfl, by rw [e4]⟩
    · exact ⟨y 2 0 3, rfl, by rw [e5]⟩
    · exact ⟨y 2 0 4, rfl, by rw [e6]⟩
    · refine ⟨y 4 0 2, ?_, by rw [e7]⟩
      unfold f_X10_latest
      rw [if_neg (by decide), if_neg (by decide), if_neg (by decide), if_neg (by decide), if_neg (by decide), if_neg (by decide), if_neg (by decide), if_pos (by decide)]
      rcases h02 with q | q
      · rw [q, if_pos rfl]
      · rw [q, if_neg (by decide)]
    · exact ⟨y 2 0 5, rfl, by rw [e8]⟩
theorem Sim.res {y z : st} {a : Int32} (h : Sim y z) (ha : isN a 100) : Sim (sx y 0 0 1 a) (sx z 30 0 15 a) := by
  obtain ⟨h1, h2, h3, h4, h5, h6⟩ := h
  refine ⟨?_, ?_, ⟨by simp [sx_app], by simp [sx_app]; exact ha⟩, ?_, ?_, ?_⟩
  · intro m hm
    rw [sx_k (k' := 21) _ (by decide), sx_k (k' := 22) _ (by decide), sx_k (k' := 23) _ (by decide), sx_k (k' := 24) _ (by decide), sx_k (k' := 25) _ (by decide), sx_k (k' := 26) _ (by decide), sx_k (k' := 18) _ (by decide), sx_k (k' := 19) _ (by decide), sx_k (k' := 20) _ (by decide)]
    exact h1 m hm
  · intro m hm
    rw [sx_k (k' := 21) _ (by decide), sx_k (k' := 22) _ (by decide), sx_k (k' := 23) _ (by decide), sx_k (k' := 18) _ (by decide), sx_k (k' := 19) _ (by decide), sx_k (k' := 20) _ (by decide), sx_k (k' := 40) _ (by decide), sx_k (k' := 46) _ (by decide), sx_k (k' := 51) _ (by decide)]
    obtain ⟨q1, q2, q3, q4⟩ := h2 m hm
    refine ⟨q1, fun j hj s hs => ?_, fun j hj s hs => ?_, fun j hj s hs => ?_⟩
    · rw [sx_k (k' := 41 + s) _ (by omega)]; exact q2 j hj s hs
    · rw [sx_k (k' := 47 + s) _ (by omega)]; exact q3 j hj s hs
    · rw [sx_k (k' := 52 + s) _ (by omega)]; exact q4 j hj s hs
  · rw [sx_k (k' := 80) _ (by decide), sx_k (k' := 2) _ (by decide), sx_k (k' := 4) _ (by decide)]; exact h4
  · rw [sx_k (k' := 2) _ (by decide), sx_k (k' := 4) _ (by decide)]; exact h5
  · unfold AR at h6 ⊢
    rw [sx_k (k' := 72) _ (by decide), sx_k (k' := 71) _ (by decide), sx_k (k' := 70) _ (by decide), sx_k (k' := 73) _ (by decide), sx_k (k' := 81) _ (by decide), sx_k (k' := 82) _ (by decide), sx_k (k' := 83) _ (by decide), sx_k (k' := 7) _ (by decide), sx_k (k' := 8) _ (by decide), sx_k (k' := 9) _ (by decide), sx_k (k' := 6) _ (by decide), sx_k (k' := 3) _ (by decide)]
    exact h6
theorem res10 {y : st} {a : Int32} : f_X10_reserve a y = if a < 0 ∨ 101 ≤ a then some (-1, y) else some (y 0 0 1, sx y 0 0 1 a) := by
  unfold f_X10_reserve
  rw [bnd_of within_eq]
  by_cases h : a < 0 ∨ 101 ≤ a
  · rw [if_pos h, if_pos rfl, if_pos h]
  · rw [if_neg h, if_neg (by decide), if_neg h, lets_eq]
theorem res11 {z : st} {a : Int32} : f_X11_reserve a z = if a < 0 ∨ 101 ≤ a then some (-1, z) else some (z 30 0 15, sx z 30 0 15 a) := by
  have hw := in_within (v := a) (a := 100) (by omega)
  change (a < 0 ∨ 100 < a) ↔ (a < 0 ∨ 101 ≤ a) at hw
  unfold f_X11_reserve
  rw [bnd_of in_eq]
  by_cases h : a < 0 ∨ 101 ≤ a
  · rw [if_pos (hw.mpr h), if_pos rfl, if_pos h]
  · rw [if_neg (fun q => h (hw.mp q)), if_neg (by decide), if_neg h, lets_eq]
theorem reserve_pair {y z : st} {a : Int32} (h : Sim y z) : ∃ r y' z', f_X10_reserve a y = some (r, y') ∧ f_X11_reserve a z = some (r, z') ∧ Sim y' z' ∧ (∀ k, 15 ≤ k → y' k = y k) ∧ (∀ k, k < 30 → z' k = z k) := by
  rw [res10, res11]
  by_cases hin : a < 0 ∨ 101 ≤ a
  · rw [if_pos hin, if_pos hin]
    exact ⟨_, _, _, rfl, rfl, h, fun _ _ => rfl, fun _ _ => rfl⟩
  · rw [if_neg hin, if_neg hin, h.2.2.1.1]
    obtain ⟨j, hj, rfl⟩ := nI_of (fun q => hin (Or.inl q))
    have hj8 : j ≤ 100 := by
      have : ¬ (101 : Int32) ≤ nI j := fun q => hin (Or.inr q)
      rw [show (101 : Int32) = nI 101 from rfl, nI_leI (by decide) (by omega)] at this
      omega
    exact ⟨_, _, _, rfl, rfl, h.res (isN.of hj8 (by omega)), fun k hk => sx_k _ (by omega), fun k hk => sx_k _ (by omega)⟩
theorem inc {v : Int32} {a : Nat} (ha : a < 1000) (h : ¬ (v < 0 ∨ nI (a + 1) ≤ v)) : ∃ j, j ≤ a ∧ v = nI j := by
  obtain ⟨j, hj, rfl⟩ := nI_of (fun q => h (Or.inl q))
  have : ¬ nI (a + 1) ≤ nI j := fun q => h (Or.inr q)
  rw [nI_leI (by omega) (by omega)] at this
  exact ⟨j, by omega, rfl⟩
theorem isMethod_eq {m : Int32} {z : st} : f_X11_isMethod m z = some (if m < 0 ∨ 8 ≤ m then 0 else 1, z) := by
  have hmw := in_within (v := m) (a := 7) (by omega)
  change (m < 0 ∨ 7 < m) ↔ (m < 0 ∨ 8 ≤ m) at hmw
  unfold f_X11_isMethod
  rw [bnd_of in_eq]
  by_cases h : m < 0 ∨ 8 ≤ m
  · rw [if_pos (hmw.mpr h), if_pos h]; rfl
  · rw [if_neg (fun q => h (hmw.mp q)), if_neg h]; rfl
theorem inW {v : Int32} {a : Nat} (ha : a < 1000) {z : st} : f_X11_in v 0 (nI a) z = some (if v < 0 ∨ nI (a + 1) ≤ v then 0 else 1, z) := by
  rw [in_eq]
  by_cases h : v < 0 ∨ nI (a + 1) ≤ v
  · rw [if_pos ((in_within ha).mpr h), if_pos h]
  · rw [if_neg (fun q => h ((in_within ha).mp q)), if_neg h]
theorem told_pair {y z : st} {m a : Int32} (h : Sim y z) : ∃ r, f_X10_told m a y = some (r, y) ∧ f_X11_told m a z = some (r, z) := by
  by_cases hm : m < 0 ∨ 8 ≤ m
  · refine ⟨-1, ?_, ?_⟩
    · unfold f_X10_told
      rw [bnd_of within_eq, if_pos hm, if_pos rfl]
    · unfold f_X11_told f_X11_told_b16
      rw [bnd_of isMethod_eq, if_pos hm, if_pos rfl]
  · obtain ⟨j, hj, rfl⟩ := inc (a := 7) (by omega) hm
    obtain ⟨e40, e46, e51⟩ := (h.2.1 j (by omega)).1
    have hz : ∀ a, f_X11_told (nI j) a z = if a < 0 ∨ 3 ≤ a then some (-1, z) else if a = 0 then some (y 21 j 2, z) else if a = 1 then some (y 22 j 2, z) else some (y 23 j 2, z) := by
      intro a
      unfold f_X11_told f_X11_told_b16
      rw [bnd_of isMethod_eq, if_neg hm, if_neg (by decide), show (2 : Int32) = nI 2 from rfl, bnd_of (inW (by omega)), inb_nI (show j < 8 by omega) (by decide), if_pos rfl, if_pos rfl, if_pos rfl, nI_clamp (by omega), e40, e46, e51]
      by_cases ha : a < 0 ∨ 3 ≤ a
      · rw [if_pos (show a < 0 ∨ nI (2 + 1) ≤ a from ha), if_pos rfl, if_pos ha]
      · rw [if_neg (show ¬ (a < 0 ∨ nI (2 + 1) ≤ a) from ha), if_neg (by decide), if_neg ha]
    have hy : ∀ a, f_X10_told (nI j) a y = if a = 0 then some (y 21 j 2, y) else if a = 1 then some (y 22 j 2, y) else if a = 2 then some (y 23 j 2, y) else some (-1, y) := by
      intro a
      unfold f_X10_told
      rw [bnd_of within_eq, if_neg hm, if_neg (by decide), inb_nI (show j < 8 by omega) (by decide), if_pos rfl, if_pos rfl, if_pos rfl, nI_clamp (by omega)]
    rw [hz, hy]
    by_cases ha : a < 0 ∨ 3 ≤ a
    · rw [if_pos ha, if_neg (fun q => by subst q; revert ha; decide), if_neg (fun q => by subst q; revert ha; decide), if_neg (fun q => by subst q; revert ha; decide)]
      exact ⟨_, rfl, rfl⟩
    · rw [if_neg ha]
      obtain ⟨q, hq, rfl⟩ := inc (a := 2) (by omega) ha
      have hc : q = 0 ∨ q = 1 ∨ q = 2 := by omega
      rcases hc with rfl | rfl | rfl
      · exact ⟨_, rfl, rfl⟩
      · exact ⟨_, rfl, rfl⟩
      · exact ⟨_, rfl, rfl⟩
theorem cleaned_pair {y z : st} {k a : Int32} (h : Sim y z) : ∃ r, f_X10_cleaned k a y = some (r, y) ∧ f_X11_cleaned k a z = some (r, z) := by
  obtain ⟨-, -, -, ⟨-, -, -, -, -, e5, -, -, -⟩, ⟨-, hcl⟩, -, -, hk⟩ := h
  by_cases hk0 : k < 0
  · refine ⟨-1, ?_, ?_⟩
    · unfold f_X10_cleaned f_X10_cleaned_b12
      rw [if_pos hk0]
    · unfold f_X11_cleaned f_X11_cleaned_b13
      rw [if_pos hk0]
  · by_cases ha : a < 0 ∨ 3 ≤ a
    · refine ⟨-1, ?_, ?_⟩
      · unfold f_X10_cleaned f_X10_cleaned_b12
        rw [if_neg hk0, bnd_of within_eq, if_pos ha, if_pos rfl]
      · unfold f_X11_cleaned f_X11_cleaned_b13
        rw [if_neg hk0, show (2 : Int32) = nI 2 from rfl, bnd_of (inW (by omega)), if_pos (show a < 0 ∨ nI (2 + 1) ≤ a from ha), if_pos rfl]
    · obtain ⟨q, hq, rfl⟩ := nI_of hk0
      obtain ⟨w, hw2, rfl⟩ := inc (a := 2) (by omega) ha
      have h1 : (nI q < 0 ∨ (if 100 < y 2 0 3 then (100 : Int32) else y 2 0 3) ≤ nI q) ↔ (nv (y 2 0 3) ≤ q ∨ 100 ≤ q) := by
        have hnn : ¬ nI q < 0 := nI_pos hq
        have h100 : (100 < y 2 0 3) ↔ 100 < nv (y 2 0 3) := by
          conv => lhs; rw [hcl.1, show (100 : Int32) = nI 100 from rfl, nI_ltI (by decide) (nv_lt _)]
        by_cases c : 100 < nv (y 2 0 3)
        · rw [if_pos (h100.mpr c), show (100 : Int32) = nI 100 from rfl, nI_leI (by decide) hq]
          exact ⟨fun d => d.elim (fun e => absurd e hnn) Or.inr, fun d => Or.inr (by omega)⟩
        · rw [if_neg (fun d => c (h100.mp d))]
          have : y 2 0 3 ≤ nI q ↔ nv (y 2 0 3) ≤ q := by
            conv => lhs; rw [hcl.1, nI_leI (nv_lt _) hq]
          rw [this]
          exact ⟨fun d => d.elim (fun e => absurd e hnn) Or.inl, fun d => Or.inr (by omega)⟩
      have hz : f_X11_cleaned (nI q) (nI w) z = if nv (y 2 0 3) ≤ q ∨ 100 ≤ q then some (-3, z) else some (y 3 0 (3 * q + w), z) := by
        have c2 : nI q < (100 : Int32) ↔ q < 100 := by rw [show (100 : Int32) = nI 100 from rfl, nI_ltI hq (by decide)]
        have c1 : y 2 0 3 ≤ nI q ↔ nv (y 2 0 3) ≤ q := by
          conv => lhs; rw [hcl.1, nI_leI (nv_lt _) hq]
        unfold f_X11_cleaned f_X11_cleaned_b31
        rw [if_neg hk0, show (2 : Int32) = nI 2 from rfl, bnd_of (inW (by omega)), if_neg (show ¬ (nI w < 0 ∨ nI (2 + 1) ≤ nI w) from ha), if_neg (by decide), i_5_9, if_pos rfl, c5, e5]
        by_cases d1 : nv (y 2 0 3) ≤ q
        · rw [if_pos (c1.mpr d1), if_pos (Or.inl d1)]
        · rw [if_neg (fun e => d1 (c1.mp e))]
          by_cases d2 : q < 100
          · obtain ⟨k1, k2, k3⟩ := hk q d2
            rw [if_pos (c2.mpr d2), if_neg (show ¬ (nv (y 2 0 3) ≤ q ∨ 100 ≤ q) by omega), inb_nI d2 (by decide), if_pos rfl, if_pos rfl, if_pos rfl, nI_clamp (show q < 2 ^ 31 by omega), k1, k2, k3]
            have hc : w = 0 ∨ w = 1 ∨ w = 2 := by omega
            rcases hc with rfl | rfl | rfl
            · rfl
            · rfl
            · rfl
          · rw [if_neg (fun e => d2 (c2.mp e)), if_pos (Or.inr (by omega))]
      have hy : f_X10_cleaned (nI q) (nI w) y = if nv (y 2 0 3) ≤ q ∨ 100 ≤ q then some (-3, y) else some (y 3 0 (3 * q + w), y) := by
        unfold f_X10_cleaned f_X8_cleanPart f_X8_cleanPart_b24
        rw [if_neg hk0, bnd_of within_eq, if_neg ha, if_neg (by decide), bnd_id, bnd_of within_eq]
        by_cases hin : nv (y 2 0 3) ≤ q ∨ 100 ≤ q
        · rw [if_pos (h1.mpr hin), if_pos rfl, if_pos hin]
        · have e3 : nI q * 3 + nI w = nI (3 * q + w) := by rw [n3, pk_mul, nI_add, Nat.mul_comm]
          rw [if_neg (fun c => hin (h1.mp c)), if_neg (by decide), bnd_of within_eq, if_neg ha, if_neg (by decide), e3, inb_nI (show 3 * q + w < 300 by omega) (by decide), if_pos rfl, nI_clamp (show 3 * q + w < 2 ^ 31 by omega), if_neg hin]
      rw [hy, hz]
      by_cases hin : nv (y 2 0 3) ≤ q ∨ 100 ≤ q
      · rw [if_pos hin, if_pos hin]; exact ⟨_, rfl, rfl⟩
      · rw [if_neg hin, if_neg hin]; exact ⟨_, rfl, rfl⟩
