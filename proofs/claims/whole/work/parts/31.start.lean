/-! a CLEAN's FRAME begins, both sides at once -/
theorem cntY_k {y : st} {n : Int32} {k : Nat} (h : k ≠ 4) : cntY y n k = y k := by
  unfold cntY
  split <;> exact sx_k _ h
theorem cntZ_k {z : st} {n : Int32} {k : Nat} (h : k ≠ 80) : cntZ z n k = z k := by
  unfold cntZ
  split <;> exact sx_k _ h
theorem rem_k {y y' : st} (h : y' 4 = y 4) : rem y' = rem y := by unfold rem; rw [h]
theorem start_clean {y z : st} {f m c : Nat} (hIP : IP y) (hSP : SP y z) (hDG : DG y z) (hIF : IF (f + 1) y) (hSF : SF (f + 1) y z) (hf : f + 1 < 12) (hm : y 12 f 2 = nI m) (hm8 : m < 8) (hc : c < nv (y 23 m 2)) (hc6 : c < 6) (h67 : z 67 0 f = nI c) (h66 : z 66 0 f = y 12 f 5) (h16 : z 30 0 16 = nI (f + 1)) (hfit : fitY y 1) :
    ∃ z4, f_X11_counts z = some (1, cntZ z 1) ∧ f_X11_runsClean (nI f) (cntZ z 1) = some (1, z4) ∧ IP (cfY y f m c) ∧ SP (cfY y f m c) z4 ∧ DG (cfY y f m c) z4 ∧ IF (f + 2) (cfY y f m c) ∧ SF (f + 2) (cfY y f m c) z4 ∧ KC f y (cfY y f m c) ∧ KR f z z4 ∧
      (z4 30 0 16 = nI (f + 2) ∧ z4 30 0 36 = z 30 0 36 ∧ z4 62 0 (f + 1) = 0 ∧ z4 61 0 (f + 1) = 1) ∧
      (z4 57 0 f = z 57 0 f ∧ z4 58 0 f = z 58 0 f ∧ z4 61 0 f = z 61 0 f ∧ z4 62 0 f = z 62 0 f ∧ z4 63 0 f = z 63 0 f ∧ z4 64 0 f = z 64 0 f ∧ z4 65 0 f = z 65 0 f) ∧
      (z4 66 0 f = cfY y f m c 12 f 5 ∧ z4 67 0 f = nI c - 1) ∧
      (cfY y f m c 12 f 2 = y 12 f 2 ∧ cfY y f m c 12 f 3 = y 12 f 3 ∧ cfY y f m c 13 f = y 13 f ∧ cfY y f m c 14 f = y 14 f) ∧
      (rem (cfY y f m c) + 1 = rem y ∧ cfY y f m c 4 0 6 = y 4 0 6 ∧ cfY y f m c 5 = y 5) := by
  obtain ⟨d1, kc1, kr1, r1, s1, k1, e46, e45⟩ := cnt_pair (n := 1) hDG (by omega) hfit
  rw [show nI 1 = (1 : Int32) from rfl] at d1 kc1 kr1 r1 s1 k1 e46 e45
  have hSFf := hSF f (by omega)
  have e57 : z 57 0 f = nI m := hSFf.1.trans hm
  -- what the CLEAN says
  have ecl := (hSP m hm8).2.2.2 c hc
  have e54 : z 54 0 (6 * m + c) = y 20 (6 * m + c) 2 := ecl 2 (by omega)
  have e59 : z 59 0 (6 * f) = y 13 f 0 := hSFf.2.2.1 0 (by omega)
  have e60 : z 60 0 (3 * f) = y 14 f 0 := hSFf.2.2.2 0 (by omega)
  have hby : isN (y 20 (6 * m + c) 2) 7 := ((hIP m hm8).2.2.2.2 c hc).2
  -- the FRAME
  obtain ⟨d2, kc2, kr2, sf2, if2⟩ := mk_pair (f := f + 1) (m := y 20 (6 * m + c) 2) (num := y 13 f 0) (row := y 14 f 0) (cl := 1) d1
  have hSF1 : SF (f + 1) (cntY y 1) (cntZ z 1) := hSF.kc (kc1 (f + 1)) (kr1 (f + 1)).2.1 (Nat.le_refl _)
  have hIF1 : IF (f + 1) (cntY y 1) := hIF.kc (kc1 (f + 1)) (Nat.le_refl _) (by rw [k1 5 (by decide)]; exact Nat.le_refl _)
  have sf2' := sf2 hSF1
  have if2' := if2 hIF1 hby (by rw [k1 5 (by decide)]; exact (hIF f (by omega)).2.2 0 (by omega))
  generalize hy2 : nfY (cntY y 1) (f + 1) (y 20 (6 * m + c) 2) (y 13 f 0) (y 14 f 0) = y2 at d2 kc2 kr2 sf2' if2'
  generalize hz2 : mkZ (cntZ z 1) (f + 1) (y 20 (6 * m + c) 2) (y 13 f 0) (y 14 f 0) 1 = z2 at d2 kc2 kr2 sf2' if2'
  have y2_12 : y2 12 f = y 12 f := by rw [← hy2, nfY_f (by omega) (by decide), k1 12 (by decide)]
  have z2f : z2 57 0 f = z 57 0 f ∧ z2 66 0 f = z 66 0 f ∧ z2 67 0 f = z 67 0 f := by
    obtain ⟨-, ka, -, kb⟩ := (kr1 (f + 1)).tr kr2
    exact ⟨(ka.1 f (by omega)).1, (kb f (by omega)).1, (kb f (by omega)).2⟩
  have y2_2 : y2 2 0 3 = y 2 0 3 := by rw [← hy2, nfY_2]; simp [k1 2 (by decide)]
  have st2 : stp y2 = stp y + 1 := by
    unfold stp at s1 ⊢
    rw [← hy2, nfY_k (k := 4) (by decide)]; exact s1
  obtain ⟨d3, kc3, kr3, sf3, if3, q66, q67⟩ := rc_fin (f := f) (c := c) (b := y 20 (6 * m + c) 2) (d := nI (f + 2)) d2 (by rw [y2_2, st2]; have := hDG.2.2; omega) (by rw [z2f.1, y2_12]; exact hSFf.1) (by rw [z2f.2.1, y2_12]; exact h66) (by rw [z2f.2.2]; exact h67)
  have hcf : cfY y f m c = rcY y2 f c (y 20 (6 * m + c) 2) (nI (f + 2)) := by unfold cfY; rw [hy2]
  have kcA : KC f y (cfY y f m c) := by rw [hcf]; exact ((kc1 f).tr (kc2.lo (by omega))).tr kc3
  have krA : KR f z (rcZ z2 f (y 20 (6 * m + c) 2) (z2 57 0 f) (nI (f + 2))) := ((kr1 f).tr (kr2.lo (by omega))).tr kr3
  have z30 : ∀ j, rcZ z2 f (y 20 (6 * m + c) 2) (z2 57 0 f) (nI (f + 2)) 30 0 j = if j = 16 then nI (f + 2) else z 30 0 j := by
    intro j
    rw [rcZ_k (by decide), ← hz2, mkZ_30, cntZ_k (by decide)]
  refine ⟨rcZ z2 f (y 20 (6 * m + c) 2) (z2 57 0 f) (nI (f + 2)), ?_, ?_, hIP.kc kcA, hSP.kc kcA krA.1, by rw [hcf]; exact d3, by rw [hcf]; exact if3 _ if2', by rw [hcf]; exact sf3 _ sf2', kcA, krA, ⟨by rw [z30]; simp, by rw [z30]; simp, ?_, ?_⟩, ⟨?_, ?_, ?_, ?_, ?_, ?_, ?_⟩, ⟨by rw [hcf]; exact q66, q67⟩, ⟨?_, ?_, ?_, ?_⟩, ⟨?_, ?_, ?_⟩⟩
  · exact counts_of (take_fit ((fit_eq hDG.1.2).mpr hfit)) (Or.inr rfl)
  · have h80 : (cntZ z 1) 80 0 5 = z 80 0 5 := by unfold cntZ; split <;> simp [sx_app]
    have := runsClean_eq (z := cntZ z 1) (f := f) (m := m) (c := c) hf (by rw [cntZ_k (by decide)]; exact e57) hm8 (by rw [cntZ_k (by decide)]; exact h67) hc6 (by rw [cntZ_k (by decide)]; exact h16) (by rw [h80, hDG.1.2.2.1.2.1]; exact hDG.2.1)
    rw [this]
    have e1 : (cntZ z 1) 54 0 (6 * m + c) = y 20 (6 * m + c) 2 := by rw [cntZ_k (by decide)]; exact e54
    have e2 : (cntZ z 1) 59 0 (6 * f) = y 13 f 0 := by rw [cntZ_k (by decide)]; exact e59
    have e3 : (cntZ z 1) 60 0 (3 * f) = y 14 f 0 := by rw [cntZ_k (by decide)]; exact e60
    have e4 : (cntZ z 1) 57 0 f = z2 57 0 f := by rw [cntZ_k (by decide), z2f.1]
    rw [e1, e2, e3, e4, hz2]
  · rw [rcZ_k (by decide), ← hz2, mkZ_1.2.2.2.1, if_pos rfl]
  · rw [rcZ_k (by decide), ← hz2, mkZ_1.2.2.1, if_pos rfl]
  · rw [rcZ_k (by decide), ← hz2, mkZ_1.1, if_neg (by omega), cntZ_k (by decide)]
  · rw [rcZ_k (by decide), ← hz2, mkZ_1.2.1, if_neg (by omega), cntZ_k (by decide)]
  · rw [rcZ_k (by decide), ← hz2, mkZ_1.2.2.1, if_neg (by omega), cntZ_k (by decide)]
  · rw [rcZ_k (by decide), ← hz2, mkZ_1.2.2.2.1, if_neg (by omega), cntZ_k (by decide)]
  · rw [rcZ_k (by decide), ← hz2, mkZ_k (by decide), cntZ_k (by decide)]
  · rw [rcZ_k (by decide), ← hz2, mkZ_k (by decide), cntZ_k (by decide)]
  · rw [rcZ_k (by decide), ← hz2, mkZ_k (by decide), cntZ_k (by decide)]
  · rw [hcf, rcY_12, if_neg (by omega), y2_12]
  · rw [hcf, rcY_12, if_neg (by omega), y2_12]
  · rw [hcf, rcY_k (by decide), ← hy2, nfY_f (by omega) (by decide), k1 13 (by decide)]
  · rw [hcf, rcY_k (by decide), ← hy2, nfY_f (by omega) (by decide), k1 14 (by decide)]
  · rw [← r1, rem_k (y := cntY y 1) (by rw [hcf, rcY_k (by decide), ← hy2, nfY_k (by decide)])]
  · rw [hcf, rcY_k (by decide), ← hy2, nfY_k (by decide), e46]
  · rw [hcf, rcY_k (by decide), ← hy2, nfY_k (by decide), k1 5 (by decide)]
