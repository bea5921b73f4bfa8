theorem nI_nm3 {g : Nat} (h : g < 2 ^ 31) : ¬ nI g = (-3) := by
  intro q
  have := nI_pos (n := g) h
  rw [q] at this
  exact this (by decide)
/-! a NUMBER is set on both sides; what an ACT throws is answered -/
theorem KC_num {f j : Nat} {y : st} {v : Int32} : KC f y (sx y 13 f j v) := ⟨fun k hk => sx_k _ (by omega), sx_k _ (by decide), ⟨by simp [sx_app], by simp [sx_app]⟩, fun i hi => ⟨by rw [sx_k _ (by decide)], sx_i _ (by omega), by rw [sx_k _ (by decide)]⟩⟩
theorem Qk_num {f j : Nat} {y : st} {v : Int32} : Qk f y (sx y 13 f j v) := ⟨KC_num, by rw [rem_k (y := y) (sx_k _ (by decide))]; exact Nat.le_refl _, by rw [sx_k _ (by decide)]; exact Nat.le_refl _⟩
theorem KR_num {f j : Nat} {z : st} {v : Int32} : KR f z (sx z 59 0 (6 * f + j) v) := by
  refine ⟨⟨fun k hk => sx_k _ (by omega), fun k _ _ => sx_k _ (by omega), by simp [sx_app], by simp [sx_app]⟩, ⟨fun i hi => ⟨?_, ?_, ?_, ?_, ?_, ?_, ?_⟩, fun i hi => ?_, fun i hi => ?_⟩, ⟨?_, ?_⟩, fun i hi => ⟨?_, ?_⟩⟩
  all_goals first | (simp [sx_app]; done) | (simp [sx_app]; omega)
theorem IF_num {f e j : Nat} {y : st} {v : Int32} (h : IF e y) : IF e (sx y 13 f j v) := by
  intro i hi
  rw [sx_k _ (by decide), sx_k _ (by decide), sx_k _ (by decide)]
  exact h i hi
theorem SF_num {f j : Nat} {y z : st} {v : Int32} (hj : j < 6) (h : SF (f + 1) y z) : SF (f + 1) (sx y 13 f j v) (sx z 59 0 (6 * f + j) v) := by
  intro i hi
  obtain ⟨b1, b2, b3, b4⟩ := h i hi
  refine ⟨?_, ?_, fun q hq => ?_, fun q hq => ?_⟩
  · simpa [sx_app] using b1
  · simpa [sx_app] using b2
  · simp only [sx_app]
    by_cases c : i = f ∧ q = j
    · obtain ⟨rfl, rfl⟩ := c
      simp
    · rw [if_neg (by omega), if_neg (by omega)]
      exact b3 q hq
  · simpa [sx_app] using b4 q hq
theorem DG_num {f j : Nat} {y z : st} {v : Int32} (h : DG y z) : DG (sx y 13 f j v) (sx z 59 0 (6 * f + j) v) := h.k (fun k _ _ h1 _ => sx_k _ h1) (fun k _ h2 => sx_k _ (by omega)) (fun q _ => by rw [sx_k _ (by decide)])
theorem TR_num {f j : Nat} {z : st} {v : Int32} (h : TR f z) : TR f (sx z 59 0 j v) := by
  unfold TR clOK at h ⊢
  rw [sx_k _ (by decide), sx_k _ (by decide)]
  exact h
theorem Wf.num {f m j : Nat} {y z0 z : st} {v : Int32} (hj : j < 6) (h : Wf f m y z0 z) : Wf f m (sx y 13 f j v) z0 (sx z 59 0 (6 * f + j) v) := by
  obtain ⟨hIP, hSP, hDG, hIF, hSF, hm, h5, hK, hTR, h61⟩ := h
  exact ⟨hIP.kc KC_num, hSP.kc KC_num (KR_num (f := f)).1, DG_num hDG, IF_num hIF, SF_num hj hSF, by rw [sx_k _ (by decide)]; exact hm, by rw [sx_k _ (by decide)]; exact h5, hK.tr KR_num, TR_num hTR, by rw [sx_k _ (by decide)]; exact h61⟩
/-- the FRAME goes on, or is at its end -/
def NX (f : Nat) (y' z0 : st) : Prop := (y' 12 f 3 < y' 21 (nv (y' 12 f 2)) 2 ∧ ∃ z3, Rch z0 z3 ∧ DG y' z3 ∧ IF (f + 1) y' ∧ SF (f + 1) y' z3 ∧ KR f z0 z3 ∧ TR f z3 ∧ z3 61 0 f = z0 61 0 f) ∨ (y' 12 f 3 = 48 ∧ G1 f 0 y' z0)
/-- what an ACT comes to -/
def PA (f : Nat) (y z0 : st) (o : Nat) (y' : st) : Prop := Qk f y y' ∧ y' 12 f 2 = y 12 f 2 ∧ ((o = 0 ∧ y' 4 0 6 = y 4 0 6 ∧ (rem y' < rem y ∨ nv (y 12 f 3) < nv (y' 12 f 3)) ∧ NX f y' z0) ∨ (o = 1 ∧ y' 4 0 6 = y 4 0 6 ∧ G1 f (y' 1 0 5) y' z0) ∨ (o = 2 ∧ y' 4 0 6 = y 4 0 6 ∧ T2 f (y' 1 0 6) y' z0) ∨ (o = 3 ∧ y 4 0 6 = 0 ∧ P3 f y' z0) ∨ (o = 4 ∧ P4 y' z0))
/-- a STEP is counted on both sides, in the midst of an ACT -/
theorem Wf.cnt {f m n : Nat} {y z0 z : st} (hn : n ≤ 9) (h : Wf f m y z0 z) (hfit : fitY y (nI n)) : Wf f m (cntY y (nI n)) z0 (cntZ z (nI n)) ∧ Qk f y (cntY y (nI n)) ∧ rem (cntY y (nI n)) + n = rem y ∧ cntY y (nI n) 4 0 6 = y 4 0 6 ∧ stp (cntY y (nI n)) = stp y + n := by
  obtain ⟨hIP, hSP, hDG, hIF, hSF, hm, h5, hK, hTR, h61⟩ := h
  obtain ⟨d1, kc1, kr1, r1, s1, k1, e46, e45⟩ := cnt_pair (n := n) hDG hn hfit
  refine ⟨⟨hIP.kc (kc1 f), hSP.kc (kc1 f) (kr1 f).1, d1, hIF.kc (kc1 (f + 1)) (Nat.le_refl _) (by rw [k1 5 (by decide)]; exact Nat.le_refl _), hSF.kc (kc1 (f + 1)) (kr1 (f + 1)).2.1 (Nat.le_refl _), by rw [k1 12 (by decide)]; exact hm, by rw [k1 12 (by decide)]; exact h5, hK.tr (kr1 f), ?_, by rw [cntZ_k (by decide)]; exact h61⟩, ⟨kc1 f, by omega, by rw [k1 5 (by decide)]; exact Nat.le_refl _⟩, r1, e46, s1⟩
  unfold TR clOK at hTR ⊢
  rw [cntZ_k (by decide), cntZ_k (by decide)]
  exact hTR
/-- a STEP is refused on both sides, in the midst of an ACT -/
theorem Wf.no {f m : Nat} {y z0 z zr : st} (hf : f < 12) (h : Wf f m y z0 z) (hR0 : Rch z0 zr) (h036 : zr 30 0 36 = 0) (hit : itR zr = f_X11_over z) :
    ∃ o y', f_X5_refuse y = some (o, y') ∧ 0 < o ∧ o < 5 ∧ Qk f y y' ∧ ((o = 3 ∧ y 4 0 6 = 0 ∧ P3 f y' z0) ∨ (o = 4 ∧ P4 y' z0)) := by
  obtain ⟨hIP, hSP, hDG, hIF, hSF, hm, h5, hK, hTR, h61⟩ := h
  rcases refuse_pair hDG hf hTR.1 hSF hIF with ⟨h6, r1, r2⟩ | ⟨h6, r1, r2⟩
  · refine ⟨3, _, r1, by omega, by omega, Qk_stop, Or.inl ⟨rfl, h6, ?_⟩⟩
    exact stop_P3 hDG hIF hSF h6 hK hTR.1 hTR.2.1 (by rw [hTR.2.2.1, if_pos rfl, h5]) h61 (hR0.tr (Rch.hd h036 (hit.trans r2) Rch.rf))
  · refine ⟨4, _, r1, by omega, by omega, Qk_end, Or.inr ⟨rfl, ?_⟩⟩
    exact end_P4 hDG h6 hK.1 (hR0.tr (Rch.hd h036 (hit.trans r2) Rch.rf))
theorem over_some {f m : Nat} {y z0 z : st} (hf : f < 12) (h : Wf f m y z0 z) : ∃ z1, f_X11_over z = some z1 := by
  obtain ⟨hIP, hSP, hDG, hIF, hSF, hm, h5, hK, hTR, h61⟩ := h
  rcases refuse_pair hDG hf hTR.1 hSF hIF with ⟨h6, r1, r2⟩ | ⟨h6, r1, r2⟩
  · exact ⟨_, r2⟩
  · exact ⟨_, r2⟩
theorem sx280 {f m : Nat} {y z0 z : st} (h : Wf f m y z0 z) : Wf f m (sx y 2 0 4 (y 2 0 4 + 1)) z0 (sx z 80 0 6 (z 80 0 6 + 1)) ∧ Qk f y (sx y 2 0 4 (y 2 0 4 + 1)) := by
  obtain ⟨hIP, hSP, ⟨⟨hIM, S⟩, ic⟩, hIF, hSF, hm, h5, hK, hTR, h61⟩ := h
  have kc : ∀ d, KC d y (sx y 2 0 4 (y 2 0 4 + 1)) := fun d => ⟨fun k hk => sx_k _ (by omega), sx_k _ (by decide), ⟨by simp [sx_app], by simp [sx_app]⟩, fun i hi => ⟨by rw [sx_k _ (by decide)], by rw [sx_k _ (by decide)], by rw [sx_k _ (by decide)]⟩⟩
  have kr : ∀ d, KR d z (sx z 80 0 6 (z 80 0 6 + 1)) := by
    intro d
    refine ⟨⟨fun k hk => sx_k _ (by omega), fun k _ _ => sx_k _ (by omega), by simp [sx_app], by simp [sx_app]⟩, ⟨fun i hi => ⟨?_, ?_, ?_, ?_, ?_, ?_, ?_⟩, fun i hi => ?_, fun i hi => ?_⟩, ⟨?_, ?_⟩, fun i hi => ⟨?_, ?_⟩⟩ <;> simp [sx_app]
  refine ⟨⟨hIP.kc (kc f), hSP.kc (kc f) (kr f).1, ⟨⟨?_, ?_⟩, ?_⟩, hIF.kc (kc (f + 1)) (Nat.le_refl _) (by rw [sx_k _ (by decide)]; exact Nat.le_refl _), hSF.kc (kc (f + 1)) (kr (f + 1)).2.1 (Nat.le_refl _), by rw [sx_k _ (by decide)]; exact hm, by rw [sx_k _ (by decide)]; exact h5, hK.tr (kr f), ?_, by rw [sx_k _ (by decide)]; exact h61⟩, ⟨kc f, by rw [rem_k (y := y) (sx_k _ (by decide))]; exact Nat.le_refl _, by rw [sx_k _ (by decide)]; exact Nat.le_refl _⟩⟩
  · unfold IM at hIM ⊢
    rw [sx_k (k' := 4) _ (by decide), sx_k (k' := 5) _ (by decide), sx_k (k' := 7) _ (by decide), sx_k (k' := 8) _ (by decide)]
    exact hIM
  · obtain ⟨⟨a1, a2, a3, a4, a5, a6, a7⟩, ⟨b1, b2, b3, b4⟩, ⟨c1, c2⟩, hd, he, hk⟩ := S
    refine ⟨⟨?_, ?_, ?_, ?_, ?_, ?_, ?_⟩, ⟨?_, ?_, ?_, ?_⟩, ⟨?_, ?_⟩, ?_, ?_, ?_⟩
    · simpa [sx_app] using a1
    · simpa [sx_app] using a2
    · simpa [sx_app] using a3
    · simpa [sx_app] using a4
    · simpa [sx_app] using a5
    · simpa [sx_app] using a6
    · simpa [sx_app] using a7
    · simpa [sx_app] using b1
    · simpa [sx_app] using b2
    · simp [sx_app, b3]
    · simpa [sx_app] using b4
    · simpa [sx_app] using c1
    · simpa [sx_app] using c2
    · simpa [sx_app] using hd
    · simpa [sx_app] using he
    · simpa [sx_app] using hk
  · unfold IC stp at ic ⊢
    simpa [sx_app] using ic
  · unfold TR clOK at hTR ⊢
    rw [sx_k _ (by decide), sx_k _ (by decide)]
    exact hTR
theorem gs_eq {y z : st} {m ng : Nat} {p k : Int32} (hSP : SP y z) (hm8 : m < 8) (hng : y 22 m 2 = nI ng) (hng6 : ng ≤ 6) (hp : isN p 48) : gsF (tZ z m p k) ng 0 = gsF (tY y m p k) ng 0 := by
  apply gsF_cg
  intro j _ hj
  have e := (hSP m hm8).2.2.1 j (by rw [hng, nv_nI (by omega)]; omega)
  have e47 : z 47 0 (6 * m + j) = y 19 (6 * m + j) 0 := e 0 (by omega)
  have e48 : z 48 0 (6 * m + j) = y 19 (6 * m + j) 1 := e 1 (by omega)
  have e49 : z 49 0 (6 * m + j) = y 19 (6 * m + j) 2 := e 2 (by omega)
  have hne : ¬ p = 99 := by
    intro q
    have := hp.2
    rw [q] at this
    have : nv (99 : Int32) = 99 := rfl
    omega
  unfold tZ tY
  rw [e47, e48, e49]
  simp [hne]
theorem answerThrow_sim {pf : Int32 → st → Option (Nat × st)} {f m : Nat} {k : Int32} {y z0 z zr : st} (hf : f < 12) (hpf : f + 1 < 12 → PFs pf (f + 1)) (hm8 : m < 8) (hW : Wf f m y z0 z) (hR0 : Rch z0 zr) (h036 : zr 30 0 36 = 0) (hit : itR zr = f_X11_raise (nI f) k z) :
    ∃ o y', f_X4_answerThrow pf f k (nI (f + 1)) y = some (o, y') ∧ PA f y z0 o y' ∧ (o = 0 → rem y' < rem y) := by
  have hW0 := hW
  obtain ⟨hIP, hSP, hDG, hIF, hSF, hm, h5, hK, hTR, h61⟩ := hW
  have hgd := (hIP m hm8).1.2.1
  have e25 : y 25 m 0 = y 22 m 2 := (hIP m hm8).2.1.2.1
  have e46 : z 46 0 m = y 22 m 2 := (hSP m hm8).1.2.1
  have e57 : z 57 0 f = nI m := (hSF f (by omega)).1.trans hm
  have e58 : z 58 0 f = y 12 f 3 := (hSF f (by omega)).2.1
  have hp : isN (y 12 f 3) 48 := (hIF f (by omega)).2.1
  have hra := raise_eq (k := k) (by omega : f < 13) e57 hm8 (by rw [e46]; exact hgd.1) hgd.2
  rw [e58, gs_eq hSP hm8 hgd.1 hgd.2 hp] at hra
  have hgf := guardFor_eq (p := y 12 f 3) (k := k) hgd.1 hgd.2 (by rw [e25]; exact hgd.1)
  unfold f_X4_answerThrow
  rw [hm, inb_nI hm8 (by decide), if_pos rfl, nI_clamp (by omega)]
  rw [bnd_of hgf]
  cases hg : gsF (tY y m (y 12 f 3) k) (nv (y 22 m 2)) 0 with
  | none =>
    rw [hg] at hra
    obtain ⟨o, y', h1, hQ, hQ2, hc⟩ := throwOut_sim (v := k) hf hpf hm8 hW0 hR0 h036 (hit.trans hra)
    refine ⟨o, y', ?_, ⟨hQ, hQ2, ?_⟩, fun q => by rcases hc with ⟨ho, -⟩ | ⟨ho, -⟩ | ⟨ho, -⟩ <;> omega⟩
    · rw [if_pos (show gres none = (-3) from rfl), bnd_of h1]
    · rcases hc with ⟨ho, e, hT⟩ | ⟨ho, e, hP⟩ | ⟨ho, hP⟩
      · exact Or.inr (Or.inr (Or.inl ⟨ho, e, hT⟩))
      · exact Or.inr (Or.inr (Or.inr (Or.inl ⟨ho, e, hP⟩)))
      · exact Or.inr (Or.inr (Or.inr (Or.inr ⟨ho, hP⟩)))
  | some g =>
    rw [hg] at hra
    obtain ⟨-, hg1, -⟩ := gsF_lt hg
    rw [Nat.zero_add] at hg1
    have hg6 : g < 6 := by have := hgd.2; omega
    obtain ⟨hb0, hb1⟩ := raise_b77 (k := k) (by omega : f < 13) e57 hm8 hg6
    rw [show gres (some g) = nI g from rfl, if_neg (nI_nm3 (by omega))]
    by_cases hfit : fitY y 1
    · have hcz : f_X11_counts z = some (1, cntZ z 1) := counts_of (take_fit ((fit_eq hDG.1.2).mpr hfit)) (Or.inr rfl)
      have hit2 : itR zr = some (raS (cntZ z 1) f m k g) := hit.trans (hra.trans (hb1 hcz))
      obtain ⟨hW1, hQ1, hr1, h461, -⟩ := hW0.cnt (n := 1) (by omega) hfit
      rw [show nI 1 = (1 : Int32) from rfl] at hW1 hQ1 hr1 h461
      obtain ⟨hW2, hQ2⟩ := sx280 hW1
      have e19 : (cntZ z 1) 50 0 (6 * m + g) = y 19 (6 * m + g) 3 := by rw [cntZ_k (by decide)]; exact (hSP m hm8).2.2.1 g hg1 3 (by omega)
      have hat : isN (y 19 (6 * m + g) 3) 48 := (hIP m hm8).2.2.2.1 g hg1
      unfold raS at hit2
      rw [e19, hat.1] at hit2
      rw [bnd_of (count_fit hfit), if_pos (by decide), if_pos rfl, lets_eq]
      rw [sx_k (k' := 25) _ (by decide), cntY_k (k := 25) (by decide), e25, inb_nI (show g < (y 22 m 2).toNatClampNeg from hg1) (nv_lt _), if_pos rfl]
      unfold f_X3_at
      rw [bnd_of rfl, nI_clamp (show g < 2 ^ 31 by omega), sx_k (k' := 19) _ (by decide), cntY_k (k := 19) (by decide)]
      obtain ⟨o, y', h1, hQ, e2, e13, e14, hc⟩ := goOn_sim (a := 3) (v := k) hf hpf hm8 (by have := hat.2; omega) (Or.inr rfl) hW2 hR0 h036 hit2
      rw [← hat.1] at h1
      rw [bnd_of h1]
      have hQA : Qk f y y' := (hQ1.tr hQ2).tr hQ
      have h46A : (sx (cntY y 1) 2 0 4 (cntY y 1 2 0 4 + 1)) 4 0 6 = y 4 0 6 := by rw [sx_k _ (by decide)]; exact h461
      have h12A : (sx (cntY y 1) 2 0 4 (cntY y 1 2 0 4 + 1)) 12 f = y 12 f := by rw [sx_k _ (by decide), cntY_k (by decide)]
      have hrA : rem y' < rem y := by
        have a1 := hQ.2.1
        rw [rem_k (y := cntY y 1) (sx_k _ (by decide))] at a1
        omega
      rcases hc with ⟨ho, e6, e3, hgo⟩ | ⟨ho, e6, hT⟩ | ⟨ho, e6, hP⟩ | ⟨ho, hP⟩
      · subst ho
        rw [if_pos (by decide), if_pos rfl, i_5_6, if_pos rfl, lets_eq, c5]
        refine ⟨0, _, rfl, ⟨hQA.tr Qk_num, by rw [sx_k _ (by decide), e2, h12A], Or.inl ⟨rfl, ?_, ?_, ?_⟩⟩, fun _ => by rw [rem_k (y := y') (sx_k _ (by decide))]; exact hrA⟩
        · rw [sx_k _ (by decide), e6, h46A]
        · left; rw [rem_k (y := y') (sx_k _ (by decide))]; exact hrA
        · rcases hgo with ⟨g1, z1, z3, g2, g3, g4, g5, g6, g7, g8, g9, g10⟩ | ⟨g1, g2, g3⟩
          · left
            rw [if_pos rfl] at g4
            refine ⟨?_, sx z3 59 0 (6 * f + 5) k, g2.tr (Rch.hd g3 g4 Rch.rf), DG_num g5, IF_num g6, SF_num (by omega) g7, g8.tr KR_num, TR_num g9, by rw [sx_k _ (by decide)]; exact g10⟩
            rw [sx_k _ (by decide), sx_k _ (by decide)]; exact g1
          · right
            refine ⟨by rw [sx_k _ (by decide)]; exact g1, ?_⟩
            obtain ⟨z1, zp, q1, q2, q3, q4, q5, q6, q7, q8⟩ := g3
            exact ⟨z1, zp, q1, q2, q3, q4.k (fun k _ _ h1 _ => sx_k _ h1) (fun _ _ _ => rfl) (fun _ _ => rfl), q5, q6, q7, q8⟩
      · subst ho
        rw [if_pos (by decide), if_neg (by decide)]
        exact ⟨2, y', rfl, ⟨hQA, by rw [e2, h12A], Or.inr (Or.inr (Or.inl ⟨rfl, e6.trans h46A, hT⟩))⟩, fun q => by cases q⟩
      · subst ho
        rw [if_pos (by decide), if_neg (by decide)]
        exact ⟨3, y', rfl, ⟨hQA, by rw [e2, h12A], Or.inr (Or.inr (Or.inr (Or.inl ⟨rfl, h46A ▸ e6, hP⟩)))⟩, fun q => by cases q⟩
      · subst ho
        rw [if_pos (by decide), if_neg (by decide)]
        exact ⟨4, y', rfl, ⟨hQA, by rw [e2, h12A], Or.inr (Or.inr (Or.inr (Or.inr ⟨rfl, hP⟩)))⟩, fun q => by cases q⟩
    · obtain ⟨zo, hzo⟩ := over_some hf hW0
      have hcz : f_X11_counts z = some (0, zo) := counts_of (take_over (fun q => hfit ((fit_eq hDG.1.2).mp q)) hzo) (Or.inl rfl)
      obtain ⟨o, y', h1, ho0, ho5, hQ, hc⟩ := hW0.no hf hR0 h036 (hit.trans (hra.trans ((hb0 _ hcz).trans hzo.symm)))
      rw [bnd_of (count_no hfit h1), if_pos ho5, if_neg (by omega)]
      refine ⟨o, y', rfl, ⟨hQ, ?_, ?_⟩, fun q => by omega⟩
      · rcases hDG.1.1.1.2.2.2.2.2 with h6 | h6
        · rw [refuse_0 h6] at h1; cases h1; rw [sx_k _ (by decide)]
        · rw [refuse_1 (by rw [h6]; decide)] at h1; cases h1; rw [sx_k _ (by decide)]
      rcases hc with ⟨ho, e, hP⟩ | ⟨ho, hP⟩
      · exact Or.inr (Or.inr (Or.inr (Or.inl ⟨ho, e, hP⟩)))
      · exact Or.inr (Or.inr (Or.inr (Or.inr ⟨ho, hP⟩)))
