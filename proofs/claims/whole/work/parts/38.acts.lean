/-! ACTS: both sides -/
/-- what doing an ACT comes to -/
def AP (f m p : Nat) (y z0 : st) (o : Nat) (y6 : st) : Prop := Qk f y y6 ∧ y6 12 f 2 = y 12 f 2 ∧
  ((o = 0 ∧ y6 4 0 6 = y 4 0 6 ∧ ∃ z' zr nx, Rch z0 zr ∧ zr 30 0 36 = 0 ∧ itR zr = some (lvS z' f m (nI nx) 0 0) ∧ Wf f m y6 z0 z' ∧ y6 12 f 4 = nI nx ∧ nx ≤ 49 ∧ (p < nx ∨ rem y6 < rem y)) ∨
   (o = 1 ∧ y6 4 0 6 = y 4 0 6 ∧ ∃ z' zr, Rch z0 zr ∧ zr 30 0 36 = 0 ∧ itR zr = some (lvS z' f m 99 1 (y6 1 0 5)) ∧ Wf f m y6 z0 z') ∨
   (o = 2 ∧ y6 4 0 6 = y 4 0 6 ∧ ∃ z' zr, Rch z0 zr ∧ zr 30 0 36 = 0 ∧ itR zr = f_X11_raise (nI f) (y6 1 0 6) z' ∧ Wf f m y6 z0 z') ∨
   (o = 3 ∧ y 4 0 6 = 0 ∧ P3 f y6 z0) ∨ (o = 4 ∧ P4 y6 z0))
theorem AP.pre {f m p : Nat} {y y1 z0 : st} {o : Nat} {y6 : st} (h : AP f m p y1 z0 o y6) (hQ : Qk f y y1) (h6 : y1 4 0 6 = y 4 0 6) (h2 : y1 12 f 2 = y 12 f 2) : AP f m p y z0 o y6 := by
  obtain ⟨a1, a2, a3⟩ := h
  refine ⟨hQ.tr a1, a2.trans h2, ?_⟩
  rcases a3 with ⟨q1, q2, z', zr, nx, r1, r2, r3, r4, r5, r6, r7⟩ | ⟨q1, q2, q3⟩ | ⟨q1, q2, q3⟩ | ⟨q1, q2, q3⟩ | q
  · exact Or.inl ⟨q1, q2.trans h6, z', zr, nx, r1, r2, r3, r4, r5, r6, r7.imp id (fun c => by have := hQ.2.1; omega)⟩
  · exact Or.inr (Or.inl ⟨q1, q2.trans h6, q3⟩)
  · exact Or.inr (Or.inr (Or.inl ⟨q1, q2.trans h6, q3⟩))
  · exact Or.inr (Or.inr (Or.inr (Or.inl ⟨q1, h6.symm.trans q2, q3⟩)))
  · exact Or.inr (Or.inr (Or.inr (Or.inr q)))
theorem Wf.y1 {f m j : Nat} {v : Int32} {y z0 z : st} (h : Wf f m y z0 z) : Wf f m (sx y 1 0 j v) z0 z := by
  obtain ⟨hIP, hSP, hDG, hIF, hSF, hm, h5, hK, hTR, h61⟩ := h
  have q := y1_same (f := f) (y := y) (j := j) (v := v)
  have q2 := y1_same (f := f + 1) (y := y) (j := j) (v := v)
  refine ⟨hIP.kc q.1.1, hSP.kc q.1.1 K0.rf, q.2 _ hDG, hIF.kc q2.1.1 (Nat.le_refl _) q2.1.2.2, hSF.kc q2.1.1 KA.rf (Nat.le_refl _), by rw [sx_k _ (by decide)]; exact hm, by rw [sx_k _ (by decide)]; exact h5, hK, hTR, h61⟩
theorem bnv_id {o : Option st} : (bnv o fun x => some x) = o := by cases o <;> rfl
theorem bnd_id {α : Type} {o : Option (α × st)} : (bnd o fun r x => some (r, x)) = o := by cases o <;> rfl
/-- the count of THROWS goes up on both sides -/
theorem Wf.thr {f m : Nat} {y z0 z : st} (h : Wf f m y z0 z) (hlt : y 4 0 5 < 24) : Wf f m (sx y 4 0 5 (y 4 0 5 + 1)) z0 (sx z 30 0 39 (z 30 0 39 + 1)) ∧ Qk f y (sx y 4 0 5 (y 4 0 5 + 1)) := by
  obtain ⟨hIP, hSP, ⟨⟨hIM, S⟩, ic⟩, hIF, hSF, hm, h5, hK, hTR, h61⟩ := h
  have kc : ∀ d, KC d y (sx y 4 0 5 (y 4 0 5 + 1)) := fun d => ⟨fun k hk => sx_k _ (by omega), sx_k _ (by decide), ⟨by simp [sx_app], by simp [sx_app]⟩, fun i hi => ⟨by rw [sx_k _ (by decide)], by rw [sx_k _ (by decide)], by rw [sx_k _ (by decide)]⟩⟩
  have kr : ∀ d, KR d z (sx z 30 0 39 (z 30 0 39 + 1)) := by
    intro d
    refine ⟨⟨fun k hk => sx_k _ (by omega), fun k _ _ => sx_k _ (by omega), by simp [sx_app], by simp [sx_app]⟩, ⟨fun i hi => ⟨?_, ?_, ?_, ?_, ?_, ?_, ?_⟩, fun i hi => ?_, fun i hi => ?_⟩, ⟨?_, ?_⟩, fun i hi => ⟨?_, ?_⟩⟩ <;> simp [sx_app]
  have hrem : rem (sx y 4 0 5 (y 4 0 5 + 1)) = rem y := by unfold rem; simp [sx_app]
  refine ⟨⟨hIP.kc (kc f), hSP.kc (kc f) (kr f).1, ⟨⟨?_, ?_⟩, ?_⟩, hIF.kc (kc (f + 1)) (Nat.le_refl _) (by rw [sx_k _ (by decide)]; exact Nat.le_refl _), hSF.kc (kc (f + 1)) (kr (f + 1)).2.1 (Nat.le_refl _), by rw [sx_k _ (by decide)]; exact hm, by rw [sx_k _ (by decide)]; exact h5, hK.tr (kr f), ?_, by rw [sx_k _ (by decide)]; exact h61⟩, ⟨kc f, by rw [hrem]; exact Nat.le_refl _, by rw [sx_k _ (by decide)]; exact Nat.le_refl _⟩⟩
  · obtain ⟨⟨i0, i1, i3, i4, i5, i6⟩, ⟨j0, j1⟩, ⟨r4, r5⟩, ⟨q4, q5⟩, hr⟩ := hIM
    refine ⟨⟨?_, ?_, ?_, ?_, ?_, ?_⟩, ⟨?_, ?_⟩, ⟨?_, ?_⟩, ⟨?_, ?_⟩, ?_⟩
    · simpa [sx_app] using i0
    · simpa [sx_app] using i1
    · simpa [sx_app] using i3
    · simpa [sx_app] using i4
    · rw [sx_app, if_pos ⟨rfl, rfl, rfl⟩, i5.1, nI_add1]
      rw [i5.1, n24, nI_ltI (nv_lt _) (by decide)] at hlt
      exact isN.of (by omega) (by omega)
    · simpa [sx_app] using i6
    · simpa [sx_app] using j0
    · simpa [sx_app] using j1
    · simpa [sx_app] using r4
    · simpa [sx_app] using r5
    · simpa [sx_app] using q4
    · simpa [sx_app] using q5
    · simpa [sx_app] using hr
  · obtain ⟨⟨a1, a2, a3, a4, a5, a6, a7⟩, ⟨b1, b2, b3, b4⟩, ⟨c1, c2⟩, hd, he, hk⟩ := S
    refine ⟨⟨?_, ?_, ?_, ?_, ?_, ?_, ?_⟩, ⟨?_, ?_, ?_, ?_⟩, ⟨?_, ?_⟩, ?_, ?_, ?_⟩
    · simpa [sx_app] using a1
    · simpa [sx_app] using a2
    · simpa [sx_app] using a3
    · simpa [sx_app] using a4
    · simpa [sx_app] using a5
    · simp [sx_app, a6]
    · simpa [sx_app] using a7
    · simpa [sx_app] using b1
    · simpa [sx_app] using b2
    · simpa [sx_app] using b3
    · simpa [sx_app] using b4
    · simpa [sx_app] using c1
    · simpa [sx_app] using c2
    · simpa [sx_app] using hd
    · simpa [sx_app] using he
    · simpa [sx_app] using hk
  · unfold IC stp at ic ⊢
    simpa [sx_app] using ic
  · unfold TR at hTR ⊢
    refine ⟨by simp [sx_app, hTR.1], by simp [sx_app, hTR.2.1], by simp [sx_app, hTR.2.2.1], hTR.2.2.2.of (by simp [sx_app]) (by simp [sx_app]) (Nat.le_refl _)⟩
/-- a THROW begins: both sides -/
theorem raise_sim {f m p kk : Nat} {y z0 z zr : st} (hf : f < 12) (hW : Wf f m y z0 z) (hR0 : Rch z0 zr) (h036 : zr 30 0 36 = 0) (hkk : kk ≤ 9) (hit : itR zr = f_X11_begins (nI f) (nI kk) z) :
    ∃ o y6, f_X4_raise (nI kk) y = some (o, y6) ∧ o < 5 ∧ AP f m p y z0 o y6 := by
  unfold f_X11_begins at hit
  rw [bnv_id, bnv_id] at hit
  unfold f_X4_raise f_X4_raise_b23
  have e39 : z 30 0 39 = y 4 0 5 := hW.2.2.1.1.2.1.2.2.2.2.2.1
  have h45 : isN (y 4 0 5) 24 := hW.2.2.1.1.1.1.2.2.2.2.1
  by_cases h7 : 7 ≤ kk
  · rw [n6, if_neg (by rw [nI_leI (by omega) (by decide)]; omega)] at hit
    rw [n7, if_pos (nI_le (by omega) (by omega)), lets_eq]
    refine ⟨2, _, rfl, by omega, y1_same.1, by rw [sx_k _ (by decide)], Or.inr (Or.inr (Or.inl ⟨rfl, by rw [sx_k _ (by decide)], z, zr, hR0, h036, ?_, hW.y1⟩))⟩
    rw [hit, sx_app, if_pos ⟨rfl, rfl, rfl⟩]
  · rw [n6, if_pos (nI_le (by omega) (by omega))] at hit
    rw [n7, if_neg (by rw [nI_leI (by decide) (by omega)]; omega)]
    by_cases hlt : y 4 0 5 < 24
    · have hne : ¬ z 30 0 39 = 24 := by
        rw [e39]; intro q; rw [q] at hlt; exact absurd hlt (by decide)
      rw [if_neg hne, lets_eq, bnv_id] at hit
      obtain ⟨hW1, hQ1⟩ := hW.thr hlt
      rw [bnd_of (countThrow_fit hlt), if_pos (by decide), if_pos rfl, lets_eq]
      refine ⟨2, _, rfl, by omega, hQ1.tr y1_same.1, by rw [sx_k _ (by decide), sx_k _ (by decide)], Or.inr (Or.inr (Or.inl ⟨rfl, by rw [sx_k _ (by decide)]; simp [sx_app], _, zr, hR0, h036, ?_, hW1.y1⟩))⟩
      rw [hit, sx_app, if_pos ⟨rfl, rfl, rfl⟩]
    · have he : z 30 0 39 = 24 := by
        rw [e39, h45.1]
        rw [h45.1, n24, nI_ltI (nv_lt _) (by decide)] at hlt
        rw [n24, show nv (y 4 0 5) = 24 by have := h45.2; omega]
      rw [if_pos he] at hit
      obtain ⟨o, y', h1, ho0, ho5, hQ, hc⟩ := hW.no hf hR0 h036 hit
      rw [bnd_of (countThrow_no hlt h1), if_pos ho5, if_neg (by omega)]
      refine ⟨o, y', rfl, ho5, hQ, ?_, ?_⟩
      · rcases hW.2.2.1.1.1.1.2.2.2.2.2 with h6 | h6
        · rw [refuse_0 h6] at h1; cases h1; rw [sx_k _ (by decide)]
        · rw [refuse_1 (by rw [h6]; decide)] at h1; cases h1; rw [sx_k _ (by decide)]
      · rcases hc with ⟨ho, e, hP⟩ | ⟨ho, hP⟩
        · exact Or.inr (Or.inr (Or.inr (Or.inl ⟨ho, e, hP⟩)))
        · exact Or.inr (Or.inr (Or.inr (Or.inr ⟨ho, hP⟩)))
/-- a STEP refused, as an ACT's end -/
theorem AP_no {f m p : Nat} {y z0 z zr : st} (hf : f < 12) (hW : Wf f m y z0 z) (hR0 : Rch z0 zr) (h036 : zr 30 0 36 = 0) (hit : itR zr = f_X11_over z) : ∃ o y', f_X5_refuse y = some (o, y') ∧ 0 < o ∧ o < 5 ∧ AP f m p y z0 o y' := by
  obtain ⟨o, y', h1, ho0, ho5, hQ, hc⟩ := hW.no hf hR0 h036 hit
  refine ⟨o, y', h1, ho0, ho5, hQ, ?_, ?_⟩
  · rcases hW.2.2.1.1.1.1.2.2.2.2.2 with h6 | h6
    · rw [refuse_0 h6] at h1; cases h1; rw [sx_k _ (by decide)]
    · rw [refuse_1 (by rw [h6]; decide)] at h1; cases h1; rw [sx_k _ (by decide)]
  · rcases hc with ⟨ho, e, hP⟩ | ⟨ho, hP⟩
    · exact Or.inr (Or.inr (Or.inr (Or.inl ⟨ho, e, hP⟩)))
    · exact Or.inr (Or.inr (Or.inr (Or.inr ⟨ho, hP⟩)))
/-- FRAME f at ACT p of METHOD m -/
def Wa (f m p : Nat) (y z : st) : Prop := Wf f m y z z ∧ y 12 f 3 = nI p ∧ y 12 f 4 = nI (p + 1) ∧ p < nv (y 21 m 2)
theorem lv58 {f m p : Nat} {y z0 z : st} (hf : f < 12) (hm8 : m < 8) (hW : Wf f m y z0 z) (h3 : y 12 f 3 = nI p) : f_X11_leave (nI f) (z 58 0 f + 1) 0 0 z = some (lvS z f m (nI (p + 1)) 0 0) := by
  have e57 : z 57 0 f = nI m := (hW.2.2.2.2.1 f (by omega)).1.trans hW.2.2.2.2.2.1
  have e58 : z 58 0 f = nI p := (hW.2.2.2.2.1 f (by omega)).2.1.trans h3
  rw [leave_eq (by omega) e57 hm8, e58, nI_add1]
/-- the ACT is done and it goes on behind it -/
theorem AP_on {f m p : Nat} {y z0 zr y6 z' : st} (hf : f < 12) (hm8 : m < 8) (hp : p < 48) (hQ : Qk f y y6) (h2 : y6 12 f 2 = y 12 f 2) (h6 : y6 4 0 6 = y 4 0 6) (hW : Wf f m y6 z0 z') (h3 : y6 12 f 3 = nI p) (h4 : y6 12 f 4 = nI (p + 1)) (hR0 : Rch z0 zr) (h036 : zr 30 0 36 = 0) (hit : itR zr = f_X11_leave (nI f) (z' 58 0 f + 1) 0 0 z') : AP f m p y z0 0 y6 :=
  ⟨hQ, h2, Or.inl ⟨rfl, h6, z', zr, p + 1, hR0, h036, hit.trans (lv58 hf hm8 hW h3), hW, h4, by omega, Or.inl (by omega)⟩⟩
theorem b228_0 {f : Nat} {z : st} (hf : f < 12) : f_X11_step_b228 (nI f) 0 z = f_X11_leave (nI f) (z 58 0 f + 1) 0 0 z := by
  unfold f_X11_step_b228
  rw [if_pos (by decide), inb_nI (by omega) (by decide), if_pos rfl, nI_clamp (by omega), bnv_id]
theorem b228_k {f kk : Nat} {z : st} (hk : 0 < kk) (hk9 : kk ≤ 9) : f_X11_step_b228 (nI f) (nI kk) z = f_X11_begins (nI f) (nI kk) z := by
  unfold f_X11_step_b228
  rw [if_neg (nI_nle hk (by omega)), bnv_id]
/-- the reference's step -/
def stepK (z : st) (f q : Nat) (k : Int32) : Option st :=
  if k = 6 then f_X11_goes (nI f) (nI q) z else if k = 7 then f_X11_goes (nI f) (nI q) z else if k = 8 then f_X11_news (nI f) (nI q) z
  else if k = 13 then bnd (f_X11_counts z) fun r24 x23 => if r24 = 0 then some x23 else bnd (f_X11_makes (x23 43 0 q) (nI f) (x23 45 0 q) (x23 44 0 q) 0 x23) fun r30 x29 => if r30 = 0 then f_X11_begins (nI f) 7 x29 else some x29
  else if k = 14 then bnd (f_X11_get (nI f) (z 42 0 q) z) fun r18 x17 => f_X11_leave (nI f) 99 1 r18 x17
  else if k = 15 then f_X11_begins (nI f) (z 43 0 q) z
  else if 6 ≤ k then bnd (f_X11_rows (nI f) (nI q) z) fun r7 x6 => f_X11_step_b228 (nI f) r7 x6 else bnd (f_X11_reckons (nI f) (nI q) z) fun r7 x6 => f_X11_step_b228 (nI f) r7 x6
theorem step_hd {z : st} {f m p : Nat} (hf : f < 12) (hm8 : m < 8) (hp : p < 48) (h16 : z 30 0 16 = nI (f + 1)) (h57 : z 57 0 f = nI m) (h58 : z 58 0 f = nI p) (hlt : nI p < z 40 0 m) : f_X11_step z = stepK z f (48 * m + p) (z 41 0 (48 * m + p)) := by
  have e1 : inb (nI f) 13 = true := inb_nI (by omega) (by decide)
  have e2 : (nI f).toNatClampNeg = f := nI_clamp (by omega)
  have e3 : inb (nI m) 8 = true := inb_nI hm8 (by decide)
  have e4 : (nI m).toNatClampNeg = m := nI_clamp (by omega)
  have e5 : (48 : Int32) * nI m + nI p = nI (48 * m + p) := by rw [n48, pk_mul, nI_add]
  have e6 : inb (nI (48 * m + p)) 384 = true := inb_nI (by omega) (by decide)
  have e7 : (nI (48 * m + p)).toNatClampNeg = 48 * m + p := nI_clamp (by omega)
  unfold f_X11_step f_X11_step_b80 stepK
  simp only [h16, nI_pred, e1, e2, h57, h58, e3, e4, e5, e6, e7, if_true, bnv_id]
  rw [if_pos hlt]
theorem step_end {z : st} {f m : Nat} (hf : f < 12) (hm8 : m < 8) (h16 : z 30 0 16 = nI (f + 1)) (h57 : z 57 0 f = nI m) (hlt : ¬ z 58 0 f < z 40 0 m) : f_X11_step z = f_X11_gave (nI f) 0 (sx z 30 0 16 (nI f)) := by
  have e1 : inb (nI f) 13 = true := inb_nI (by omega) (by decide)
  have e2 : (nI f).toNatClampNeg = f := nI_clamp (by omega)
  have e3 : inb (nI m) 8 = true := inb_nI hm8 (by decide)
  have e4 : (nI m).toNatClampNeg = m := nI_clamp (by omega)
  unfold f_X11_step
  simp only [h16, nI_pred, e1, e2, h57, e3, e4, if_true, bnv_id]
  rw [if_neg hlt, lets_eq]
theorem Wa.step {f m p : Nat} {y z : st} (hf : f < 12) (hm8 : m < 8) (h : Wa f m p y z) : itR z = stepK z f (48 * m + p) (y 18 (48 * m + p) 0) ∧ (∀ s, s < 5 → z (41 + s) 0 (48 * m + p) = y 18 (48 * m + p) s) ∧ actOK (y 18 (48 * m + p)) ∧ p < 48 := by
  obtain ⟨hW, h3, h4, hp⟩ := h
  obtain ⟨hIP, hSP, hDG, hIF, hSF, hm, h5, hK, hTR, h61⟩ := hW
  have hac := (hIP m hm8).1.1
  have hs := (hSP m hm8).2.1 p hp
  have hp48 : p < 48 := by have := hac.2; omega
  refine ⟨?_, hs, (hIP m hm8).2.2.1 p hp, hp48⟩
  rw [itR_step hTR (by omega), step_hd hf hm8 hp48 hTR.1 ((hSF f (by omega)).1.trans hm) ((hSF f (by omega)).2.1.trans h3) (by rw [(hSP m hm8).1.1, hac.1, nI_ltI (by omega) (nv_lt _)]; exact hp)]
  rw [show z 41 0 (48 * m + p) = y 18 (48 * m + p) 0 from hs 0 (by omega)]
theorem get_eq {f j : Nat} {z : st} (hf : f < 13) (hj : j < 6) : f_X11_get (nI f) (nI j) z = some (z 59 0 (6 * f + j), z) := by
  unfold f_X11_get
  rw [show (6 : Int32) * nI f + nI j = nI (6 * f + j) by rw [n6, pk_mul, nI_add], inb_nI (by omega) (by decide), if_pos rfl, nI_clamp (by omega)]
theorem put_eq {f j : Nat} {v : Int32} {z : st} (hf : f < 13) (hj : j < 6) : f_X11_put (nI f) (nI j) v z = some (sx z 59 0 (6 * f + j) v) := by
  unfold f_X11_put
  rw [show (6 : Int32) * nI f + nI j = nI (6 * f + j) by rw [n6, pk_mul, nI_add], inb_nI (by omega) (by decide), if_pos rfl, nI_clamp (by omega), lets_eq]
