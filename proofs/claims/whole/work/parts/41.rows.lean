/-! PUT, GET, SIZE, COPY: both sides -/
def rowOK (y : st) (r : Int32) : Prop := r = -3 ∨ (isN r 600 ∧ nv r < nv (y 5 0 4))
theorem has_eq {y : st} {r : Int32} (h4 : isN (y 5 0 4) 600) (h : rowOK y r) : f_X9_has r y = some (if r = -3 then 0 else 1, y) := by
  unfold f_X9_has
  rw [bnd_of within_eq]
  rcases h with h | ⟨h1, h2⟩
  · rw [h, if_pos (Or.inl (by decide)), if_pos rfl]
    rfl
  · have hn : ¬ r = -3 := by rw [h1.1]; exact nI_nm3 (nv_lt _)
    have hin : ¬ (r < 0 ∨ y 5 0 4 ≤ r) := by
      rw [h1.1, h4.1]
      intro c
      rcases c with c | c
      · exact nI_pos (nv_lt _) c
      · rw [nI_leI (nv_lt _) (nv_lt _)] at c; omega
    rw [if_neg hin, if_neg hn]
    rfl
theorem rowOK.nn {y : st} {r : Int32} (h : rowOK y r) (hn : ¬ r = -3) : isN r 600 ∧ nv r < nv (y 5 0 4) := h.resolve_left hn
/-- the KIND for a place -/
def ft (y : st) (r l i : Int32) : Nat := if r = -3 then 2 else if y 9 0 (nv r) = l then (if i < 0 ∨ y 8 0 (nv r) ≤ i then 5 else 0) else 3
theorem placeFault_eq {y : st} {r l i : Int32} (h4 : isN (y 5 0 4) 600) (h : rowOK y r) : f_X9_placeFault r l i y = some (nI (ft y r l i), y) := by
  unfold f_X9_placeFault ft
  rw [bnd_of (has_eq h4 h)]
  by_cases hn : r = -3
  · rw [if_pos hn, if_pos rfl, if_pos hn]; rfl
  · rw [if_neg hn, if_neg (by decide), if_neg hn]
    obtain ⟨h1, h2⟩ := h.nn hn
    have hl := h4.2
    rw [show inb r 600 = true from by rw [h1.1]; exact inb_nI (by omega) (by decide), if_pos rfl, if_pos rfl, bnd_of within_eq]
    show (if y 9 0 (nv r) = l then _ else _) = _
    by_cases hl : y 9 0 (nv r) = l
    · rw [if_pos hl, if_pos hl]
      show (if (if i < 0 ∨ y 8 0 (nv r) ≤ i then (0 : Int32) else 1) = 0 then _ else _) = _
      by_cases hi : i < 0 ∨ y 8 0 (nv r) ≤ i
      · rw [if_pos hi, if_pos rfl, if_pos hi]; rfl
      · rw [if_neg hi, if_neg (by decide), if_neg hi]; rfl
    · rw [if_neg hl, if_neg hl]; rfl
theorem szm1 {s : Nat} {i : Int32} (hs : s ≤ 64) : (i < 0 ∨ nI s - 1 < i) ↔ (i < 0 ∨ nI s ≤ i) := by
  by_cases h : i < 0
  · exact ⟨fun _ => Or.inl h, fun _ => Or.inl h⟩
  · obtain ⟨j, hj, rfl⟩ := nI_of h
    cases s with
    | zero =>
      refine ⟨fun _ => Or.inr ?_, fun _ => Or.inr ?_⟩
      · exact nI_le (by omega) (by omega)
      · rw [show nI 0 - 1 = (-1 : Int32) from rfl]
        rcases i32_le_or_lt (nI j) (-1) with q | q
        · exfalso
          exact h (Int32.lt_of_le_of_lt q (by decide))
        · exact q
    | succ s =>
      rw [nI_pred, nI_ltI (by omega) (by omega), nI_leI (by omega) (by omega)]
      exact ⟨fun c => c.imp id (fun q => by omega), fun c => c.imp id (fun q => by omega)⟩
theorem look_eq {y z : st} {r l i : Int32} (hD : DG y z) (h : rowOK y r) : f_X11_look r l i z = some (nI (ft y r l i), z) := by
  unfold f_X11_look ft
  by_cases hn : r = -3
  · rw [if_pos hn, if_pos hn]; rfl
  · rw [if_neg hn, if_neg hn]
    obtain ⟨h1, h2⟩ := h.nn hn
    have h4 := hD.1.1.2.2.1.1.2
    have hS := hD.1.2.2.2.2.1 (nv r) (by omega)
    have hsz := (hD.1.1.2.2.2.2 (nv r) h2).2.1
    have hszl := hsz.2
    rw [show inb r 4200 = true from by rw [h1.1]; exact inb_nI (by omega) (by decide), if_pos rfl, if_pos rfl]
    show (if z 70 0 (nv r) = l then bnd (f_X11_in i 0 (z 71 0 (nv r) - 1) z) _ else _) = _
    rw [hS.2.2, hS.2.1, bnd_of in_eq, hsz.1]
    by_cases hl : y 9 0 (nv r) = l
    · rw [if_pos hl, if_pos hl]
      by_cases hi : i < 0 ∨ nI (nv (y 8 0 (nv r))) ≤ i
      · rw [if_pos ((szm1 hszl).mpr hi), if_pos rfl, if_pos hi]; rfl
      · rw [if_neg (fun q => hi ((szm1 hszl).mp q)), if_neg (by decide), if_neg hi]; rfl
    · rw [if_neg hl, if_neg hl]; rfl
theorem ft_0 {y z : st} {r l i : Int32} (hD : DG y z) (h : rowOK y r) (h0 : ft y r l i = 0) : ∃ rr ii s, r = nI rr ∧ i = nI ii ∧ rr < 600 ∧ nv r = rr ∧ y 9 0 rr = l ∧ ii < nv (y 8 0 rr) ∧ y 7 0 rr = nI s ∧ s + nv (y 8 0 rr) ≤ 4800 := by
  unfold ft at h0
  by_cases hn : r = -3
  · rw [if_pos hn] at h0; cases h0
  · rw [if_neg hn] at h0
    obtain ⟨h1, h2⟩ := h.nn hn
    by_cases hl : y 9 0 (nv r) = l
    · rw [if_pos hl] at h0
      by_cases hi : i < 0 ∨ y 8 0 (nv r) ≤ i
      · rw [if_pos hi] at h0; cases h0
      · obtain ⟨ii, hii, rfl⟩ := nI_of (fun q => hi (Or.inl q))
        obtain ⟨s1, s2, s3, -⟩ := hD.1.1.2.2.2.2 (nv r) h2
        have h4 := hD.1.1.2.2.1.1.2
        have h5 := hD.1.1.2.2.1.2.2
        refine ⟨nv r, ii, nv (y 7 0 (nv r)), h1.1, rfl, by omega, rfl, hl, ?_, s1.1, by omega⟩
        have : ¬ y 8 0 (nv r) ≤ nI ii := fun q => hi (Or.inr q)
        rw [s2.1, nI_leI (nv_lt _) (by omega)] at this
        omega
    · rw [if_neg hl] at h0; cases h0
theorem ft_le {y : st} {r l i : Int32} : ft y r l i ≤ 5 := by
  unfold ft
  split
  · omega
  · split
    · split <;> omega
    · omega
theorem pl_pair {f m j : Nat} {v : Int32} {y z0 z : st} (h : Wf f m y z0 z) : Wf f m (sx y 6 0 j v) z0 (sx z 73 0 j v) ∧ Qk f y (sx y 6 0 j v) := by
  obtain ⟨hIP, hSP, ⟨⟨hIM, S⟩, ic⟩, hIF, hSF, hm, h5, hK, hTR, h61⟩ := h
  have kc : ∀ d, KC d y (sx y 6 0 j v) := fun d => ⟨fun k hk => sx_k _ (by omega), sx_k _ (by decide), ⟨by simp [sx_app], by simp [sx_app]⟩, fun i hi => ⟨by rw [sx_k _ (by decide)], by rw [sx_k _ (by decide)], by rw [sx_k _ (by decide)]⟩⟩
  have kr : ∀ d, KR d z (sx z 73 0 j v) := by
    intro d
    refine ⟨⟨fun k hk => sx_k _ (by omega), fun k _ _ => sx_k _ (by omega), by simp [sx_app], by simp [sx_app]⟩, ⟨fun i hi => ⟨?_, ?_, ?_, ?_, ?_, ?_, ?_⟩, fun i hi => ?_, fun i hi => ?_⟩, ⟨?_, ?_⟩, fun i hi => ⟨?_, ?_⟩⟩ <;> simp [sx_app]
  refine ⟨⟨hIP.kc (kc f), hSP.kc (kc f) (kr f).1, ⟨⟨?_, ?_⟩, ?_⟩, hIF.kc (kc (f + 1)) (Nat.le_refl _) (by rw [sx_k _ (by decide)]; exact Nat.le_refl _), hSF.kc (kc (f + 1)) (kr (f + 1)).2.1 (Nat.le_refl _), by rw [sx_k _ (by decide)]; exact hm, by rw [sx_k _ (by decide)]; exact h5, hK.tr (kr f), ?_, by rw [sx_k _ (by decide)]; exact h61⟩, ⟨kc f, by rw [rem_k (y := y) (sx_k _ (by decide))]; exact Nat.le_refl _, by rw [sx_k _ (by decide)]; exact Nat.le_refl _⟩⟩
  · unfold IM at hIM ⊢
    rw [sx_k (k' := 4) _ (by decide), sx_k (k' := 5) _ (by decide), sx_k (k' := 7) _ (by decide), sx_k (k' := 8) _ (by decide)]
    exact hIM
  · unfold SG at S ⊢
    rw [sx_k (k' := 4) _ (by decide), sx_k (k' := 5) _ (by decide), sx_k (k' := 7) _ (by decide), sx_k (k' := 8) _ (by decide), sx_k (k' := 2) _ (by decide), sx_k (k' := 9) _ (by decide), sx_k (k' := 3) _ (by decide), sx_k (k' := 80) _ (by decide), sx_k (k' := 30) _ (by decide), sx_k (k' := 72) _ (by decide), sx_k (k' := 71) _ (by decide), sx_k (k' := 70) _ (by decide), sx_k (k' := 81) _ (by decide), sx_k (k' := 82) _ (by decide), sx_k (k' := 83) _ (by decide)]
    obtain ⟨s1, s2, s3, s4, s5, s6⟩ := S
    refine ⟨s1, s2, s3, s4, fun q hq => ?_, s6⟩
    rw [sx_app, sx_app]
    by_cases c : q = j
    · subst c; simp
    · rw [if_neg (fun w => c w.2.2), if_neg (fun w => c w.2.2)]; exact s5 q hq
  · unfold IC stp at ic ⊢
    rw [sx_k (k' := 2) _ (by decide), sx_k (k' := 4) _ (by decide)]
    exact ic
  · unfold TR clOK at hTR ⊢
    rw [sx_k _ (by decide), sx_k _ (by decide)]
    exact hTR
theorem Wf.row {f m j : Nat} {y z0 z : st} (h : Wf f m y z0 z) (hj : j < 3) : rowOK y (y 14 f j) ∧ z 60 0 (3 * f + j) = y 14 f j := ⟨(h.2.2.2.1 f (by omega)).2.2 j hj, (h.2.2.2.2.1 f (by omega)).2.2.2 j hj⟩
/-- the head of PUT, GET, SIZE, COPY in the reference -/
theorem Wa.rows {f m p k : Nat} {y z : st} (hf : f < 12) (hm8 : m < 8) (h : Wa f m p y z) (hk : y 18 (48 * m + p) 0 = nI k) (hk9 : 9 ≤ k) (hk12 : k ≤ 12) : itR z = bnd (f_X11_rows (nI f) (nI (48 * m + p)) z) fun r7 x6 => f_X11_step_b228 (nI f) r7 x6 := by
  obtain ⟨hst, hs, hA, hp48⟩ := h.step hf hm8
  rw [hst, hk]
  unfold stepK
  have q6 : ¬ nI k = 6 := by rw [n6, nI_eq (by omega) (by omega)]; omega
  have q7 : ¬ nI k = 7 := by rw [n7, nI_eq (by omega) (by omega)]; omega
  have q8 : ¬ nI k = 8 := by rw [n8, nI_eq (by omega) (by omega)]; omega
  have q13 : ¬ nI k = 13 := by rw [show (13 : Int32) = nI 13 from rfl, nI_eq (by omega) (by omega)]; omega
  have q14 : ¬ nI k = 14 := by rw [show (14 : Int32) = nI 14 from rfl, nI_eq (by omega) (by omega)]; omega
  have q15 : ¬ nI k = 15 := by rw [show (15 : Int32) = nI 15 from rfl, nI_eq (by omega) (by omega)]; omega
  have q16 : 6 ≤ nI k := by rw [n6, nI_leI (by omega) (by omega)]; omega
  rw [if_neg q6, if_neg q7, if_neg q8, if_neg q13, if_neg q14, if_neg q15, if_pos q16]
theorem i3f {f j : Nat} : (3 : Int32) * nI f + nI j = nI (3 * f + j) := by rw [n3, pk_mul, nI_add]
/-- PUT -/
theorem act_9 {f m p : Nat} {y z : st} (hf : f < 12) (hm8 : m < 8) (h : Wa f m p y z) (hk : y 18 (48 * m + p) 0 = 9) : ∃ o y6, f_X4_putPlace f (48 * m + p) y = some (o, y6) ∧ o < 5 ∧ AP f m p y z o y6 := by
  have hit := h.rows (k := 9) hf hm8 hk (by omega) (by omega)
  obtain ⟨hst, hs, hA, hp48⟩ := h.step hf hm8
  clear hst
  obtain ⟨hW, h3, h4, hp⟩ := h
  have h36 := hW.2.2.2.2.2.2.2.2.1.2.1
  have ha : isN (y 18 (48 * m + p) 1) 2 := hA.2.2.1 (by rw [hk]; decide)
  have hc : isN (y 18 (48 * m + p) 3) 5 := hA.2.2.2.2.2.2.1 (by rw [hk]; decide)
  have hd : isN (y 18 (48 * m + p) 4) 5 := hA.2.2.2.2.2.2.2.1 (by rw [hk]; decide)
  have ha2 := ha.2
  have hc2 := hc.2
  have hd2 := hd.2
  have e6 : inb (nI (48 * m + p)) 384 = true := inb_nI (by omega) (by decide)
  have e7 : (nI (48 * m + p)).toNatClampNeg = 48 * m + p := nI_clamp (by omega)
  have e41 : z 41 0 (48 * m + p) = 9 := (hs 0 (by omega)).trans hk
  have e42 : z 42 0 (48 * m + p) = nI (nv (y 18 (48 * m + p) 1)) := (hs 1 (by omega)).trans ha.1
  have e43 : z 43 0 (48 * m + p) = y 18 (48 * m + p) 2 := hs 2 (by omega)
  have e44 : z 44 0 (48 * m + p) = nI (nv (y 18 (48 * m + p) 3)) := (hs 3 (by omega)).trans hc.1
  have e45 : z 45 0 (48 * m + p) = nI (nv (y 18 (48 * m + p) 4)) := (hs 4 (by omega)).trans hd.1
  have hSF := (hW.2.2.2.2.1 f (by omega)).2.2.1
  have hD := hW.2.2.1
  obtain ⟨hro, e60⟩ := hW.row (j := nv (y 18 (48 * m + p) 1)) (by omega)
  have h504 := hD.1.1.2.2.1.1
  unfold f_X11_rows f_X11_rows_b99 at hit
  rw [e6, if_pos rfl, e7, e41, if_pos rfl, if_pos rfl, e42, i3f, inb_nI (by omega) (by decide), if_pos rfl, if_pos rfl, e44, bnd_of (get_eq (by omega) (by omega)), if_pos rfl, nI_clamp (by omega), e60, e43, bnd_of (look_eq hD hro), hSF _ (by omega)] at hit
  unfold f_X4_putPlace f_X0_a f_X0_b f_X0_c f_X0_d
  rw [bnd_of rfl, ha.1, inb_nI (by omega) (by decide), if_pos rfl, nI_clamp (nv_lt _), bnd_of rfl, hc.1, inb_nI (by omega) (by decide), if_pos rfl, nI_clamp (nv_lt _), bnd_of rfl, bnd_of (placeFault_eq h504 hro)]
  by_cases h0 : ft y (y 14 f (nv (y 18 (48 * m + p) 1))) (y 18 (48 * m + p) 2) (y 13 f (nv (y 18 (48 * m + p) 3))) = 0
  · obtain ⟨rr, ii, s, r1, r2, r3, r4, r5, r6, r7, r8⟩ := ft_0 hD hro h0
    rw [h0, if_pos (show nI 0 = 0 from rfl), bnd_of rfl, hd.1, inb_nI (by omega) (by decide), if_pos rfl, nI_clamp (nv_lt _)]
    rw [h0, if_pos (show nI 0 = 0 from rfl)] at hit
    have eS := (hD.1.2.2.2.2.1 rr r3).1
    rw [r1, r2, inb_nI (show rr < 4200 by omega) (by decide), if_pos rfl, if_pos rfl, if_pos rfl, e45, bnd_of (get_eq (by omega) (by omega)), nI_clamp (show rr < 2 ^ 31 by omega), eS, r7, nI_add, inb_nI (show s + ii < 34000 by omega) (by decide), nI_clamp (show s + ii < 2 ^ 31 by omega), hSF _ (by omega)] at hit
    rw [r1, r2]
    unfold f_X9_put f_X9_put_b27
    rw [inb_nI r3 (by decide), if_pos rfl, if_pos rfl, nI_clamp (show rr < 2 ^ 31 by omega), r7, nI_add, inb_nI (show s + ii < 4800 by omega) (by decide), if_pos rfl, if_pos rfl, nI_clamp (show s + ii < 2 ^ 31 by omega), lets_eq, lets_eq, r5]
    unfold f_X11_cast at hit
    rw [e43] at hit
    by_cases hl : y 18 (48 * m + p) 2 = 0
    · rw [if_pos hl, bnd_of rfl, if_pos rfl, lets_eq, bnd_of rfl] at hit
      rw [if_pos hl, bnv_of rfl]
      obtain ⟨hW2, hQ2⟩ := pl_pair (j := s + ii) (v := (y 13 f (nv (y 18 (48 * m + p) 4))).toInt8.toInt32) hW
      exact ⟨0, _, rfl, by omega, AP_on hf hm8 hp48 hQ2 (by rw [sx_k _ (by decide)]) (by rw [sx_k _ (by decide)]) hW2 (by rw [sx_k _ (by decide)]; exact h3) (by rw [sx_k _ (by decide)]; exact h4) Rch.rf h36 (hit.trans (b228_0 hf))⟩
    · rw [if_neg hl, bnd_of rfl, if_pos rfl, lets_eq, bnd_of rfl] at hit
      rw [if_neg hl, bnv_of rfl]
      obtain ⟨hW2, hQ2⟩ := pl_pair (j := s + ii) (v := y 13 f (nv (y 18 (48 * m + p) 4))) hW
      exact ⟨0, _, rfl, by omega, AP_on hf hm8 hp48 hQ2 (by rw [sx_k _ (by decide)]) (by rw [sx_k _ (by decide)]) hW2 (by rw [sx_k _ (by decide)]; exact h3) (by rw [sx_k _ (by decide)]; exact h4) Rch.rf h36 (hit.trans (b228_0 hf))⟩
  · have hle := ft_le (y := y) (r := y 14 f (nv (y 18 (48 * m + p) 1))) (l := y 18 (48 * m + p) 2) (i := y 13 f (nv (y 18 (48 * m + p) 3)))
    have hne := nI_ne0 (n := ft y (y 14 f (nv (y 18 (48 * m + p) 1))) (y 18 (48 * m + p) 2) (y 13 f (nv (y 18 (48 * m + p) 3)))) (by omega) (by omega)
    rw [if_neg hne, bnd_of rfl, b228_k (by omega) (by omega)] at hit
    rw [if_neg hne, bnd_id]
    exact raise_sim hf hW Rch.rf h36 (by omega) hit
/-- GET -/
theorem act_10 {f m p : Nat} {y z : st} (hf : f < 12) (hm8 : m < 8) (h : Wa f m p y z) (hk : y 18 (48 * m + p) 0 = 10) : ∃ o y6, f_X4_getPlace f (48 * m + p) y = some (o, y6) ∧ o < 5 ∧ AP f m p y z o y6 := by
  have hit := h.rows (k := 10) hf hm8 hk (by omega) (by omega)
  obtain ⟨hst, hs, hA, hp48⟩ := h.step hf hm8
  clear hst
  obtain ⟨hW, h3, h4, hp⟩ := h
  have h36 := hW.2.2.2.2.2.2.2.2.1.2.1
  have ha : isN (y 18 (48 * m + p) 1) 5 := hA.2.1 (by rw [hk]; decide)
  have hb : isN (y 18 (48 * m + p) 2) 2 := hA.2.2.2.2.2.1 (by rw [hk]; decide)
  have hd : isN (y 18 (48 * m + p) 4) 5 := hA.2.2.2.2.2.2.2.1 (by rw [hk]; decide)
  have ha2 := ha.2
  have hb2 := hb.2
  have hd2 := hd.2
  have e6 : inb (nI (48 * m + p)) 384 = true := inb_nI (by omega) (by decide)
  have e7 : (nI (48 * m + p)).toNatClampNeg = 48 * m + p := nI_clamp (by omega)
  have e41 : z 41 0 (48 * m + p) = 10 := (hs 0 (by omega)).trans hk
  have e42 : z 42 0 (48 * m + p) = nI (nv (y 18 (48 * m + p) 1)) := (hs 1 (by omega)).trans ha.1
  have e43 : z 43 0 (48 * m + p) = nI (nv (y 18 (48 * m + p) 2)) := (hs 2 (by omega)).trans hb.1
  have e44 : z 44 0 (48 * m + p) = y 18 (48 * m + p) 3 := hs 3 (by omega)
  have e45 : z 45 0 (48 * m + p) = nI (nv (y 18 (48 * m + p) 4)) := (hs 4 (by omega)).trans hd.1
  have hSF := (hW.2.2.2.2.1 f (by omega)).2.2.1
  have hD := hW.2.2.1
  obtain ⟨hro, e60⟩ := hW.row (j := nv (y 18 (48 * m + p) 2)) (by omega)
  have h504 := hD.1.1.2.2.1.1
  unfold f_X11_rows f_X11_rows_b186 at hit
  rw [e6, if_pos rfl, e7, e41, if_neg (by decide), if_pos rfl, if_pos rfl, e43, i3f, inb_nI (by omega) (by decide), if_pos rfl, if_pos rfl, e45, bnd_of (get_eq (by omega) (by omega)), if_pos rfl, nI_clamp (by omega), e60, e44, bnd_of (look_eq hD hro), hSF _ (by omega)] at hit
  unfold f_X4_getPlace f_X0_a f_X0_b f_X0_c f_X0_d
  rw [bnd_of rfl, hb.1, inb_nI (by omega) (by decide), if_pos rfl, nI_clamp (nv_lt _), bnd_of rfl, hd.1, inb_nI (by omega) (by decide), if_pos rfl, nI_clamp (nv_lt _), bnd_of rfl, bnd_of (placeFault_eq h504 hro)]
  by_cases h0 : ft y (y 14 f (nv (y 18 (48 * m + p) 2))) (y 18 (48 * m + p) 3) (y 13 f (nv (y 18 (48 * m + p) 4))) = 0
  · obtain ⟨rr, ii, s, r1, r2, r3, r4, r5, r6, r7, r8⟩ := ft_0 hD hro h0
    have eS := (hD.1.2.2.2.2.1 rr r3).1
    have e73 := hD.1.2.2.2.2.2.1 (s + ii) (by omega)
    rw [h0, if_pos (show nI 0 = 0 from rfl), if_pos rfl, r1, r2, inb_nI (show rr < 4200 by omega) (by decide), if_pos rfl, nI_clamp (show rr < 2 ^ 31 by omega), eS, r7, nI_add, inb_nI (show s + ii < 34000 by omega) (by decide), if_pos rfl, nI_clamp (show s + ii < 2 ^ 31 by omega), e73, e42, bnv_of (put_eq (by omega) (by omega)), bnd_of rfl] at hit
    rw [h0, if_pos (show nI 0 = 0 from rfl), bnd_of rfl, r1, r2]
    have hg : f_X9_get (nI rr) (nI ii) y = some (y 6 0 (s + ii), y) := by
      unfold f_X9_get
      rw [inb_nI r3 (by decide), if_pos rfl, nI_clamp (show rr < 2 ^ 31 by omega), r7, nI_add, inb_nI (show s + ii < 4800 by omega) (by decide), if_pos rfl, nI_clamp (show s + ii < 2 ^ 31 by omega)]
    rw [bnd_of hg, bnd_id, ha.1]
    exact act_num hf hm8 hp48 (by omega) hW h3 h4 Rch.rf h36 hit
  · have hle := ft_le (y := y) (r := y 14 f (nv (y 18 (48 * m + p) 2))) (l := y 18 (48 * m + p) 3) (i := y 13 f (nv (y 18 (48 * m + p) 4)))
    have hne := nI_ne0 (n := ft y (y 14 f (nv (y 18 (48 * m + p) 2))) (y 18 (48 * m + p) 3) (y 13 f (nv (y 18 (48 * m + p) 4)))) (by omega) (by omega)
    rw [if_neg hne, bnd_of rfl, b228_k (by omega) (by omega)] at hit
    rw [if_neg hne, bnd_id]
    exact raise_sim hf hW Rch.rf h36 (by omega) hit
/-- SIZE -/
theorem act_11 {f m p : Nat} {y z : st} (hf : f < 12) (hm8 : m < 8) (h : Wa f m p y z) (hk : y 18 (48 * m + p) 0 = 11) : ∃ o y6, f_X4_tellSize f (48 * m + p) y = some (o, y6) ∧ o < 5 ∧ AP f m p y z o y6 := by
  have hit := h.rows (k := 11) hf hm8 hk (by omega) (by omega)
  obtain ⟨hst, hs, hA, hp48⟩ := h.step hf hm8
  clear hst
  obtain ⟨hW, h3, h4, hp⟩ := h
  have h36 := hW.2.2.2.2.2.2.2.2.1.2.1
  have ha : isN (y 18 (48 * m + p) 1) 5 := hA.2.1 (by rw [hk]; decide)
  have hb : isN (y 18 (48 * m + p) 2) 2 := hA.2.2.2.2.2.1 (by rw [hk]; decide)
  have ha2 := ha.2
  have hb2 := hb.2
  have e6 : inb (nI (48 * m + p)) 384 = true := inb_nI (by omega) (by decide)
  have e7 : (nI (48 * m + p)).toNatClampNeg = 48 * m + p := nI_clamp (by omega)
  have e41 : z 41 0 (48 * m + p) = 11 := (hs 0 (by omega)).trans hk
  have e42 : z 42 0 (48 * m + p) = nI (nv (y 18 (48 * m + p) 1)) := (hs 1 (by omega)).trans ha.1
  have e43 : z 43 0 (48 * m + p) = nI (nv (y 18 (48 * m + p) 2)) := (hs 2 (by omega)).trans hb.1
  have hD := hW.2.2.1
  obtain ⟨hro, e60⟩ := hW.row (j := nv (y 18 (48 * m + p) 2)) (by omega)
  have h504 := hD.1.1.2.2.1.1
  have h504l := h504.2
  unfold f_X11_rows at hit
  rw [e6, if_pos rfl, e7, e41, if_neg (by decide), if_neg (by decide), if_pos rfl, if_pos rfl, e43, i3f, inb_nI (by omega) (by decide), if_pos rfl, nI_clamp (by omega), e60] at hit
  unfold f_X4_tellSize f_X0_a f_X0_b f_X9_size
  rw [bnd_of rfl, hb.1, inb_nI (by omega) (by decide), if_pos rfl, nI_clamp (nv_lt _), bnd_of (has_eq h504 hro)]
  by_cases hn : y 14 f (nv (y 18 (48 * m + p) 2)) = -3
  · rw [if_pos hn, bnd_of rfl, show (2 : Int32) = nI 2 from rfl, b228_k (by omega) (by omega)] at hit
    rw [if_pos hn, if_pos rfl, bnd_of rfl, if_pos rfl, bnd_id]
    exact raise_sim (kk := 2) hf hW Rch.rf h36 (by omega) hit
  · obtain ⟨h1, h2⟩ := hro.nn hn
    obtain ⟨s1, s2, s3, -⟩ := hD.1.1.2.2.2.2 (nv (y 14 f (nv (y 18 (48 * m + p) 2)))) h2
    have eS := (hD.1.2.2.2.2.1 (nv (y 14 f (nv (y 18 (48 * m + p) 2)))) (by omega)).2.1
    rw [if_neg hn, if_pos rfl, show inb (y 14 f (nv (y 18 (48 * m + p) 2))) 4200 = true from by rw [h1.1]; exact inb_nI (by omega) (by decide), if_pos rfl, show (y 14 f (nv (y 18 (48 * m + p) 2))).toNatClampNeg = nv (y 14 f (nv (y 18 (48 * m + p) 2))) from rfl, eS, e42, bnv_of (put_eq (by omega) (by omega)), bnd_of rfl] at hit
    rw [if_neg hn, if_neg (by decide), show inb (y 14 f (nv (y 18 (48 * m + p) 2))) 600 = true from by rw [h1.1]; exact inb_nI (by omega) (by decide), if_pos rfl, bnd_of rfl, show (y 14 f (nv (y 18 (48 * m + p) 2))).toNatClampNeg = nv (y 14 f (nv (y 18 (48 * m + p) 2))) from rfl, if_neg (by rw [s2.1]; exact nI_nm3 (nv_lt _)), bnd_of rfl, bnd_id, ha.1]
    exact act_num hf hm8 hp48 (by omega) hW h3 h4 Rch.rf h36 hit
