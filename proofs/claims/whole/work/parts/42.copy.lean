/-! COPY: both sides -/
def cf (y : st) (q r n : Int32) : Nat := if q = -3 ∨ r = -3 then 2 else if y 9 0 (nv q) = y 9 0 (nv r) then (if n < 0 ∨ y 8 0 (nv q) < n ∨ y 8 0 (nv r) < n then 5 else 0) else 4
theorem copyFault_eq {y : st} {q r n : Int32} (h4 : isN (y 5 0 4) 600) (hq : rowOK y q) (hr : rowOK y r) : f_X9_copyFault q r n y = some (nI (cf y q r n), y) := by
  unfold f_X9_copyFault f_X9_copyFault_b16 f_X9_copyFault_b59 cf
  rw [bnd_of (has_eq h4 hq)]
  have hl4 := h4.2
  by_cases hnq : q = -3
  · rw [if_pos hnq, if_pos rfl, if_pos (Or.inl hnq)]; rfl
  · rw [if_neg hnq, if_neg (by decide), bnd_of (has_eq h4 hr)]
    by_cases hnr : r = -3
    · rw [if_pos hnr, if_pos rfl, if_pos (Or.inr hnr)]; rfl
    · rw [if_neg hnr, if_neg (by decide), if_neg (show ¬ (q = -3 ∨ r = -3) from fun c => c.elim hnq hnr)]
      obtain ⟨q1, q2⟩ := hq.nn hnq
      obtain ⟨r1, r2⟩ := hr.nn hnr
      rw [show inb q 600 = true from by rw [q1.1]; exact inb_nI (by omega) (by decide), show inb r 600 = true from by rw [r1.1]; exact inb_nI (by omega) (by decide), if_pos rfl, if_pos rfl, if_pos rfl, if_pos rfl]
      show (if y 9 0 (nv q) = y 9 0 (nv r) then (if n < 0 then _ else if y 8 0 (nv q) < n then _ else if n ≤ y 8 0 (nv r) then _ else _) else _) = _
      by_cases hl : y 9 0 (nv q) = y 9 0 (nv r)
      · rw [if_pos hl, if_pos hl]
        by_cases h0 : n < 0
        · rw [if_pos h0, if_pos (Or.inl h0)]; rfl
        · rw [if_neg h0]
          by_cases h1 : y 8 0 (nv q) < n
          · rw [if_pos h1, if_pos (Or.inr (Or.inl h1))]; rfl
          · rw [if_neg h1]
            by_cases h2 : n ≤ y 8 0 (nv r)
            · rw [if_pos h2, if_neg (fun c => c.elim h0 (fun d => d.elim h1 (fun e => Int32.not_lt.mpr h2 e)))]; rfl
            · rw [if_neg h2, if_pos (Or.inr (Or.inr (Int32.not_le.mp h2)))]; rfl
      · rw [if_neg hl, if_neg hl]; rfl
theorem copies_loop {qq rr n s d : Nat} (hq : qq < 4200) (hr : rr < 4200) (hs : s + n ≤ 4800) (hd : d + n ≤ 4800) (hsd : s = d ∨ s + n ≤ d ∨ d + n ≤ s) : ∀ (t N i : Nat) (z : st), i + t = n → t < N → z 72 0 qq = nI s → z 72 0 rr = nI d →
    f_X11_copies_b60 N (nI qq) (nI rr) (nI n) (nI i) z = some (0, sxA z 73 0 (fun j => if d + i ≤ j ∧ j < d + n then z 73 0 (s + (j - d)) else z 73 0 j)) := by
  intro t
  induction t with
  | zero =>
    intro N i z hi hN h1 h2
    obtain ⟨N, rfl⟩ : ∃ q, N = q + 1 := ⟨N - 1, by omega⟩
    have h6 : i = n := by omega
    subst h6
    unfold f_X11_copies_b60
    rw [if_pos (nI_le (Nat.le_refl _) (by omega))]
    congr 2
    apply st_ext
    intro k w j
    rw [sxA_app]
    by_cases h : k = 73 ∧ w = 0
    · obtain ⟨rfl, rfl⟩ := h
      rw [if_pos ⟨rfl, rfl⟩, if_neg (by omega)]
    · rw [if_neg h]
  | succ t ih =>
    intro N i z hi hN h1 h2
    obtain ⟨N, rfl⟩ : ∃ q, N = q + 1 := ⟨N - 1, by omega⟩
    unfold f_X11_copies_b60
    rw [if_neg (nI_ge (by omega) (by omega)), inb_nI hr (by decide), if_pos rfl, inb_nI hq (by decide), if_pos rfl, nI_clamp (show qq < 2 ^ 31 by omega), nI_clamp (show rr < 2 ^ 31 by omega), h1, h2, nI_add, nI_add, inb_nI (show s + i < 34000 by omega) (by decide), if_pos rfl, inb_nI (show d + i < 34000 by omega) (by decide), if_pos rfl, nI_clamp (show s + i < 2 ^ 31 by omega), nI_clamp (show d + i < 2 ^ 31 by omega), lets_eq, nI_add1, ih N (i + 1) _ (by omega) (by omega) (by simp [sx_app, h1]) (by simp [sx_app, h2])]
    congr 2
    apply st_ext
    intro k w j
    rw [sxA_app, sxA_app]
    by_cases h : k = 73 ∧ w = 0
    · rw [if_pos h, if_pos h]
      by_cases hj : j = d + i
      · subst hj
        rw [if_neg (by omega), if_pos (by omega), sx_app, if_pos ⟨rfl, rfl, rfl⟩, show d + i - d = i by omega]
      · by_cases hr : d + (i + 1) ≤ j ∧ j < d + n
        · rw [if_pos hr, if_pos (by omega), sx_app, if_neg (by omega)]
        · rw [if_neg hr, if_neg (by omega), sx_app, if_neg (fun c => hj c.2.2)]
    · rw [if_neg h, if_neg h, sx_app, if_neg (fun c => h ⟨c.1, c.2.1⟩)]
theorem cpA_pair {f m s d n : Nat} {y z0 z : st} (h : Wf f m y z0 z) (hs : s + n ≤ 4800) (hd : d + n ≤ 4800) : Wf f m (sxA y 6 0 (va_cpy (y 6 0) (y 6 0) s d n)) z0 (sxA z 73 0 (fun j => if d ≤ j ∧ j < d + n then z 73 0 (s + (j - d)) else z 73 0 j)) ∧ Qk f y (sxA y 6 0 (va_cpy (y 6 0) (y 6 0) s d n)) := by
  obtain ⟨hIP, hSP, ⟨⟨hIM, S⟩, ic⟩, hIF, hSF, hm, h5, hK, hTR, h61⟩ := h
  have kc : ∀ e, KC e y (sxA y 6 0 (va_cpy (y 6 0) (y 6 0) s d n)) := fun e => ⟨fun k hk => sxA_k _ (by omega), sxA_k _ (by decide), ⟨by rw [sxA_k _ (by decide)], by rw [sxA_k _ (by decide)], by rw [sxA_k _ (by decide)], by rw [sxA_k _ (by decide)], by rw [sxA_k _ (by decide)]; exact Or.inl rfl⟩, fun i hi => ⟨by rw [sxA_k _ (by decide)], by rw [sxA_k _ (by decide)], by rw [sxA_k _ (by decide)]⟩⟩
  have kr : ∀ e, KR e z (sxA z 73 0 (fun j => if d ≤ j ∧ j < d + n then z 73 0 (s + (j - d)) else z 73 0 j)) := by
    intro e
    refine ⟨⟨fun k hk => sxA_k _ (by omega), fun k _ _ => sxA_k _ (by omega), by rw [sxA_k _ (by decide)], by rw [sxA_k _ (by decide)], by rw [sxA_k _ (by decide)], by rw [sxA_k _ (by decide)]⟩, ⟨fun i hi => ⟨?_, ?_, ?_, ?_, ?_, ?_, ?_⟩, fun i hi => ?_, fun i hi => ?_⟩, ⟨?_, ?_⟩, fun i hi => ⟨?_, ?_⟩⟩ <;> rw [sxA_k _ (by decide)]
  refine ⟨⟨hIP.kc (kc f), hSP.kc (kc f) (kr f).1, ⟨⟨?_, ?_⟩, ?_⟩, hIF.kc (kc (f + 1)) (Nat.le_refl _) (by rw [sxA_k _ (by decide)]; exact Nat.le_refl _), hSF.kc (kc (f + 1)) (kr (f + 1)).2.1 (Nat.le_refl _), by rw [sxA_k _ (by decide)]; exact hm, by rw [sxA_k _ (by decide)]; exact h5, hK.tr (kr f), ?_, by rw [sxA_k _ (by decide)]; exact h61⟩, ⟨kc f, by rw [rem_k (y := y) (sxA_k _ (by decide))]; exact Nat.le_refl _, by rw [sxA_k _ (by decide)]; exact Nat.le_refl _⟩⟩
  · unfold IM at hIM ⊢
    rw [sxA_k (k' := 4) _ (by decide), sxA_k (k' := 5) _ (by decide), sxA_k (k' := 7) _ (by decide), sxA_k (k' := 8) _ (by decide)]
    exact hIM
  · unfold SG at S ⊢
    rw [sxA_k (k' := 4) _ (by decide), sxA_k (k' := 5) _ (by decide), sxA_k (k' := 7) _ (by decide), sxA_k (k' := 8) _ (by decide), sxA_k (k' := 2) _ (by decide), sxA_k (k' := 9) _ (by decide), sxA_k (k' := 3) _ (by decide), sxA_k (k' := 80) _ (by decide), sxA_k (k' := 30) _ (by decide), sxA_k (k' := 72) _ (by decide), sxA_k (k' := 71) _ (by decide), sxA_k (k' := 70) _ (by decide), sxA_k (k' := 81) _ (by decide), sxA_k (k' := 82) _ (by decide), sxA_k (k' := 83) _ (by decide)]
    obtain ⟨s1, s2, s3, s4, s5, s6⟩ := S
    refine ⟨s1, s2, s3, s4, fun q hq => ?_, s6⟩
    simp only [sxA_app, and_self, if_true]
    unfold va_cpy
    by_cases c : d ≤ q ∧ q < d + n
    · rw [if_pos c, if_pos c]; exact s5 _ (by omega)
    · rw [if_neg c, if_neg c]; exact s5 q hq
  · unfold IC stp at ic ⊢
    rw [sxA_k (k' := 2) _ (by decide), sxA_k (k' := 4) _ (by decide)]
    exact ic
  · unfold TR clOK at hTR ⊢
    rw [sxA_k _ (by decide), sxA_k _ (by decide)]
    exact hTR
theorem cf_le {y : st} {q r n : Int32} : cf y q r n ≤ 5 := by
  unfold cf
  split
  · omega
  · split
    · split <;> omega
    · omega
theorem copies_eq {y z : st} {q r n : Int32} (hD : DG y z) (hq : rowOK y q) (hr : rowOK y r) :
    (¬ cf y q r n = 0 → f_X11_copies q r n z = some (nI (cf y q r n), z)) ∧
    (cf y q r n = 0 → ∃ qq rr nn s d, q = nI qq ∧ r = nI rr ∧ n = nI nn ∧ qq < 600 ∧ rr < 600 ∧ y 7 0 qq = nI s ∧ y 7 0 rr = nI d ∧ nn ≤ 64 ∧ s + nn ≤ 4800 ∧ d + nn ≤ 4800 ∧ f_X11_copies q r n z = some (0, sxA z 73 0 (fun j => if d ≤ j ∧ j < d + nn then z 73 0 (s + (j - d)) else z 73 0 j))) := by
  unfold f_X11_copies f_X11_copies_b12 f_X11_copies_b55 cf
  have hl4 := hD.1.1.2.2.1.1.2
  have hl5 := hD.1.1.2.2.1.2.2
  by_cases hnq : q = -3
  · rw [if_pos hnq, if_pos (Or.inl hnq)]
    exact ⟨fun _ => rfl, fun c => by cases c⟩
  · rw [if_neg hnq]
    by_cases hnr : r = -3
    · rw [if_pos hnr, if_pos (Or.inr hnr)]
      exact ⟨fun _ => rfl, fun c => by cases c⟩
    · rw [if_neg hnr, if_neg (show ¬ (q = -3 ∨ r = -3) from fun c => c.elim hnq hnr)]
      obtain ⟨q1, q2⟩ := hq.nn hnq
      obtain ⟨r1, r2⟩ := hr.nn hnr
      have Sq := hD.1.2.2.2.2.1 (nv q) (by omega)
      have Sr := hD.1.2.2.2.2.1 (nv r) (by omega)
      obtain ⟨a1, a2, a3, a4⟩ := hD.1.1.2.2.2.2 (nv q) q2
      obtain ⟨b1, b2, b3, b4⟩ := hD.1.1.2.2.2.2 (nv r) r2
      rw [show inb q 4200 = true from by rw [q1.1]; exact inb_nI (by omega) (by decide), show inb r 4200 = true from by rw [r1.1]; exact inb_nI (by omega) (by decide), if_pos rfl, if_pos rfl, if_pos rfl, if_pos rfl]
      show (_ → (if z 70 0 (nv q) = z 70 0 (nv r) then (if n < 0 then _ else if z 71 0 (nv q) < n then _ else if n ≤ z 71 0 (nv r) then _ else _) else _) = _) ∧ (_ → ∃ qq rr nn s d, _ ∧ _ ∧ _ ∧ _ ∧ _ ∧ _ ∧ _ ∧ _ ∧ _ ∧ _ ∧ (if z 70 0 (nv q) = z 70 0 (nv r) then (if n < 0 then _ else if z 71 0 (nv q) < n then _ else if n ≤ z 71 0 (nv r) then _ else _) else _) = _)
      rw [Sq.2.2, Sr.2.2, Sq.2.1, Sr.2.1]
      by_cases hl : y 9 0 (nv q) = y 9 0 (nv r)
      · rw [if_pos hl, if_pos hl]
        by_cases h0 : n < 0
        · rw [if_pos h0, if_pos (Or.inl h0)]
          exact ⟨fun _ => rfl, fun c => by cases c⟩
        · rw [if_neg h0]
          by_cases h1 : y 8 0 (nv q) < n
          · rw [if_pos h1, if_pos (Or.inr (Or.inl h1))]
            exact ⟨fun _ => rfl, fun c => by cases c⟩
          · rw [if_neg h1]
            by_cases h2 : n ≤ y 8 0 (nv r)
            · rw [if_pos h2, if_neg (fun c => c.elim h0 (fun d => d.elim h1 (fun e => Int32.not_lt.mpr h2 e)))]
              refine ⟨fun c => absurd rfl c, fun _ => ?_⟩
              obtain ⟨nn, hnn, rfl⟩ := nI_of h0
              have k1 : nn ≤ nv (y 8 0 (nv q)) := by
                rw [a2.1, nI_ltI (nv_lt _) (by omega)] at h1; omega
              have k2 : nn ≤ nv (y 8 0 (nv r)) := by
                rw [b2.1, nI_leI (by omega) (nv_lt _)] at h2; exact h2
              have a22 := a2.2
              refine ⟨nv q, nv r, nn, nv (y 7 0 (nv q)), nv (y 7 0 (nv r)), q1.1, r1.1, rfl, by omega, by omega, a1.1, b1.1, by omega, by omega, by omega, ?_⟩
              have hsd : nv (y 7 0 (nv q)) = nv (y 7 0 (nv r)) ∨ nv (y 7 0 (nv q)) + nn ≤ nv (y 7 0 (nv r)) ∨ nv (y 7 0 (nv r)) + nn ≤ nv (y 7 0 (nv q)) := by
                rcases Nat.lt_trichotomy (nv q) (nv r) with t | t | t
                · right; left; have := b4 _ t; omega
                · left; rw [t]
                · right; right; have := a4 _ t; omega
              have := copies_loop (qq := nv q) (rr := nv r) (n := nn) (s := nv (y 7 0 (nv q))) (d := nv (y 7 0 (nv r))) (by omega) (by omega) (by omega) (by omega) hsd nn 100 0 z (by omega) (by omega) (Sq.1.trans a1.1) (Sr.1.trans b1.1)
              rw [← q1.1, ← r1.1] at this
              exact this
            · rw [if_neg h2, if_pos (Or.inr (Or.inr (Int32.not_le.mp h2)))]
              exact ⟨fun _ => rfl, fun c => by cases c⟩
      · rw [if_neg hl, if_neg hl]
        exact ⟨fun _ => rfl, fun c => by cases c⟩
/-- COPY -/
theorem act_12 {f m p : Nat} {y z : st} (hf : f < 12) (hm8 : m < 8) (h : Wa f m p y z) (hk : y 18 (48 * m + p) 0 = 12) : ∃ o y6, f_X4_copyPlaces f (48 * m + p) y = some (o, y6) ∧ o < 5 ∧ AP f m p y z o y6 := by
  have hit := h.rows (k := 12) hf hm8 hk (by omega) (by omega)
  obtain ⟨hst, hs, hA, hp48⟩ := h.step hf hm8
  clear hst
  obtain ⟨hW, h3, h4, hp⟩ := h
  have h36 := hW.2.2.2.2.2.2.2.2.1.2.1
  have ha : isN (y 18 (48 * m + p) 1) 2 := hA.2.2.1 (by rw [hk]; decide)
  have hb : isN (y 18 (48 * m + p) 2) 2 := hA.2.2.2.2.2.1 (by rw [hk]; decide)
  have hc : isN (y 18 (48 * m + p) 3) 5 := hA.2.2.2.2.2.2.1 (by rw [hk]; decide)
  have ha2 := ha.2
  have hb2 := hb.2
  have hc2 := hc.2
  have e6 : inb (nI (48 * m + p)) 384 = true := inb_nI (by omega) (by decide)
  have e7 : (nI (48 * m + p)).toNatClampNeg = 48 * m + p := nI_clamp (by omega)
  have e41 : z 41 0 (48 * m + p) = 12 := (hs 0 (by omega)).trans hk
  have e42 : z 42 0 (48 * m + p) = nI (nv (y 18 (48 * m + p) 1)) := (hs 1 (by omega)).trans ha.1
  have e43 : z 43 0 (48 * m + p) = nI (nv (y 18 (48 * m + p) 2)) := (hs 2 (by omega)).trans hb.1
  have e44 : z 44 0 (48 * m + p) = nI (nv (y 18 (48 * m + p) 3)) := (hs 3 (by omega)).trans hc.1
  have hSF := (hW.2.2.2.2.1 f (by omega)).2.2.1
  have hD := hW.2.2.1
  obtain ⟨hro, e60⟩ := hW.row (j := nv (y 18 (48 * m + p) 1)) (by omega)
  obtain ⟨hro2, e602⟩ := hW.row (j := nv (y 18 (48 * m + p) 2)) (by omega)
  have h504 := hD.1.1.2.2.1.1
  obtain ⟨hcn, hc0⟩ := copies_eq (n := y 13 f (nv (y 18 (48 * m + p) 3))) hD hro hro2
  unfold f_X11_rows at hit
  rw [e6, if_pos rfl, e7, e41, if_neg (by decide), if_neg (by decide), if_neg (by decide), if_pos rfl, e42, i3f, inb_nI (show 3 * f + nv (y 18 (48 * m + p) 1) < 39 by omega) (by decide), if_pos rfl, if_pos rfl, e43, i3f, inb_nI (show 3 * f + nv (y 18 (48 * m + p) 2) < 39 by omega) (by decide), if_pos rfl, if_pos rfl, e44, bnd_of (get_eq (by omega) (by omega)), nI_clamp (show 3 * f + nv (y 18 (48 * m + p) 1) < 2 ^ 31 by omega), nI_clamp (show 3 * f + nv (y 18 (48 * m + p) 2) < 2 ^ 31 by omega), e60, e602, hSF _ (by omega), bnd_id] at hit
  unfold f_X4_copyPlaces f_X0_a f_X0_b f_X0_c
  rw [bnd_of rfl, ha.1, inb_nI (show nv (y 18 (48 * m + p) 1) < 3 by omega) (by decide), if_pos rfl, nI_clamp (nv_lt _), bnd_of rfl, hb.1, inb_nI (show nv (y 18 (48 * m + p) 2) < 3 by omega) (by decide), if_pos rfl, nI_clamp (nv_lt _), bnd_of rfl, hc.1, inb_nI (show nv (y 18 (48 * m + p) 3) < 6 by omega) (by decide), if_pos rfl, nI_clamp (nv_lt _), bnd_of (copyFault_eq h504 hro hro2)]
  by_cases h0 : cf y (y 14 f (nv (y 18 (48 * m + p) 1))) (y 14 f (nv (y 18 (48 * m + p) 2))) (y 13 f (nv (y 18 (48 * m + p) 3))) = 0
  · obtain ⟨qq, rr, nn, s, d, q1, q2, q3, q4, q5, q6, q7, q8, q9, q10, q11⟩ := hc0 h0
    rw [bnd_of q11] at hit
    rw [h0, if_pos (show nI 0 = 0 from rfl), q1, q2, q3]
    have hcp : f_X9_copy (nI qq) (nI rr) (nI nn) y = some (sxA y 6 0 (va_cpy (y 6 0) (y 6 0) s d nn)) := by
      unfold f_X9_copy
      rw [inb_nI q4 (by decide), if_pos rfl, inb_nI q5 (by decide), if_pos rfl, nI_clamp (show qq < 2 ^ 31 by omega), nI_clamp (show rr < 2 ^ 31 by omega), q6, q7, nI_clamp (show s < 2 ^ 31 by omega), nI_clamp (show d < 2 ^ 31 by omega), nI_clamp (show nn < 2 ^ 31 by omega), lets_eq, if_pos]
      unfold cpok
      rw [nI_clamp (show s < 2 ^ 31 by omega), nI_clamp (show d < 2 ^ 31 by omega), nI_clamp (show nn < 2 ^ 31 by omega)]
      simp only [Bool.and_eq_true, Bool.not_eq_true', decide_eq_false_iff_not, decide_eq_true_eq]
      exact ⟨⟨⟨⟨nI_pos (by omega), nI_pos (by omega)⟩, nI_pos (by omega)⟩, q9⟩, q10⟩
    rw [bnv_of hcp]
    obtain ⟨hW2, hQ2⟩ := cpA_pair hW q9 q10
    exact ⟨0, _, rfl, by omega, AP_on hf hm8 hp48 hQ2 (by rw [sxA_k _ (by decide)]) (by rw [sxA_k _ (by decide)]) hW2 (by rw [sxA_k _ (by decide)]; exact h3) (by rw [sxA_k _ (by decide)]; exact h4) Rch.rf h36 (hit.trans (b228_0 hf))⟩
  · have hle := cf_le (y := y) (q := y 14 f (nv (y 18 (48 * m + p) 1))) (r := y 14 f (nv (y 18 (48 * m + p) 2))) (n := y 13 f (nv (y 18 (48 * m + p) 3)))
    have hne := nI_ne0 (n := cf y (y 14 f (nv (y 18 (48 * m + p) 1))) (y 14 f (nv (y 18 (48 * m + p) 2))) (y 13 f (nv (y 18 (48 * m + p) 3)))) (by omega) (by omega)
    rw [bnd_of (hcn h0), b228_k (by omega) (by omega)] at hit
    rw [if_neg hne, bnd_id]
    exact raise_sim hf hW Rch.rf h36 (by omega) hit
