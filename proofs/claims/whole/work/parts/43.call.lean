/-! CALL: both sides -/
theorem Wf.back {f m : Nat} {y y' z0 z z' : st} (h : Wf f m y z0 z) (kc : KC (f + 1) y y') (kr : KR (f + 1) z z') (hD : DG y' z') (hn : nv (y 5 0 4) ≤ nv (y' 5 0 4)) (h16 : z' 30 0 16 = nI (f + 1)) (h36 : z' 30 0 36 = 0) : Wf f m y' z0 z' := by
  obtain ⟨hIP, hSP, -, hIF, hSF, hm, h5, hK, hTR, h61⟩ := h
  obtain ⟨a1, a2, a3, a4, -⟩ := kr.2.1.1 f (by omega)
  refine ⟨hIP.kc kc, hSP.kc kc kr.1, hD, hIF.kc kc (Nat.le_refl _) hn, hSF.kc kc kr.2.1 (Nat.le_refl _), by rw [(kc.2.2.2 f (by omega)).1]; exact hm, by rw [(kc.2.2.2 f (by omega)).1]; exact h5, hK.tr (kr.lo (by omega)), ⟨h16, h36, a4.trans hTR.2.2.1, hTR.2.2.2.of kr.2.2.1.1 kr.2.2.1.2 (Nat.le_refl _)⟩, a3.trans h61⟩
theorem gave_eq {f m p a : Nat} {v : Int32} {z : st} (hf : f + 1 < 12) (hm8 : m < 8) (hp : p < 48) (ha : a < 6) (h16 : z 30 0 16 = nI (f + 1)) (h61 : z 61 0 (f + 1) = 0) (h57 : z 57 0 f = nI m) (h58 : z 58 0 f = nI p) (h42 : z 42 0 (48 * m + p) = nI a) : f_X11_gave (nI (f + 1)) v z = f_X11_leave (nI f) ((sx z 59 0 (6 * f + a) v) 58 0 f + 1) 0 0 (sx z 59 0 (6 * f + a) v) := by
  have e1 : inb (nI f) 13 = true := inb_nI (by omega) (by decide)
  have e2 : (nI f).toNatClampNeg = f := nI_clamp (by omega)
  have e5 : (48 : Int32) * nI m + nI p = nI (48 * m + p) := by rw [n48, pk_mul, nI_add]
  have e6 : inb (nI (48 * m + p)) 384 = true := inb_nI (by omega) (by decide)
  have e7 : (nI (48 * m + p)).toNatClampNeg = 48 * m + p := nI_clamp (by omega)
  have e8 : (6 : Int32) * nI f + nI a = nI (6 * f + a) := by rw [n6, pk_mul, nI_add]
  unfold f_X11_gave
  rw [h16, if_neg (nI_ne0 (by omega) (by omega)), inb_nI (show f + 1 < 13 by omega) (by decide), if_pos rfl, nI_clamp (show f + 1 < 2 ^ 31 by omega), if_pos h61]
  simp only [nI_pred, e1, e2, h57, h58, e5, e6, e7, h42, e8, if_true, inb_nI (show 6 * f + a < 78 by omega) (by decide), nI_clamp (show 6 * f + a < 2 ^ 31 by omega), lets, bnv_id]
theorem act_13 {pf : Int32 → st → Option (Nat × st)} {f m p : Nat} {y z : st} (hf : f < 12) (hpf : f + 1 < 12 → PFs pf (f + 1)) (hm8 : m < 8) (h : Wa f m p y z) (hk : y 18 (48 * m + p) 0 = 13) : ∃ o y6, f_X4_callMethod pf f (48 * m + p) (nI (f + 1)) y = some (o, y6) ∧ o < 5 ∧ AP f m p y z o y6 := by
  obtain ⟨hst, hs, hA, hp48⟩ := h.step hf hm8
  obtain ⟨hW, h3, h4, hp⟩ := h
  have h36 := hW.2.2.2.2.2.2.2.2.1.2.1
  have ha : isN (y 18 (48 * m + p) 1) 5 := hA.2.1 (by rw [hk]; decide)
  have hb : isN (y 18 (48 * m + p) 2) 7 := hA.2.2.2.2.2.2.2.2.2.1 (by rw [hk]; decide)
  have hc : isN (y 18 (48 * m + p) 3) 2 := hA.2.2.2.2.2.2.2.2.1 (by rw [hk]; decide)
  have hd : isN (y 18 (48 * m + p) 4) 5 := hA.2.2.2.2.2.2.2.1 (by rw [hk]; decide)
  have ha2 := ha.2
  have hb2 := hb.2
  have hc2 := hc.2
  have hd2 := hd.2
  have e42 : z 42 0 (48 * m + p) = nI (nv (y 18 (48 * m + p) 1)) := (hs 1 (by omega)).trans ha.1
  have e43 : z 43 0 (48 * m + p) = y 18 (48 * m + p) 2 := hs 2 (by omega)
  have e44 : z 44 0 (48 * m + p) = nI (nv (y 18 (48 * m + p) 3)) := (hs 3 (by omega)).trans hc.1
  have e45 : z 45 0 (48 * m + p) = nI (nv (y 18 (48 * m + p) 4)) := (hs 4 (by omega)).trans hd.1
  have hSF := hW.2.2.2.2.1 f (by omega)
  have hD := hW.2.2.1
  have hTR := hW.2.2.2.2.2.2.2.2.1
  have e57 : z 57 0 f = nI m := hSF.1.trans hW.2.2.2.2.2.1
  have e58 : z 58 0 f = nI p := hSF.2.1.trans h3
  have hro := (hW.row (j := nv (y 18 (48 * m + p) 3)) (by omega)).1
  rw [hk] at hst
  unfold stepK at hst
  rw [if_neg (by decide), if_neg (by decide), if_neg (by decide), if_pos (by decide)] at hst
  unfold f_X4_callMethod f_X4_callFrame f_X0_a f_X0_b f_X0_c f_X0_d
  rw [bnd_of rfl, bnd_of rfl, hd.1, inb_nI (show nv (y 18 (48 * m + p) 4) < 6 by omega) (by decide), if_pos rfl, bnd_of rfl, hc.1, inb_nI (show nv (y 18 (48 * m + p) 3) < 3 by omega) (by decide), if_pos rfl, nI_clamp (nv_lt _), nI_clamp (nv_lt _), nI_add1]
  by_cases hfit : fitY y 1
  · have hcz : f_X11_counts z = some (1, cntZ z 1) := counts_of (take_fit ((fit_eq hD.1.2).mpr hfit)) (Or.inr rfl)
    rw [bnd_of hcz, if_neg (by decide), cntZ_k (k := 43) (by decide), cntZ_k (k := 44) (by decide), cntZ_k (k := 45) (by decide), e43, e44, e45] at hst
    obtain ⟨hW1, hQ1, hr1, h461, -⟩ := hW.cnt (n := 1) (by omega) hfit
    rw [show nI 1 = (1 : Int32) from rfl] at hW1 hQ1 hr1 h461
    by_cases h11 : f + 1 < 12
    · rw [bnd_of (makes_eq h11 (by omega) (by omega) (by omega) (Or.inl rfl) (by rw [cntZ_k (by decide)]; exact hTR.1)), if_neg (by decide), cntZ_k (k := 59) (by decide), cntZ_k (k := 60) (by decide), hSF.2.2.1 _ (by omega), hSF.2.2.2 _ (by omega)] at hst
      obtain ⟨d2, kc2, kr2, sf2, if2⟩ := mk_pair (f := f + 1) (m := y 18 (48 * m + p) 2) (num := y 13 f (nv (y 18 (48 * m + p) 4))) (row := y 14 f (nv (y 18 (48 * m + p) 3))) (cl := 0) hW1.2.2.1
      have sf2' := sf2 hW1.2.2.2.2.1
      have if2' := if2 hW1.2.2.2.1 hb (by rw [cntY_k (k := 5) (by decide)]; exact hro)
      have hmk := makeFrame_ok (m := y 18 (48 * m + p) 2) (num := y 13 f (nv (y 18 (48 * m + p) 4))) (row := y 14 f (nv (y 18 (48 * m + p) 3))) h11 hfit
      change itR z = some (mkZ (cntZ z 1) (f + 1) (y 18 (48 * m + p) 2) (y 13 f (nv (y 18 (48 * m + p) 4))) (y 14 f (nv (y 18 (48 * m + p) 3))) 0) at hst
      change f_X4_makeFrame _ _ _ _ y = some (0, nfY (cntY y 1) (f + 1) (y 18 (48 * m + p) 2) (y 13 f (nv (y 18 (48 * m + p) 4))) (y 14 f (nv (y 18 (48 * m + p) 3)))) at hmk
      generalize hy1 : nfY (cntY y 1) (f + 1) (y 18 (48 * m + p) 2) (y 13 f (nv (y 18 (48 * m + p) 4))) (y 14 f (nv (y 18 (48 * m + p) 3))) = y1 at d2 kc2 kr2 sf2' if2' hmk
      generalize hz1 : mkZ (cntZ z 1) (f + 1) (y 18 (48 * m + p) 2) (y 13 f (nv (y 18 (48 * m + p) 4))) (y 14 f (nv (y 18 (48 * m + p) 3))) 0 = z1 at d2 kc2 kr2 sf2' if2' hst
      have z30 : ∀ j, z1 30 0 j = if j = 16 then nI (f + 2) else z 30 0 j := by
        intro j; rw [← hz1, mkZ_30, cntZ_k (by decide)]
      have z62 : z1 62 0 (f + 1) = 0 := by rw [← hz1, mkZ_1.2.2.2.1, if_pos rfl]
      have z61 : z1 61 0 (f + 1) = 0 := by rw [← hz1, mkZ_1.2.2.1, if_pos rfl]
      have y15 : y1 5 = y 5 := by rw [← hy1, nfY_k (by decide), cntY_k (by decide)]
      have y14 : y1 4 = cntY y 1 4 := by rw [← hy1, nfY_k (by decide)]
      have hkr0 : KR (f + 1) z (cntZ z 1) := (cnt_pair (n := 1) hD (by omega) hfit).2.2.1 (f + 1)
      have hkc0 : KC (f + 1) y (cntY y 1) := (cnt_pair (n := 1) hD (by omega) hfit).2.1 (f + 1)
      have hkr : KR (f + 1) z z1 := hkr0.tr kr2
      have hkc : KC (f + 1) y y1 := hkc0.tr kc2
      have hTR1 : TR (f + 1) z1 := ⟨by rw [z30]; simp, by rw [z30]; simp [h36], z62, hTR.2.2.2.of (by rw [z30]; simp) (by rw [z30]; simp) (by omega)⟩
      have hQy1 : Qk f y y1 := ⟨hkc.lo (by omega), by rw [rem_k y14]; omega, by rw [y15]; exact Nat.le_refl _⟩
      have h46y1 : y1 4 0 6 = y 4 0 6 := by rw [y14]; exact h461
      have hR1 : Rch z z1 := Rch.hd h36 hst Rch.rf
      obtain ⟨o, y', hpf1, hQp, hcs⟩ := hpf h11 y1 z1 (hW.1.kc hkc) (hW.2.1.kc hkc hkr.1) d2 if2' sf2' hTR1
      have ho5 : o < 5 := by rcases hcs with ⟨h, -⟩ | ⟨h, -⟩ | ⟨h, -⟩ | ⟨h, -⟩ <;> omega
      rw [bnd_of (show (bnd (f_X4_makeFrame (y 18 (48 * m + p) 2) (y 13 f (nv (y 18 (48 * m + p) 4))) (y 14 f (nv (y 18 (48 * m + p) 3))) (nI (f + 1 + 1)) y) fun r2 x1 => if r2 < 5 then if r2 = 0 then (bnd (pf (nI (f + 1 + 1)) x1) fun r6 x5 => some (r6, x5)) else some (r2, x1) else none) = some (o, y') from by rw [bnd_of hmk, if_pos (by decide), if_pos rfl, bnd_id]; exact hpf1), if_pos ho5]
      have hkcA : KC (f + 1) y y' := hkc.tr hQp.1
      have hcnt : nv (y 5 0 4) ≤ nv (y' 5 0 4) := by have := hQp.2.2; rw [y15] at this; exact this
      have hQA : Qk f y y' := hQy1.tr (hQp.lo (by omega))
      have hA2 : y' 12 f 2 = y 12 f 2 := by rw [(hkcA.2.2.2 f (by omega)).1]
      rcases hcs with ⟨ho, e6, z2, zp, g1, g2, g3, g4, g5, g6, g7, g8⟩ | ⟨ho, e6, z2, zp, g1, g2, g3, g4, g5, g6, g7⟩ | ⟨ho, e6, z2, g1, g2, g3, g4, g5, g6, g7⟩ | ⟨ho, hP⟩
      · subst ho
        rw [if_pos rfl, bnd_of rfl, bnd_id]
        have hWb := hW.back hkcA (hkr.tr g5) g4 hcnt g6 g7
        rw [gave_eq (a := nv (y 18 (48 * m + p) 1)) h11 hm8 hp48 (by omega) g6 (g8.trans z61) (((hkr.tr g5).2.1.1 f (by omega)).1.trans e57) (((hkr.tr g5).2.1.1 f (by omega)).2.1.trans e58) (by rw [(hkr.tr g5).1.2.1 42 (by decide) (by decide)]; exact e42), ← b228_0 hf] at g3
        have e181 : y' 18 (48 * m + p) 1 = nI (nv (y 18 (48 * m + p) 1)) := by rw [hkcA.1 18 (by decide)]; exact ha.1
        rw [e181]
        obtain ⟨o2, y6, q1, q2, q3⟩ := act_num (p := p) (v := y' 1 0 5) hf hm8 hp48 (by omega) hWb (by rw [(hkcA.2.2.2 f (by omega)).1]; exact h3) (by rw [(hkcA.2.2.2 f (by omega)).1]; exact h4) (hR1.tr g1) g2 g3
        exact ⟨o2, y6, q1, q2, q3.pre hQA (e6.trans h46y1) hA2⟩
      · subst ho
        rw [if_neg (by decide)]
        rw [thr_s, if_pos (g7.trans z61)] at g3
        have krp : KR (f + 1) zp (sx zp 30 0 16 (nI (f + 1))) := by
          refine ⟨⟨fun k hk => sx_k _ (by omega), fun k _ _ => sx_k _ (by omega), by simp [sx_app], by simp [sx_app]⟩, ⟨fun i hi => ⟨?_, ?_, ?_, ?_, ?_, ?_, ?_⟩, fun i hi => ?_, fun i hi => ?_⟩, ⟨?_, ?_⟩, fun i hi => ⟨?_, ?_⟩⟩ <;> simp [sx_app]
        have hWb := hW.back (z' := sx zp 30 0 16 (nI (f + 1))) hkcA ((hkr.tr g5).tr krp) (g4.z (fun k h1 _ => sx_k _ h1) (fun j hj => by rw [sx_app, if_neg (by omega)])) hcnt (by simp [sx_app]) (by simp [sx_app, g6])
        exact ⟨2, y', rfl, by omega, hQA, hA2, Or.inr (Or.inr (Or.inl ⟨rfl, e6.trans h46y1, _, z2, hR1.tr g1, g2, g3, hWb⟩))⟩
      · subst ho
        rw [if_neg (by decide)]
        refine ⟨3, y', rfl, by omega, hQA, hA2, Or.inr (Or.inr (Or.inr (Or.inl ⟨rfl, h46y1.symm.trans e6, z2, hR1.tr g1, g2, ?_, ?_, ?_, ⟨g4, (g7 f rfl).2, (g7 f rfl).1⟩, ⟨?_, ?_, ?_⟩, g5⟩)))⟩
        · exact hW.2.2.2.1.kc hkcA (Nat.le_refl _) hcnt
        · exact hW.2.2.2.2.1.kc hkcA (hkr.2.1.tr g3.2.1) (Nat.le_refl _)
        · exact (hkr.lo (by omega)).S (g3.lo (by omega))
        · rw [(g3.2.2.2 f (by omega)).1, (hkr.2.1.1 f (by omega)).2.2.2.1, hTR.2.2.1, if_pos rfl, (hkcA.2.2.2 f (by omega)).1]
          exact hW.2.2.2.2.2.2.1.symm
        · rw [(g3.2.2.2 f (by omega)).2, (g3.2.1.1 f (by omega)).1, g3.1.2.1 51 (by decide) (by decide)]
        · rw [(g3.2.1.1 f (by omega)).2.2.1, (hkr.2.1.1 f (by omega)).2.2.1]
      · subst ho
        rw [if_neg (by decide)]
        exact ⟨4, y', rfl, by omega, hQA, hA2, Or.inr (Or.inr (Or.inr (Or.inr ⟨rfl, hP.pre hR1 hkr.1⟩)))⟩
    · have h12 : f = 11 := by omega
      subst h12
      rw [bnd_of (makes_deep (by rw [cntZ_k (by decide)]; exact hTR.1)), if_pos rfl] at hst
      obtain ⟨o, y6, g1, g2, g3⟩ := raise_sim (kk := 7) (p := p) hf hW1 Rch.rf h36 (by omega) hst
      have g1' : f_X4_raise (nI 7) (cntY y 1) = some (2, sx (cntY y 1) 1 0 6 7) := rfl
      rw [g1'] at g1
      cases g1
      refine ⟨2, _, ?_, by omega, g3.pre hQ1 h461 (by rw [cntY_k (by decide)])⟩
      rw [makeFrame_deep hfit]
      rfl
  · obtain ⟨zo, hzo⟩ := over_some hf hW
    have hcz : f_X11_counts z = some (0, zo) := counts_of (take_over (fun q => hfit ((fit_eq hD.1.2).mp q)) hzo) (Or.inl rfl)
    rw [bnd_of hcz, if_pos rfl, ← hzo] at hst
    obtain ⟨o, y', h1, ho0, ho5, hap⟩ := AP_no (p := p) hf hW Rch.rf h36 hst
    refine ⟨o, y', ?_, ho5, hap⟩
    have ho1 : ¬ o = 1 := by
      rcases hap.2.2 with ⟨q, -⟩ | ⟨q, -⟩ | ⟨q, -⟩ | ⟨q, -⟩ | ⟨q, -⟩
      · omega
      · rcases hD.1.1.1.2.2.2.2.2 with h6 | h6
        · rw [refuse_0 h6] at h1; cases h1; omega
        · rw [refuse_1 (by rw [h6]; decide)] at h1; cases h1; omega
      · omega
      · omega
      · omega
    rw [bnd_of (show (bnd (f_X4_makeFrame (y 18 (48 * m + p) 2) (y 13 f (nv (y 18 (48 * m + p) 4))) (y 14 f (nv (y 18 (48 * m + p) 3))) (nI (f + 1 + 1)) y) fun r2 x1 => if r2 < 5 then if r2 = 0 then (bnd (pf (nI (f + 1 + 1)) x1) fun r6 x5 => some (r6, x5)) else some (r2, x1) else none) = some (o, y') from by rw [bnd_of (makeFrame_no hfit h1 ⟨ho0, ho5⟩), if_pos ho5, if_neg (by omega)]), if_pos ho5, if_neg ho1]
