/-! cleaning up behind a stop, both sides -/
def KR2 (d : Nat) (z z' : st) : Prop := K0 z z' ∧ KA d z z' ∧ z' 30 0 37 = z 30 0 37 ∧ ∀ i, i < d → z' 66 0 i = z 66 0 i ∧ z' 67 0 i = z 67 0 i
theorem KR.r2 {d : Nat} {z z' : st} (h : KR d z z') : KR2 d z z' := ⟨h.1, h.2.1, h.2.2.1.1, h.2.2.2⟩
theorem KR2.tr {d : Nat} {a b c : st} (h1 : KR2 d a b) (h2 : KR2 d b c) : KR2 d a c := ⟨h1.1.tr h2.1, h1.2.1.tr h2.2.1, h2.2.2.1.trans h1.2.2.1, fun i hi => ⟨(h2.2.2.2 i hi).1.trans (h1.2.2.2 i hi).1, (h2.2.2.2 i hi).2.trans (h1.2.2.2 i hi).2⟩⟩
theorem KS.R2 {d : Nat} {a b c : st} (h1 : KS d a b) (h2 : KR2 d b c) : KS d a c := by
  refine ⟨h1.1.tr h2.1, h1.2.1.tr h2.2.1, h2.2.2.1.trans h1.2.2.1, fun i hi => ?_⟩
  rw [(h2.2.2.2 i hi).1, (h2.2.2.2 i hi).2]
  exact h1.2.2.2 i hi
theorem z30R {z : st} {f : Nat} {j : Nat} {v : Int32} (hj : j ≠ 15 ∧ j ≠ 34 ∧ j ≠ 37) : KR2 f z (sx z 30 0 j v) := by
  obtain ⟨h1, h2, h3⟩ := hj
  refine ⟨⟨fun k hk => sx_k _ (by omega), fun k _ _ => sx_k _ (by omega), ?_, ?_⟩, ⟨fun i _ => ⟨?_, ?_, ?_, ?_, ?_, ?_, ?_⟩, fun j _ => ?_, fun j _ => ?_⟩, ?_, fun i hi => ⟨?_, ?_⟩⟩
  · rw [sx_app, if_neg (by omega)]
  · refine ⟨?_, by rw [sx_k _ (by decide)], by rw [sx_k _ (by decide)]⟩
    rw [sx_app, if_neg (by omega)]
  all_goals first | (rw [sx_app, if_neg (by omega)]; done) | (simp [sx_app]; done)
/-- a bit above doesn't matter -/
theorem bt_or {v : Int32} {c j : Nat} (hc : c < 6) (hj : j < c) : btZ (v ||| (1 <<< (nI c &&& 31))) j ↔ btZ v j := by
  have key : ∀ c : Fin 6, ∀ j : Fin 6, j.val < c.val → ∀ v : Int32, (((v ||| (1 <<< (nI c.val &&& 31))) >>> (nI j.val &&& 31)) &&& 1) = ((v >>> (nI j.val &&& 31)) &&& 1) := by
    intro c j hjc v
    have hb : ∀ w : BitVec 32, ∀ p q : Fin 6, q.val < p.val → (((w ||| (1#32 <<< p.val)).sshiftRight q.val) &&& 1#32) = ((w.sshiftRight q.val) &&& 1#32) := by
      intro w p q hpq
      apply BitVec.eq_of_getLsbD_eq
      intro i hi
      simp only [BitVec.getLsbD_and, BitVec.getLsbD_sshiftRight, BitVec.getLsbD_or, BitVec.getLsbD_shiftLeft, BitVec.getLsbD_one]
      by_cases h0 : i = 0
      · subst h0
        have e1 : ¬ (q.val + 0 ≥ 32) := by have := q.isLt; omega
        have e2 : q.val + 0 < p.val := by omega
        have e3 : q.val < 32 := by have := q.isLt; omega
        simp [e3, hpq]
      · simp [h0]
    have e1 : (nI c.val &&& 31) = nI c.val := by
      have := c.isLt
      have h := pk_andN (n := c.val) (by omega) (m := 31) 5 rfl
      rw [h, Nat.mod_eq_of_lt (by omega)]
    have e2 : (nI j.val &&& 31) = nI j.val := by
      have := j.isLt
      have h := pk_andN (n := j.val) (by omega) (m := 31) 5 rfl
      rw [h, Nat.mod_eq_of_lt (by omega)]
    rw [e1, e2]
    have hs : ∀ q : Fin 6, ((nI q.val).toBitVec.smod 32).toNat = q.val := by decide
    apply Int32.toBitVec_inj.mp
    have hh := hb v.toBitVec c j hjc
    simp only [Int32.toBitVec_and, Int32.toBitVec_or, Int32.toBitVec_shiftLeft, Int32.toBitVec_shiftRight]
    have t1 : (1 : Int32).toBitVec <<< ((nI c.val).toBitVec.smod 32) = 1#32 <<< c.val := by
      show (1 : Int32).toBitVec <<< ((nI c.val).toBitVec.smod 32).toNat = _
      rw [hs c]; rfl
    have t2 : ∀ w : BitVec 32, w.sshiftRight' ((nI j.val).toBitVec.smod 32) = w.sshiftRight j.val := by
      intro w
      show w.sshiftRight ((nI j.val).toBitVec.smod 32).toNat = _
      rw [hs j]
    rw [t1, t2, t2]
    exact hh
  unfold btZ
  rw [key ⟨c, hc⟩ ⟨j, by omega⟩ hj v]
set_option maxHeartbeats 1000000 in
theorem cs_sim {pf : Int32 → st → Option (Nat × st)} {f m : Nat} {b : Int32} (hf : f < 12) (hpf : f + 1 < 12 → PFs pf (f + 1)) (hm8 : m < 8) : ∀ (c n N : Nat) (y z0 z : st), c < n → c < N → IP y → SP y z → DG y z → IF (f + 1) y → SF (f + 1) y z → y 12 f 2 = nI m → c ≤ nv (y 23 m 2) → c ≤ 6 → z0 30 0 36 = 0 → itR z0 = f_X11_cleanOn_b12 N (nI f) (nI m) z → KR2 f z0 z → (z 30 0 16 = nI (f + 1) ∧ z 30 0 38 = nI f ∧ z 30 0 36 = 0) → z 67 0 f = nI c - 1 → z 66 0 f = y 12 f 5 → (∀ j, j < c → (btZ (z 66 0 f) j ↔ btZ b j)) → y 4 0 6 = 1 →
    ∃ o y', f_X4_cleanStopped_b27 pf n f (nI (f + 1)) m b (nI c - 1) y = some (o, y') ∧ Qk f y y' ∧ ((o = 3 ∧ ∃ z2, Rch z0 z2 ∧ DG y' z2 ∧ KR2 f z0 z2 ∧ z2 30 0 16 = nI f ∧ y' 4 0 6 = 1 ∧ (f = 0 → z2 30 0 36 = 1) ∧ (∀ p, f = p + 1 → z2 30 0 36 = 0 ∧ z2 30 0 38 = nI p)) ∨ (o = 4 ∧ P4 y' z0)) := by
  intro c
  induction c with
  | zero =>
    intro n N y z0 z hn hN hIP hSP hDG hIF hSF hm hcl hc6 h036 hit hK ⟨h16, h38, h36⟩ hat h66 hbt h46
    obtain ⟨n, rfl⟩ : ∃ q, n = q + 1 := ⟨n - 1, by omega⟩
    obtain ⟨N, rfl⟩ : ∃ q, N = q + 1 := ⟨N - 1, by omega⟩
    rw [co_fin (by omega) (by rw [hat]; decide)] at hit
    refine ⟨3, y, ?_, Qk.rf, Or.inl ⟨rfl, _, Rch.hd h036 hit Rch.rf, ?_, ?_, ?_, h46, ?_, ?_⟩⟩
    · unfold f_X4_cleanStopped_b27
      rw [if_pos (by decide)]
    · exact hDG.z (fun k h1 _ => by rw [sx_k _ h1, sx_k _ h1, sx_k _ h1]) (fun j hj => by rw [sx_app, if_neg (by omega), sx_app, if_neg (by omega), sx_app, if_neg (by omega)])
    · exact hK.tr ((z30R (by decide)).tr ((z30R (by decide)).tr (z30R (by decide))))
    · simp [sx_app]
    · intro h0; simp [sx_app, h0]
    · intro p hp
      subst hp
      refine ⟨by simp [sx_app], ?_⟩
      simp only [sx_app]
      simp [h38, nI_pred]
  | succ c ih =>
    intro n N y z0 z hn hN hIP hSP hDG hIF hSF hm hcl hc6 h036 hit hK ⟨h16, h38, h36⟩ hat0 h66 hbt h46
    obtain ⟨n, rfl⟩ : ∃ q, n = q + 1 := ⟨n - 1, by omega⟩
    obtain ⟨N, rfl⟩ : ∃ q, N = q + 1 := ⟨N - 1, by omega⟩
    rw [nI_pred] at hat0 ⊢
    have hat := hat0
    have hin := inb26 hIP hm8 (show c < nv (y 23 m 2) by omega)
    have hz57 : z 57 0 f = nI m := ((hSF f (by omega)).1).trans hm
    have hz58 : z 58 0 f = y 12 f 3 := (hSF f (by omega)).2.1
    have hat48 : isN (y 12 f 3) 48 := (hIF f (by omega)).2.1
    have e1 : hdZ z m c (z 58 0 f) ↔ hdY y (6 * m + c) (y 12 f 3) := by rw [hz58]; exact hd_eq hSP hm8 (by omega) hat48
    have e2 := hbt c (by omega)
    have h37 : z 30 0 37 = 1 := (hDG.1.2.1.2.2.2.2.2.2).trans h46
    by_cases hT : hdY y (6 * m + c) (y 12 f 3) ∨ ¬ btZ b c
    · rw [csY_skip hin (by omega) hT]
      have hT' : hdZ z m c (z 58 0 f) ∨ ¬ btZ (z 66 0 f) c := hT.elim (fun q => Or.inl (e1.mpr q)) (fun q => Or.inr (fun w => q (e2.mp w)))
      rw [co_skip (by omega) hm8 (by omega) hat hT'] at hit
      refine ih n N y z0 (sx z 67 0 f (nI c - 1)) (by omega) (by omega) hIP ?_ ?_ hIF ?_ hm (by omega) (by omega) h036 hit (hK.tr z67.r2) ⟨by simp [sx_app, h16], by simp [sx_app, h38], by simp [sx_app, h36]⟩ (by simp [sx_app]) (by simp [sx_app, h66]) (fun j hj => by rw [sx_k _ (by decide)]; exact hbt j (by omega)) h46
      · exact hSP.kc (d := 0) KC.rf (z67 (f := f)).1
      · exact hDG.z (fun k h1 h2 => sx_k _ (by omega)) (fun j _ => by simp [sx_app])
      · intro i hi
        have := hSF i hi
        simpa [sx_app] using this
    · have q1 : ¬ hdY y (6 * m + c) (y 12 f 3) := fun q => hT (Or.inl q)
      have q2 : btZ b c := Classical.byContradiction fun q => hT (Or.inr q)
      rw [co_run (by omega) hm8 (by omega) hat (fun q => q1 (e1.mp q)) (e2.mpr q2)] at hit
      by_cases hfit : fitY y 1
      · by_cases hdeep : f + 1 < 12
        · obtain ⟨z4, w1, w2, wIP, wSP, wDG, wIF, wSF, wKC, wKR, ⟨v16, v36, v62, v61⟩, ⟨u57, u58, u61, u62, u63, u64, u65⟩, ⟨u66, u67⟩, wfs, ⟨wrem, w46, w5⟩⟩ := start_clean hIP hSP hDG hIF hSF hdeep hm hm8 (show c < nv (y 23 m 2) by omega) (by omega) hat h66 h16 hfit
          rw [bnd_of w1, if_neg (by decide), bnd_of w2, if_neg (by decide)] at hit
          have hR : Rch z0 z4 := Rch.hd h036 hit Rch.rf
          have hTR : TR (f + 1) z4 := ⟨v16, by rw [v36]; exact h36, v62, Or.inr ⟨wKR.2.2.1.1.trans h37, f, by omega, wKR.2.2.1.2.trans h38⟩⟩
          obtain ⟨o, y5, hp, hQ, hcases⟩ := hpf hdeep _ _ wIP wSP wDG wIF wSF hTR
          have hcf : f_X4_cleanFrame pf f (nI c) (nI (f + 1)) y = some (o, y5) := by rw [cleanFrame_ok hm hm8 hin (by omega) hdeep hfit hDG.2.1]; exact hp
          have hQ0 : Qk f y y5 := ⟨wKC.tr (hQ.1.lo (by omega)), by have := hQ.2.1; omega, by have := hQ.2.2; rw [w5] at this; exact this⟩
          have hKC2 : KC (f + 1) (cfY y f m c) y5 := hQ.1
          have hfs : fsame f y y5 := fsame.tr wfs (fsame.kc hQ.1)
          have h5 : y5 12 f 5 = cfY y f m c 12 f 5 := by rw [(hQ.1.2.2.2 f (by omega)).1]
          have e23 : y5 23 = y 23 := hQ0.1.1 23 (by decide)
          have hbits : cfY y f m c 12 f 5 = z 66 0 f ||| (1 <<< (nI c &&& 31)) := by
            unfold cfY
            rw [rcY_12, if_pos ⟨rfl, rfl⟩, nfY_f (by omega) (by decide), cntY_k (by decide), h66]
          -- it came back: we go on
          have back : ∀ zp, Rch z0 zp → DG y5 zp → KR (f + 1) z4 zp → zp 30 0 16 = nI (f + 1) → zp 30 0 36 = 0 → y5 4 0 6 = 1 → ∃ o y', f_X4_cleanStopped_b27 pf n f (nI (f + 1)) m b (nI c - 1) y5 = some (o, y') ∧ Qk f y y' ∧ ((o = 3 ∧ ∃ z2, Rch z0 z2 ∧ DG y' z2 ∧ KR2 f z0 z2 ∧ z2 30 0 16 = nI f ∧ y' 4 0 6 = 1 ∧ (f = 0 → z2 30 0 36 = 1) ∧ (∀ p, f = p + 1 → z2 30 0 36 = 0 ∧ z2 30 0 38 = nI p)) ∨ (o = 4 ∧ P4 y' z0)) := by
            intro zp hRp g4 g5 g6 g7 g46
            obtain ⟨p1, -⟩ := g5.2.1.1 f (by omega)
            obtain ⟨p8, p9⟩ := g5.2.2.2 f (by omega)
            have p38 : zp 30 0 38 = nI f := (g5.2.2.1.2.trans wKR.2.2.1.2).trans h38
            have p37 : zp 30 0 37 = 1 := (g5.2.2.1.1.trans wKR.2.2.1.1).trans h37
            have hSF5 : SF (f + 1) y5 zp := SF.kc (d := f + 1) (fun i hi => wSF i (by omega)) hKC2 g5.2.1 (Nat.le_refl _)
            have hIF5 : IF (f + 1) y5 := IF.kc (d := f + 1) (fun i hi => wIF i (by omega)) hKC2 (Nat.le_refl _) hQ.2.2
            have hitp : itR zp = f_X11_cleanOn_b12 100 (nI f) (nI m) zp := by
              rw [itR_clean g6 p37 p38]
              unfold f_X11_cleanOn
              rw [p38, inb_nI (show f < 13 by omega) (by decide), if_pos rfl, nI_clamp (by omega), p1, u57, hz57]
            obtain ⟨o', y', hl1, hl2, hl3⟩ := ih n 100 y5 zp zp (by omega) (by omega) (wIP.kc hKC2) (wSP.kc hKC2 g5.1) g4 hIF5 hSF5 (hfs.1.trans hm) (by rw [e23]; omega) (by omega) g7 hitp KR.rf.r2 ⟨g6, p38, g7⟩ (by rw [p9, u67]) (by rw [p8, u66, h5]) (fun j hj => by rw [p8, u66, hbits, bt_or (by omega) hj]; exact hbt j (by omega)) g46
            refine ⟨o', y', hl1, hQ0.tr hl2, ?_⟩
            have hKp : KR2 f z0 zp := hK.tr ((wKR.tr (g5.lo (by omega))).r2)
            rcases hl3 with ⟨x1, z2, x3, x4, x5, x6, x7, x8, x9⟩ | ⟨x1, z2, x3, x4, x5, x6, x7, x8⟩
            · exact Or.inl ⟨x1, z2, hRp.tr x3, x4, hKp.tr x5, x6, x7, x8, x9⟩
            · exact Or.inr ⟨x1, z2, hRp.tr x3, x4, hKp.1.tr x5, x6, x7, x8⟩
          rcases hcases with ⟨ho, e46, z1, zp, g1, g2, g3, g4, g5, g6, g7, g8⟩ | ⟨ho, e46, z1, zp, g1, g2, g3, g4, g5, g6, g7⟩ | ⟨ho, e46, -⟩ | ⟨ho, z2, g1, g2, g3, g4, g5, g6⟩
          · subst ho
            rw [csY_run hin (by omega) q1 q2 hcf (by decide), if_neg (by decide)]
            have hgv : f_X11_gave (nI (f + 1)) (y5 1 0 5) zp = some zp := by
              unfold f_X11_gave
              rw [g6, if_neg (nI_ne0 (by omega) (by omega)), inb_nI (show f + 1 < 13 by omega) (by decide), if_pos rfl, nI_clamp (by omega), g8, v61, if_neg (by decide)]
            exact back zp (hR.tr (g1.tr (Rch.hd g2 (by rw [g3]; exact hgv) Rch.rf))) g4 g5 g6 g7 (e46.trans (w46.trans h46))
          · subst ho
            rw [csY_run hin (by omega) q1 q2 hcf (by decide), if_neg (by decide)]
            have hth : thr (y5 1 0 6) (f + 1) zp = some (sx zp 30 0 16 (nI (f + 1))) := by
              rw [thr_s, g7, v61, if_neg (by decide), if_neg]
              rintro (q | q)
              · rw [g5.2.2.1.1, wKR.2.2.1.1, h37] at q; exact absurd q (by decide)
              · exact q (by rw [g5.2.2.1.2, wKR.2.2.1.2, h38])
            refine back (sx zp 30 0 16 (nI (f + 1))) (hR.tr (g1.tr (Rch.hd g2 (by rw [g3]; exact hth) Rch.rf))) ?_ ?_ (by simp [sx_app]) (by simp [sx_app, g6]) (e46.trans (w46.trans h46))
            · exact g4.z (fun k h1 h2 => sx_k _ h1) (fun j hj => by rw [sx_app, if_neg (by omega)])
            · refine g5.tr ?_
              refine ⟨⟨fun k hk => sx_k _ (by omega), fun k _ _ => sx_k _ (by omega), by simp [sx_app], by simp [sx_app]⟩, ⟨fun i _ => ⟨?_, ?_, ?_, ?_, ?_, ?_, ?_⟩, fun j _ => ?_, fun j _ => ?_⟩, ⟨?_, ?_⟩, fun i hi => ⟨?_, ?_⟩⟩ <;> simp [sx_app]
          · rw [w46, h46] at e46; exact absurd e46 (by decide)
          · subst ho
            rw [csY_run hin (by omega) q1 q2 hcf (by decide), if_pos rfl]
            exact ⟨4, y5, rfl, hQ0, Or.inr ⟨rfl, z2, hR.tr g1, g2, (hK.1.tr wKR.1).tr g3, g4, g5, g6⟩⟩
        · have hf11 : f = 11 := by omega
          subst hf11
          obtain ⟨d1, kc1, kr1, r1, s1, k1, e46, e45⟩ := cnt_pair (n := 1) hDG (by omega) hfit
          rw [show nI 1 = (1 : Int32) from rfl] at d1 kc1 kr1 r1 s1 k1 e46 e45
          have hcf := cleanFrame_deep (pf := pf) hm hm8 hin (by omega) hfit
          rw [csY_run hin (by omega) q1 q2 hcf (by decide), if_neg (by decide)]
          rw [bnd_of (counts_of (take_fit ((fit_eq hDG.1.2).mpr hfit)) (Or.inr rfl)), if_neg (by decide), bnd_of (runsClean_deep (by omega) (by rw [cntZ_k (by decide)]; exact hz57) hm8 (by rw [cntZ_k (by decide)]; exact hat) (by omega) (by rw [cntZ_k (by decide)]; exact h16)), if_pos rfl, show cntZ z 1 67 0 11 = nI c from by rw [cntZ_k (by decide)]; exact hat] at hit
          have hkc : KC 12 y (sx (cntY y 1) 1 0 6 7) := (kc1 12).tr ⟨fun k hk => sx_k _ (by omega), sx_k _ (by decide), ⟨by simp [sx_app], by simp [sx_app]⟩, fun i hi => ⟨by rw [sx_k _ (by decide)], by rw [sx_k _ (by decide)], by rw [sx_k _ (by decide)]⟩⟩
          have e23 : (sx (cntY y 1) 1 0 6 7) 23 = y 23 := hkc.1 23 (by decide)
          have hQ0 : Qk 11 y (sx (cntY y 1) 1 0 6 7) := ⟨hkc.lo (by omega), by rw [rem_k (y := cntY y 1) (sx_k _ (by decide))]; omega, by rw [sx_k _ (by decide), k1 5 (by decide)]; exact Nat.le_refl _⟩
          have hKz : KR 12 z (sx (cntZ z 1) 67 0 11 (nI c - 1)) ∨ True := Or.inr trivial
          have hk0 : K0 z (sx (cntZ z 1) 67 0 11 (nI c - 1)) := (kr1 11).1.tr (z67 (f := 11)).1
          have hka : KA 12 z (sx (cntZ z 1) 67 0 11 (nI c - 1)) := by
            refine (kr1 12).2.1.tr ⟨fun i _ => ⟨?_, ?_, ?_, ?_, ?_, ?_, ?_⟩, fun j _ => ?_, fun j _ => ?_⟩ <;> simp [sx_app]
          obtain ⟨o', y', hl1, hl2, hl3⟩ := ih n N (sx (cntY y 1) 1 0 6 7) z0 (sx (cntZ z 1) 67 0 11 (nI c - 1)) (by omega) (by omega) (hIP.kc hkc) (hSP.kc hkc hk0) (d1.k (fun k h1 _ _ _ => sx_k _ h1) (fun k h1 h2 => sx_k _ (by omega)) (fun j hj => by rw [sx_k _ (by decide)])) (hIF.kc hkc (Nat.le_refl _) hQ0.2.2) (hSF.kc hkc hka (Nat.le_refl _)) ((fsame.kc hkc).1.trans hm) (by rw [e23]; omega) (by omega) h036 hit (hK.tr (((kr1 11).tr z67).r2)) ⟨by rw [sx_k _ (by decide), cntZ_k (by decide)]; exact h16, by rw [sx_k _ (by decide), cntZ_k (by decide)]; exact h38, by rw [sx_k _ (by decide), cntZ_k (by decide)]; exact h36⟩ (by simp [sx_app]) (by rw [sx_k _ (by decide), cntZ_k (by decide), sx_k _ (by decide), k1 12 (by decide)]; exact h66) (fun j hj => by rw [sx_k _ (by decide), cntZ_k (by decide)]; exact hbt j (by omega)) (by rw [sx_k _ (by decide)]; exact e46.trans h46)
          exact ⟨o', y', hl1, hQ0.tr hl2, hl3⟩
      · rcases refuse_pair hDG hf h16 hSF hIF with ⟨h6, -⟩ | ⟨h6, hr, hov⟩
        · rw [h46] at h6; exact absurd h6 (by decide)
        · have hcf := cleanFrame_no (pf := pf) hm hm8 hin (by omega) hfit hr (by decide)
          rw [csY_run hin (by omega) q1 q2 hcf (by decide), if_pos rfl]
          rw [bnd_of (counts_of (take_over (fun q => hfit ((fit_eq hDG.1.2).mp q)) hov) (Or.inl rfl)), if_pos rfl] at hit
          exact ⟨4, _, rfl, Qk_end, Or.inr ⟨rfl, end_P4 hDG h6 hK.1 (Rch.hd h036 hit Rch.rf)⟩⟩
