def fsame (f : Nat) (y y' : st) : Prop := y' 12 f 2 = y 12 f 2 ∧ y' 12 f 3 = y 12 f 3 ∧ y' 13 f = y 13 f ∧ y' 14 f = y 14 f
theorem fsame.rf {f : Nat} {y : st} : fsame f y y := ⟨rfl, rfl, rfl, rfl⟩
theorem fsame.tr {f : Nat} {a b c : st} (h1 : fsame f a b) (h2 : fsame f b c) : fsame f a c := ⟨h2.1.trans h1.1, h2.2.1.trans h1.2.1, h2.2.2.1.trans h1.2.2.1, h2.2.2.2.trans h1.2.2.2⟩
theorem fsame.kc {f : Nat} {a b : st} (h : KC (f + 1) a b) : fsame f a b := by
  obtain ⟨h1, h2, h3⟩ := h.2.2.2 f (by omega)
  exact ⟨by rw [h1], by rw [h1], h2, h3⟩
/-- LEAVING came to its end: the reference stands before what it was about to do -/
def L0 (f : Nat) (y' z0 : st) : Prop := ∃ z1 z3, Rch z0 z1 ∧ TL f z1 ∧ f_X11_leaveOn (nI f) z1 = f_X11_leaveOn (nI f) z3 ∧ z3 67 0 f = nI 0 - 1 ∧ DG y' z3 ∧ IF (f + 1) y' ∧ SF (f + 1) y' z3 ∧ KR f z0 z3 ∧ (z3 30 0 16 = nI (f + 1) ∧ z3 30 0 36 = 0 ∧ z3 61 0 f = z0 61 0 f ∧ z3 63 0 f = z0 63 0 f ∧ z3 64 0 f = z0 64 0 f ∧ z3 65 0 f = z0 65 0 f)
def LVpost (f : Nat) (y z0 : st) (o : Nat) (y' : st) : Prop := Qk f y y' ∧ fsame f y y' ∧ ((o = 0 ∧ y' 4 0 6 = y 4 0 6 ∧ L0 f y' z0) ∨ (o = 2 ∧ y' 4 0 6 = y 4 0 6 ∧ T2 f (y' 1 0 6) y' z0) ∨ (o = 3 ∧ y 4 0 6 = 0 ∧ P3 f y' z0) ∨ (o = 4 ∧ P4 y' z0))
theorem inb26 {y : st} {m c : Nat} (hIP : IP y) (hm8 : m < 8) (hc : c < nv (y 23 m 2)) : inb (nI c) (y 26 m 0).toNatClampNeg = true := by
  rw [(hIP m hm8).2.1.2.2]
  exact inb_nI hc (nv_lt _)
/-- refused: what both sides come to -/
theorem refuse_pair {y z : st} {f : Nat} (hDG : DG y z) (hf : f < 12) (h16 : z 30 0 16 = nI (f + 1)) (hSF : SF (f + 1) y z) (hIF : IF (f + 1) y) :
    (y 4 0 6 = 0 ∧ f_X5_refuse y = some (3, sx y 4 0 6 1) ∧ f_X11_over z = some (ovS z (f + 1))) ∨ (y 4 0 6 = 1 ∧ f_X5_refuse y = some (4, sx y 4 0 2 1) ∧ f_X11_over z = some (sx (sx z 80 0 7 1) 30 0 36 1)) := by
  have h37 : z 30 0 37 = y 4 0 6 := hDG.1.2.1.2.2.2.2.2.2
  rcases hDG.1.1.1.2.2.2.2.2 with h6 | h6
  · refine Or.inl ⟨h6, refuse_0 h6, over_stop (by omega) (h37.trans h6) h16 (fun j hj => ?_)⟩
    rw [(hSF j hj).1]
    have := (hIF j hj).1
    rw [this.1]
    exact inb_nI (by have := this.2; omega) (by decide)
  · refine Or.inr ⟨h6, refuse_1 (by rw [h6]; decide), over_end (by rw [h37, h6]; decide)⟩
/-- the stop, met by FRAME f on top, whose cells are z -/
theorem stop_P3 {y z z0 : st} {f : Nat} (hDG : DG y z) (hIF : IF (f + 1) y) (hSF : SF (f + 1) y z) (h6 : y 4 0 6 = 0) (hK : KR f z0 z) (h16 : z 30 0 16 = nI (f + 1)) (h36 : z 30 0 36 = 0) (hdone : (if z 62 0 f = 0 then 0 else z 66 0 f) = y 12 f 5) (h61 : z 61 0 f = z0 61 0 f) (hr : Rch z0 (ovS z (f + 1))) : P3 f (sx y 4 0 6 1) z0 := by
  obtain ⟨d1, ks⟩ := stop_pair (d := f + 1) hDG h6
  have kc : KC (f + 1) y (sx y 4 0 6 1) := ⟨fun k hk => sx_k _ (by omega), sx_k _ (by decide), ⟨by simp [sx_app], by simp [sx_app]⟩, fun i hi => ⟨by rw [sx_k _ (by decide)], by rw [sx_k _ (by decide)], by rw [sx_k _ (by decide)]⟩⟩
  refine ⟨ovS z (f + 1), hr, d1, hIF.kc kc (Nat.le_refl _) (by rw [sx_k _ (by decide)]; exact Nat.le_refl _), hSF.kc kc ks.2.1 (Nat.le_refl _), hK.S (ks.lo (by omega)), ⟨?_, ?_, ?_⟩, ⟨?_, ?_, ?_⟩, by simp [sx_app]⟩
  · rw [ovS_app]; simp [h16]
  · rw [ovS_app]; simp [nI_pred]
  · rw [ovS_app]; simp [h36]
  · rw [(ks.2.2.2 f (by omega)).1, hdone, sx_k _ (by decide)]
  · rw [(ks.2.2.2 f (by omega)).2, (ks.2.1.1 f (by omega)).1, ks.1.2.1 51 (by decide) (by decide)]
  · rw [(ks.2.1.1 f (by omega)).2.2.1]; exact h61
theorem end_P4 {y z z0 : st} (hDG : DG y z) (h6 : y 4 0 6 = 1) (hK : K0 z0 z) (hr : Rch z0 (sx (sx z 80 0 7 1) 30 0 36 1)) : P4 (sx y 4 0 2 1) z0 := by
  obtain ⟨d1, k0⟩ := end_pair hDG
  have h37 : z 30 0 37 = y 4 0 6 := hDG.1.2.1.2.2.2.2.2.2
  exact ⟨_, hr, d1, hK.tr k0, by simp [sx_app], by simp [sx_app, h37, h6], by simp [sx_app, h6]⟩
theorem Qk_stop {f : Nat} {y : st} : Qk f y (sx y 4 0 6 1) := by
  refine ⟨⟨fun k hk => sx_k _ (by omega), sx_k _ (by decide), ⟨by simp [sx_app], by simp [sx_app]⟩, fun i hi => ⟨by rw [sx_k _ (by decide)], by rw [sx_k _ (by decide)], by rw [sx_k _ (by decide)]⟩⟩, ?_, by rw [sx_k _ (by decide)]; exact Nat.le_refl _⟩
  unfold rem
  simp [sx_app]
theorem Qk_end {f : Nat} {y : st} : Qk f y (sx y 4 0 2 1) := by
  refine ⟨⟨fun k hk => sx_k _ (by omega), sx_k _ (by decide), ⟨by simp [sx_app], by simp [sx_app]⟩, fun i hi => ⟨by rw [sx_k _ (by decide)], by rw [sx_k _ (by decide)], by rw [sx_k _ (by decide)]⟩⟩, ?_, by rw [sx_k _ (by decide)]; exact Nat.le_refl _⟩
  unfold rem
  simp [sx_app]
theorem fsame_4 {f : Nat} {y : st} {j : Nat} {v : Int32} : fsame f y (sx y 4 0 j v) := ⟨by rw [sx_k _ (by decide)], by rw [sx_k _ (by decide)], by rw [sx_k _ (by decide)], by rw [sx_k _ (by decide)]⟩
theorem z67 {z0 : st} {f : Nat} {v : Int32} : KR f z0 (sx z0 67 0 f v) := by
  refine ⟨⟨fun k hk => sx_k _ (by omega), fun k _ _ => sx_k _ (by omega), by simp [sx_app], by simp [sx_app]⟩, ⟨fun i _ => ⟨?_, ?_, ?_, ?_, ?_, ?_, ?_⟩, fun j _ => ?_, fun j _ => ?_⟩, ⟨?_, ?_⟩, fun i hi => ⟨?_, ?_⟩⟩
  all_goals first | (simp [sx_app]; done) | (simp [sx_app]; omega)
theorem thr_s {k : Int32} {f : Nat} {z : st} : thr k (f + 1) z = if z 61 0 (f + 1) = 0 then f_X11_raise (nI f) k (sx z 30 0 16 (nI (f + 1))) else if z 30 0 37 = 0 ∨ ¬ z 30 0 38 = nI f then thr k f (sx z 30 0 16 (nI (f + 1))) else some (sx z 30 0 16 (nI (f + 1))) := rfl
set_option maxHeartbeats 1000000 in
theorem lv_sim {pf : Int32 → st → Option (Nat × st)} {f m : Nat} {t : Int32} (hf : f < 12) (hpf : f + 1 < 12 → PFs pf (f + 1)) (hm8 : m < 8) : ∀ (c n : Nat) (y z0 z : st), c < n → IP y → SP y z → DG y z → IF (f + 1) y → SF (f + 1) y z → y 12 f 2 = nI m → c ≤ nv (y 23 m 2) → c ≤ 6 → TL f z0 → z = sx z0 67 0 f (nI c - 1) → f_X11_leaveOn (nI f) z0 = f_X11_leaveOn (nI f) z → z 66 0 f = y 12 f 5 → tgt y z f m t →
    ∃ o y', f_X4_leave_b23 pf n f t (nI (f + 1)) m (nI c - 1) y = some (o, y') ∧ LVpost f y z0 o y' := by
  intro c
  induction c with
  | zero =>
    intro n y z0 z hn hIP hSP hDG hIF hSF hm hcl hc6 hTL hz hlo h66 ht
    obtain ⟨n, rfl⟩ : ∃ q, n = q + 1 := ⟨n - 1, by omega⟩
    refine ⟨0, y, ?_, Qk.rf, fsame.rf, Or.inl ⟨rfl, rfl, z0, z, Rch.rf, hTL, hlo, by rw [hz]; simp [sx_app], hDG, hIF, hSF, by rw [hz]; exact z67, ?_⟩⟩
    · unfold f_X4_leave_b23
      rw [if_pos (by decide)]
    · rw [hz]
      obtain ⟨a1, a2, a3, a4⟩ := hTL
      simp [sx_app, a1, a2]
  | succ c ih =>
    intro n y z0 z hn hIP hSP hDG hIF hSF hm hcl hc6 hTL hz hlo h66 ht
    obtain ⟨n, rfl⟩ : ∃ q, n = q + 1 := ⟨n - 1, by omega⟩
    rw [nI_pred] at hz ⊢
    have hin := inb26 hIP hm8 (show c < nv (y 23 m 2) by omega)
    have hat : z 67 0 f = nI c := by rw [hz]; simp [sx_app]
    have hz57 : z 57 0 f = nI m := ((hSF f (by omega)).1).trans hm
    have hz58 : z 58 0 f = y 12 f 3 := (hSF f (by omega)).2.1
    have hat48 : isN (y 12 f 3) 48 := (hIF f (by omega)).2.1
    have e1 : hdZ z m c (z 58 0 f) ↔ hdY y (6 * m + c) (y 12 f 3) := by rw [hz58]; exact hd_eq hSP hm8 (by omega) hat48
    have e2 := tgt_eq (c := c) hIP hSP hm8 (by omega) ht
    have hKz : KR f z0 z := by rw [hz]; exact z67
    have h62 : z 62 0 f = 1 := by rw [hz]; simp [sx_app, hTL.2.2.1]
    have h16 : z 30 0 16 = nI (f + 1) := by rw [hz]; simp [sx_app, hTL.1]
    have h36 : z 30 0 36 = 0 := by rw [hz]; simp [sx_app, hTL.2.1]
    have h61 : z 61 0 f = z0 61 0 f := by rw [hz]; simp [sx_app]
    have hcl0 : clOK f z := hTL.2.2.2.of (by rw [hz]; simp [sx_app]) (by rw [hz]; simp [sx_app]) (Nat.le_refl _)
    by_cases hT : hdY y (6 * m + c) (y 12 f 3) ∨ ¬ hdY y (6 * m + c) t
    · -- this CLEAN isn't run
      rw [lvY_skip hin (by omega) hT]
      have hT' : hdZ z m c (z 58 0 f) ∨ ¬ hdZ z m c (z 63 0 f) := hT.elim (fun q => Or.inl (e1.mpr q)) (fun q => Or.inr (fun w => q (e2.mp w)))
      have hstep := lo_step (by omega) hz57 hm8 (by omega) hat hT'
      refine ih n y z0 (sx z 67 0 f (nI c - 1)) (by omega) hIP ?_ ?_ hIF ?_ hm (by omega) (by omega) hTL (by rw [hz, sx_sx]) (hlo.trans hstep) (by simp [sx_app, h66]) ?_
      · exact hSP.kc (d := 0) KC.rf (z67 (f := f)).1
      · exact hDG.z (fun k h1 h2 => sx_k _ (by omega)) (fun j _ => by simp [sx_app])
      · intro i hi
        have := hSF i hi
        simpa [sx_app] using this
      · unfold tgt at ht ⊢
        simpa [sx_app] using ht
    · -- it is run
      have q1 : ¬ hdY y (6 * m + c) (y 12 f 3) := fun q => hT (Or.inl q)
      have q2 : hdY y (6 * m + c) t := Classical.byContradiction fun q => hT (Or.inr q)
      have hrun := lo_run (n := 99) (by omega) hz57 hm8 (by omega) hat (fun q => q1 (e1.mp q)) (e2.mpr q2)
      have hlo' : itR z0 = bnd (f_X11_counts z) fun r z1 => if r = 0 then some z1 else bnd (f_X11_runsClean (nI f) z1) fun r2 z2 => if r2 = 0 then thr 7 f (sx z2 67 0 f (z2 67 0 f - 1)) else some z2 := by
        rw [itR_leave hTL (by omega), hlo]; exact hrun
      by_cases hfit : fitY y 1
      · by_cases hdeep : f + 1 < 12
        · obtain ⟨z4, w1, w2, wIP, wSP, wDG, wIF, wSF, wKC, wKR, ⟨v16, v36, v62, v61⟩, ⟨u57, u58, u61, u62, u63, u64, u65⟩, ⟨u66, u67⟩, wfs, ⟨wrem, w46, w5⟩⟩ := start_clean hIP hSP hDG hIF hSF hdeep hm hm8 (show c < nv (y 23 m 2) by omega) (by omega) hat h66 h16 hfit
          have hgo : itR z0 = some z4 := by
            rw [hlo', bnd_of w1, if_neg (by decide), bnd_of w2, if_neg (by decide)]
          have hR : Rch z0 z4 := Rch.hd hTL.2.1 hgo Rch.rf
          have hTR : TR (f + 1) z4 := ⟨v16, by rw [v36]; exact h36, v62, hcl0.of wKR.2.2.1.1 wKR.2.2.1.2 (by omega)⟩
          obtain ⟨o, y5, hp, hQ, hcases⟩ := hpf hdeep _ _ wIP wSP wDG wIF wSF hTR
          have hcf : f_X4_cleanFrame pf f (nI c) (nI (f + 1)) y = some (o, y5) := by rw [cleanFrame_ok hm hm8 hin (by omega) hdeep hfit hDG.2.1]; exact hp
          have hQ0 : Qk f y y5 := ⟨wKC.tr (hQ.1.lo (by omega)), by have := hQ.2.1; omega, by have := hQ.2.2; rw [w5] at this; exact this⟩
          have hfs : fsame f y y5 := fsame.tr wfs (fsame.kc hQ.1)
          have h5 : y5 12 f 5 = cfY y f m c 12 f 5 := by rw [(hQ.1.2.2.2 f (by omega)).1]
          rcases hcases with ⟨ho, e46, z1, zp, g1, g2, g3, g4, g5, g6, g7, g8⟩ | ⟨ho, e46, z1, zp, g1, g2, g3, g4, g5, g6, g7⟩ | ⟨ho, e46, z2, g1, g2, g3, g4, g5, g6, g7⟩ | ⟨ho, z2, g1, g2, g3, g4, g5, g6⟩
          · -- it gave
            subst ho
            rw [lvY_run hin (by omega) q1 q2 hcf (by decide), if_pos rfl]
            have hgv : f_X11_gave (nI (f + 1)) (y5 1 0 5) zp = some zp := by
              unfold f_X11_gave
              rw [g6, if_neg (nI_ne0 (by omega) (by omega)), inb_nI (show f + 1 < 13 by omega) (by decide), if_pos rfl, nI_clamp (by omega), g8, v61, if_neg (by decide)]
            have hRp : Rch z0 zp := hR.tr (g1.tr (Rch.hd g2 (by rw [g3]; exact hgv) Rch.rf))
            obtain ⟨p1, p2, p3, p4, p5, p6, p7⟩ := g5.2.1.1 f (by omega)
            obtain ⟨p8, p9⟩ := g5.2.2.2 f (by omega)
            have hTLp : TL f zp := ⟨g6, g7, by rw [p4, u62]; exact h62, hcl0.of (g5.2.2.1.1.trans wKR.2.2.1.1) (g5.2.2.1.2.trans wKR.2.2.1.2) (Nat.le_refl _)⟩
            have hKC2 : KC (f + 1) (cfY y f m c) y5 := hQ.1
            have hSF5 : SF (f + 1) y5 zp := SF.kc (d := f + 1) (fun i hi => wSF i (by omega)) hKC2 g5.2.1 (Nat.le_refl _)
            have hIF5 : IF (f + 1) y5 := IF.kc (d := f + 1) (fun i hi => wIF i (by omega)) hKC2 (Nat.le_refl _) hQ.2.2
            have e23 : y5 23 = y 23 := hQ0.1.1 23 (by decide)
            have e21 : y5 21 = y 21 := hQ0.1.1 21 (by decide)
            obtain ⟨o', y', hl1, hl2, hl3, hl4⟩ := ih n y5 zp zp (by omega) (wIP.kc hKC2) (wSP.kc hKC2 g5.1) g4 hIF5 hSF5 (hfs.1.trans hm) (by rw [e23]; omega) (by omega) hTLp (by rw [sx_self (by rw [p9, u67])]) rfl (by rw [p8, u66, h5]) (by
              unfold tgt at ht ⊢
              rw [e21, p5, u63]; exact ht)
            refine ⟨o', y', hl1, hQ0.tr hl2, hfs.tr hl3, ?_⟩
            have hKp : KR f z0 zp := hKz.tr (wKR.tr (g5.lo (by omega)))
            rcases hl4 with ⟨x1, x2, z1', z3, x3, x4, x5, x6, x7, x8, x9, x10, x11, x12, x13, x14, x15, x16⟩ | ⟨x1, x2, z1', zq, x3, x4, x5, x6, x7, x8, x9⟩ | ⟨x1, x2, z2, x3, x4, x5, x6, x7, x8, ⟨x9, x10, x11⟩, x12⟩ | ⟨x1, z2, x3, x4, x5, x6, x7, x8⟩
            · refine Or.inl ⟨x1, x2.trans (e46.trans w46), z1', z3, hRp.tr x3, x4, x5, x6, x7, x8, x9, hKp.tr x10, x11, x12, ?_, ?_, ?_, ?_⟩
              · rw [x13, p3, u61, h61]
              · rw [x14, p5, u63, hz]; simp [sx_app]
              · rw [x15, p6, u64, hz]; simp [sx_app]
              · rw [x16, p7, u65, hz]; simp [sx_app]
            · exact Or.inr (Or.inl ⟨x1, x2.trans (e46.trans w46), z1', zq, hRp.tr x3, x4, x5, x6, hKp.tr x7, x8, by rw [x9, p3, u61, h61]⟩)
            · exact Or.inr (Or.inr (Or.inl ⟨x1, by rw [← w46, ← e46]; exact x2, z2, hRp.tr x3, x4, x5, x6, hKp.S x7, x8, ⟨x9, x10, by rw [x11, p3, u61, h61]⟩, x12⟩))
            · exact Or.inr (Or.inr (Or.inr ⟨x1, z2, hRp.tr x3, x4, hKp.1.tr x5, x6, x7, x8⟩))
          · -- it threw: the METHOD throws that
            subst ho
            rw [lvY_run hin (by omega) q1 q2 hcf (by decide), if_neg (by decide)]
            refine ⟨2, y5, rfl, hQ0, hfs, Or.inr (Or.inl ⟨rfl, e46.trans w46, z1, sx zp 30 0 16 (nI (f + 1)), hR.tr g1, g2, ?_, ?_, ?_, ?_, ?_⟩)⟩
            · rw [g3, thr_s, g7, v61, if_neg (by decide), if_pos]
              · rcases hcl0 with q | ⟨-, c', hc', q⟩
                · exact Or.inl (by rw [g5.2.2.1.1, wKR.2.2.1.1]; exact q)
                · refine Or.inr (fun w => ?_)
                  rw [g5.2.2.1.2, wKR.2.2.1.2, q, nI_eq (by omega) (by omega)] at w
                  omega
            · exact g4.z (fun k h1 h2 => sx_k _ h1) (fun j hj => by rw [sx_app, if_neg (by omega)])
            · refine (hKz.tr (wKR.tr (g5.lo (by omega)))).tr ?_
              refine ⟨⟨fun k hk => sx_k _ (by omega), fun k _ _ => sx_k _ (by omega), by simp [sx_app], by simp [sx_app]⟩, ⟨fun i _ => ⟨?_, ?_, ?_, ?_, ?_, ?_, ?_⟩, fun j _ => ?_, fun j _ => ?_⟩, ⟨?_, ?_⟩, fun i hi => ⟨?_, ?_⟩⟩ <;> simp [sx_app]
            · simp [sx_app, g6]
            · rw [sx_k _ (by decide), (g5.2.1.1 f (by omega)).2.2.1, u61, h61]
          · -- STOPPED
            subst ho
            rw [lvY_run hin (by omega) q1 q2 hcf (by decide), if_neg (by decide)]
            refine ⟨3, y5, rfl, hQ0, hfs, Or.inr (Or.inr (Or.inl ⟨rfl, by rw [← w46]; exact e46, z2, hR.tr g1, g2, ?_, ?_, ?_, ⟨g4, (g7 f rfl).2, (g7 f rfl).1⟩, ⟨?_, ?_, ?_⟩, g5⟩))⟩
            · exact IF.kc (d := f + 1) (fun i hi => wIF i (by omega)) hQ.1 (Nat.le_refl _) hQ.2.2
            · exact SF.kc (d := f + 1) (fun i hi => wSF i (by omega)) hQ.1 g3.2.1 (Nat.le_refl _)
            · exact (hKz.tr wKR).S (g3.lo (by omega))
            · rw [(g3.2.2.2 f (by omega)).1, u62, h62, if_neg (by decide), u66, h5]
            · rw [(g3.2.2.2 f (by omega)).2, (g3.2.1.1 f (by omega)).1, g3.1.2.1 51 (by decide) (by decide)]
            · rw [(g3.2.1.1 f (by omega)).2.2.1, u61, h61]
          · subst ho
            rw [lvY_run hin (by omega) q1 q2 hcf (by decide), if_neg (by decide)]
            exact ⟨4, y5, rfl, hQ0, hfs, Or.inr (Or.inr (Or.inr ⟨rfl, z2, hR.tr g1, g2, (hKz.tr wKR).1.tr g3, g4, g5, g6⟩))⟩
        · -- no room for its FRAME
          have hf11 : f = 11 := by omega
          subst hf11
          obtain ⟨d1, kc1, kr1, r1, s1, k1, e46, e45⟩ := cnt_pair (n := 1) hDG (by omega) hfit
          rw [show nI 1 = (1 : Int32) from rfl] at d1 kc1 kr1 r1 s1 k1 e46 e45
          have hcf := cleanFrame_deep (pf := pf) hm hm8 hin (by omega) hfit
          rw [lvY_run hin (by omega) q1 q2 hcf (by decide), if_neg (by decide)]
          have hkc : KC 12 y (sx (cntY y 1) 1 0 6 7) := (kc1 12).tr ⟨fun k hk => sx_k _ (by omega), sx_k _ (by decide), ⟨by simp [sx_app], by simp [sx_app]⟩, fun i hi => ⟨by rw [sx_k _ (by decide)], by rw [sx_k _ (by decide)], by rw [sx_k _ (by decide)]⟩⟩
          refine ⟨2, _, rfl, ⟨hkc.lo (by omega), ?_, ?_⟩, fsame.kc hkc, Or.inr (Or.inl ⟨rfl, ?_, z0, sx (cntZ z 1) 67 0 11 (nI c - 1), Rch.rf, hTL.2.1, ?_, ?_, ?_, ?_, ?_⟩)⟩
          · rw [rem_k (y := cntY y 1) (sx_k _ (by decide))]; omega
          · rw [sx_k _ (by decide), k1 5 (by decide)]; exact Nat.le_refl _
          · rw [sx_k _ (by decide)]; exact e46
          · rw [hlo', bnd_of (counts_of (take_fit ((fit_eq hDG.1.2).mpr hfit)) (Or.inr rfl)), if_neg (by decide), bnd_of (runsClean_deep (by omega) (by rw [cntZ_k (by decide)]; exact hz57) hm8 (by rw [cntZ_k (by decide)]; exact hat) (by omega) (by rw [cntZ_k (by decide)]; exact h16)), if_pos rfl, cntZ_k (by decide), hat]
            rw [sx_app, if_pos ⟨rfl, rfl, rfl⟩]
          · exact d1.k (fun k h1 _ _ _ => sx_k _ h1) (fun k h1 h2 => sx_k _ (by omega)) (fun j hj => by rw [sx_k _ (by decide)])
          · exact hKz.tr ((kr1 11).tr z67)
          · rw [sx_k _ (by decide), cntZ_k (by decide)]; exact h36
          · rw [sx_k _ (by decide), cntZ_k (by decide)]; exact h61
      · -- no STEP left
        rcases refuse_pair hDG hf h16 hSF hIF with ⟨h6, hr, hov⟩ | ⟨h6, hr, hov⟩
        · have hcf := cleanFrame_no (pf := pf) hm hm8 hin (by omega) hfit hr (by decide)
          rw [lvY_run hin (by omega) q1 q2 hcf (by decide), if_neg (by decide)]
          have hgo : itR z0 = some (ovS z (f + 1)) := by
            rw [hlo', bnd_of (counts_of (take_over (fun q => hfit ((fit_eq hDG.1.2).mp q)) hov) (Or.inl rfl)), if_pos rfl]
          exact ⟨3, _, rfl, Qk_stop, fsame_4, Or.inr (Or.inr (Or.inl ⟨rfl, h6, stop_P3 hDG hIF hSF h6 hKz h16 h36 (by rw [h62, if_neg (by decide)]; exact h66) h61 (Rch.hd hTL.2.1 hgo Rch.rf)⟩))⟩
        · have hcf := cleanFrame_no (pf := pf) hm hm8 hin (by omega) hfit hr (by decide)
          rw [lvY_run hin (by omega) q1 q2 hcf (by decide), if_neg (by decide)]
          have hgo : itR z0 = some (sx (sx z 80 0 7 1) 30 0 36 1) := by
            rw [hlo', bnd_of (counts_of (take_over (fun q => hfit ((fit_eq hDG.1.2).mp q)) hov) (Or.inl rfl)), if_pos rfl]
          exact ⟨4, _, rfl, Qk_end, fsame_4, Or.inr (Or.inr (Or.inr ⟨rfl, end_P4 hDG h6 hKz.1 (Rch.hd hTL.2.1 hgo Rch.rf)⟩))⟩
