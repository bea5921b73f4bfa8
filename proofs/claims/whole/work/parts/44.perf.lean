/-! an ACT is performed, a FRAME is performed: both sides -/
theorem doAct_sim {pf : Int32 → st → Option (Nat × st)} {f m p : Nat} {y z : st} (hf : f < 12) (hpf : f + 1 < 12 → PFs pf (f + 1)) (hm8 : m < 8) (h : Wa f m p y z) : ∃ o y6, f_X4_doAct pf f (48 * m + p) (nI (f + 1)) y = some (o, y6) ∧ o < 5 ∧ AP f m p y z o y6 := by
  obtain ⟨-, -, hA, -⟩ := h.step hf hm8
  obtain ⟨hk, hk15⟩ := hA.1
  generalize hkk : nv (y 18 (48 * m + p) 0) = k at hk hk15
  have hc : k = 0 ∨ k = 1 ∨ k = 2 ∨ k = 3 ∨ k = 4 ∨ k = 5 ∨ k = 6 ∨ k = 7 ∨ k = 8 ∨ k = 9 ∨ k = 10 ∨ k = 11 ∨ k = 12 ∨ k = 13 ∨ k = 14 ∨ k = 15 := by omega
  rcases hc with rfl | rfl | rfl | rfl | rfl | rfl | rfl | rfl | rfl | rfl | rfl | rfl | rfl | rfl | rfl | rfl
  · exact act_0 hf hm8 h hk
  · rw [doAct_1 hk]; exact act_1 (pf := pf) hf hm8 h (by omega) (by omega) hk
  · rw [doAct_2 hk]; exact act_1 (pf := pf) hf hm8 h (by omega) (by omega) hk
  · rw [doAct_3 hk]; exact act_1 (pf := pf) hf hm8 h (by omega) (by omega) hk
  · rw [doAct_4 hk]; exact act_4 hf hm8 h (by omega) hk
  · rw [doAct_5 hk]; exact act_4 hf hm8 h (by omega) hk
  · exact act_6 hf hm8 h hk
  · exact act_7 hf hm8 h hk
  · exact act_8 hf hm8 h hk
  · rw [doAct_9 hk]; exact act_9 hf hm8 h hk
  · rw [doAct_10 hk]; exact act_10 hf hm8 h hk
  · rw [doAct_11 hk]; exact act_11 hf hm8 h hk
  · rw [doAct_12 hk]; exact act_12 hf hm8 h hk
  · rw [doAct_13 hk]; exact act_13 hf hpf hm8 h hk
  · exact act_14 hf hm8 h hk
  · exact act_15 hf hm8 h hk
def atY (y : st) (f : Nat) : st := sx (sx y 12 f 4 (y 12 f 3 + 1)) 12 f 5 0
theorem atY_12 {y : st} {f i j : Nat} (h : i ≠ f ∨ (j ≠ 4 ∧ j ≠ 5)) : atY y f 12 i j = y 12 i j := by
  unfold atY
  simp only [sx_app]
  rw [if_neg (by omega), if_neg (by omega)]
theorem atY_k {y : st} {f k : Nat} (h : k ≠ 12) : atY y f k = y k := by
  unfold atY
  rw [sx_k _ h, sx_k _ h]
theorem atY_kc {y : st} {f : Nat} : KC f y (atY y f) := ⟨fun k hk => atY_k (by omega), atY_k (by decide), ⟨by rw [atY_k (by decide)], by rw [atY_k (by decide)], by rw [atY_k (by decide)], by rw [atY_k (by decide)], by rw [atY_k (by decide)]; exact Or.inl rfl⟩, fun i hi => ⟨by funext j; exact atY_12 (by omega), by rw [atY_k (by decide)], by rw [atY_k (by decide)]⟩⟩
theorem atY_Qk {y : st} {f : Nat} : Qk f y (atY y f) := ⟨atY_kc, by rw [rem_k (y := y) (atY_k (by decide))]; exact Nat.le_refl _, by rw [atY_k (by decide)]; exact Nat.le_refl _⟩
/-- FRAME f on top, ahead of an ACT (or at its end) -/
def Fr (f m : Nat) (y z : st) : Prop := IP y ∧ SP y z ∧ DG y z ∧ IF (f + 1) y ∧ SF (f + 1) y z ∧ y 12 f 2 = nI m ∧ TR f z
theorem Fr.wa {f m p : Nat} {y z : st} (h : Fr f m y z) (h3 : y 12 f 3 = nI p) (hp : p < nv (y 21 m 2)) : Wa f m p (atY y f) z := by
  obtain ⟨hIP, hSP, hDG, hIF, hSF, hm, hTR⟩ := h
  refine ⟨⟨hIP.kc atY_kc, hSP.kc atY_kc K0.rf, hDG.k (fun k _ h1 _ _ => atY_k h1) (fun _ _ _ => rfl) (fun _ _ => rfl), fun i hi => ?_, fun i hi => ?_, by rw [atY_12 (by omega)]; exact hm, by simp [atY, sx_app], KR.rf, hTR, rfl⟩, by rw [atY_12 (by omega)]; exact h3, by simp [atY, sx_app, h3, nI_add1], by rw [atY_k (by decide)]; exact hp⟩
  · rw [atY_12 (by omega), atY_12 (by omega), atY_k (by decide), atY_k (by decide)]; exact hIF i hi
  · rw [atY_12 (by omega), atY_12 (by omega), atY_k (by decide), atY_k (by decide)]; exact hSF i hi
theorem PA.pre {f : Nat} {y y1 z0 y' : st} {o : Nat} (h : PA f y1 z0 o y') (hQ : Qk f y y1) (h6 : y1 4 0 6 = y 4 0 6) (h2 : y1 12 f 2 = y 12 f 2) (h3 : y1 12 f 3 = y 12 f 3 ∨ rem y1 < rem y) : PA f y z0 o y' := by
  obtain ⟨a1, a0, a2⟩ := h
  refine ⟨hQ.tr a1, a0.trans h2, ?_⟩
  rcases a2 with ⟨q1, q2, q4, q5⟩ | ⟨q1, q2, q3⟩ | ⟨q1, q2, q3⟩ | ⟨q1, q2, q3⟩ | q
  · refine Or.inl ⟨q1, q2.trans h6, ?_, q5⟩
    have b1 := hQ.2.1
    have b2 := a1.2.1
    rcases h3 with h3 | h3
    · rw [h3] at q4
      exact q4.imp (fun c => by omega) id
    · exact Or.inl (by omega)
  · exact Or.inr (Or.inl ⟨q1, q2.trans h6, q3⟩)
  · exact Or.inr (Or.inr (Or.inl ⟨q1, q2.trans h6, q3⟩))
  · exact Or.inr (Or.inr (Or.inr (Or.inl ⟨q1, h6.symm.trans q2, q3⟩)))
  · exact Or.inr (Or.inr (Or.inr (Or.inr q)))
theorem performAct_sim {pf : Int32 → st → Option (Nat × st)} {f m p : Nat} {y z : st} (hf : f < 12) (hpf : f + 1 < 12 → PFs pf (f + 1)) (hm8 : m < 8) (h : Fr f m y z) (h3 : y 12 f 3 = nI p) (hp : p < nv (y 21 m 2)) :
    ∃ o y', f_X4_performAct pf f (nI (f + 1)) y = some (o, y') ∧ o < 5 ∧ PA f y z o y' := by
  have hwa := h.wa h3 hp
  obtain ⟨o, y6, hdo, ho5, hQ, h2, hc⟩ := doAct_sim hf hpf hm8 hwa
  obtain ⟨hIP, hSP, hDG, hIF, hSF, hm, hTR⟩ := h
  have hac := (hIP m hm8).1.1
  have hp48 : p < 48 := by have := hac.2; omega
  have e24 : y 24 m 0 = y 21 m 2 := (hIP m hm8).2.1.1
  have hgoal : ∃ o y', f_X4_performAct pf f (nI (f + 1)) y = some (o, y') ∧ o < 5 ∧ PA f (atY y f) z o y' := by
    have hsel : f_X4_performAct pf f (nI (f + 1)) y = if o = 0 then f_X4_goOn pf f (y6 12 f 4) (nI (f + 1)) y6 else if o = 1 then f_X4_giveOut pf f (y6 1 0 5) (nI (f + 1)) y6 else if o = 2 then f_X4_answerThrow pf f (y6 1 0 6) (nI (f + 1)) y6 else some (o, y6) := by
      unfold f_X4_performAct
      simp only [lets]
      rw [show sx (sx y 12 f 4 (y 12 f 3 + 1)) 12 f 5 0 = atY y f from rfl, atY_12 (by omega), atY_12 (by omega), hm, inb_nI hm8 (by decide), if_pos rfl, nI_clamp (show m < 2 ^ 31 by omega), atY_k (k := 24) (by decide), e24, h3, inb_nI (show p < (y 21 m 2).toNatClampNeg from hp) (nv_lt _), if_pos rfl, nI_clamp (show p < 2 ^ 31 by omega), bnd_of hdo, if_pos ho5, if_pos ho5, if_pos ho5, bnd_id, bnd_id, bnd_id]
    rw [hsel]
    have h62 : y6 12 f 2 = nI m := by rw [h2, atY_12 (by omega)]; exact hm
    rcases hc with ⟨rfl, e6, z', zr, nx, r1, r2, r3, r4, r5, r6, r7⟩ | ⟨rfl, e6, z', zr, r1, r2, r3, r4⟩ | ⟨rfl, e6, z', zr, r1, r2, r3, r4⟩ | ⟨rfl, e6, hP⟩ | ⟨rfl, hP⟩
    · rw [if_pos rfl, r5]
      obtain ⟨o', y', g1, gQ, g12, g13, g14, gc⟩ := goOn_sim (v := 0) hf hpf hm8 r6 (Or.inl rfl) r4 r1 r2 r3
      rcases gc with ⟨rfl, s6, s3, sg⟩ | ⟨rfl, s6, sT⟩ | ⟨rfl, s6, sP⟩ | ⟨rfl, sP⟩
      · refine ⟨0, y', g1, by omega, hQ.tr gQ, g12.trans h2, Or.inl ⟨rfl, s6.trans e6, ?_, ?_⟩⟩
        · rw [atY_12 (by omega), h3, nv_nI (by omega), s3]
          rcases r7 with r7 | r7
          · right
            by_cases q : nI nx < y6 21 m 2
            · rw [if_pos q, nv_nI (by omega)]; exact r7
            · rw [if_neg q, show nv (48 : Int32) = 48 from rfl]; exact hp48
          · left; have := gQ.2.1; omega
        · rcases sg with ⟨t1, z1, z3, t2, t3, t4, t5, t6, t7, t8, t9, t10⟩ | ⟨t1, t2, t3⟩
          · left
            rw [if_neg (by decide), sx_self rfl] at t4
            exact ⟨t1, z3, t2.tr (Rch.hd t3 t4 Rch.rf), t5, t6, t7, t8, t9, t10⟩
          · exact Or.inr ⟨t1, t3⟩
      · exact ⟨2, y', g1, by omega, hQ.tr gQ, g12.trans h2, Or.inr (Or.inr (Or.inl ⟨rfl, s6.trans e6, sT⟩))⟩
      · exact ⟨3, y', g1, by omega, hQ.tr gQ, g12.trans h2, Or.inr (Or.inr (Or.inr (Or.inl ⟨rfl, e6.symm.trans s6, sP⟩)))⟩
      · exact ⟨4, y', g1, by omega, hQ.tr gQ, g12.trans h2, Or.inr (Or.inr (Or.inr (Or.inr ⟨rfl, sP⟩)))⟩
    · rw [if_neg (by decide), if_pos rfl]
      obtain ⟨o', y', g1, gQ, gQ2, gc⟩ := giveOut_sim hf hpf hm8 r4 r1 r2 r3
      rcases gc with ⟨rfl, s6, sG⟩ | ⟨rfl, s6, sT⟩ | ⟨rfl, s6, sP⟩ | ⟨rfl, sP⟩
      · exact ⟨1, y', g1, by omega, hQ.tr gQ, gQ2.trans h2, Or.inr (Or.inl ⟨rfl, s6.trans e6, sG⟩)⟩
      · exact ⟨2, y', g1, by omega, hQ.tr gQ, gQ2.trans h2, Or.inr (Or.inr (Or.inl ⟨rfl, s6.trans e6, sT⟩))⟩
      · exact ⟨3, y', g1, by omega, hQ.tr gQ, gQ2.trans h2, Or.inr (Or.inr (Or.inr (Or.inl ⟨rfl, e6.symm.trans s6, sP⟩)))⟩
      · exact ⟨4, y', g1, by omega, hQ.tr gQ, gQ2.trans h2, Or.inr (Or.inr (Or.inr (Or.inr ⟨rfl, sP⟩)))⟩
    · rw [if_neg (by decide), if_neg (by decide), if_pos rfl]
      obtain ⟨o', y', g1, gP, gR⟩ := answerThrow_sim hf hpf hm8 r4 r1 r2 r3
      have ho' : o' < 5 := by rcases gP.2.2 with ⟨q, -⟩ | ⟨q, -⟩ | ⟨q, -⟩ | ⟨q, -⟩ | ⟨q, -⟩ <;> omega
      refine ⟨o', y', g1, ho', ?_⟩
      obtain ⟨gQ, gQ2, gc⟩ := gP
      refine ⟨hQ.tr gQ, gQ2.trans h2, ?_⟩
      rcases gc with ⟨q1, q2, q4, q5⟩ | ⟨q1, q2, q3⟩ | ⟨q1, q2, q3⟩ | ⟨q1, q2, q3⟩ | q
      · exact Or.inl ⟨q1, q2.trans e6, Or.inl (by have := gR q1; have := hQ.2.1; omega), q5⟩
      · exact Or.inr (Or.inl ⟨q1, q2.trans e6, q3⟩)
      · exact Or.inr (Or.inr (Or.inl ⟨q1, q2.trans e6, q3⟩))
      · exact Or.inr (Or.inr (Or.inr (Or.inl ⟨q1, e6.symm.trans q2, q3⟩)))
      · exact Or.inr (Or.inr (Or.inr (Or.inr q)))
    · rw [if_neg (by decide), if_neg (by decide), if_neg (by decide)]
      exact ⟨3, y6, rfl, by omega, hQ, h2, Or.inr (Or.inr (Or.inr (Or.inl ⟨rfl, e6, hP⟩)))⟩
    · rw [if_neg (by decide), if_neg (by decide), if_neg (by decide)]
      exact ⟨4, y6, rfl, by omega, hQ, h2, Or.inr (Or.inr (Or.inr (Or.inr ⟨rfl, hP⟩)))⟩
  obtain ⟨o', y', g1, g2, g3⟩ := hgoal
  exact ⟨o', y', g1, g2, g3.pre atY_Qk (by rw [atY_k (by decide)]) (atY_12 (by omega)) (Or.inl (atY_12 (by omega)))⟩
theorem b33_out {pf : Int32 → st → Option (Nat × st)} {n f o : Nat} {v1 v3 v5 : Int32} {y : st} (ho : 0 < o) (ho5 : o < 5) : f_X4_performFrame_b33 pf (n + 1) v1 f v3 o v5 y = f_X4_performFrame_b70 pf v1 f o y := by
  unfold f_X4_performFrame_b33
  by_cases h : 1000000 ≤ v5
  · rw [if_pos h]
  · rw [if_neg h, if_pos ho5, if_neg (by omega)]
/-- STOPPED: the FRAME is cleaned up -/
theorem cleanStopped_sim {pf : Int32 → st → Option (Nat × st)} {f m : Nat} {y z : st} (hf : f < 12) (hpf : f + 1 < 12 → PFs pf (f + 1)) (hm8 : m < 8) (hIP : IP y) (hSPz : SP y z) (hm : y 12 f 2 = nI m) (hP : P3 f y z) :
    ∃ o y', f_X4_cleanStopped pf f (nI (f + 1)) y = some (o, y') ∧ Qk f y y' ∧ ((o = 3 ∧ S3 f y' z) ∨ (o = 4 ∧ P4 y' z)) := by
  obtain ⟨z2, g1, g2, g3, g4, g5, ⟨x1, x2, x3⟩, ⟨x4, x5, x6⟩, x7⟩ := hP
  have hcl := (hIP m hm8).1.2.2
  have hSP2 : SP y z2 := hSPz.kc (d := 0) KC.rf g5.1
  have e57 : z2 57 0 f = nI m := (g4 f (by omega)).1.trans hm
  have e51 : z2 51 0 m = y 23 m 2 := (hSP2 m hm8).1.2.2
  have h37 : z2 30 0 37 = 1 := g5.2.2.1
  have h67 : z2 67 0 f = nI (nv (y 23 m 2)) - 1 := by rw [x5, e57, nv_nI (by omega), e51, ← hcl.1]
  have hit : itR z2 = f_X11_cleanOn_b12 100 (nI f) (nI m) z2 := by
    rw [itR_clean x1 h37 x2]
    unfold f_X11_cleanOn
    rw [x2, inb_nI (show f < 13 by omega) (by decide), if_pos rfl, nI_clamp (show f < 2 ^ 31 by omega), e57]
  obtain ⟨o, y', h1, hQ, hc⟩ := cs_sim (b := y 12 f 5) hf hpf hm8 (nv (y 23 m 2)) 100 100 y z2 z2 (by have := hcl.2; omega) (by have := hcl.2; omega) hIP hSP2 g2 g3 g4 hm (Nat.le_refl _) hcl.2 x3 hit KR.rf.r2 ⟨x1, x2, x3⟩ h67 x4 (fun j _ => by rw [x4]) x7
  refine ⟨o, y', ?_, hQ, ?_⟩
  · unfold f_X4_cleanStopped
    rw [hm, inb_nI hm8 (by decide), if_pos rfl, nI_clamp (show m < 2 ^ 31 by omega), hcl.1]
    exact h1
  · rcases hc with ⟨ho, z3, t1, t2, t3, t4, t5, t6, t7⟩ | ⟨ho, hP⟩
    · exact Or.inl ⟨ho, z3, g1.tr t1, t2, g5.R2 t3, t4, t5, t6, t7⟩
    · exact Or.inr ⟨ho, hP.pre g1 g5.1⟩
theorem b70_sim {pf : Int32 → st → Option (Nat × st)} {f m o : Nat} {y0 y z0 : st} (hf : f < 12) (hpf : f + 1 < 12 → PFs pf (f + 1)) (hm8 : m < 8) (hIP : IP y) (hSP : SP y z0) (hm : y 12 f 2 = nI m) (hQ : Qk f y0 y)
    (hc : (o = 0 ∧ y 4 0 6 = y0 4 0 6 ∧ G1 f 0 y z0) ∨ (o = 1 ∧ y 4 0 6 = y0 4 0 6 ∧ G1 f (y 1 0 5) y z0) ∨ (o = 2 ∧ y 4 0 6 = y0 4 0 6 ∧ T2 f (y 1 0 6) y z0) ∨ (o = 3 ∧ y0 4 0 6 = 0 ∧ P3 f y z0) ∨ (o = 4 ∧ P4 y z0)) :
    ∃ o' y', f_X4_performFrame_b70 pf (nI (f + 1)) f o y = some (o', y') ∧ PFpost f y0 z0 o' y' := by
  unfold f_X4_performFrame_b70
  rcases hc with ⟨rfl, e6, hG⟩ | ⟨rfl, e6, hG⟩ | ⟨rfl, e6, hT⟩ | ⟨rfl, e6, hP⟩ | ⟨rfl, hP⟩
  · rw [if_pos (by decide), if_pos rfl, lets_eq]
    refine ⟨1, _, rfl, hQ.tr y1_same.1, Or.inl ⟨rfl, by rw [sx_k _ (by decide)]; exact e6, ?_⟩⟩
    obtain ⟨z1, zp, q1, q2, q3, q4, q5, q6, q7, q8⟩ := hG
    rw [sx_app, if_pos ⟨rfl, rfl, rfl⟩]
    exact ⟨z1, zp, q1, q2, q3, (y1_same (f := f)).2 _ q4, q5, q6, q7, q8⟩
  · rw [if_pos (by decide), if_neg (by decide), if_pos (by decide), if_neg (by decide)]
    exact ⟨1, y, rfl, hQ, Or.inl ⟨rfl, e6, hG⟩⟩
  · rw [if_pos (by decide), if_neg (by decide), if_pos (by decide), if_neg (by decide)]
    exact ⟨2, y, rfl, hQ, Or.inr (Or.inl ⟨rfl, e6, hT⟩)⟩
  · rw [if_pos (by decide), if_neg (by decide), if_pos (by decide), if_pos rfl]
    obtain ⟨o', y', h1, h2, h3⟩ := cleanStopped_sim hf hpf hm8 hIP hSP hm hP
    rw [bnd_id]
    refine ⟨o', y', h1, hQ.tr h2, ?_⟩
    rcases h3 with ⟨q, h⟩ | ⟨q, h⟩
    · exact Or.inr (Or.inr (Or.inl ⟨q, e6, h⟩))
    · exact Or.inr (Or.inr (Or.inr ⟨q, h⟩))
  · rw [if_pos (by decide), if_neg (by decide), if_pos (by decide), if_neg (by decide)]
    exact ⟨4, y, rfl, hQ, Or.inr (Or.inr (Or.inr ⟨rfl, hP⟩))⟩
theorem G1_end {f m : Nat} {y z : st} (hf : f < 12) (hm8 : m < 8) (h : Fr f m y z) (hle : ¬ y 12 f 3 < y 21 m 2) : G1 f 0 y z := by
  obtain ⟨hIP, hSP, hDG, hIF, hSF, hm, hTR⟩ := h
  have e57 : z 57 0 f = nI m := (hSF f (by omega)).1.trans hm
  refine ⟨z, sx z 30 0 16 (nI f), Rch.rf, hTR.2.1, ?_, hDG.z (fun k h1 _ => sx_k _ h1) (fun j hj => by rw [sx_app, if_neg (by omega)]), ?_, by simp [sx_app], by simp [sx_app, hTR.2.1], by simp [sx_app]⟩
  · rw [itR_step hTR (by omega)]
    exact step_end hf hm8 hTR.1 e57 (by rw [(hSF f (by omega)).2.1, (hSP m hm8).1.1]; exact hle)
  · refine ⟨⟨fun k hk => sx_k _ (by omega), fun k _ _ => sx_k _ (by omega), by simp [sx_app], by simp [sx_app]⟩, ⟨fun i hi => ⟨?_, ?_, ?_, ?_, ?_, ?_, ?_⟩, fun i hi => ?_, fun i hi => ?_⟩, ⟨?_, ?_⟩, fun i hi => ⟨?_, ?_⟩⟩ <;> simp [sx_app]
theorem PFpost.pre {f : Nat} {y y1 z z1 : st} {o : Nat} {y' : st} (h : PFpost f y1 z1 o y') (hQ : Qk f y y1) (h6 : y1 4 0 6 = y 4 0 6) (hR : Rch z z1) (hK : KR f z z1) (h61 : z1 61 0 f = z 61 0 f) : PFpost f y z o y' := by
  obtain ⟨a1, a2⟩ := h
  refine ⟨hQ.tr a1, ?_⟩
  rcases a2 with ⟨q1, q2, q3⟩ | ⟨q1, q2, q3⟩ | ⟨q1, q2, q3⟩ | ⟨q1, q3⟩
  · exact Or.inl ⟨q1, q2.trans h6, q3.pre hR hK h61⟩
  · exact Or.inr (Or.inl ⟨q1, q2.trans h6, q3.pre hR hK h61⟩)
  · refine Or.inr (Or.inr (Or.inl ⟨q1, h6.symm.trans q2, ?_⟩))
    obtain ⟨z2, t1, t2, t3, t4⟩ := q3
    exact ⟨z2, hR.tr t1, t2, hK.S t3, t4⟩
  · exact Or.inr (Or.inr (Or.inr ⟨q1, q3.pre hR hK.1⟩))
theorem frame_loop {pf : Int32 → st → Option (Nat × st)} {f m : Nat} (hf : f < 12) (hpf : f + 1 < 12 → PFs pf (f + 1)) (hm8 : m < 8) : ∀ (M N t : Nat) (y z : st), 49 * rem y + (48 - nv (y 12 f 3)) ≤ M → M + 1 < N → t + M < 1000000 → Fr f m y z →
    ∃ o y', f_X4_performFrame_b33 pf N (nI (f + 1)) f (y 21 m 2) 0 (nI t) y = some (o, y') ∧ PFpost f y z o y' := by
  intro M
  induction M using Nat.strongRecOn with
  | ind M ih =>
    intro N t y z hM hN ht h
    obtain ⟨N, rfl⟩ : ∃ q, N = q + 1 := ⟨N - 1, by omega⟩
    have hh := h
    obtain ⟨hIP, hSP, hDG, hIF, hSF, hm, hTR⟩ := hh
    have hac := (hIP m hm8).1.1
    have hat := (hIF f (by omega)).2.1
    unfold f_X4_performFrame_b33
    rw [if_neg (show ¬ (1000000 : Int32) ≤ nI t from by rw [show (1000000 : Int32) = nI 1000000 from rfl, nI_leI (by decide) (by omega)]; omega), if_pos (by decide), if_pos rfl]
    by_cases hle : y 12 f 3 < y 21 m 2
    · rw [if_neg (Int32.not_le.mpr hle)]
      have hp : nv (y 12 f 3) < nv (y 21 m 2) := by
        rw [hac.1, hat.1, nI_ltI (nv_lt _) (nv_lt _)] at hle; exact hle
      obtain ⟨o, y1, g1, g5, gQ, q3, gc⟩ := performAct_sim hf hpf hm8 h hat.1 hp
      rw [bnd_of g1]
      have hkc := gQ.1
      have hIP1 : IP y1 := hIP.kc hkc
      have hSP1 : SP y1 z := hSP.kc hkc K0.rf
      have e21 : y1 21 = y 21 := hkc.1 21 (by decide)
      have hm1 : y1 12 f 2 = nI m := q3.trans hm
      clear q3
      rcases gc with ⟨rfl, q2, q4, q5⟩ | ⟨rfl, q2, q3⟩ | ⟨rfl, q2, q3⟩ | ⟨rfl, q2, q3⟩ | ⟨rfl, q3⟩
      · rcases q5 with ⟨w1, z3, w2, w3, w4, w5, w6, w7, w8⟩ | ⟨w1, w2⟩
        · have hat1 := (w4 f (by omega)).2.1
          have hlt : 49 * rem y1 + (48 - nv (y1 12 f 3)) < 49 * rem y + (48 - nv (y 12 f 3)) := by
            have b1 := gQ.2.1
            have b2 := hat.2
            have b3 := hat1.2
            rcases q4 with q4 | q4 <;> omega
          obtain ⟨o, y', k1, k2⟩ := ih (49 * rem y1 + (48 - nv (y1 12 f 3))) (by omega) N (t + 1) y1 z3 (Nat.le_refl _) (by omega) (by omega) ⟨hIP1, hSP1.kc (d := 0) KC.rf w6.1, w3, w4, w5, hm1, w7⟩
          rw [e21] at k1
          rw [nI_add1]
          exact ⟨o, y', k1, k2.pre gQ q2 w2 w6 w8⟩
        · obtain ⟨N, rfl⟩ : ∃ q, N = q + 1 := ⟨N - 1, by omega⟩
          have : f_X4_performFrame_b33 pf (N + 1) (nI (f + 1)) f (y 21 m 2) 0 (nI t + 1) y1 = f_X4_performFrame_b70 pf (nI (f + 1)) f 0 y1 := by
            unfold f_X4_performFrame_b33
            by_cases h10 : (1000000 : Int32) ≤ nI t + 1
            · rw [if_pos h10]
            · rw [if_neg h10, if_pos (by decide), if_pos rfl, if_pos]
              rw [w1, hac.1, n48]
              exact nI_le hac.2 (by decide)
          rw [this]
          exact b70_sim hf hpf hm8 hIP1 hSP1 hm1 gQ (Or.inl ⟨rfl, q2, w2⟩)
      · obtain ⟨N, rfl⟩ : ∃ q, N = q + 1 := ⟨N - 1, by omega⟩
        rw [b33_out (by omega) (by omega)]
        exact ⟨1, y1, by unfold f_X4_performFrame_b70; rfl, gQ, Or.inl ⟨rfl, q2, q3⟩⟩
      · obtain ⟨N, rfl⟩ : ∃ q, N = q + 1 := ⟨N - 1, by omega⟩
        rw [b33_out (by omega) (by omega)]
        exact ⟨2, y1, by unfold f_X4_performFrame_b70; rfl, gQ, Or.inr (Or.inl ⟨rfl, q2, q3⟩)⟩
      · obtain ⟨N, rfl⟩ : ∃ q, N = q + 1 := ⟨N - 1, by omega⟩
        rw [b33_out (by omega) (by omega)]
        exact b70_sim hf hpf hm8 hIP1 hSP1 hm1 gQ (Or.inr (Or.inr (Or.inr (Or.inl ⟨rfl, q2, q3⟩))))
      · obtain ⟨N, rfl⟩ : ∃ q, N = q + 1 := ⟨N - 1, by omega⟩
        rw [b33_out (by omega) (by omega)]
        exact ⟨4, y1, by unfold f_X4_performFrame_b70; rfl, gQ, Or.inr (Or.inr (Or.inr ⟨rfl, q3⟩))⟩
    · rw [if_pos (Int32.not_lt.mp hle)]
      exact b70_sim hf hpf hm8 hIP hSP hm Qk.rf (Or.inl ⟨rfl, rfl, G1_end hf hm8 h hle⟩)
theorem rem_le {y z : st} (h : DG y z) : rem y ≤ 600 := by
  have h3 := h.1.1.1.2.2.1.2
  have h4 := h.1.1.1.2.2.2.1.2
  unfold rem
  split <;> omega
theorem PF_all : ∀ (d f : Nat), f + d = 11 → PFs (pfn (d + 1)) f := by
  intro d
  induction d with
  | zero =>
    intro f hf y z hIP hSP hDG hIF hSF hTR
    have hmN := (hIF f (by omega)).1
    have hm7 := hmN.2
    obtain ⟨o, y', h1, h2⟩ := frame_loop (pf := pfn 0) (f := f) (m := nv (y 12 f 2)) (by omega) (fun c => by omega) (by omega) 30000 1000001 0 y z (by have := rem_le hDG; omega) (by omega) (by omega) ⟨hIP, hSP, hDG, hIF, hSF, hmN.1, hTR⟩
    refine ⟨o, y', ?_, h2⟩
    unfold pfn f_X4_performFrame
    rw [nI_pred, inb_nI (show f < 12 by omega) (by decide), if_pos rfl, nI_clamp (show f < 2 ^ 31 by omega), show inb (y 12 f 2) 8 = true from by rw [hmN.1]; exact inb_nI (by omega) (by decide), if_pos rfl]
    exact h1
  | succ d ih =>
    intro f hf y z hIP hSP hDG hIF hSF hTR
    have hmN := (hIF f (by omega)).1
    have hm7 := hmN.2
    obtain ⟨o, y', h1, h2⟩ := frame_loop (pf := pfn (d + 1)) (f := f) (m := nv (y 12 f 2)) (by omega) (fun c => ih (f + 1) (by omega)) (by omega) 30000 1000001 0 y z (by have := rem_le hDG; omega) (by omega) (by omega) ⟨hIP, hSP, hDG, hIF, hSF, hmN.1, hTR⟩
    refine ⟨o, y', ?_, h2⟩
    unfold pfn f_X4_performFrame
    rw [nI_pred, inb_nI (show f < 12 by omega) (by decide), if_pos rfl, nI_clamp (show f < 2 ^ 31 by omega), show inb (y 12 f 2) 8 = true from by rw [hmN.1]; exact inb_nI (by omega) (by decide), if_pos rfl]
    exact h1
