/-! a FRAME goes on, gives, throws: both sides -/
theorem lvS_k {z : st} {f m : Nat} {t a v : Int32} {k : Nat} (h : k < 62 ∨ 67 < k) : lvS z f m t a v k = z k := by
  unfold lvS
  rw [sx_k _ (by omega), sx_k _ (by omega), sx_k _ (by omega), sx_k _ (by omega), sx_k _ (by omega), sx_k _ (by omega)]
theorem lvS_f {z : st} {f m : Nat} {t a v : Int32} : lvS z f m t a v 62 0 f = 1 ∧ lvS z f m t a v 63 0 f = (if t < z 40 0 m then t else 99) ∧ lvS z f m t a v 64 0 f = a ∧ lvS z f m t a v 65 0 f = v ∧ lvS z f m t a v 66 0 f = 0 ∧ lvS z f m t a v 67 0 f = z 51 0 m - 1 := by
  unfold lvS
  simp [sx_app]
theorem lvS_i {z : st} {f m : Nat} {t a v : Int32} {k i : Nat} (h : i ≠ f) : lvS z f m t a v k 0 i = z k 0 i := by
  unfold lvS
  simp only [sx_app]
  simp [h]
theorem lvS_KR {z : st} {f m : Nat} {t a v : Int32} : KR f z (lvS z f m t a v) := by
  refine ⟨⟨fun k hk => lvS_k (by omega), fun k _ _ => lvS_k (by omega), by rw [lvS_k (by omega)], by rw [lvS_k (by omega)], by rw [lvS_k (by omega)], by rw [lvS_k (by omega)]⟩, ⟨fun i hi => ?_, fun j _ => by rw [lvS_k (by omega)], fun j _ => by rw [lvS_k (by omega)]⟩, ⟨by rw [lvS_k (by omega)], by rw [lvS_k (by omega)]⟩, fun i hi => ?_⟩
  · have h : i ≠ f := by omega
    exact ⟨lvS_i h, lvS_i h, lvS_i h, lvS_i h, lvS_i h, lvS_i h, lvS_i h⟩
  · have h : i ≠ f := by omega
    exact ⟨lvS_i h, lvS_i h⟩
/-- FRAME f on top, in the midst of an ACT: the two sides -/
def Wf (f m : Nat) (y z0 z : st) : Prop := IP y ∧ SP y z ∧ DG y z ∧ IF (f + 1) y ∧ SF (f + 1) y z ∧ y 12 f 2 = nI m ∧ y 12 f 5 = 0 ∧ KR f z0 z ∧ TR f z ∧ z 61 0 f = z0 61 0 f
theorem lv_main {pf : Int32 → st → Option (Nat × st)} {f m : Nat} {t t0 a v : Int32} {y z0 z : st} (hf : f < 12) (hpf : f + 1 < 12 → PFs pf (f + 1)) (hm8 : m < 8) (hW : Wf f m y z0 z) (ht : (t = 48 ∧ ¬ t0 < z 40 0 m) ∨ (t < y 21 m 2 ∧ isN t 48 ∧ t0 = t)) :
    ∃ o y', f_X4_leave pf f t (nI (f + 1)) y = some (o, y') ∧ LVpost f y (lvS z f m t0 a v) o y' := by
  obtain ⟨hIP, hSP, hDG, hIF, hSF, hm, h5, hK, hTR, h61⟩ := hW
  have hcl := (hIP m hm8).1.2.2
  have e51 : z 51 0 m = y 23 m 2 := (hSP m hm8).1.2.2
  have e40 : z 40 0 m = y 21 m 2 := (hSP m hm8).1.1
  have hlf := lvS_f (z := z) (f := f) (m := m) (t := t0) (a := a) (v := v)
  have hTL : TL f (lvS z f m t0 a v) := ⟨by rw [lvS_k (by omega)]; exact hTR.1, by rw [lvS_k (by omega)]; exact hTR.2.1, hlf.1, hTR.2.2.2.of (by rw [lvS_k (by omega)]) (by rw [lvS_k (by omega)]) (Nat.le_refl _)⟩
  have h67 : lvS z f m t0 a v 67 0 f = nI (nv (y 23 m 2)) - 1 := by rw [hlf.2.2.2.2.2, e51, ← hcl.1]
  obtain ⟨o, y', h1, h2⟩ := lv_sim (t := t) hf hpf hm8 (nv (y 23 m 2)) 100 y (lvS z f m t0 a v) (lvS z f m t0 a v) (by have := hcl.2; omega) hIP (hSP.kc (d := 0) KC.rf (lvS_KR (f := f)).1) (hDG.z (fun k h1 h2 => lvS_k (by omega)) (fun j _ => by rw [lvS_k (by omega)])) hIF (fun i hi => by
      have := hSF i hi
      rw [lvS_k (k := 57) (by omega), lvS_k (k := 58) (by omega), lvS_k (k := 59) (by omega), lvS_k (k := 60) (by omega)]
      exact this) hm (Nat.le_refl _) hcl.2 hTL (by rw [sx_self h67]) rfl (by rw [hlf.2.2.2.2.1, h5]) (by
      unfold tgt
      rw [hlf.2.1]
      rcases ht with ⟨q1, q2⟩ | ⟨q1, q2, q3⟩
      · exact Or.inl ⟨q1, by rw [if_neg q2]⟩
      · exact Or.inr ⟨q1, q2, by rw [e40, q3, if_pos q1]⟩)
  refine ⟨o, y', ?_, h2⟩
  unfold f_X4_leave
  rw [hm, inb_nI hm8 (by decide), if_pos rfl, nI_clamp (by omega), hcl.1]
  exact h1
/-- what LEAVING for t comes to, where it comes to its end -/
theorem L0.fin {f : Nat} {y' z0 : st} (hf : f < 12) (h : L0 f y' z0) : ∃ z1 z3, Rch z0 z1 ∧ z1 30 0 36 = 0 ∧ itR z1 = finL z3 f ∧ DG y' z3 ∧ IF (f + 1) y' ∧ SF (f + 1) y' z3 ∧ KR f z0 z3 ∧ (z3 30 0 16 = nI (f + 1) ∧ z3 30 0 36 = 0 ∧ z3 61 0 f = z0 61 0 f ∧ z3 63 0 f = z0 63 0 f ∧ z3 64 0 f = z0 64 0 f ∧ z3 65 0 f = z0 65 0 f) := by
  obtain ⟨z1, z3, h1, h2, h3, h4, h5, h6, h7, h8, h9⟩ := h
  refine ⟨z1, z3, h1, h2.2.1, ?_, h5, h6, h7, h8, h9⟩
  rw [itR_leave h2 (by omega), h3]
  exact lo_fin (n := 99) (by omega) (by rw [h4]; decide)
/-- the FRAME is popped -/
def popZ (z : st) (f : Nat) : st := sx (sx z 62 0 f 0) 30 0 16 (nI f)
theorem popZ_KR {z : st} {f : Nat} : KR f z (popZ z f) := by
  unfold popZ
  refine ⟨⟨fun k hk => ?_, fun k _ _ => ?_, ?_, ?_⟩, ⟨fun i hi => ⟨?_, ?_, ?_, ?_, ?_, ?_, ?_⟩, fun j _ => ?_, fun j _ => ?_⟩, ⟨?_, ?_⟩, fun i hi => ⟨?_, ?_⟩⟩
  · rw [sx_k _ (by omega), sx_k _ (by omega)]
  · rw [sx_k _ (by omega), sx_k _ (by omega)]
  all_goals first | (simp [sx_app]; done) | (simp [sx_app]; omega)
theorem popZ_DG {y z : st} {f : Nat} (h : DG y z) : DG y (popZ z f) := by
  unfold popZ
  exact h.z (fun k h1 h2 => by rw [sx_k _ h1, sx_k _ (by omega)]) (fun j hj => by rw [sx_app, if_neg (by omega), sx_k _ (by decide)])
theorem popZ_G1 {f : Nat} {v : Int32} {y' z0 z z1 z3 : st} (hR : Rch z0 z1) (h36 : z1 30 0 36 = 0) (hit : itR z1 = f_X11_gave (nI f) v (popZ z3 f)) (hD : DG y' z3) (hK : KR f z0 z3) (h3 : z3 30 0 36 = 0) (h61 : z3 61 0 f = z0 61 0 f) : G1 f v y' z0 := by
  refine ⟨z1, popZ z3 f, hR, h36, hit, popZ_DG hD, hK.tr popZ_KR, ?_, ?_, ?_⟩
  · simp [popZ, sx_app]
  · simp [popZ, sx_app, h3]
  · simp [popZ, sx_app, h61]
theorem popZ_T2 {f : Nat} {k : Int32} {y' z0 z1 z3 : st} (hR : Rch z0 z1) (h36 : z1 30 0 36 = 0) (hit : itR z1 = thr k f (popZ z3 f)) (hD : DG y' z3) (hK : KR f z0 z3) (h3 : z3 30 0 36 = 0) (h61 : z3 61 0 f = z0 61 0 f) : T2 f k y' z0 := by
  refine ⟨z1, popZ z3 f, hR, h36, hit, popZ_DG hD, hK.tr popZ_KR, ?_, ?_⟩
  · simp [popZ, sx_app, h3]
  · simp [popZ, sx_app, h61]
theorem G1.pre {f : Nat} {v : Int32} {y' z0 zw : st} (hR : Rch z0 zw) (hK : KR f z0 zw) (h61 : zw 61 0 f = z0 61 0 f) (h : G1 f v y' zw) : G1 f v y' z0 := by
  obtain ⟨z1, zp, g1, g2, g3, g4, g5, g6, g7, g8⟩ := h
  exact ⟨z1, zp, hR.tr g1, g2, g3, g4, hK.tr g5, g6, g7, g8.trans h61⟩
theorem T2.pre {f : Nat} {k : Int32} {y' z0 zw : st} (hR : Rch z0 zw) (hK : KR f z0 zw) (h61 : zw 61 0 f = z0 61 0 f) (h : T2 f k y' zw) : T2 f k y' z0 := by
  obtain ⟨z1, zp, g1, g2, g3, g4, g5, g6, g7⟩ := h
  exact ⟨z1, zp, hR.tr g1, g2, g3, g4, hK.tr g5, g6, g7.trans h61⟩
theorem P3.pre {f : Nat} {y' z0 zw : st} (hR : Rch z0 zw) (hK : KR f z0 zw) (h61 : zw 61 0 f = z0 61 0 f) (h : P3 f y' zw) : P3 f y' z0 := by
  obtain ⟨z2, g1, g2, g3, g4, g5, g6, ⟨g7, g8, g9⟩, g10⟩ := h
  exact ⟨z2, hR.tr g1, g2, g3, g4, hK.S g5, g6, ⟨g7, g8, g9.trans h61⟩, g10⟩
theorem P4.pre {y' z0 zw : st} (hR : Rch z0 zw) (hK : K0 z0 zw) (h : P4 y' zw) : P4 y' z0 := by
  obtain ⟨z2, g1, g2, g3, g4⟩ := h
  exact ⟨z2, hR.tr g1, g2, hK.tr g3, g4⟩
theorem y1_same {f : Nat} {y : st} {j : Nat} {v : Int32} : Qk f y (sx y 1 0 j v) ∧ (∀ z, DG y z → DG (sx y 1 0 j v) z) := by
  refine ⟨⟨⟨fun k hk => sx_k _ (by omega), sx_k _ (by decide), ⟨by simp [sx_app], by simp [sx_app]⟩, fun i hi => ⟨by rw [sx_k _ (by decide)], by rw [sx_k _ (by decide)], by rw [sx_k _ (by decide)]⟩⟩, ?_, by rw [sx_k _ (by decide)]; exact Nat.le_refl _⟩, fun z h => h.k (fun k h1 _ _ _ => sx_k _ h1) (fun _ _ _ => rfl) (fun _ _ => rfl)⟩
  rw [rem_k (y := y) (sx_k _ (by decide))]; exact Nat.le_refl _
/-- the METHOD gives -/
theorem giveOut_sim {pf : Int32 → st → Option (Nat × st)} {f m : Nat} {v : Int32} {y z0 z zr : st} (hf : f < 12) (hpf : f + 1 < 12 → PFs pf (f + 1)) (hm8 : m < 8) (hW : Wf f m y z0 z) (hR0 : Rch z0 zr) (h036 : zr 30 0 36 = 0) (hit : itR zr = some (lvS z f m 99 1 v)) :
    ∃ o y', f_X4_giveOut pf f v (nI (f + 1)) y = some (o, y') ∧ Qk f y y' ∧ y' 12 f 2 = y 12 f 2 ∧ ((o = 1 ∧ y' 4 0 6 = y 4 0 6 ∧ G1 f (y' 1 0 5) y' z0) ∨ (o = 2 ∧ y' 4 0 6 = y 4 0 6 ∧ T2 f (y' 1 0 6) y' z0) ∨ (o = 3 ∧ y 4 0 6 = 0 ∧ P3 f y' z0) ∨ (o = 4 ∧ P4 y' z0)) := by
  have hIP := hW.1
  have hacts := (hIP m hm8).1.1
  have e40 : z 40 0 m = y 21 m 2 := (hW.2.1 m hm8).1.1
  obtain ⟨o, y', h1, hQ, hfs, hc⟩ := lv_main (t := 48) (t0 := 99) (a := 1) (v := v) hf hpf hm8 hW (Or.inl ⟨rfl, by rw [e40, hacts.1, n99]; exact nI_nlt (by have := hacts.2; omega) (by decide)⟩)
  have hK : KR f z0 (lvS z f m 99 1 v) := hW.2.2.2.2.2.2.2.1.tr lvS_KR
  have h61 : lvS z f m 99 1 v 61 0 f = z0 61 0 f := by rw [lvS_k (by omega)]; exact hW.2.2.2.2.2.2.2.2.2
  have hR : Rch z0 (lvS z f m 99 1 v) := hR0.tr (Rch.hd h036 hit Rch.rf)
  unfold f_X4_giveOut
  rw [bnd_of h1]
  rcases hc with ⟨ho, e46, hL⟩ | ⟨ho, e46, hT⟩ | ⟨ho, e46, hP⟩ | ⟨ho, hP⟩
  · subst ho
    rw [if_pos (by decide), if_pos rfl, lets_eq]
    obtain ⟨z1, z3, g1, g2, g3, g4, g5, g6, g7, x1, x2, x3, x4, x5, x6⟩ := hL.fin hf
    have hlf := lvS_f (z := z) (f := f) (m := m) (t := 99) (a := 1) (v := v)
    refine ⟨1, _, rfl, hQ.tr y1_same.1, by rw [sx_k _ (by decide)]; exact hfs.1, Or.inl ⟨rfl, by rw [sx_k _ (by decide)]; exact e46, ?_⟩⟩
    refine G1.pre hR hK h61 ?_
    refine popZ_G1 (z := z3) (z3 := z3) g1 g2 ?_ ((y1_same (f := f)).2 _ g4) g7 x2 x3
    rw [g3]
    unfold finL
    rw [x5, hlf.2.2.1, if_neg (by decide), if_pos rfl, x6, hlf.2.2.2.1, x1, nI_pred, sx_app, if_pos ⟨rfl, rfl, rfl⟩]
    rfl
  · subst ho
    rw [if_pos (by decide), if_neg (by decide)]
    exact ⟨2, y', rfl, hQ, hfs.1, Or.inr (Or.inl ⟨rfl, e46, hT.pre hR hK h61⟩)⟩
  · subst ho
    rw [if_pos (by decide), if_neg (by decide)]
    exact ⟨3, y', rfl, hQ, hfs.1, Or.inr (Or.inr (Or.inl ⟨rfl, e46, hP.pre hR hK h61⟩))⟩
  · subst ho
    rw [if_pos (by decide), if_neg (by decide)]
    exact ⟨4, y', rfl, hQ, hfs.1, Or.inr (Or.inr (Or.inr ⟨rfl, hP.pre hR hK.1⟩))⟩
/-- the METHOD throws -/
theorem throwOut_sim {pf : Int32 → st → Option (Nat × st)} {f m : Nat} {v : Int32} {y z0 z zr : st} (hf : f < 12) (hpf : f + 1 < 12 → PFs pf (f + 1)) (hm8 : m < 8) (hW : Wf f m y z0 z) (hR0 : Rch z0 zr) (h036 : zr 30 0 36 = 0) (hit : itR zr = some (lvS z f m 99 2 v)) :
    ∃ o y', f_X4_throwOut pf f v (nI (f + 1)) y = some (o, y') ∧ Qk f y y' ∧ y' 12 f 2 = y 12 f 2 ∧ ((o = 2 ∧ y' 4 0 6 = y 4 0 6 ∧ T2 f (y' 1 0 6) y' z0) ∨ (o = 3 ∧ y 4 0 6 = 0 ∧ P3 f y' z0) ∨ (o = 4 ∧ P4 y' z0)) := by
  have hIP := hW.1
  have hacts := (hIP m hm8).1.1
  have e40 : z 40 0 m = y 21 m 2 := (hW.2.1 m hm8).1.1
  obtain ⟨o, y', h1, hQ, hfs, hc⟩ := lv_main (t := 48) (t0 := 99) (a := 2) (v := v) hf hpf hm8 hW (Or.inl ⟨rfl, by rw [e40, hacts.1, n99]; exact nI_nlt (by have := hacts.2; omega) (by decide)⟩)
  have hK : KR f z0 (lvS z f m 99 2 v) := hW.2.2.2.2.2.2.2.1.tr lvS_KR
  have h61 : lvS z f m 99 2 v 61 0 f = z0 61 0 f := by rw [lvS_k (by omega)]; exact hW.2.2.2.2.2.2.2.2.2
  have hR : Rch z0 (lvS z f m 99 2 v) := hR0.tr (Rch.hd h036 hit Rch.rf)
  unfold f_X4_throwOut
  rw [bnd_of h1]
  rcases hc with ⟨ho, e46, hL⟩ | ⟨ho, e46, hT⟩ | ⟨ho, e46, hP⟩ | ⟨ho, hP⟩
  · subst ho
    rw [if_pos (by decide), if_pos rfl, lets_eq]
    obtain ⟨z1, z3, g1, g2, g3, g4, g5, g6, g7, x1, x2, x3, x4, x5, x6⟩ := hL.fin hf
    have hlf := lvS_f (z := z) (f := f) (m := m) (t := 99) (a := 2) (v := v)
    refine ⟨2, _, rfl, hQ.tr y1_same.1, by rw [sx_k _ (by decide)]; exact hfs.1, Or.inl ⟨rfl, by rw [sx_k _ (by decide)]; exact e46, ?_⟩⟩
    refine T2.pre hR hK h61 ?_
    refine popZ_T2 (z3 := z3) g1 g2 ?_ ((y1_same (f := f)).2 _ g4) g7 x2 x3
    rw [g3]
    unfold finL
    rw [x5, hlf.2.2.1, if_pos rfl, x6, hlf.2.2.2.1, x1, nI_pred, thrown_eq (by omega) (by simp [sx_app]), sx_app, if_pos ⟨rfl, rfl, rfl⟩]
    rfl
  · subst ho
    rw [if_pos (by decide), if_neg (by decide)]
    exact ⟨2, y', rfl, hQ, hfs.1, Or.inl ⟨rfl, e46, hT.pre hR hK h61⟩⟩
  · subst ho
    rw [if_pos (by decide), if_neg (by decide)]
    exact ⟨3, y', rfl, hQ, hfs.1, Or.inr (Or.inl ⟨rfl, e46, hP.pre hR hK h61⟩)⟩
  · subst ho
    rw [if_pos (by decide), if_neg (by decide)]
    exact ⟨4, y', rfl, hQ, hfs.1, Or.inr (Or.inr ⟨rfl, hP.pre hR hK.1⟩)⟩
/-- it goes on at nx (a GUARD's ACT too: then NUMBER 5 is set behind it) -/
def go0 (f : Nat) (a v : Int32) (y' z0 : st) : Prop :=
  (y' 12 f 3 < y' 21 (nv (y' 12 f 2)) 2 ∧ ∃ z1 z3, Rch z0 z1 ∧ z1 30 0 36 = 0 ∧ itR z1 = some (sx z3 59 0 (6 * f + 5) (if a = 3 then v else z3 59 0 (6 * f + 5))) ∧ DG y' z3 ∧ IF (f + 1) y' ∧ SF (f + 1) y' z3 ∧ KR f z0 z3 ∧ TR f z3 ∧ z3 61 0 f = z0 61 0 f) ∨
  (y' 12 f 3 = 48 ∧ IF (f + 1) y' ∧ G1 f 0 y' z0)
theorem goOn_sim {pf : Int32 → st → Option (Nat × st)} {f m nx : Nat} {a v : Int32} {y z0 z zr : st} (hf : f < 12) (hpf : f + 1 < 12 → PFs pf (f + 1)) (hm8 : m < 8) (hnx : nx ≤ 49) (ha : a = 0 ∨ a = 3) (hW : Wf f m y z0 z) (hR0 : Rch z0 zr) (h036 : zr 30 0 36 = 0) (hit : itR zr = some (lvS z f m (nI nx) a v)) :
    ∃ o y', f_X4_goOn pf f (nI nx) (nI (f + 1)) y = some (o, y') ∧ Qk f y y' ∧ y' 12 f 2 = y 12 f 2 ∧ y' 13 f = y 13 f ∧ y' 14 f = y 14 f ∧ ((o = 0 ∧ y' 4 0 6 = y 4 0 6 ∧ y' 12 f 3 = (if nI nx < y 21 m 2 then nI nx else 48) ∧ go0 f a v y' z0) ∨ (o = 2 ∧ y' 4 0 6 = y 4 0 6 ∧ T2 f (y' 1 0 6) y' z0) ∨ (o = 3 ∧ y 4 0 6 = 0 ∧ P3 f y' z0) ∨ (o = 4 ∧ P4 y' z0)) := by
  have hIP := hW.1
  have hm := hW.2.2.2.2.2.1
  have hacts := (hIP m hm8).1.1
  have e40 : z 40 0 m = y 21 m 2 := (hW.2.1 m hm8).1.1
  have hK : KR f z0 (lvS z f m (nI nx) a v) := hW.2.2.2.2.2.2.2.1.tr lvS_KR
  have h61 : lvS z f m (nI nx) a v 61 0 f = z0 61 0 f := by rw [lvS_k (by omega)]; exact hW.2.2.2.2.2.2.2.2.2
  have hR : Rch z0 (lvS z f m (nI nx) a v) := hR0.tr (Rch.hd h036 hit Rch.rf)
  have hlf := lvS_f (z := z) (f := f) (m := m) (t := nI nx) (a := a) (v := v)
  have hcl : clOK f (lvS z f m (nI nx) a v) := hW.2.2.2.2.2.2.2.2.1.2.2.2.of (by rw [lvS_k (by omega)]) (by rw [lvS_k (by omega)]) (Nat.le_refl _)
  -- the target
  obtain ⟨t, ht, hsel⟩ : ∃ t, t = (if nI nx < y 21 m 2 then nI nx else 48) ∧ f_X4_goOn pf f (nI nx) (nI (f + 1)) y = f_X4_goOn_b25 pf f (nI (f + 1)) t y := by
    refine ⟨_, rfl, ?_⟩
    unfold f_X4_goOn
    rw [hm, inb_nI hm8 (by decide), if_pos rfl, nI_clamp (by omega)]
    rcases i32_le_or_lt (y 21 m 2) (nI nx) with q | q
    · rw [if_pos q, if_neg (Int32.not_lt.mpr q)]
    · rw [if_neg (Int32.not_le.mpr q), if_pos q]
  have htN : isN t 48 := by
    rw [ht]
    by_cases q : nI nx < y 21 m 2
    · rw [if_pos q]
      rw [hacts.1, nI_ltI (by omega) (nv_lt _)] at q
      exact isN.of (by have := hacts.2; omega) (by omega)
    · rw [if_neg q]; exact isN.of (n := 48) (by omega) (by omega)
  obtain ⟨o, y', h1, hQ, hfs, hc⟩ := lv_main (t := t) (t0 := nI nx) (a := a) (v := v) hf hpf hm8 hW (by
    by_cases q : nI nx < y 21 m 2
    · rw [if_pos q] at ht
      exact Or.inr ⟨by rw [ht]; exact q, htN, ht.symm⟩
    · rw [if_neg q] at ht
      exact Or.inl ⟨ht, by rw [e40]; exact q⟩)
  rw [hsel]
  unfold f_X4_goOn_b25
  rw [bnd_of h1]
  rcases hc with ⟨ho, e46, hL⟩ | ⟨ho, e46, hT⟩ | ⟨ho, e46, hP⟩ | ⟨ho, hP⟩
  · subst ho
    rw [if_pos (by decide), if_pos rfl, lets_eq]
    unfold f_X4_goOn_b51
    obtain ⟨z1, z3, g1, g2, g3, g4, g5, g6, g7, x1, x2, x3, x4, x5, x6⟩ := hL.fin hf
    have hkc : KC f y' (sx y' 12 f 3 t) := ⟨fun k hk => sx_k _ (by omega), sx_k _ (by decide), ⟨by simp [sx_app], by simp [sx_app]⟩, fun i hi => ⟨sx_i _ (by omega), by rw [sx_k _ (by decide)], by rw [sx_k _ (by decide)]⟩⟩
    have hQ2 : Qk f y' (sx y' 12 f 3 t) := ⟨hkc, by rw [rem_k (y := y') (sx_k _ (by decide))]; exact Nat.le_refl _, by rw [sx_k _ (by decide)]; exact Nat.le_refl _⟩
    have hIF2 : IF (f + 1) (sx y' 12 f 3 t) := by
      intro i hi
      obtain ⟨b1, b2, b3⟩ := g5 i hi
      refine ⟨?_, ?_, ?_⟩
      · simpa [sx_app] using b1
      · simp only [sx_app]
        by_cases hif : i = f
        · simp [hif]; exact htN
        · simp [hif]; exact b2
      · rw [sx_k _ (by decide), sx_k _ (by decide)]; exact b3
    have ha2 : ¬ a = 2 := by rcases ha with rfl | rfl <;> decide
    have ha1 : ¬ a = 1 := by rcases ha with rfl | rfl <;> decide
    have a12 : (sx y' 12 f 3 t) 12 f 2 = y 12 f 2 := by rw [sx_app, if_neg (by omega)]; exact hfs.1
    refine ⟨0, _, rfl, hQ.tr hQ2, a12, by rw [sx_k _ (by decide)]; exact hfs.2.2.1, by rw [sx_k _ (by decide)]; exact hfs.2.2.2, Or.inl ⟨rfl, by rw [sx_k _ (by decide)]; exact e46, by rw [sx_app, if_pos ⟨rfl, rfl, rfl⟩]; exact ht, ?_⟩⟩
    have hD2 : ∀ w, DG y' w → DG (sx y' 12 f 3 t) w := fun w h => h.k (fun k _ h1 _ _ => sx_k _ h1) (fun _ _ _ => rfl) (fun _ _ => rfl)
    by_cases q : nI nx < y 21 m 2
    · left
      rw [if_pos q] at ht
      have z63 : z3 63 0 f = nI nx := by rw [x4, hlf.2.1, e40, if_pos q]
      have hne : ¬ nI nx = 99 := by
        rw [hacts.1, nI_ltI (by omega) (nv_lt _)] at q
        rw [n99, nI_eq (by omega) (by decide)]
        have := hacts.2
        omega
      refine ⟨?_, z1, sx (sx z3 62 0 f 0) 58 0 f (nI nx), hR.tr g1, g2, ?_, ?_, hIF2, ?_, ?_, ?_, ?_⟩
      · rw [a12, hm, nv_nI (by omega), sx_app, if_pos ⟨rfl, rfl, rfl⟩, sx_k _ (by decide), hQ.1.1 21 (by decide), ht]
        exact q
      · rw [g3]
        unfold finL
        rw [x5, hlf.2.2.1, if_neg ha2, if_neg ha1, z63, if_neg hne, x6, hlf.2.2.2.1]
        have e59 : (sx (sx z3 62 0 f 0) 58 0 f (nI nx)) 59 0 (6 * f + 5) = z3 59 0 (6 * f + 5) := by simp [sx_app]
        rw [e59]
      · refine hD2 _ (g4.z (fun k h1 h2 => by rw [sx_k _ (by omega), sx_k _ (by omega)]) (fun j hj => by rw [sx_k _ (by decide), sx_k _ (by decide)]))
      · intro i hi
        obtain ⟨b1, b2, b3, b4⟩ := g6 i hi
        refine ⟨?_, ?_, ?_, ?_⟩
        · simpa [sx_app] using b1
        · simp only [sx_app]
          by_cases hif : i = f
          · simp [hif, ht]
          · simp [hif]; exact b2
        · simpa [sx_app] using b3
        · simpa [sx_app] using b4
      · refine hK.tr (g7.tr ?_)
        refine ⟨⟨fun k hk => by rw [sx_k _ (by omega), sx_k _ (by omega)], fun k _ _ => by rw [sx_k _ (by omega), sx_k _ (by omega)], by simp [sx_app], by simp [sx_app]⟩, ⟨fun i hi => ⟨?_, ?_, ?_, ?_, ?_, ?_, ?_⟩, fun j _ => ?_, fun j _ => ?_⟩, ⟨?_, ?_⟩, fun i hi => ⟨?_, ?_⟩⟩
        all_goals first | (simp [sx_app]; done) | (simp [sx_app]; omega)
      · refine ⟨by simp [sx_app, x1], by simp [sx_app, x2], by simp [sx_app], ?_⟩
        exact hcl.of (by simp [sx_app]; exact g7.2.2.1.1) (by simp [sx_app]; exact g7.2.2.1.2) (Nat.le_refl _)
      · rw [← h61, ← x3]; simp [sx_app]
    · right
      rw [if_neg q] at ht
      refine ⟨by rw [sx_app, if_pos ⟨rfl, rfl, rfl⟩]; exact ht, hIF2, ?_⟩
      refine G1.pre hR hK h61 (popZ_G1 (z := z3) (z3 := z3) g1 g2 ?_ (hD2 _ g4) g7 x2 x3)
      rw [g3]
      unfold finL
      have z63 : z3 63 0 f = 99 := by rw [x4, hlf.2.1, e40, if_neg q]
      rw [x5, hlf.2.2.1, if_neg ha2, if_neg ha1, z63, if_pos rfl, x1, nI_pred]
      rfl
  · subst ho
    rw [if_pos (by decide), if_neg (by decide)]
    unfold f_X4_goOn_b51
    exact ⟨2, y', rfl, hQ, hfs.1, hfs.2.2.1, hfs.2.2.2, Or.inr (Or.inl ⟨rfl, e46, hT.pre hR hK h61⟩)⟩
  · subst ho
    rw [if_pos (by decide), if_neg (by decide)]
    unfold f_X4_goOn_b51
    exact ⟨3, y', rfl, hQ, hfs.1, hfs.2.2.1, hfs.2.2.2, Or.inr (Or.inr (Or.inl ⟨rfl, e46, hP.pre hR hK h61⟩))⟩
  · subst ho
    rw [if_pos (by decide), if_neg (by decide)]
    unfold f_X4_goOn_b51
    exact ⟨4, y', rfl, hQ, hfs.1, hfs.2.2.1, hfs.2.2.2, Or.inr (Or.inr (Or.inr ⟨rfl, hP.pre hR hK.1⟩))⟩
