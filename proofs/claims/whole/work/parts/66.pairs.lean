/-! the calls that tell: both sides -/
def Prs (F : st → Option (Int32 × st)) (R : st → Int32 → st → Prop) : Prop := ∀ y z, Sim y z → ∃ r y' z', F y = some (r, y') ∧ R z r z' ∧ Sim y' z' ∧ (∀ k, 30 ≤ k → y' k = y k) ∧ ∀ k, k < 30 → z' k = z k
theorem Prs.step {F : st → Option (Int32 × st)} {R : st → Int32 → st → Prop} (h : Prs F R) {x : st} (hs : Sim x x) : ∃ r x1 x2, F x = some (r, x1) ∧ R x1 r x2 ∧ Sim x2 x2 ∧ ∀ k, k < 30 → x2 k = x1 k := by
  obtain ⟨r, y', z', e1, -, -, f1, -⟩ := h x x hs
  obtain ⟨r2, y2, z2, e2, e3, s2, -, f2⟩ := h x y' (hs.yz (fun _ _ => rfl) f1)
  have hq := Option.some.inj (e2.symm.trans e1)
  have q1 : r2 = r := congrArg Prod.fst hq
  have q2 : y2 = y' := congrArg Prod.snd hq
  subst q1 q2
  exact ⟨_, _, z2, e1, e3, s2.yz f2 (fun _ _ => rfl), f2⟩
theorem nIx {mul t n : Nat} (hm : mul ≤ 48) (ht : t < 8) (hn : n < mul) : nI mul * nI t + nI n = nI (mul * t + n) := by
  rw [show nI mul * nI t = nI (mul * t) from (Int32.ofNat_mul mul t).symm, nI_add]
theorem f11_same {α : Type} {b : α} {P : Prop} [Decidable P] (h : P) {c : α} : (if P then b else c) = b := if_pos h

theorem span11 {a1 a b : Int32} {z : st} (h : ¬ wi a1 8 = 0) : f_X11_isSpan a1 a b z = some (span_v a b, z) := by
  unfold f_X11_isSpan f_X11_isSpan_b36 span_v
  rw [bnd_of isMethod_w, if_neg h, bnd_of in48_w]
  by_cases h1 : wi a 49 = 0
  · rw [if_pos h1, if_pos h1]
  · rw [if_neg h1, if_neg h1, bnd_of in48_w]
    by_cases h2 : wi b 49 = 0
    · rw [if_pos h2, if_pos h2]
    · rw [if_neg h2, if_neg h2]
      by_cases h3 : b ≤ a
      · rw [if_pos h3, if_pos h3]
      · rw [if_neg h3, if_neg h3]
theorem span110 {a1 a b : Int32} {z : st} (h : wi a1 8 = 0) : f_X11_isSpan a1 a b z = some (0, z) := by
  unfold f_X11_isSpan f_X11_isSpan_b36
  rw [bnd_of isMethod_w, if_pos h]
theorem wi_0 {a e : Int32} (h : a < 0 ∨ e ≤ a) : wi a e = 0 := by unfold wi; rw [if_pos h]
theorem wi_1 {a e : Int32} (h : ¬ (a < 0 ∨ e ≤ a)) : ¬ wi a e = 0 := by unfold wi; rw [if_neg h]; decide
theorem z_act (z : st) (t n : Nat) (a2 a3 a4 a5 a6 : Int32) : aZ z (sx (sx (sx (sx (sx (sx z 41 0 (48 * t + n) a2) 42 0 (48 * t + n) a3) 43 0 (48 * t + n) a4) 44 0 (48 * t + n) a5) 45 0 (48 * t + n) a6) 40 0 t (nI (n + 1))) 40 5 t (48 * t + n) n (F5 a2 a3 a4 a5 a6) := by
  refine ⟨by simp [sx_app], fun m hm => by simp [sx_app, hm], fun s hs => ?_, fun k hk => by rw [sx_k _ (by omega), sx_k _ (by omega), sx_k _ (by omega), sx_k _ (by omega), sx_k _ (by omega), sx_k _ (by omega)]⟩
  have hc : s = 0 ∨ s = 1 ∨ s = 2 ∨ s = 3 ∨ s = 4 := by omega
  rcases hc with rfl | rfl | rfl | rfl | rfl <;> exact ⟨by simp [sx_app, F5], fun i hi => by simp [sx_app, hi]⟩
set_option maxHeartbeats 2000000 in
theorem g_act {z : st} {t n : Nat} (ht : t < 8) (hn : z 40 0 t = nI n) (hlt : n < 48) (a2 a3 a4 a5 a6 : Int32) (r0 : Int32) (hr : ∀ z, f_X11_isRight a2 a3 a4 a5 a6 z = some (r0, z)) (h0 : ¬ r0 = 0) : f_X11_act (nI t) a2 a3 a4 a5 a6 z = some (nI n, sx (sx (sx (sx (sx (sx z 41 0 (48 * t + n) a2) 42 0 (48 * t + n) a3) 43 0 (48 * t + n) a4) 44 0 (48 * t + n) a5) 45 0 (48 * t + n) a6) 40 0 t (nI (n + 1))) := by
  have hin : inb (nI t) 8 = true := inb_nI ht (by decide)
  have hcl : (nI t).toNatClampNeg = t := nI_clamp (by omega)
  have hx : (48 : Int32) * nI t + nI n = nI (48 * t + n) := nIx (by decide) ht hlt
  have hin2 : inb (nI (48 * t + n)) 384 = true := inb_nI (by omega) (by decide)
  have hcl2 : (nI (48 * t + n)).toNatClampNeg = 48 * t + n := nI_clamp (by omega)
  have hne : ¬ nI n = 48 := fun q => by have := congrArg nv q; rw [nv_nI (by omega)] at this; have h2 : nv (48 : Int32) = 48 := rfl; omega
  have hw : ¬ wi (nI t) 8 = 0 := by unfold wi; rw [if_neg ?_]; decide; rintro (q | q); exact nI_pos (by omega) q; rw [n8, nI_leI (by decide) (by omega)] at q; omega
  unfold f_X11_act
  rw [bnd_of isMethod_w, if_neg hw, bnd_of (hr z), if_neg h0]
  simp only [hin, hcl, hn, hx, hin2, hcl2, hne, if_true, if_false, lets_eq]
  have e1 : ∀ w : st, w = (sx (sx (sx (sx (sx z 41 0 (48 * t + n) a2) 42 0 (48 * t + n) a3) 43 0 (48 * t + n) a4) 44 0 (48 * t + n) a5) 45 0 (48 * t + n) a6) → w 40 0 t = nI n := by
    intro w hw2
    rw [hw2]
    simp [sx_app, hn]
  rw [e1 _ rfl, nI_add1]
  rw [show ∀ w : st, sx w 40 0 t (nI (n + 1)) 40 0 t = nI (n + 1) from fun w => by simp [sx_app], nI_sub1 (by omega), show n + 1 - 1 = n from rfl]
theorem h_act {z : st} {t : Nat} (ht : t < 8) (hn : z 40 0 t = 48) (a2 a3 a4 a5 a6 : Int32) (r0 : Int32) (hr : ∀ z, f_X11_isRight a2 a3 a4 a5 a6 z = some (r0, z)) (h0 : ¬ r0 = 0) : f_X11_act (nI t) a2 a3 a4 a5 a6 z = some (-2, z) := by
  have hin : inb (nI t) 8 = true := inb_nI ht (by decide)
  have hcl : (nI t).toNatClampNeg = t := nI_clamp (by omega)
  have hw : ¬ wi (nI t) 8 = 0 := by unfold wi; rw [if_neg ?_]; decide; rintro (q | q); exact nI_pos (by omega) q; rw [n8, nI_leI (by decide) (by omega)] at q; omega
  unfold f_X11_act
  rw [bnd_of isMethod_w, if_neg hw, bnd_of (hr z), if_neg h0]
  rw [if_pos hin, hcl, if_pos hn]
theorem u_act {y z : st} (h : Sim y z) {t : Nat} (ht : t < 8) (a2 a3 a4 a5 a6 : Int32) (r0 : Int32) (hr : ∀ z, f_X11_isRight a2 a3 a4 a5 a6 z = some (r0, z)) (h0 : ¬ r0 = 0) (hF : okF 21 (F5 a2 a3 a4 a5 a6)) : ∃ r y' z', some (addR y 21 24 18 48 t (F5 a2 a3 a4 a5 a6)) = some (r, y') ∧ f_X11_act (nI t) a2 a3 a4 a5 a6 z = some (r, z') ∧ Sim y' z' ∧ (∀ k, 30 ≤ k → y' k = y k) ∧ ∀ k, k < 30 → z' k = z k := by
  obtain ⟨⟨i1, i2⟩, -⟩ := (IP_L.mp h.1 t ht).1
  have s1 := (SP_L.mp h.2.1 t ht).1.1
  unfold addR
  generalize hnn : nv (y 21 t 2) = n at i1 i2
  by_cases hlt : n < 48
  · rw [if_pos hlt]
    refine ⟨_, _, _, rfl, (by rw [i1]; exact g_act ht (s1.trans i1) hlt a2 a3 a4 a5 a6 r0 hr h0), h.add LZ.a i1 hlt hF (z_act z t n a2 a3 a4 a5 a6), fun k hk => add_oth LZ.a.lk (by omega) (by omega) (by omega), fun k hk => by rw [sx_k _ (by omega), sx_k _ (by omega), sx_k _ (by omega), sx_k _ (by omega), sx_k _ (by omega), sx_k _ (by omega)]⟩
  · rw [if_neg hlt]
    have hn48 : n = 48 := by omega
    exact ⟨_, _, _, rfl, h_act ht (by rw [s1, i1, hn48]; rfl) a2 a3 a4 a5 a6 r0 hr h0, h, fun _ _ => rfl, fun _ _ => rfl⟩
theorem z_guard (z : st) (t n : Nat) (a2 a3 a4 a5 : Int32) : aZ z (sx (sx (sx (sx (sx z 47 0 (6 * t + n) a2) 48 0 (6 * t + n) a3) 49 0 (6 * t + n) a4) 50 0 (6 * t + n) a5) 46 0 t (nI (n + 1))) 46 4 t (6 * t + n) n (F4 a2 a3 a4 a5) := by
  refine ⟨by simp [sx_app], fun m hm => by simp [sx_app, hm], fun s hs => ?_, fun k hk => by rw [sx_k _ (by omega), sx_k _ (by omega), sx_k _ (by omega), sx_k _ (by omega), sx_k _ (by omega)]⟩
  have hc : s = 0 ∨ s = 1 ∨ s = 2 ∨ s = 3 := by omega
  rcases hc with rfl | rfl | rfl | rfl <;> exact ⟨by simp [sx_app, F4], fun i hi => by simp [sx_app, hi]⟩
set_option maxHeartbeats 2000000 in
theorem g_guard {z : st} {t n : Nat} (ht : t < 8) (hn : z 46 0 t = nI n) (hlt : n < 6) (a2 a3 a4 a5 : Int32) (h0 : ¬ span_v a2 a3 = 0) (h4 : ¬ wi a4 10 = 0) (h5 : ¬ wi a5 49 = 0) : f_X11_guard (nI t) a2 a3 a4 a5 z = some (nI n, sx (sx (sx (sx (sx z 47 0 (6 * t + n) a2) 48 0 (6 * t + n) a3) 49 0 (6 * t + n) a4) 50 0 (6 * t + n) a5) 46 0 t (nI (n + 1))) := by
  have hin : inb (nI t) 8 = true := inb_nI ht (by decide)
  have hcl : (nI t).toNatClampNeg = t := nI_clamp (by omega)
  have hx : (6 : Int32) * nI t + nI n = nI (6 * t + n) := nIx (by decide) ht hlt
  have hin2 : inb (nI (6 * t + n)) 48 = true := inb_nI (by omega) (by decide)
  have hcl2 : (nI (6 * t + n)).toNatClampNeg = 6 * t + n := nI_clamp (by omega)
  have hne : ¬ nI n = 6 := fun q => by have := congrArg nv q; rw [nv_nI (by omega)] at this; have h2 : nv (6 : Int32) = 6 := rfl; omega
  have hw : ¬ wi (nI t) 8 = 0 := by unfold wi; rw [if_neg ?_]; decide; rintro (q | q); exact nI_pos (by omega) q; rw [n8, nI_leI (by decide) (by omega)] at q; omega
  unfold f_X11_guard
  rw [bnd_of (span11 hw), if_neg h0, bnd_of in9_w, if_neg h4, bnd_of in48_w, if_neg h5]
  simp only [hin, hcl, hn, hx, hin2, hcl2, hne, if_true, if_false, lets_eq]
  have e1 : ∀ w : st, w = (sx (sx (sx (sx z 47 0 (6 * t + n) a2) 48 0 (6 * t + n) a3) 49 0 (6 * t + n) a4) 50 0 (6 * t + n) a5) → w 46 0 t = nI n := by
    intro w hw2
    rw [hw2]
    simp [sx_app, hn]
  rw [e1 _ rfl, nI_add1]
  rw [show ∀ w : st, sx w 46 0 t (nI (n + 1)) 46 0 t = nI (n + 1) from fun w => by simp [sx_app], nI_sub1 (by omega), show n + 1 - 1 = n from rfl]
theorem h_guard {z : st} {t : Nat} (ht : t < 8) (hn : z 46 0 t = 6) (a2 a3 a4 a5 : Int32) (h0 : ¬ span_v a2 a3 = 0) (h4 : ¬ wi a4 10 = 0) (h5 : ¬ wi a5 49 = 0) : f_X11_guard (nI t) a2 a3 a4 a5 z = some (-2, z) := by
  have hin : inb (nI t) 8 = true := inb_nI ht (by decide)
  have hcl : (nI t).toNatClampNeg = t := nI_clamp (by omega)
  have hw : ¬ wi (nI t) 8 = 0 := by unfold wi; rw [if_neg ?_]; decide; rintro (q | q); exact nI_pos (by omega) q; rw [n8, nI_leI (by decide) (by omega)] at q; omega
  unfold f_X11_guard
  rw [bnd_of (span11 hw), if_neg h0, bnd_of in9_w, if_neg h4, bnd_of in48_w, if_neg h5]
  rw [if_pos hin, hcl, if_pos hn]
theorem u_guard {y z : st} (h : Sim y z) {t : Nat} (ht : t < 8) (a2 a3 a4 a5 : Int32) (h0 : ¬ span_v a2 a3 = 0) (h4 : ¬ wi a4 10 = 0) (h5 : ¬ wi a5 49 = 0) (hF : okF 22 (F4 a2 a3 a4 a5)) : ∃ r y' z', some (addR y 22 25 19 6 t (F4 a2 a3 a4 a5)) = some (r, y') ∧ f_X11_guard (nI t) a2 a3 a4 a5 z = some (r, z') ∧ Sim y' z' ∧ (∀ k, 30 ≤ k → y' k = y k) ∧ ∀ k, k < 30 → z' k = z k := by
  obtain ⟨⟨i1, i2⟩, -⟩ := (IP_L.mp h.1 t ht).2.1
  have s1 := (SP_L.mp h.2.1 t ht).2.1.1
  unfold addR
  generalize hnn : nv (y 22 t 2) = n at i1 i2
  by_cases hlt : n < 6
  · rw [if_pos hlt]
    refine ⟨_, _, _, rfl, (by rw [i1]; exact g_guard ht (s1.trans i1) hlt a2 a3 a4 a5 h0 h4 h5), h.add LZ.g i1 hlt hF (z_guard z t n a2 a3 a4 a5), fun k hk => add_oth LZ.g.lk (by omega) (by omega) (by omega), fun k hk => by rw [sx_k _ (by omega), sx_k _ (by omega), sx_k _ (by omega), sx_k _ (by omega), sx_k _ (by omega)]⟩
  · rw [if_neg hlt]
    have hn48 : n = 6 := by omega
    exact ⟨_, _, _, rfl, h_guard ht (by rw [s1, i1, hn48]; rfl) a2 a3 a4 a5 h0 h4 h5, h, fun _ _ => rfl, fun _ _ => rfl⟩
theorem z_clean (z : st) (t n : Nat) (a2 a3 a4 : Int32) : aZ z (sx (sx (sx (sx z 52 0 (6 * t + n) a2) 53 0 (6 * t + n) a3) 54 0 (6 * t + n) a4) 51 0 t (nI (n + 1))) 51 3 t (6 * t + n) n (F3 a2 a3 a4) := by
  refine ⟨by simp [sx_app], fun m hm => by simp [sx_app, hm], fun s hs => ?_, fun k hk => by rw [sx_k _ (by omega), sx_k _ (by omega), sx_k _ (by omega), sx_k _ (by omega)]⟩
  have hc : s = 0 ∨ s = 1 ∨ s = 2 := by omega
  rcases hc with rfl | rfl | rfl <;> exact ⟨by simp [sx_app, F3], fun i hi => by simp [sx_app, hi]⟩
set_option maxHeartbeats 2000000 in
theorem g_clean {z : st} {t n : Nat} (ht : t < 8) (hn : z 51 0 t = nI n) (hlt : n < 6) (a2 a3 a4 : Int32) (h0 : ¬ span_v a2 a3 = 0) (h4 : ¬ wi a4 8 = 0) : f_X11_clean (nI t) a2 a3 a4 z = some (nI n, sx (sx (sx (sx z 52 0 (6 * t + n) a2) 53 0 (6 * t + n) a3) 54 0 (6 * t + n) a4) 51 0 t (nI (n + 1))) := by
  have hin : inb (nI t) 8 = true := inb_nI ht (by decide)
  have hcl : (nI t).toNatClampNeg = t := nI_clamp (by omega)
  have hx : (6 : Int32) * nI t + nI n = nI (6 * t + n) := nIx (by decide) ht hlt
  have hin2 : inb (nI (6 * t + n)) 48 = true := inb_nI (by omega) (by decide)
  have hcl2 : (nI (6 * t + n)).toNatClampNeg = 6 * t + n := nI_clamp (by omega)
  have hne : ¬ nI n = 6 := fun q => by have := congrArg nv q; rw [nv_nI (by omega)] at this; have h2 : nv (6 : Int32) = 6 := rfl; omega
  have hw : ¬ wi (nI t) 8 = 0 := by unfold wi; rw [if_neg ?_]; decide; rintro (q | q); exact nI_pos (by omega) q; rw [n8, nI_leI (by decide) (by omega)] at q; omega
  unfold f_X11_clean
  rw [bnd_of (span11 hw), if_neg h0, bnd_of isMethod_w, if_neg h4]
  simp only [hin, hcl, hn, hx, hin2, hcl2, hne, if_true, if_false, lets_eq]
  have e1 : ∀ w : st, w = (sx (sx (sx z 52 0 (6 * t + n) a2) 53 0 (6 * t + n) a3) 54 0 (6 * t + n) a4) → w 51 0 t = nI n := by
    intro w hw2
    rw [hw2]
    simp [sx_app, hn]
  rw [e1 _ rfl, nI_add1]
  rw [show ∀ w : st, sx w 51 0 t (nI (n + 1)) 51 0 t = nI (n + 1) from fun w => by simp [sx_app], nI_sub1 (by omega), show n + 1 - 1 = n from rfl]
theorem h_clean {z : st} {t : Nat} (ht : t < 8) (hn : z 51 0 t = 6) (a2 a3 a4 : Int32) (h0 : ¬ span_v a2 a3 = 0) (h4 : ¬ wi a4 8 = 0) : f_X11_clean (nI t) a2 a3 a4 z = some (-2, z) := by
  have hin : inb (nI t) 8 = true := inb_nI ht (by decide)
  have hcl : (nI t).toNatClampNeg = t := nI_clamp (by omega)
  have hw : ¬ wi (nI t) 8 = 0 := by unfold wi; rw [if_neg ?_]; decide; rintro (q | q); exact nI_pos (by omega) q; rw [n8, nI_leI (by decide) (by omega)] at q; omega
  unfold f_X11_clean
  rw [bnd_of (span11 hw), if_neg h0, bnd_of isMethod_w, if_neg h4]
  rw [if_pos hin, hcl, if_pos hn]
theorem u_clean {y z : st} (h : Sim y z) {t : Nat} (ht : t < 8) (a2 a3 a4 : Int32) (h0 : ¬ span_v a2 a3 = 0) (h4 : ¬ wi a4 8 = 0) (hF : okF 23 (F3 a2 a3 a4)) : ∃ r y' z', some (addR y 23 26 20 6 t (F3 a2 a3 a4)) = some (r, y') ∧ f_X11_clean (nI t) a2 a3 a4 z = some (r, z') ∧ Sim y' z' ∧ (∀ k, 30 ≤ k → y' k = y k) ∧ ∀ k, k < 30 → z' k = z k := by
  obtain ⟨⟨i1, i2⟩, -⟩ := (IP_L.mp h.1 t ht).2.2
  have s1 := (SP_L.mp h.2.1 t ht).2.2.1
  unfold addR
  generalize hnn : nv (y 23 t 2) = n at i1 i2
  by_cases hlt : n < 6
  · rw [if_pos hlt]
    refine ⟨_, _, _, rfl, (by rw [i1]; exact g_clean ht (s1.trans i1) hlt a2 a3 a4 h0 h4), h.add LZ.c i1 hlt hF (z_clean z t n a2 a3 a4), fun k hk => add_oth LZ.c.lk (by omega) (by omega) (by omega), fun k hk => by rw [sx_k _ (by omega), sx_k _ (by omega), sx_k _ (by omega), sx_k _ (by omega)]⟩
  · rw [if_neg hlt]
    have hn48 : n = 6 := by omega
    exact ⟨_, _, _, rfl, h_clean ht (by rw [s1, i1, hn48]; rfl) a2 a3 a4 h0 h4, h, fun _ _ => rfl, fun _ _ => rfl⟩
theorem act_pair (a1 a2 a3 a4 a5 a6 : Int32) : Prs (f_X10_act a1 a2 a3 a4 a5 a6) (fun z r z' => f_X11_act a1 a2 a3 a4 a5 a6 z = some (r, z')) := by
  intro y z h
  show ∃ r y' z', f_X10_act a1 a2 a3 a4 a5 a6 y = some (r, y') ∧ f_X11_act a1 a2 a3 a4 a5 a6 z = some (r, z') ∧ _
  unfold f_X10_act
  by_cases c : a1 < 0 ∨ 8 ≤ a1
  · rw [if_pos c]
    refine ⟨-1, y, z, rfl, ?_, h, fun _ _ => rfl, fun _ _ => rfl⟩
    unfold f_X11_act
    rw [bnd_of isMethod_w, if_pos (wi_0 c)]
    rfl
  · rw [if_neg c]
    obtain ⟨r0, t1, t2, t3⟩ := told_ex a2 a3 a4 a5 a6
    rw [bnd_of (t1 y)]
    by_cases c0 : r0 = 0
    · rw [if_pos c0]
      refine ⟨-1, y, z, rfl, ?_, h, fun _ _ => rfl, fun _ _ => rfl⟩
      unfold f_X11_act
      rw [bnd_of isMethod_w, if_neg (wi_1 c), bnd_of (t2 z), if_pos c0]
      rfl
    · rw [if_neg c0]
      obtain ⟨t, ht, rfl⟩ := in8 c
      rw [nv_nI (by omega)]
      exact u_act h ht a2 a3 a4 a5 a6 r0 t2 c0 (t3 c0)
theorem guard_pair (a1 a2 a3 a4 a5 : Int32) : Prs (f_X10_guard a1 a2 a3 a4 a5) (fun z r z' => f_X11_guard a1 a2 a3 a4 a5 z = some (r, z')) := by
  intro y z h
  show ∃ r y' z', f_X10_guard a1 a2 a3 a4 a5 y = some (r, y') ∧ f_X11_guard a1 a2 a3 a4 a5 z = some (r, z') ∧ _
  unfold f_X10_guard
  have bad : f_X11_guard a1 a2 a3 a4 a5 z = some (-1, z) → ∃ r y' z', some (-1, y) = some (r, y') ∧ f_X11_guard a1 a2 a3 a4 a5 z = some (r, z') ∧ Sim y' z' ∧ (∀ k, 30 ≤ k → y' k = y k) ∧ ∀ k, k < 30 → z' k = z k := fun q => ⟨-1, y, z, rfl, q, h, fun _ _ => rfl, fun _ _ => rfl⟩
  by_cases c : a1 < 0 ∨ 8 ≤ a1
  · rw [if_pos c]
    refine bad ?_
    unfold f_X11_guard
    rw [bnd_of (span110 (wi_0 c)), if_pos rfl]
    rfl
  · rw [if_neg c, bnd_of span_eq]
    by_cases c0 : span_v a2 a3 = 0
    · rw [if_pos c0]
      refine bad ?_
      unfold f_X11_guard
      rw [bnd_of (span11 (wi_1 c)), if_pos c0]
      rfl
    · rw [if_neg c0]
      by_cases c4 : a4 < 0 ∨ 10 ≤ a4
      · rw [if_pos c4]
        refine bad ?_
        unfold f_X11_guard
        rw [bnd_of (span11 (wi_1 c)), if_neg c0, bnd_of in9_w, if_pos (wi_0 c4)]
        rfl
      · rw [if_neg c4]
        by_cases c5 : a5 < 0 ∨ 49 ≤ a5
        · rw [if_pos c5]
          refine bad ?_
          unfold f_X11_guard
          rw [bnd_of (span11 (wi_1 c)), if_neg c0, bnd_of in9_w, if_neg (wi_1 c4), bnd_of in48_w, if_pos (wi_0 c5)]
          rfl
        · rw [if_neg c5]
          obtain ⟨t, ht, rfl⟩ := in8 c
          rw [nv_nI (by omega)]
          exact u_guard h ht a2 a3 a4 a5 c0 (wi_1 c4) (wi_1 c5) (wi_isN (B := 48) (by decide) (wi_1 c5))
theorem span_b {a b : Int32} (h : ¬ span_v a b = 0) : ¬ wi b 49 = 0 := by
  intro q
  apply h
  unfold span_v
  by_cases c : wi a 49 = 0
  · rw [if_pos c]
  · rw [if_neg c, if_pos q]
theorem clean_pair (a1 a2 a3 a4 : Int32) : Prs (f_X10_clean a1 a2 a3 a4) (fun z r z' => f_X11_clean a1 a2 a3 a4 z = some (r, z')) := by
  intro y z h
  show ∃ r y' z', f_X10_clean a1 a2 a3 a4 y = some (r, y') ∧ f_X11_clean a1 a2 a3 a4 z = some (r, z') ∧ _
  unfold f_X10_clean
  have bad : f_X11_clean a1 a2 a3 a4 z = some (-1, z) → ∃ r y' z', some (-1, y) = some (r, y') ∧ f_X11_clean a1 a2 a3 a4 z = some (r, z') ∧ Sim y' z' ∧ (∀ k, 30 ≤ k → y' k = y k) ∧ ∀ k, k < 30 → z' k = z k := fun q => ⟨-1, y, z, rfl, q, h, fun _ _ => rfl, fun _ _ => rfl⟩
  by_cases c : a1 < 0 ∨ 8 ≤ a1
  · rw [if_pos c]
    refine bad ?_
    unfold f_X11_clean
    rw [bnd_of (span110 (wi_0 c)), if_pos rfl]
    rfl
  · rw [if_neg c, bnd_of span_eq]
    by_cases c0 : span_v a2 a3 = 0
    · rw [if_pos c0]
      refine bad ?_
      unfold f_X11_clean
      rw [bnd_of (span11 (wi_1 c)), if_pos c0]
      rfl
    · rw [if_neg c0]
      by_cases c4 : a4 < 0 ∨ 8 ≤ a4
      · rw [if_pos c4]
        refine bad ?_
        unfold f_X11_clean
        rw [bnd_of (span11 (wi_1 c)), if_neg c0, bnd_of isMethod_w, if_pos (wi_0 c4)]
        rfl
      · rw [if_neg c4]
        obtain ⟨t, ht, rfl⟩ := in8 c
        rw [nv_nI (by omega)]
        exact u_clean h ht a2 a3 a4 c0 (wi_1 c4) ⟨wi_isN (B := 48) (by decide) (span_b c0), wi_isN (B := 7) (by decide) (wi_1 c4)⟩
theorem clear_pair (a1 : Int32) : Prs (fun x => some (f_X10_clear a1 x)) (fun z r z' => f_X11_clear a1 z = some (r, z')) := by
  intro y z h
  show ∃ r y' z', some (f_X10_clear a1 y) = some (r, y') ∧ f_X11_clear a1 z = some (r, z') ∧ _
  unfold f_X10_clear f_X11_clear
  by_cases c : a1 < 0 ∨ 8 ≤ a1
  · rw [if_pos c, bnd_of isMethod_w, if_pos (wi_0 c)]
    exact ⟨-1, y, z, rfl, rfl, h, fun _ _ => rfl, fun _ _ => rfl⟩
  · rw [if_neg c, bnd_of isMethod_w, if_neg (wi_1 c)]
    obtain ⟨t, ht, rfl⟩ := in8 c
    have hin : inb (nI t) 8 = true := inb_nI ht (by decide)
    have hcl : (nI t).toNatClampNeg = t := nI_clamp (by omega)
    have hs : z 40 0 t = y 21 t 2 := (SP_L.mp h.2.1 t ht).1.1
    rw [nv_nI (by omega)]
    simp only [hin, hcl, if_true, lets_eq, hs]
    refine ⟨_, _, _, rfl, rfl, ((h.clr LZ.a (t := t)).clr LZ.g (t := t)).clr LZ.c (t := t), fun k hk => ?_, fun k hk => by rw [sx_k _ (by omega), sx_k _ (by omega), sx_k _ (by omega)]⟩
    funext i
    unfold clr3
    rw [clr1_app, if_neg (fun q => by omega), if_neg (fun q => by omega), clr1_app, if_neg (fun q => by omega), if_neg (fun q => by omega), clr1_app, if_neg (fun q => by omega), if_neg (fun q => by omega)]
theorem run_prs (m v b : Int32) : Prs (f_X10_run (pfn 12) m v b) (fun z r z' => ∃ fu, f_X11_run fu m v b z = some (r, z')) := by
  intro y z h
  obtain ⟨fu, r, y', z', e1, e2, s, f1, f2⟩ := run_pair (m := m) (v := v) (b := b) h
  exact ⟨r, y', z', e1, ⟨fu, e2⟩, s, fun k hk => f1 k (by omega), f2⟩
theorem reserve_prs (a : Int32) : Prs (f_X10_reserve a) (fun z r z' => f_X11_reserve a z = some (r, z')) := by
  intro y z h
  obtain ⟨r, y', z', e1, e2, s, f1, f2⟩ := reserve_pair (a := a) h
  exact ⟨r, y', z', e1, e2, s, fun k hk => f1 k (by omega), f2⟩
theorem latest_prs (a : Int32) : Prs (f_X10_latest a) (fun z r z' => f_X11_latest a z = some (r, z')) := by
  intro y z h
  obtain ⟨r, e1, e2⟩ := latest_pair (a := a) h
  exact ⟨r, y, z, e1, e2, h, fun _ _ => rfl, fun _ _ => rfl⟩
theorem cleaned_prs (k a : Int32) : Prs (f_X10_cleaned k a) (fun z r z' => f_X11_cleaned k a z = some (r, z')) := by
  intro y z h
  obtain ⟨r, e1, e2⟩ := cleaned_pair (k := k) (a := a) h
  exact ⟨r, y, z, e1, e2, h, fun _ _ => rfl, fun _ _ => rfl⟩
theorem told_prs (m a : Int32) : Prs (f_X10_told m a) (fun z r z' => f_X11_told m a z = some (r, z')) := by
  intro y z h
  obtain ⟨r, e1, e2⟩ := told_pair (m := m) (a := a) h
  exact ⟨r, y, z, e1, e2, h, fun _ _ => rfl, fun _ _ => rfl⟩
