/-! what a FRAME comes to, on both sides; and LEAVING -/
/-- the FRAME gave v -/
def G1 (f : Nat) (v : Int32) (y' z : st) : Prop := ∃ z1 zp, Rch z z1 ∧ z1 30 0 36 = 0 ∧ itR z1 = f_X11_gave (nI f) v zp ∧ DG y' zp ∧ KR f z zp ∧ zp 30 0 16 = nI f ∧ zp 30 0 36 = 0 ∧ zp 61 0 f = z 61 0 f
/-- the FRAME threw k -/
def T2 (f : Nat) (k : Int32) (y' z : st) : Prop := ∃ z1 zp, Rch z z1 ∧ z1 30 0 36 = 0 ∧ itR z1 = thr k f zp ∧ DG y' zp ∧ KR f z zp ∧ zp 30 0 36 = 0 ∧ zp 61 0 f = z 61 0 f
/-- STOPPED, and the FRAME is to be cleaned up -/
def P3 (f : Nat) (y' z : st) : Prop := ∃ z2, Rch z z2 ∧ DG y' z2 ∧ IF (f + 1) y' ∧ SF (f + 1) y' z2 ∧ KS f z z2 ∧ (z2 30 0 16 = nI (f + 1) ∧ z2 30 0 38 = nI f ∧ z2 30 0 36 = 0) ∧ (z2 66 0 f = y' 12 f 5 ∧ z2 67 0 f = z2 51 0 (nv (z2 57 0 f)) - 1 ∧ z2 61 0 f = z 61 0 f) ∧ y' 4 0 6 = 1
/-- all ended -/
def P4 (y' z : st) : Prop := ∃ z2, Rch z z2 ∧ DG y' z2 ∧ K0 z z2 ∧ z2 30 0 36 = 1 ∧ z2 30 0 37 = 1 ∧ y' 4 0 6 = 1
/-- STOPPED, and the FRAME is cleaned up -/
def S3 (f : Nat) (y' z : st) : Prop := ∃ z2, Rch z z2 ∧ DG y' z2 ∧ KS f z z2 ∧ z2 30 0 16 = nI f ∧ y' 4 0 6 = 1 ∧ (f = 0 → z2 30 0 36 = 1) ∧ (∀ p, f = p + 1 → z2 30 0 36 = 0 ∧ z2 30 0 38 = nI p)
/-- what is kept and what falls -/
def Qk (f : Nat) (y y' : st) : Prop := KC f y y' ∧ rem y' ≤ rem y ∧ nv (y 5 0 4) ≤ nv (y' 5 0 4)
theorem Qk.rf {f : Nat} {y : st} : Qk f y y := ⟨KC.rf, Nat.le_refl _, Nat.le_refl _⟩
theorem Qk.tr {f : Nat} {a b c : st} (h1 : Qk f a b) (h2 : Qk f b c) : Qk f a c := ⟨h1.1.tr h2.1, Nat.le_trans h2.2.1 h1.2.1, Nat.le_trans h1.2.2 h2.2.2⟩
theorem Qk.lo {f e : Nat} {a b : st} (h : Qk f a b) (he : e ≤ f) : Qk e a b := ⟨h.1.lo he, h.2⟩
def PFpost (f : Nat) (y z : st) (o : Nat) (y' : st) : Prop := Qk f y y' ∧ ((o = 1 ∧ y' 4 0 6 = y 4 0 6 ∧ G1 f (y' 1 0 5) y' z) ∨ (o = 2 ∧ y' 4 0 6 = y 4 0 6 ∧ T2 f (y' 1 0 6) y' z) ∨ (o = 3 ∧ y 4 0 6 = 0 ∧ S3 f y' z) ∨ (o = 4 ∧ P4 y' z))
/-- performFrame on FRAME f does what the reference does -/
def PFs (pf : Int32 → st → Option (Nat × st)) (f : Nat) : Prop := ∀ y z, IP y → SP y z → DG y z → IF (f + 1) y → SF (f + 1) y z → TR f z → ∃ o y', pf (nI (f + 1)) y = some (o, y') ∧ PFpost f y z o y'
theorem DG.k {y y' z z' : st} (h : DG y z) (hy : ∀ k, k ≠ 1 → k ≠ 12 → k ≠ 13 → k ≠ 14 → y' k = y k) (hz : ∀ k, k ≠ 30 → k < 57 ∨ 67 < k → z' k = z k) (h30 : ∀ j, j = 15 ∨ j = 28 ∨ j = 29 ∨ j = 34 ∨ j = 37 ∨ j = 39 → z' 30 0 j = z 30 0 j) : DG y' z' := by
  obtain ⟨⟨IM0, S⟩, ic⟩ := h
  have y4 := hy 4 (by decide) (by decide) (by decide) (by decide)
  have y2 := hy 2 (by decide) (by decide) (by decide) (by decide)
  have y5 := hy 5 (by decide) (by decide) (by decide) (by decide)
  have y3 := hy 3 (by decide) (by decide) (by decide) (by decide)
  have y6 := hy 6 (by decide) (by decide) (by decide) (by decide)
  have y7 := hy 7 (by decide) (by decide) (by decide) (by decide)
  have y8 := hy 8 (by decide) (by decide) (by decide) (by decide)
  have y9 := hy 9 (by decide) (by decide) (by decide) (by decide)
  refine ⟨⟨?_, ?_⟩, ?_⟩
  · unfold IM at IM0 ⊢; rw [y4, y5, y7, y8]; exact IM0
  · unfold SG at S ⊢
    rw [y4, y2, y5, y3, y6, y7, y8, y9, hz 80 (by decide) (by decide), hz 72 (by decide) (by decide), hz 71 (by decide) (by decide), hz 70 (by decide) (by decide), hz 73 (by decide) (by decide), hz 81 (by decide) (by decide), hz 82 (by decide) (by decide), hz 83 (by decide) (by decide), h30 34 (by decide), h30 15 (by decide), h30 39 (by decide), h30 37 (by decide), h30 28 (by decide), h30 29 (by decide)]
    exact S
  · unfold IC stp at ic ⊢; rw [y2, y4]; exact ic
theorem DG.z {y z z' : st} (h : DG y z) (hz : ∀ k, k ≠ 30 → k < 57 ∨ 67 < k → z' k = z k) (h30 : ∀ j, j = 15 ∨ j = 28 ∨ j = 29 ∨ j = 34 ∨ j = 37 ∨ j = 39 → z' 30 0 j = z 30 0 j) : DG y z' := h.k (fun _ _ _ _ _ => rfl) hz h30
theorem clOK.of {f e : Nat} {z z' : st} (h : clOK f z) (h37 : z' 30 0 37 = z 30 0 37) (h38 : z' 30 0 38 = z 30 0 38) (he : f ≤ e) : clOK e z' := by
  rcases h with h | ⟨h1, c, h2, h3⟩
  · exact Or.inl (h37.trans h)
  · exact Or.inr ⟨h37.trans h1, c, by omega, h38.trans h3⟩
theorem sx_sx {x : st} {k i j : Nat} {v w : Int32} : sx (sx x k i j v) k i j w = sx x k i j w := by
  apply st_ext
  intro a b c
  simp only [sx_app]
  by_cases h : a = k ∧ b = i ∧ c = j
  · rw [if_pos h, if_pos h]
  · rw [if_neg h, if_neg h, if_neg h]
/-- the target, on both sides -/
def tgt (y z : st) (f m : Nat) (t : Int32) : Prop := (t = 48 ∧ z 63 0 f = 99) ∨ (t < y 21 m 2 ∧ isN t 48 ∧ z 63 0 f = t)
theorem hd_eq {y z : st} {m c : Nat} {p : Int32} (hSP : SP y z) (hm8 : m < 8) (hc : c < nv (y 23 m 2)) (hp : isN p 48) : hdZ z m c p ↔ hdY y (6 * m + c) p := by
  have e := (hSP m hm8).2.2.2 c hc
  have e52 : z 52 0 (6 * m + c) = y 20 (6 * m + c) 0 := e 0 (by omega)
  have e53 : z 53 0 (6 * m + c) = y 20 (6 * m + c) 1 := e 1 (by omega)
  unfold hdZ hdY
  rw [e52, e53]
  have hne : ¬ p = 99 := by
    intro q
    have := hp.2
    have h2 := hp.1
    rw [q] at this
    have : nv (99 : Int32) = 99 := rfl
    omega
  constructor
  · intro h; exact h.resolve_left hne
  · intro h; exact Or.inr h
theorem tgt_eq {y z : st} {f m c : Nat} {t : Int32} (hIP : IP y) (hSP : SP y z) (hm8 : m < 8) (hc : c < nv (y 23 m 2)) (ht : tgt y z f m t) : hdZ z m c (z 63 0 f) ↔ hdY y (6 * m + c) t := by
  rcases ht with ⟨h1, h2⟩ | ⟨-, h2, h3⟩
  · rw [h2, h1]
    constructor
    · intro _
      have hto := ((hIP m hm8).2.2.2.2 c hc).1
      refine Or.inr ?_
      rw [hto.1, n48]
      exact nI_le hto.2 (by decide)
    · intro _; exact Or.inl rfl
  · rw [h3]; exact hd_eq hSP hm8 hc h2
