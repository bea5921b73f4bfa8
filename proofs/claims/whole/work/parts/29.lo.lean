/-! the reference goes on LEAVING: its loop -/
def hdZ (z : st) (m c : Nat) (p : Int32) : Prop := p = 99 ∨ p < z 52 0 (6 * m + c) ∨ z 53 0 (6 * m + c) ≤ p
theorem lo_skip {z : st} {f m c n : Nat} (hf : f < 13) (hm : z 57 0 f = nI m) (hm8 : m < 8) (hc : c < 6) (hat : z 67 0 f = nI c) (hT : hdZ z m c (z 58 0 f) ∨ ¬ hdZ z m c (z 63 0 f)) : f_X11_leaveOn_b0 (n + 1) (nI f) z = f_X11_leaveOn_b0 n (nI f) (sx z 67 0 f (nI c - 1)) := by
  have e1 : inb (nI f) 13 = true := inb_nI hf (by decide)
  have e2 : (nI f).toNatClampNeg = f := nI_clamp (by omega)
  have e5 : (6 : Int32) * nI m + nI c = nI (6 * m + c) := by rw [n6, pk_mul, nI_add]
  have e6 : inb (nI (6 * m + c)) 48 = true := inb_nI (by omega) (by decide)
  have e7 : (nI (6 * m + c)).toNatClampNeg = 6 * m + c := nI_clamp (by omega)
  have e8 : ¬ nI c < 0 := nI_pos (by omega)
  unfold hdZ at hT
  conv => lhs; unfold f_X11_leaveOn_b0
  simp only [e1, if_true, e2, hat, e8, if_false, hm, e5, e6, e7, holds_eq]
  by_cases h1 : z 58 0 f = 99 ∨ z 58 0 f < z 52 0 (6 * m + c) ∨ z 53 0 (6 * m + c) ≤ z 58 0 f
  · rw [bnd_of (by rw [if_pos h1])]
    rw [if_pos rfl]
    unfold f_X11_leaveOn_b109
    simp only [e1, if_true, e2, hat, lets]
  · rw [bnd_of (by rw [if_neg h1]), if_neg (by decide)]
    have h2 : ¬ (z 63 0 f = 99 ∨ z 63 0 f < z 52 0 (6 * m + c) ∨ z 53 0 (6 * m + c) ≤ z 63 0 f) := hT.resolve_left h1
    rw [bnd_of (by rw [if_neg h2]), if_neg (by decide)]
    unfold f_X11_leaveOn_b109
    simp only [e1, if_true, e2, hat, lets]
theorem lo_run {z : st} {f m c n : Nat} (hf : f < 13) (hm : z 57 0 f = nI m) (hm8 : m < 8) (hc : c < 6) (hat : z 67 0 f = nI c) (h1 : ¬ hdZ z m c (z 58 0 f)) (h2 : hdZ z m c (z 63 0 f)) : f_X11_leaveOn_b0 (n + 1) (nI f) z = bnd (f_X11_counts z) fun r z1 => if r = 0 then some z1 else bnd (f_X11_runsClean (nI f) z1) fun r2 z2 => if r2 = 0 then thr 7 f (sx z2 67 0 f (z2 67 0 f - 1)) else some z2 := by
  have e1 : inb (nI f) 13 = true := inb_nI hf (by decide)
  have e2 : (nI f).toNatClampNeg = f := nI_clamp (by omega)
  have e5 : (6 : Int32) * nI m + nI c = nI (6 * m + c) := by rw [n6, pk_mul, nI_add]
  have e6 : inb (nI (6 * m + c)) 48 = true := inb_nI (by omega) (by decide)
  have e7 : (nI (6 * m + c)).toNatClampNeg = 6 * m + c := nI_clamp (by omega)
  have e8 : ¬ nI c < 0 := nI_pos (by omega)
  unfold hdZ at h1 h2
  conv => lhs; unfold f_X11_leaveOn_b0
  simp only [e1, if_true, e2, hat, e8, if_false, hm, e5, e6, e7, holds_eq]
  rw [bnd_of (by rw [if_neg h1]), if_neg (by decide), bnd_of (by rw [if_pos h2]), if_pos rfl]
  simp only [lets, throwOn_eq hf, bnv, Option.bind_fun_some]
/-- its end: what it was about to do -/
def finL (z : st) (f : Nat) : Option st :=
  if z 64 0 f = 2 then f_X11_thrown (nI f) (z 65 0 f) (sx (sx z 62 0 f 0) 30 0 16 (z 30 0 16 - 1))
  else if z 64 0 f = 1 then f_X11_gave (nI f) (z 65 0 f) (sx (sx z 62 0 f 0) 30 0 16 (z 30 0 16 - 1))
  else if z 63 0 f = 99 then f_X11_gave (nI f) 0 (sx (sx z 62 0 f 0) 30 0 16 (z 30 0 16 - 1))
  else some (sx (sx (sx z 62 0 f 0) 58 0 f (z 63 0 f)) 59 0 (6 * f + 5) (if z 64 0 f = 3 then z 65 0 f else z 59 0 (6 * f + 5)))
theorem lo_fin {z : st} {f n : Nat} (hf : f < 13) (hat : z 67 0 f < 0) : f_X11_leaveOn_b0 (n + 1) (nI f) z = finL z f := by
  have e1 : inb (nI f) 13 = true := inb_nI hf (by decide)
  have e2 : (nI f).toNatClampNeg = f := nI_clamp (by omega)
  have e5 : (6 : Int32) * nI f + 5 = nI (6 * f + 5) := by rw [n6, pk_mul, n5, nI_add]
  have e6 : inb (nI (6 * f + 5)) 78 = true := inb_nI (by omega) (by decide)
  have e7 : (nI (6 * f + 5)).toNatClampNeg = 6 * f + 5 := nI_clamp (by omega)
  unfold f_X11_leaveOn_b0 f_X11_leaveOn_b184 f_X11_leaveOn_b216 f_X11_leaveOn_b274 finL
  simp only [e1, if_true, e2, hat, lets, e5, e6, e7, bnv, Option.bind_fun_some, sx_app]
  by_cases h2 : z 64 0 f = 2
  · simp [h2]
  · by_cases h1 : z 64 0 f = 1
    · simp [h1, h2]
    · by_cases h9 : z 63 0 f = 99
      · simp [h1, h2, h9]
      · by_cases h3 : z 64 0 f = 3
        · simp [h9, h3]
        · simp [h1, h2, h9, h3]
theorem lo_fuel {f m : Nat} (hf : f < 13) (hm8 : m < 8) : ∀ (c n1 n2 : Nat) (z : st), c ≤ 6 → c < n1 → c < n2 → z 57 0 f = nI m → z 67 0 f = nI c - 1 → f_X11_leaveOn_b0 n1 (nI f) z = f_X11_leaveOn_b0 n2 (nI f) z := by
  intro c
  induction c with
  | zero =>
    intro n1 n2 z _ h1 h2 hm hat
    obtain ⟨n1, rfl⟩ : ∃ q, n1 = q + 1 := ⟨n1 - 1, by omega⟩
    obtain ⟨n2, rfl⟩ : ∃ q, n2 = q + 1 := ⟨n2 - 1, by omega⟩
    have : z 67 0 f < 0 := by rw [hat]; decide
    rw [lo_fin hf this, lo_fin hf this]
  | succ c ih =>
    intro n1 n2 z hc h1 h2 hm hat
    obtain ⟨n1, rfl⟩ : ∃ q, n1 = q + 1 := ⟨n1 - 1, by omega⟩
    obtain ⟨n2, rfl⟩ : ∃ q, n2 = q + 1 := ⟨n2 - 1, by omega⟩
    have hat' : z 67 0 f = nI c := by rw [hat, nI_pred]
    by_cases hT : hdZ z m c (z 58 0 f) ∨ ¬ hdZ z m c (z 63 0 f)
    · rw [lo_skip hf hm hm8 (by omega) hat' hT, lo_skip hf hm hm8 (by omega) hat' hT]
      exact ih n1 n2 _ (by omega) (by omega) (by omega) (by simp [sx_app, hm]) (by simp [sx_app])
    · have q1 : ¬ hdZ z m c (z 58 0 f) := fun q => hT (Or.inl q)
      have q2 : hdZ z m c (z 63 0 f) := Classical.byContradiction fun q => hT (Or.inr q)
      rw [lo_run hf hm hm8 (by omega) hat' q1 q2, lo_run hf hm hm8 (by omega) hat' q1 q2]
theorem lo_step {z : st} {f m c : Nat} (hf : f < 13) (hm : z 57 0 f = nI m) (hm8 : m < 8) (hc : c < 6) (hat : z 67 0 f = nI c) (hT : hdZ z m c (z 58 0 f) ∨ ¬ hdZ z m c (z 63 0 f)) : f_X11_leaveOn (nI f) z = f_X11_leaveOn (nI f) (sx z 67 0 f (nI c - 1)) := by
  unfold f_X11_leaveOn
  rw [lo_skip (n := 99) hf hm hm8 hc hat hT]
  exact lo_fuel hf hm8 c 99 100 _ (by omega) (by omega) (by omega) (by simp [sx_app, hm]) (by simp [sx_app])
