/-! the reference cleans up behind a stop: its loop; the class's two loops, a turn each -/
theorem am1 (a : Int32) : a + (-1) = a - 1 := (Int32.sub_eq_add_neg a 1).symm
def btZ (v : Int32) (c : Nat) : Prop := ((v >>> (nI c &&& 31)) &&& 1) = 0
theorem co_fin {z : st} {f n : Nat} {m : Int32} (hf : f < 13) (hat : z 67 0 f < 0) : f_X11_cleanOn_b12 (n + 1) (nI f) m z = some (sx (sx (sx z 30 0 16 (nI f)) 30 0 38 (z 30 0 38 - 1)) 30 0 36 (if f = 0 then 1 else 0)) := by
  have e1 : inb (nI f) 13 = true := inb_nI hf (by decide)
  have e2 : (nI f).toNatClampNeg = f := nI_clamp (by omega)
  unfold f_X11_cleanOn_b12 f_X11_cleanOn_b133
  simp only [e1, if_true, e2, hat, lets, sx_app]
  by_cases h0 : f = 0
  · subst h0; simp [nI_0, isz]
  · have : ¬ nI f = 0 := nI_ne0 (by omega) (by omega)
    simp [this, h0, isz]
theorem co_skip {z : st} {f m c n : Nat} (hf : f < 13) (hm8 : m < 8) (hc : c < 6) (hat : z 67 0 f = nI c) (hT : hdZ z m c (z 58 0 f) ∨ ¬ btZ (z 66 0 f) c) : f_X11_cleanOn_b12 (n + 1) (nI f) (nI m) z = f_X11_cleanOn_b12 n (nI f) (nI m) (sx z 67 0 f (nI c - 1)) := by
  have e1 : inb (nI f) 13 = true := inb_nI hf (by decide)
  have e2 : (nI f).toNatClampNeg = f := nI_clamp (by omega)
  have e5 : (6 : Int32) * nI m + nI c = nI (6 * m + c) := by rw [n6, pk_mul, nI_add]
  have e6 : inb (nI (6 * m + c)) 48 = true := inb_nI (by omega) (by decide)
  have e7 : (nI (6 * m + c)).toNatClampNeg = 6 * m + c := nI_clamp (by omega)
  have e8 : ¬ nI c < 0 := nI_pos (by omega)
  unfold hdZ btZ at hT
  conv => lhs; unfold f_X11_cleanOn_b12
  simp only [e1, if_true, e2, hat, e8, if_false, e5, e6, e7, holds_eq]
  by_cases h1 : z 58 0 f = 99 ∨ z 58 0 f < z 52 0 (6 * m + c) ∨ z 53 0 (6 * m + c) ≤ z 58 0 f
  · rw [bnd_of (by rw [if_pos h1]), if_pos rfl]
    unfold f_X11_cleanOn_b92
    simp only [e1, if_true, e2, hat, lets]
  · rw [bnd_of (by rw [if_neg h1]), if_neg (by decide)]
    have h2 := hT.resolve_left h1
    rw [hat, if_neg h2]
    unfold f_X11_cleanOn_b92
    simp only [e1, if_true, e2, hat, lets]
theorem co_run {z : st} {f m c n : Nat} (hf : f < 13) (hm8 : m < 8) (hc : c < 6) (hat : z 67 0 f = nI c) (h1 : ¬ hdZ z m c (z 58 0 f)) (h2 : btZ (z 66 0 f) c) : f_X11_cleanOn_b12 (n + 1) (nI f) (nI m) z = bnd (f_X11_counts z) fun r z1 => if r = 0 then some z1 else bnd (f_X11_runsClean (nI f) z1) fun r2 z2 => if r2 = 0 then f_X11_cleanOn_b12 n (nI f) (nI m) (sx z2 67 0 f (z2 67 0 f - 1)) else some z2 := by
  have e1 : inb (nI f) 13 = true := inb_nI hf (by decide)
  have e2 : (nI f).toNatClampNeg = f := nI_clamp (by omega)
  have e5 : (6 : Int32) * nI m + nI c = nI (6 * m + c) := by rw [n6, pk_mul, nI_add]
  have e6 : inb (nI (6 * m + c)) 48 = true := inb_nI (by omega) (by decide)
  have e7 : (nI (6 * m + c)).toNatClampNeg = 6 * m + c := nI_clamp (by omega)
  have e8 : ¬ nI c < 0 := nI_pos (by omega)
  unfold hdZ at h1
  unfold btZ at h2
  conv => lhs; unfold f_X11_cleanOn_b12
  simp only [e1, if_true, e2, hat, e8, if_false, e5, e6, e7, holds_eq]
  rw [bnd_of (by rw [if_neg h1]), if_neg (by decide), hat, if_pos h2]
  unfold f_X11_cleanOn_b92
  simp only [e1, if_true, e2, lets]
def hdY (y : st) (q : Nat) (p : Int32) : Prop := p < y 20 q 0 ∨ y 20 q 1 ≤ p
theorem holdsY_eq {q : Nat} {p : Int32} {y : st} : f_X1_holds q p y = some (if p < y 20 q 0 ∨ y 20 q 1 ≤ p then 0 else 1, y) := by
  unfold f_X1_holds f_X1_holds_b20
  by_cases h2 : p < y 20 q 0
  · simp [h2]
  · by_cases h3 : y 20 q 1 ≤ p
    · simp [h2, h3]
    · simp [h2, h3]
theorem lvY_skip {pf : Int32 → st → Option (Nat × st)} {y : st} {f m c n : Nat} {t dep : Int32} (hin : inb (nI c) (y 26 m 0).toNatClampNeg = true) (hc : c < 6) (hT : hdY y (6 * m + c) (y 12 f 3) ∨ ¬ hdY y (6 * m + c) t) : f_X4_leave_b23 pf (n + 1) f t dep m (nI c) y = f_X4_leave_b23 pf n f t dep m (nI c - 1) y := by
  have e7 : (nI c).toNatClampNeg = c := nI_clamp (by omega)
  have e8 : ¬ nI c < 0 := nI_pos (by omega)
  have e9 : nI c + (-1) = nI c - 1 := am1 _
  unfold hdY at hT
  conv => lhs; unfold f_X4_leave_b23
  rw [if_neg e8, hin, if_pos rfl, e7]
  by_cases h1 : y 12 f 3 < y 20 (6 * m + c) 0 ∨ y 20 (6 * m + c) 1 ≤ y 12 f 3
  · rw [bnd_of (holdsY_eq.trans (by rw [if_pos h1])), if_pos rfl]
    unfold f_X4_leave_b82
    rw [e9]
  · rw [bnd_of (holdsY_eq.trans (by rw [if_neg h1])), if_neg (by decide), bnd_of (holdsY_eq.trans (by rw [if_neg (hT.resolve_left h1)])), if_neg (by decide)]
    unfold f_X4_leave_b82
    rw [e9]
theorem lvY_run {pf : Int32 → st → Option (Nat × st)} {y y1 : st} {f m c n o : Nat} {t dep : Int32} (hin : inb (nI c) (y 26 m 0).toNatClampNeg = true) (hc : c < 6) (h1 : ¬ hdY y (6 * m + c) (y 12 f 3)) (h2 : hdY y (6 * m + c) t) (hcf : f_X4_cleanFrame pf f (nI c) dep y = some (o, y1)) (ho : o < 5) : f_X4_leave_b23 pf (n + 1) f t dep m (nI c) y = if o = 1 then f_X4_leave_b23 pf n f t dep m (nI c - 1) y1 else some (o, y1) := by
  have e7 : (nI c).toNatClampNeg = c := nI_clamp (by omega)
  have e8 : ¬ nI c < 0 := nI_pos (by omega)
  have e9 : nI c + (-1) = nI c - 1 := am1 _
  unfold hdY at h1 h2
  conv => lhs; unfold f_X4_leave_b23
  rw [if_neg e8, hin, if_pos rfl, e7, bnd_of (holdsY_eq.trans (by rw [if_neg h1])), if_neg (by decide), bnd_of (holdsY_eq.trans (by rw [if_pos h2])), if_pos rfl, bnd_of hcf, if_pos ho]
  unfold f_X4_leave_b82
  rw [e9]
theorem csY_skip {pf : Int32 → st → Option (Nat × st)} {y : st} {f m c n : Nat} {dep b : Int32} (hin : inb (nI c) (y 26 m 0).toNatClampNeg = true) (hc : c < 6) (hT : hdY y (6 * m + c) (y 12 f 3) ∨ ¬ btZ b c) : f_X4_cleanStopped_b27 pf (n + 1) f dep m b (nI c) y = f_X4_cleanStopped_b27 pf n f dep m b (nI c - 1) y := by
  have e7 : (nI c).toNatClampNeg = c := nI_clamp (by omega)
  have e8 : ¬ nI c < 0 := nI_pos (by omega)
  have e9 : nI c + (-1) = nI c - 1 := am1 _
  unfold hdY btZ at hT
  conv => lhs; unfold f_X4_cleanStopped_b27
  rw [if_neg e8]
  by_cases hb : ((b >>> (nI c &&& 31)) &&& 1) = 1
  · rw [if_pos hb]
    unfold f_X4_cleanStopped_b48 f_X4_cleanStopped_b92
    rw [if_neg (by decide), e9]
  · rw [if_neg hb]
    have hb0 : ((b >>> (nI c &&& 31)) &&& 1) = 0 := by
      obtain ⟨j, hj, he⟩ := pk_andE (b >>> (nI c &&& 31)) (m := 1) 1 rfl
      rw [he] at hb ⊢
      have : j ≠ 1 := fun q => hb (by rw [q]; rfl)
      have : j = 0 := by omega
      rw [this]; rfl
    have h1 := hT.resolve_right (fun q => q hb0)
    unfold f_X4_cleanStopped_b48 f_X4_cleanStopped_b92
    rw [if_pos rfl, hin, if_pos rfl, e7, bnd_of (holdsY_eq.trans (by rw [if_pos h1])), if_pos rfl, e9]
theorem csY_run {pf : Int32 → st → Option (Nat × st)} {y y1 : st} {f m c n o : Nat} {dep b : Int32} (hin : inb (nI c) (y 26 m 0).toNatClampNeg = true) (hc : c < 6) (h1 : ¬ hdY y (6 * m + c) (y 12 f 3)) (h2 : btZ b c) (hcf : f_X4_cleanFrame pf f (nI c) dep y = some (o, y1)) (ho : o < 5) : f_X4_cleanStopped_b27 pf (n + 1) f dep m b (nI c) y = if o = 4 then some (4, y1) else f_X4_cleanStopped_b27 pf n f dep m b (nI c - 1) y1 := by
  have e7 : (nI c).toNatClampNeg = c := nI_clamp (by omega)
  have e8 : ¬ nI c < 0 := nI_pos (by omega)
  have e9 : nI c + (-1) = nI c - 1 := am1 _
  unfold hdY at h1
  unfold btZ at h2
  conv => lhs; unfold f_X4_cleanStopped_b27
  rw [if_neg e8, if_neg (by rw [h2]; decide)]
  unfold f_X4_cleanStopped_b48 f_X4_cleanStopped_b92
  rw [if_pos rfl, hin, if_pos rfl, e7, bnd_of (holdsY_eq.trans (by rw [if_neg h1])), if_neg (by decide), bnd_of hcf, if_pos ho, e9]
/-- the class's state as a CLEAN's FRAME begins -/
def cfY (y : st) (f m c : Nat) : st := rcY (nfY (cntY y 1) (f + 1) (y 20 (6 * m + c) 2) (y 13 f 0) (y 14 f 0)) f c (y 20 (6 * m + c) 2) (nI (f + 2))
theorem cleanFrame_pre {pf : Int32 → st → Option (Nat × st)} {y : st} {f m c : Nat} (hm : y 12 f 2 = nI m) (hm8 : m < 8) (hin : inb (nI c) (y 26 m 0).toNatClampNeg = true) (hc : c < 6) : f_X4_cleanFrame pf f (nI c) (nI (f + 1)) y = bnd (f_X4_makeFrame (y 20 (6 * m + c) 2) (y 13 f 0) (y 14 f 0) (nI (f + 2)) y) fun r10 x9 => if r10 < 5 then if r10 = 0 then (lets (sx x9 12 f 5 ((x9 12 f 5) ||| (1 <<< (nI c &&& 31)))) fun x13 => bnv (f_X8_noteClean (y 20 (6 * m + c) 2) (x13 12 f 2) (nI (f + 2)) x13) fun x14 => bnd (pf (nI (f + 2)) x14) fun r18 x17 => some (r18, x17)) else (some (r10, x9)) else none := by
  unfold f_X4_cleanFrame
  rw [hm, inb_nI hm8 (by decide), if_pos rfl, nI_clamp (by omega), hin, if_pos rfl, nI_clamp (by omega), bnd_of (show f_X1_by (6 * m + c) y = some (y 20 (6 * m + c) 2, y) from rfl), i_0_6, if_pos rfl, i_0_3, if_pos rfl, c0, nI_add1]
theorem cleanFrame_ok {pf : Int32 → st → Option (Nat × st)} {y : st} {f m c : Nat} (hm : y 12 f 2 = nI m) (hm8 : m < 8) (hin : inb (nI c) (y 26 m 0).toNatClampNeg = true) (hc : c < 6) (hf : f + 1 < 12) (hfit : fitY y 1) (h23 : isN (y 2 0 3) 600) : f_X4_cleanFrame pf f (nI c) (nI (f + 1)) y = pf (nI (f + 2)) (cfY y f m c) := by
  rw [cleanFrame_pre hm hm8 hin hc, bnd_of (makeFrame_ok hf hfit), if_pos (by decide), if_pos rfl, lets_eq]
  have e2 : (cntY y 1) 2 = y 2 := by
    unfold cntY
    split <;> exact sx_k _ (by decide)
  rw [show nfS (bgS (cntY y 1) (f + 1) (y 20 (6 * m + c) 2) (y 13 f 0) (y 14 f 0)) (nI (f + 1 + 1)) = nfY (cntY y 1) (f + 1) (y 20 (6 * m + c) 2) (y 13 f 0) (y 14 f 0) from rfl]
  rw [bnv_of (noteClean_eq (by simp only [sx_app]; simp only [nfY_2, e2]; simpa using h23))]
  have e3 : (sx (nfY (cntY y 1) (f + 1) (y 20 (6 * m + c) 2) (y 13 f 0) (y 14 f 0)) 12 f 5 (nfY (cntY y 1) (f + 1) (y 20 (6 * m + c) 2) (y 13 f 0) (y 14 f 0) 12 f 5 ||| 1 <<< (nI c &&& 31))) 12 f 2 = nfY (cntY y 1) (f + 1) (y 20 (6 * m + c) 2) (y 13 f 0) (y 14 f 0) 12 f 2 := by simp [sx_app]
  rw [e3]
  unfold cfY rcY bnd
  cases pf (nI (f + 2)) _ with
  | none => rfl
  | some q => rfl
theorem cleanFrame_deep {pf : Int32 → st → Option (Nat × st)} {y : st} {m c : Nat} (hm : y 12 11 2 = nI m) (hm8 : m < 8) (hin : inb (nI c) (y 26 m 0).toNatClampNeg = true) (hc : c < 6) (hfit : fitY y 1) : f_X4_cleanFrame pf 11 (nI c) (nI (11 + 1)) y = some (2, sx (cntY y 1) 1 0 6 7) := by
  rw [cleanFrame_pre hm hm8 hin hc, bnd_of (makeFrame_deep hfit), if_pos (by decide), if_neg (by decide)]
theorem cleanFrame_no {pf : Int32 → st → Option (Nat × st)} {y y1 : st} {f m c o : Nat} (hm : y 12 f 2 = nI m) (hm8 : m < 8) (hin : inb (nI c) (y 26 m 0).toNatClampNeg = true) (hc : c < 6) (hfit : ¬ fitY y 1) (hr : f_X5_refuse y = some (o, y1)) (ho : 0 < o ∧ o < 5) : f_X4_cleanFrame pf f (nI c) (nI (f + 1)) y = some (o, y1) := by
  rw [cleanFrame_pre hm hm8 hin hc, bnd_of (makeFrame_no hfit hr ho), if_pos ho.2, if_neg (by omega)]
