/-! a CLEAN's FRAME is made: both sides -/
def ncY (y : st) (by_ left dep : Int32) : st := if 100 ≤ y 2 0 3 then sx y 2 0 3 (y 2 0 3 + 1) else sx (sx (sx (sx y 3 0 (3 * nv (y 2 0 3)) by_) 3 0 (3 * nv (y 2 0 3) + 1) left) 3 0 (3 * nv (y 2 0 3) + 2) dep) 2 0 3 (y 2 0 3 + 1)
theorem noteClean_eq {y : st} {b l d : Int32} (h : isN (y 2 0 3) 600) : f_X8_noteClean b l d y = some (ncY y b l d) := by
  unfold f_X8_noteClean f_X8_noteClean_b49 ncY
  simp only [lets]
  by_cases hc : 100 ≤ y 2 0 3
  · rw [if_pos hc, if_pos hc]
  · rw [if_neg hc, if_neg hc]
    have hlt : nv (y 2 0 3) < 100 := by
      rw [h.1, show (100 : Int32) = nI 100 from rfl, nI_leI (by decide) (nv_lt _)] at hc
      omega
    have e0 : y 2 0 3 * 3 = nI (3 * nv (y 2 0 3)) := by rw [h.1, n3, pk_mul, nv_nI (nv_lt _), Nat.mul_comm]
    have a1 : (sx y 3 0 (3 * nv (y 2 0 3)) b) 2 0 3 = y 2 0 3 := by simp [sx_app]
    have a2 : (sx (sx y 3 0 (3 * nv (y 2 0 3)) b) 3 0 (3 * nv (y 2 0 3) + 1) l) 2 0 3 = y 2 0 3 := by simp [sx_app]
    have a3 : (sx (sx (sx y 3 0 (3 * nv (y 2 0 3)) b) 3 0 (3 * nv (y 2 0 3) + 1) l) 3 0 (3 * nv (y 2 0 3) + 2) d) 2 0 3 = y 2 0 3 := by simp [sx_app]
    rw [e0, inb_nI (show 3 * nv (y 2 0 3) < 300 by omega) (by decide), if_pos rfl, nI_clamp (by omega), a1, e0, nI_add1, inb_nI (show 3 * nv (y 2 0 3) + 1 < 300 by omega) (by decide), if_pos rfl, nI_clamp (by omega), a2, e0, n2, nI_add, inb_nI (show 3 * nv (y 2 0 3) + 2 < 300 by omega) (by decide), if_pos rfl, nI_clamp (by omega), a3]
def rcZ (z : st) (f : Nat) (b l d : Int32) : st := if 100 ≤ z 80 0 5 then sx (sx (sx z 80 0 5 (z 80 0 5 + 1)) 66 0 f (z 66 0 f ||| (1 <<< (z 67 0 f &&& 31)))) 67 0 f (z 67 0 f - 1) else sx (sx (sx (sx (sx (sx z 81 0 (nv (z 80 0 5)) b) 82 0 (nv (z 80 0 5)) l) 83 0 (nv (z 80 0 5)) d) 80 0 5 (z 80 0 5 + 1)) 66 0 f (z 66 0 f ||| (1 <<< (z 67 0 f &&& 31)))) 67 0 f (z 67 0 f - 1)
theorem rc_tail {z : st} {f : Nat} (hf : f < 13) : f_X11_runsClean_b96 (nI f) z = some ((1 : Int32), sx (sx (sx z 80 0 5 (z 80 0 5 + 1)) 66 0 f (z 66 0 f ||| (1 <<< (z 67 0 f &&& 31)))) 67 0 f (z 67 0 f - 1)) := by
  unfold f_X11_runsClean_b96
  simp only [lets, i_5_9, c5, if_true, inb_nI hf (show 13 < 2 ^ 31 by decide), nI_clamp (show f < 2 ^ 31 by omega)]
  simp [sx_app]
theorem runsClean_deep {z : st} {f m c : Nat} (hf : f < 13) (hm : z 57 0 f = nI m) (hm8 : m < 8) (hat : z 67 0 f = nI c) (hc : c < 6) (h16 : z 30 0 16 = nI 12) : f_X11_runsClean (nI f) z = some (0, z) := by
  have e5 : (6 : Int32) * nI m + nI c = nI (6 * m + c) := by rw [n6, pk_mul, nI_add]
  unfold f_X11_runsClean
  rw [inb_nI hf (by decide), if_pos rfl, if_pos rfl, nI_clamp (by omega), hm, hat, e5, inb_nI (show 6 * m + c < 48 by omega) (by decide), if_pos rfl, bnd_of (makes_deep h16), if_pos rfl]
theorem runsClean_eq {z : st} {f m c : Nat} (hf : f + 1 < 12) (hm : z 57 0 f = nI m) (hm8 : m < 8) (hat : z 67 0 f = nI c) (hc : c < 6) (h16 : z 30 0 16 = nI (f + 1)) (h5 : isN (z 80 0 5) 600) :
    f_X11_runsClean (nI f) z = some (1, rcZ (mkZ z (f + 1) (z 54 0 (6 * m + c)) (z 59 0 (6 * f)) (z 60 0 (3 * f)) 1) f (z 54 0 (6 * m + c)) (z 57 0 f) (nI (f + 2))) := by
  have e5 : (6 : Int32) * nI m + nI c = nI (6 * m + c) := by rw [n6, pk_mul, nI_add]
  have em : f_X11_makes (z 54 0 (6 * m + c)) (nI f) 0 0 1 z = some (1, mkZ z (f + 1) (z 54 0 (6 * m + c)) (z 59 0 (6 * f)) (z 60 0 (3 * f)) 1) := makes_eq (z := z) (d := f + 1) (p := f) (fn := 0) (fr := 0) (m := z 54 0 (6 * m + c)) (cl := 1) (by omega) (by omega) (by omega) (by omega) (Or.inr rfl) h16
  generalize hw : mkZ z (f + 1) (z 54 0 (6 * m + c)) (z 59 0 (6 * f)) (z 60 0 (3 * f)) 1 = w at em ⊢
  have w5 : w 80 0 5 = z 80 0 5 := by rw [← hw, mkZ_80]; simp
  have w54 : w 54 = z 54 := by rw [← hw, mkZ_k (by decide)]
  have w57 : w 57 0 f = z 57 0 f := by rw [← hw, mkZ_1.1, if_neg (by omega)]
  have w16 : w 30 0 16 = nI (f + 2) := by rw [← hw, mkZ_30]; simp
  unfold f_X11_runsClean
  rw [inb_nI (show f < 13 by omega) (by decide), if_pos rfl, if_pos rfl, nI_clamp (show f < 2 ^ 31 by omega), hm, hat, e5, inb_nI (show 6 * m + c < 48 by omega) (by decide), if_pos rfl, nI_clamp (show 6 * m + c < 2 ^ 31 by omega), bnd_of em, if_neg (by decide), i_5_9, if_pos rfl, c5]
  unfold rcZ
  by_cases hcc : 100 ≤ w 80 0 5
  · rw [if_pos hcc, if_pos hcc, rc_tail (by omega)]
  · have hlt : nv (z 80 0 5) < 100 := by
      rw [w5, h5.1, show (100 : Int32) = nI 100 from rfl, nI_leI (by decide) (nv_lt _)] at hcc
      omega
    have hin : inb (z 80 0 5) 100 = true := by rw [h5.1]; exact inb_nI hlt (by decide)
    rw [if_neg hcc, if_neg hcc, if_pos rfl, if_pos rfl, w5, hin, if_pos rfl, lets_eq]
    have v1 : ∀ b, (sx w 81 0 (z 80 0 5).toNatClampNeg b) 80 0 5 = z 80 0 5 := fun b => by simp [sx_app, w5]
    rw [if_pos rfl, if_pos rfl, v1, hin, if_pos rfl, lets_eq]
    have v2 : ∀ b b2, (sx (sx w 81 0 (z 80 0 5).toNatClampNeg b) 82 0 (z 80 0 5).toNatClampNeg b2) 80 0 5 = z 80 0 5 := fun b b2 => by simp [sx_app, w5]
    rw [if_pos rfl, v2, hin, if_pos rfl, lets_eq, rc_tail (by omega)]
    have u1 : (sx w 81 0 (z 80 0 5).toNatClampNeg (w 54 0 (6 * m + c))) 57 0 f = z 57 0 f := by rw [← w57]; simp [sx_app]
    have u2 : ∀ b b2, (sx (sx w 81 0 (z 80 0 5).toNatClampNeg b) 82 0 (z 80 0 5).toNatClampNeg b2) 30 0 16 = nI (f + 2) := fun b b2 => by rw [← w16]; simp [sx_app]
    rw [u1, u2, w54]
    simp only [sx_app]
    simp [nv, w5, hm]
