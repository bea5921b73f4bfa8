/-! LEVEL 2: the functions alone. Numbers, reads of written states, the small functions in closed form -/
theorem sxA_app (x : st) (k i : Nat) (f : Nat → Int32) (k' i' : Nat) : sxA x k i f k' i' = if k' = k ∧ i' = i then f else x k' i' := rfl
theorem sx_app (x : st) (k i j : Nat) (v : Int32) (k' i' j' : Nat) : sx x k i j v k' i' j' = if k' = k ∧ i' = i ∧ j' = j then v else x k' i' j' := by
  unfold sx
  rw [sxA_app]
  by_cases h : k' = k ∧ i' = i
  · obtain ⟨rfl, rfl⟩ := h
    by_cases h2 : j' = j
    · subst h2; simp [upd]
    · simp [upd, h2]
  · rw [if_neg h, if_neg (fun q => h ⟨q.1, q.2.1⟩)]
theorem sx_k (x : st) {k i j : Nat} {v : Int32} {k' : Nat} (h : k' ≠ k) : sx x k i j v k' = x k' := by
  funext i' j'
  rw [sx_app, if_neg (fun q => h q.1)]
theorem sx_i (x : st) {k i j : Nat} {v : Int32} {k' i' : Nat} (h : i' ≠ i) : sx x k i j v k' i' = x k' i' := by
  funext j'
  rw [sx_app, if_neg (fun q => h q.2.1)]
theorem sxA_k (x : st) {k i : Nat} {f : Nat → Int32} {k' : Nat} (h : k' ≠ k) : sxA x k i f k' = x k' := by
  funext i'
  rw [sxA_app, if_neg (fun q => h q.1)]
theorem inb_nI {a n : Nat} (h : a < n) (hn : n < 2 ^ 31) : inb (nI a) n = true := by
  simp only [inb, Bool.not_eq_true', Bool.or_eq_false_iff, decide_eq_false_iff_not]
  exact ⟨nI_pos (by omega), by rw [nI_clamp (by omega)]; omega⟩
theorem n0 : (0 : Int32) = nI 0 := rfl
theorem n1 : (1 : Int32) = nI 1 := rfl
theorem n2 : (2 : Int32) = nI 2 := rfl
theorem n3 : (3 : Int32) = nI 3 := rfl
theorem n4 : (4 : Int32) = nI 4 := rfl
theorem n5 : (5 : Int32) = nI 5 := rfl
theorem n6 : (6 : Int32) = nI 6 := rfl
theorem n7 : (7 : Int32) = nI 7 := rfl
theorem n8 : (8 : Int32) = nI 8 := rfl
theorem n12 : (12 : Int32) = nI 12 := rfl
theorem n24 : (24 : Int32) = nI 24 := rfl
theorem n48 : (48 : Int32) = nI 48 := rfl
theorem n99 : (99 : Int32) = nI 99 := rfl
theorem nI_le' {a b : Nat} (ha : a < 2 ^ 31) (hb : b < 2 ^ 31) : (nI a ≤ nI b) = (a ≤ b) := propext (nI_leI ha hb)
theorem nI_lt' {a b : Nat} (ha : a < 2 ^ 31) (hb : b < 2 ^ 31) : (nI a < nI b) = (a < b) := propext (nI_ltI ha hb)
theorem nI_eq' {a b : Nat} (ha : a < 2 ^ 31) (hb : b < 2 ^ 31) : (nI a = nI b) = (a = b) := propext (nI_eq ha hb)
theorem nI_sub1 {a : Nat} (h : 0 < a) : nI a - 1 = nI (a - 1) := by
  obtain ⟨b, rfl⟩ : ∃ b, a = b + 1 := ⟨a - 1, by omega⟩
  exact nI_pred b
theorem nI_add1 (a : Nat) : nI a + 1 = nI (a + 1) := nI_1 a
theorem c0 : (0 : Int32).toNatClampNeg = 0 := rfl
theorem c1 : (1 : Int32).toNatClampNeg = 1 := rfl
theorem c2 : (2 : Int32).toNatClampNeg = 2 := rfl
theorem c3 : (3 : Int32).toNatClampNeg = 3 := rfl
theorem c4 : (4 : Int32).toNatClampNeg = 4 := rfl
theorem c5 : (5 : Int32).toNatClampNeg = 5 := rfl
theorem c6 : (6 : Int32).toNatClampNeg = 6 := rfl
theorem c7 : (7 : Int32).toNatClampNeg = 7 := rfl
theorem c8 : (8 : Int32).toNatClampNeg = 8 := rfl
theorem i_0_9 : inb 0 9 = true := rfl
theorem i_1_9 : inb 1 9 = true := rfl
theorem i_2_9 : inb 2 9 = true := rfl
theorem i_3_9 : inb 3 9 = true := rfl
theorem i_4_9 : inb 4 9 = true := rfl
theorem i_5_9 : inb 5 9 = true := rfl
theorem i_6_9 : inb 6 9 = true := rfl
theorem i_7_9 : inb 7 9 = true := rfl
theorem i_8_9 : inb 8 9 = true := rfl
theorem i_0_6 : inb 0 6 = true := rfl
theorem i_5_6 : inb 5 6 = true := rfl
theorem i_0_3 : inb 0 3 = true := rfl
theorem i_0_78 : inb 0 78 = true := rfl
/-- the reference, leaving a FRAME: its cells -/
def lvS (z : st) (f m : Nat) (t a v : Int32) : st := sx (sx (sx (sx (sx (sx z 62 0 f 1) 63 0 f (if t < z 40 0 m then t else 99)) 64 0 f a) 65 0 f v) 66 0 f 0) 67 0 f (z 51 0 m - 1)
theorem leave_eq {z : st} {f m : Nat} {t a v : Int32} (hf : f < 13) (hm : z 57 0 f = nI m) (hm8 : m < 8) : f_X11_leave (nI f) t a v z = some (lvS z f m t a v) := by
  have e1 : inb (nI f) 13 = true := inb_nI hf (by decide)
  have e2 : (nI f).toNatClampNeg = f := nI_clamp (by omega)
  have e3 : inb (nI m) 8 = true := inb_nI hm8 (by decide)
  have e4 : (nI m).toNatClampNeg = m := nI_clamp (by omega)
  unfold f_X11_leave f_X11_leave_b33 lvS lets
  simp only [e1, e2, if_true, sx_app, hm, e3, e4]
  by_cases h : t < z 40 0 m
  · simp [h, sx_app, hm, e3, e4]
  · simp [h, sx_app, hm, e3, e4]
theorem holds_eq {a b p : Int32} {z : st} : f_X11_holds a b p z = some (if p = 99 ∨ p < a ∨ b ≤ p then 0 else 1, z) := by
  unfold f_X11_holds f_X11_holds_b20
  by_cases h1 : p = 99
  · simp [h1]
  · by_cases h2 : p < a
    · simp [h1, h2]
    · by_cases h3 : b ≤ p
      · simp [h1, h2, h3]
      · simp [h1, h2, h3]
theorem within_eq {a b : Int32} {x : st} : f_X10_within a b x = some (if a < 0 ∨ b ≤ a then 0 else 1, x) := by
  unfold f_X10_within f_X10_within_b13
  by_cases h1 : a < 0
  · simp [h1]
  · by_cases h2 : b ≤ a
    · simp [h1, h2]
    · simp [h1, h2]
theorem in_eq {v a b : Int32} {z : st} : f_X11_in v a b z = some (if v < a ∨ b < v then 0 else 1, z) := by
  unfold f_X11_in f_X11_in_b14
  by_cases h1 : v < a
  · simp [h1]
  · by_cases h2 : b < v
    · simp [h1, h2]
    · simp [h1, h2]
