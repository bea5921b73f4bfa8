/-! the reference's small functions in closed form -/
theorem i32_le_or_lt (a b : Int32) : a ≤ b ∨ b < a := by
  by_cases h : a ≤ b
  · exact Or.inl h
  · exact Or.inr (Int32.not_le.mp h)
def ovL (z : st) (i d : Nat) : st := fun k q j =>
  if k = 66 ∧ q = 0 ∧ i ≤ j ∧ j < d then (if z 62 0 j = 0 then 0 else z 66 0 j)
  else if k = 67 ∧ q = 0 ∧ i ≤ j ∧ j < d then z 51 0 (z 57 0 j).toNatClampNeg - 1 else z k q j
theorem over_loop {d : Nat} (hd : d ≤ 12) : ∀ (r n i : Nat) (z : st), i + r = d → r < n → z 30 0 16 = nI d → (∀ j, j < d → inb (z 57 0 j) 8 = true) → f_X11_over_b45 n (nI i) z = some (ovL z i d) := by
  intro r
  induction r with
  | zero =>
    intro n i z hi hn h16 hm
    obtain ⟨n, rfl⟩ : ∃ q, n = q + 1 := ⟨n - 1, by omega⟩
    have hid : i = d := by omega
    subst hid
    unfold f_X11_over_b45
    rw [h16, if_pos (nI_le (Nat.le_refl _) (by omega))]
    congr 1
    funext k q j
    unfold ovL
    rw [if_neg (fun c => by omega), if_neg (fun c => by omega)]
  | succ r ih =>
    intro n i z hi hn h16 hm
    obtain ⟨n, rfl⟩ : ∃ q, n = q + 1 := ⟨n - 1, by omega⟩
    have hid : i < d := by omega
    have e1 : inb (nI i) 13 = true := inb_nI (by omega) (by decide)
    have e2 : (nI i).toNatClampNeg = i := nI_clamp (by omega)
    have e3 := hm i hid
    have key : ∀ s0 : Int32, s0 = (if z 62 0 i = 0 then 0 else z 66 0 i) → f_X11_over_b77 (f_X11_over_b45 n) (nI i) s0 (nI i) z = some (ovL z i d) := by
      intro s0 hs
      unfold f_X11_over_b77 lets
      simp only [e1, e2, if_true, sx_app]
      simp only [show (57 : Nat) ≠ 66 from by decide, show (51 : Nat) ≠ 66 from by decide, false_and, if_false, e3, if_true]
      rw [nI_add1, ih n (i + 1) _ (by omega) (by omega) (by simp [sx_app, h16]) (fun j hj => by simp [sx_app]; exact hm j hj)]
      congr 1
      funext k q j
      unfold ovL
      simp only [sx_app]
      by_cases hj : j = i
      · subst hj
        by_cases hk : k = 66 ∧ q = 0
        · obtain ⟨rfl, rfl⟩ := hk
          simp [hid, hs]
          intro q
          exact absurd q (by omega)
        · by_cases hk2 : k = 67 ∧ q = 0
          · obtain ⟨rfl, rfl⟩ := hk2
            simp [hid]
          · have a1 : ¬ (k = 66 ∧ q = 0 ∧ j + 1 ≤ j ∧ j < d) := by omega
            have a2 : ¬ (k = 67 ∧ q = 0 ∧ j + 1 ≤ j ∧ j < d) := by omega
            have a3 : ¬ (k = 66 ∧ q = 0 ∧ j ≤ j ∧ j < d) := fun c => hk ⟨c.1, c.2.1⟩
            have a4 : ¬ (k = 67 ∧ q = 0 ∧ j ≤ j ∧ j < d) := fun c => hk2 ⟨c.1, c.2.1⟩
            rw [if_neg a1, if_neg a2, if_neg a3, if_neg a4, if_neg (fun c => hk2 ⟨c.1, c.2.1⟩), if_neg (fun c => hk ⟨c.1, c.2.1⟩)]
      · have b1 : (k = 66 ∧ q = 0 ∧ i + 1 ≤ j ∧ j < d) ↔ (k = 66 ∧ q = 0 ∧ i ≤ j ∧ j < d) := by omega
        have b2 : (k = 67 ∧ q = 0 ∧ i + 1 ≤ j ∧ j < d) ↔ (k = 67 ∧ q = 0 ∧ i ≤ j ∧ j < d) := by omega
        simp [b1, b2, hj]
    unfold f_X11_over_b45
    rw [h16, if_neg (nI_ge hid (by omega)), e1, if_pos rfl, e2]
    by_cases h62 : z 62 0 i = 0
    · rw [if_pos h62]; exact key 0 (by rw [if_pos h62])
    · rw [if_neg h62, if_pos rfl]; exact key _ (by rw [if_neg h62])
/-- STOPPED: every FRAME is told so -/
def ovS (z : st) (d : Nat) : st := ovL (sx (sx (sx z 30 0 37 1) 30 0 38 (nI d - 1)) 30 0 35 1) 0 d
theorem over_stop {z : st} {d : Nat} (hd : d ≤ 12) (h37 : z 30 0 37 = 0) (h16 : z 30 0 16 = nI d) (hm : ∀ j, j < d → inb (z 57 0 j) 8 = true) : f_X11_over z = some (ovS z d) := by
  unfold f_X11_over
  simp only [lets]
  rw [if_pos h37]
  have e : (sx z 30 0 37 1) 30 0 16 = nI d := by simp [sx_app, h16]
  rw [e]
  exact over_loop hd d 100 0 _ (by omega) (by omega) (by simp [sx_app, h16]) (fun j hj => by simp [sx_app]; exact hm j hj)
theorem over_end {z : st} (h37 : ¬ z 30 0 37 = 0) : f_X11_over z = some (sx (sx z 80 0 7 1) 30 0 36 1) := by
  unfold f_X11_over lets
  rw [if_neg h37]
  rfl
def fitZ (z : st) (n : Int32) : Prop := if z 30 0 37 = 0 then z 80 0 2 + n ≤ z 30 0 34 else z 80 0 3 + n ≤ z 30 0 15
def cntZ (z : st) (n : Int32) : st := if z 30 0 37 = 0 then sx z 80 0 2 (z 80 0 2 + n) else sx z 80 0 3 (z 80 0 3 + n)
theorem take_fit {z : st} {n : Int32} (h : fitZ z n) : f_X11_take n z = some (1, cntZ z n) := by
  unfold f_X11_take f_X11_take_b12 f_X11_take_b39 cntZ lets
  unfold fitZ at h
  by_cases h37 : z 30 0 37 = 0
  · rw [if_pos h37] at h ⊢
    simp only [i_2_9, if_true, h37, c2]
    rw [if_neg (Int32.not_lt.mpr h)]
  · rw [if_neg h37] at h ⊢
    simp only [i_3_9, if_true, h37, if_false, c3]
    rw [if_neg (Int32.not_lt.mpr h)]
theorem take_over {z z1 : st} {n : Int32} (h : ¬ fitZ z n) (ho : f_X11_over z = some z1) : f_X11_take n z = some (0, z1) := by
  unfold f_X11_take f_X11_take_b12 f_X11_take_b39
  unfold fitZ at h
  by_cases h37 : z 30 0 37 = 0
  · rw [if_pos h37] at h ⊢
    simp only [i_2_9, if_true, h37, c2]
    rw [if_pos (Int32.not_le.mp h), ho]
    rfl
  · rw [if_neg h37] at h ⊢
    simp only [i_3_9, if_true, h37, if_false, c3]
    rw [if_pos (Int32.not_le.mp h), ho]
    rfl
theorem counts_of {z z1 : st} {r : Int32} (h : f_X11_take 1 z = some (r, z1)) (hr : r = 0 ∨ r = 1) : f_X11_counts z = some (r, z1) := by
  unfold f_X11_counts
  rw [h]
  rcases hr with rfl | rfl <;> rfl
/-- the first place from i on, r of them, that is told -/
def gsF (t : Nat → Bool) : Nat → Nat → Option Nat
  | 0, _ => none
  | r + 1, i => if t i = true then some i else gsF t r (i + 1)
theorem gsF_lt {t : Nat → Bool} : ∀ {r i g : Nat}, gsF t r i = some g → i ≤ g ∧ g < i + r ∧ t g = true
  | 0, _, _, h => by cases h
  | r + 1, i, g, h => by
    unfold gsF at h
    by_cases ht : t i = true
    · rw [if_pos ht] at h; cases h; exact ⟨Nat.le_refl _, by omega, ht⟩
    · rw [if_neg ht] at h
      have := gsF_lt h
      exact ⟨by omega, by omega, this.2.2⟩
/-- GUARD g of METHOD m holds ACT p and has KIND k -/
def tZ (z : st) (m : Nat) (p k : Int32) (g : Nat) : Bool := decide (¬ (p = 99 ∨ p < z 47 0 (6 * m + g) ∨ z 48 0 (6 * m + g) ≤ p) ∧ (z 49 0 (6 * m + g) = 0 ∨ z 49 0 (6 * m + g) = k))
def raS (z : st) (f m : Nat) (k : Int32) (g : Nat) : st := lvS (sx z 80 0 6 (z 80 0 6 + 1)) f m (z 50 0 (6 * m + g)) 3 k
theorem raise_b77 {z : st} {f m g : Nat} {k : Int32} (hf : f < 13) (hm : z 57 0 f = nI m) (hm8 : m < 8) (hg : g < 6) :
    (∀ z1, f_X11_counts z = some (0, z1) → f_X11_raise_b77 (nI f) k (nI (6 * m + g)) z = some z1) ∧ (f_X11_counts z = some (1, cntZ z 1) → f_X11_raise_b77 (nI f) k (nI (6 * m + g)) z = some (raS (cntZ z 1) f m k g)) := by
  constructor
  · intro z1 h
    unfold f_X11_raise_b77
    rw [h]; rfl
  · intro h
    unfold f_X11_raise_b77
    rw [h]
    unfold bnd lets
    simp only [Option.bind_some, i_6_9, c6, if_true]
    have e1 : inb (nI (6 * m + g)) 48 = true := inb_nI (by omega) (by decide)
    have e2 : (nI (6 * m + g)).toNatClampNeg = 6 * m + g := nI_clamp (by omega)
    rw [if_neg (by decide), e1, if_pos rfl, e2]
    have hm' : (sx (cntZ z 1) 80 0 6 (cntZ z 1 80 0 6 + 1)) 57 0 f = nI m := by
      simp only [sx_app]
      unfold cntZ
      by_cases h37 : z 30 0 37 = 0
      · simp [h37, sx_app, hm]
      · simp [h37, sx_app, hm]
    rw [leave_eq hf hm' hm8]
    unfold bnv raS
    simp [sx_app]
theorem raise_loop {z : st} {f m ng : Nat} {k : Int32} (hf : f < 13) (hm : z 57 0 f = nI m) (hm8 : m < 8) (hng : z 46 0 m = nI ng) (hng6 : ng ≤ 6) : ∀ (r n i : Nat), i + r = ng → r < n →
    f_X11_raise_b10 n (nI f) k (nI m) (nI i) z = match gsF (tZ z m (z 58 0 f) k) r i with
      | none => some (lvS z f m 99 2 k)
      | some g => f_X11_raise_b77 (nI f) k (nI (6 * m + g)) z := by
  have e1 : inb (nI f) 13 = true := inb_nI hf (by decide)
  have e2 : (nI f).toNatClampNeg = f := nI_clamp (by omega)
  have e3 : inb (nI m) 8 = true := inb_nI hm8 (by decide)
  have e4 : (nI m).toNatClampNeg = m := nI_clamp (by omega)
  intro r
  induction r with
  | zero =>
    intro n i hi hn
    obtain ⟨n, rfl⟩ : ∃ q, n = q + 1 := ⟨n - 1, by omega⟩
    unfold f_X11_raise_b10 gsF
    have hii : i = ng := by omega
    rw [e3, if_pos rfl, e4, hng, hii, if_pos (nI_le (Nat.le_refl _) (by omega)), leave_eq hf hm hm8]
    rfl
  | succ r ih =>
    intro n i hi hn
    obtain ⟨n, rfl⟩ : ∃ q, n = q + 1 := ⟨n - 1, by omega⟩
    have e5 : (6 : Int32) * nI m + nI i = nI (6 * m + i) := by rw [n6, pk_mul, nI_add]
    have e6 : inb (nI (6 * m + i)) 48 = true := inb_nI (by omega) (by decide)
    have e7 : (nI (6 * m + i)).toNatClampNeg = 6 * m + i := nI_clamp (by omega)
    unfold f_X11_raise_b10
    rw [e3, if_pos rfl, e4, hng, if_neg (nI_ge (by omega) (by omega))]
    simp only [e5, e6, e7, e1, e2, if_true, holds_eq, bnd, Option.bind_some]
    have ih' := ih n (i + 1) (by omega) (by omega)
    unfold gsF
    by_cases hh : z 58 0 f = 99 ∨ z 58 0 f < z 47 0 (6 * m + i) ∨ z 48 0 (6 * m + i) ≤ z 58 0 f
    · have ht : tZ z m (z 58 0 f) k i = false := by simp [tZ, hh]
      rw [if_pos hh, if_pos rfl, ht]
      unfold f_X11_raise_b110
      rw [nI_add1, ih']
      simp
    · rw [if_neg hh, if_neg (by decide)]
      by_cases hk0 : z 49 0 (6 * m + i) = 0
      · have ht : tZ z m (z 58 0 f) k i = true := by simp only [tZ, decide_eq_true_eq]; exact ⟨hh, Or.inl hk0⟩
        rw [if_pos hk0, ht]
        simp
      · rw [if_neg hk0]
        by_cases hk1 : z 49 0 (6 * m + i) = k
        · have ht : tZ z m (z 58 0 f) k i = true := by simp only [tZ, decide_eq_true_eq]; exact ⟨hh, Or.inr hk1⟩
          rw [if_pos hk1, ht]
          simp
        · have ht : tZ z m (z 58 0 f) k i = false := by simp only [tZ, decide_eq_false_iff_not]; exact fun c => c.2.elim hk0 hk1
          rw [if_neg hk1, ht]
          unfold f_X11_raise_b110
          rw [nI_add1, ih']
          simp
theorem raise_eq {z : st} {f m ng : Nat} {k : Int32} (hf : f < 13) (hm : z 57 0 f = nI m) (hm8 : m < 8) (hng : z 46 0 m = nI ng) (hng6 : ng ≤ 6) :
    f_X11_raise (nI f) k z = match gsF (tZ z m (z 58 0 f) k) ng 0 with
      | none => some (lvS z f m 99 2 k)
      | some g => f_X11_raise_b77 (nI f) k (nI (6 * m + g)) z := by
  unfold f_X11_raise
  rw [inb_nI hf (by decide), if_pos rfl, nI_clamp (by omega), hm]
  exact raise_loop hf hm hm8 hng hng6 ng 100 0 (by omega) (by omega)
