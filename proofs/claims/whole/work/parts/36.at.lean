/-! what an ACT throws: both sides -/
def tY (y : st) (m : Nat) (p k : Int32) (g : Nat) : Bool := decide (¬ (p < y 19 (6 * m + g) 0 ∨ y 19 (6 * m + g) 1 ≤ p) ∧ (y 19 (6 * m + g) 2 = 0 ∨ y 19 (6 * m + g) 2 = k))
theorem catches_eq {q : Nat} {p k : Int32} {y : st} : f_X3_catches q p k y = some (if ¬ (p < y 19 q 0 ∨ y 19 q 1 ≤ p) ∧ (y 19 q 2 = 0 ∨ y 19 q 2 = k) then 1 else 0, y) := by
  unfold f_X3_catches f_X3_catches_b31 f_X3_catches_b35
  by_cases h1 : p < y 19 q 0
  · simp [h1]
  · by_cases h2 : y 19 q 1 ≤ p
    · simp [h1, h2]
    · by_cases h3 : y 19 q 2 = 0
      · simp [h1, h2, h3]
      · by_cases h4 : y 19 q 2 = k
        · simp [h1, h2, h4]
        · simp [h1, h2, h3, h4]
def gres (o : Option Nat) : Int32 := match o with
  | none => -3
  | some g => nI g
theorem guardFor_loop {y : st} {m ng : Nat} {p k : Int32} (hng : y 22 m 2 = nI ng) (hng6 : ng ≤ 6) (h25 : y 25 m 0 = nI ng) : ∀ (r n i : Nat), i + r = ng → r < n → f_X6_guardFor_b2 n m p k (nI i) y = some (gres (gsF (tY y m p k) r i), y) := by
  intro r
  induction r with
  | zero =>
    intro n i hi hn
    obtain ⟨n, rfl⟩ : ∃ q, n = q + 1 := ⟨n - 1, by omega⟩
    unfold f_X6_guardFor_b2 gsF gres
    rw [hng, show i = ng by omega, if_pos (nI_le (Nat.le_refl _) (by omega))]
  | succ r ih =>
    intro n i hi hn
    obtain ⟨n, rfl⟩ : ∃ q, n = q + 1 := ⟨n - 1, by omega⟩
    unfold f_X6_guardFor_b2
    rw [hng, if_neg (nI_ge (by omega) (by omega)), h25, nI_clamp (show ng < 2 ^ 31 by omega), inb_nI (show i < ng by omega) (by omega), if_pos rfl, nI_clamp (show i < 2 ^ 31 by omega)]
    unfold gsF
    by_cases ht : ¬ (p < y 19 (6 * m + i) 0 ∨ y 19 (6 * m + i) 1 ≤ p) ∧ (y 19 (6 * m + i) 2 = 0 ∨ y 19 (6 * m + i) 2 = k)
    · rw [bnd_of (catches_eq.trans (by rw [if_pos ht]))]
      have : tY y m p k i = true := by simp only [tY, decide_eq_true_eq]; exact ht
      rw [this]
      first | (simp [gres]; done) | (rw [if_neg (by decide)]; simp [gres])
    · rw [bnd_of (catches_eq.trans (by rw [if_neg ht]))]
      have : tY y m p k i = false := by simp only [tY, decide_eq_false_iff_not]; exact ht
      rw [this]
      have := ih n (i + 1) (by omega) (by omega)
      rw [nI_add1, this]
      simp
theorem guardFor_eq {y : st} {m ng : Nat} {p k : Int32} (hng : y 22 m 2 = nI ng) (hng6 : ng ≤ 6) (h25 : y 25 m 0 = nI ng) : f_X6_guardFor m p k y = some (gres (gsF (tY y m p k) ng 0), y) := by
  unfold f_X6_guardFor
  exact guardFor_loop hng hng6 h25 ng 100 0 (by omega) (by omega)
theorem gsF_cg {t u : Nat → Bool} : ∀ (r i : Nat), (∀ j, i ≤ j → j < i + r → t j = u j) → gsF t r i = gsF u r i
  | 0, _, _ => rfl
  | r + 1, i, h => by
    unfold gsF
    rw [h i (Nat.le_refl _) (by omega), gsF_cg r (i + 1) (fun j h1 h2 => h j (by omega) (by omega))]
