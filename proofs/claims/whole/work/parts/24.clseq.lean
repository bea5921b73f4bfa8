/-! the class's small functions in closed form -/
theorem bnd_of {α β : Type} {o : Option (α × st)} {f : α → st → Option β} {a : α} {y : st} (h : o = some (a, y)) : bnd o f = f a y := by subst h; rfl
theorem bnv_of {β : Type} {o : Option st} {f : st → Option β} {y : st} (h : o = some y) : bnv o f = f y := by subst h; rfl
theorem lets_eq {α : Type} {y : st} {f : st → Option α} : lets y f = f y := rfl
def fitY (y : st) (n : Int32) : Prop := if y 4 0 6 = 0 then y 4 0 0 + n ≤ y 4 0 3 else y 4 0 1 + n ≤ y 4 0 4
def cntY (y : st) (n : Int32) : st := if y 4 0 6 = 0 then sx y 4 0 0 (y 4 0 0 + n) else sx y 4 0 1 (y 4 0 1 + n)
theorem count_fit {y : st} {n : Int32} (h : fitY y n) : f_X5_count n y = some (0, cntY y n) := by
  unfold f_X5_count f_X5_count_b18 f_X5_count_b40 f_X5_count_b78 cntY
  simp only [lets]
  unfold fitY at h
  by_cases h6 : y 4 0 6 = 0
  · rw [if_pos h6] at h
    simp only [h6, if_true]
    rw [if_pos h]
  · rw [if_neg h6] at h
    simp only [h6, if_false]
    rw [if_pos h]
theorem refuse_0 {y : st} (h6 : y 4 0 6 = 0) : f_X5_refuse y = some (3, sx y 4 0 6 1) := by
  unfold f_X5_refuse
  rw [if_pos h6]; rfl
theorem refuse_1 {y : st} (h6 : ¬ y 4 0 6 = 0) : f_X5_refuse y = some (4, sx y 4 0 2 1) := by
  unfold f_X5_refuse
  rw [if_neg h6]; rfl
theorem count_no {y y1 : st} {n : Int32} {o : Nat} (h : ¬ fitY y n) (hr : f_X5_refuse y = some (o, y1)) : f_X5_count n y = some (o, y1) := by
  unfold f_X5_count f_X5_count_b18 f_X5_count_b40
  simp only [lets]
  unfold fitY at h
  by_cases h6 : y 4 0 6 = 0
  · rw [if_pos h6] at h
    simp only [h6, if_true]
    rw [if_neg h, hr]; rfl
  · rw [if_neg h6] at h
    simp only [h6, if_false]
    rw [if_neg h, hr]; rfl
theorem countThrow_fit {y : st} (h : y 4 0 5 < 24) : f_X5_countThrow y = some (0, sx y 4 0 5 (y 4 0 5 + 1)) := by
  unfold f_X5_countThrow
  rw [if_pos h]; rfl
theorem countThrow_no {y y1 : st} {o : Nat} (h : ¬ y 4 0 5 < 24) (hr : f_X5_refuse y = some (o, y1)) : f_X5_countThrow y = some (o, y1) := by
  unfold f_X5_countThrow
  rw [if_neg h, hr]; rfl
theorem fill13 {f : Nat} {v : Int32} : ∀ (r n i : Nat) (x : st), i + r = 6 → r < n → f_J7_fill_53178_13_b5 n f v (nI i) 6 x = some (sxA x 13 f (fun j => if i ≤ j ∧ j < 6 then v else x 13 f j)) := by
  intro r
  induction r with
  | zero =>
    intro n i x hi hn
    obtain ⟨n, rfl⟩ : ∃ q, n = q + 1 := ⟨n - 1, by omega⟩
    have h6 : i = 6 := by omega
    subst h6
    unfold f_J7_fill_53178_13_b5
    rw [if_pos (by decide)]
    congr 1
    apply st_ext
    intro k q j
    rw [sxA_app]
    by_cases h : k = 13 ∧ q = f
    · obtain ⟨rfl, rfl⟩ := h
      rw [if_pos ⟨rfl, rfl⟩, if_neg (by omega)]
    · rw [if_neg h]
  | succ r ih =>
    intro n i x hi hn
    obtain ⟨n, rfl⟩ : ∃ q, n = q + 1 := ⟨n - 1, by omega⟩
    unfold f_J7_fill_53178_13_b5
    rw [n6, if_neg (nI_ge (by omega) (by decide)), inb_nI (show i < 6 by omega) (by decide), if_pos rfl, nI_clamp (by omega), ← n6]
    simp only [lets]
    rw [nI_add1, ih n (i + 1) _ (by omega) (by omega)]
    congr 1
    apply st_ext
    intro k q j
    rw [sxA_app, sxA_app]
    by_cases h : k = 13 ∧ q = f
    · rw [if_pos h, if_pos h]
      by_cases hj : j = i
      · subst hj
        rw [if_neg (by omega), if_pos (by omega), sx_app, if_pos ⟨rfl, rfl, rfl⟩]
      · by_cases hr : i + 1 ≤ j ∧ j < 6
        · rw [if_pos hr, if_pos (by omega)]
        · rw [if_neg hr, if_neg (by omega), sx_app, if_neg (fun c => hj c.2.2)]
    · rw [if_neg h, if_neg h, sx_app, if_neg (fun c => h ⟨c.1, c.2.1⟩)]
theorem fill14 {f : Nat} {v : Int32} : ∀ (r n i : Nat) (x : st), i + r = 3 → r < n → f_J7_fill_53178_14_b5 n f v (nI i) 3 x = some (sxA x 14 f (fun j => if i ≤ j ∧ j < 3 then v else x 14 f j)) := by
  intro r
  induction r with
  | zero =>
    intro n i x hi hn
    obtain ⟨n, rfl⟩ : ∃ q, n = q + 1 := ⟨n - 1, by omega⟩
    have h6 : i = 3 := by omega
    subst h6
    unfold f_J7_fill_53178_14_b5
    rw [if_pos (by decide)]
    congr 1
    apply st_ext
    intro k q j
    rw [sxA_app]
    by_cases h : k = 14 ∧ q = f
    · obtain ⟨rfl, rfl⟩ := h
      rw [if_pos ⟨rfl, rfl⟩, if_neg (by omega)]
    · rw [if_neg h]
  | succ r ih =>
    intro n i x hi hn
    obtain ⟨n, rfl⟩ : ∃ q, n = q + 1 := ⟨n - 1, by omega⟩
    unfold f_J7_fill_53178_14_b5
    rw [n3, if_neg (nI_ge (by omega) (by decide)), inb_nI (show i < 3 by omega) (by decide), if_pos rfl, nI_clamp (by omega), ← n3]
    simp only [lets]
    rw [nI_add1, ih n (i + 1) _ (by omega) (by omega)]
    congr 1
    apply st_ext
    intro k q j
    rw [sxA_app, sxA_app]
    by_cases h : k = 14 ∧ q = f
    · rw [if_pos h, if_pos h]
      by_cases hj : j = i
      · subst hj
        rw [if_neg (by omega), if_pos (by omega), sx_app, if_pos ⟨rfl, rfl, rfl⟩]
      · by_cases hr : i + 1 ≤ j ∧ j < 3
        · rw [if_pos hr, if_pos (by omega)]
        · rw [if_neg hr, if_neg (by omega), sx_app, if_neg (fun c => hj c.2.2)]
    · rw [if_neg h, if_neg h, sx_app, if_neg (fun c => h ⟨c.1, c.2.1⟩)]
/-- a FRAME begins -/
def bgS (y : st) (f : Nat) (m num row : Int32) : st :=
  sx (sx (sx (sx (sx (sx (sxA (sxA y 13 f (fun j => if j < 6 then 0 else y 13 f j)) 14 f (fun j => if j < 3 then (-3) else y 14 f j)) 13 f 0 num) 14 f 0 row) 12 f 2 m) 12 f 3 0) 12 f 4 0) 12 f 5 0
theorem begin_eq {y : st} {f : Nat} {m num row : Int32} : f_X2_begin f m num row y = some (bgS y f m num row) := by
  unfold f_X2_begin f_J7_fill_53178_13 f_J7_fill_53178_14
  have h1 := fill13 (f := f) (v := 0) 6 100 0 y (by omega) (by omega)
  rw [show nI 0 = (0 : Int32) from rfl] at h1
  have h2 := fill14 (f := f) (v := -3) 3 100 0 (sxA y 13 f (fun j => if 0 ≤ j ∧ j < 6 then 0 else y 13 f j)) (by omega) (by omega)
  rw [show nI 0 = (0 : Int32) from rfl] at h2
  rw [h1]
  unfold bnv
  rw [Option.bind_some, h2, Option.bind_some]
  simp only [lets, i_0_6, i_0_3, c0, if_true]
  unfold bgS
  simp only [Nat.zero_le, true_and]
  rw [show (sxA y 13 f fun j => if j < 6 then 0 else y 13 f j) 14 f = y 14 f from by rw [sxA_app, if_neg (by simp)]]
def nfS (y : st) (v : Int32) : st := sx (sx y 2 0 2 (y 2 0 2 + 1)) 2 0 5 (if y 2 0 5 < v then v else y 2 0 5)
theorem noteFrame_eq {y : st} {v : Int32} : f_X8_noteFrame v y = some (nfS y v) := by
  unfold f_X8_noteFrame nfS
  simp only [lets]
  simp [sx_app]
theorem makeFrame_ok {y : st} {f : Nat} {m num row : Int32} (hf : f < 12) (h : fitY y 1) : f_X4_makeFrame m num row (nI (f + 1)) y = some (0, nfS (bgS (cntY y 1) f m num row) (nI (f + 1))) := by
  unfold f_X4_makeFrame
  rw [count_fit h]
  unfold bnd
  rw [Option.bind_some]
  simp only
  rw [if_pos (by decide), if_pos trivial, n12, if_pos (nI_le (by omega) (by decide)), nI_pred, inb_nI hf (by decide), if_pos rfl, nI_clamp (by omega), begin_eq]
  unfold bnv
  rw [Option.bind_some, noteFrame_eq, Option.bind_some]
theorem makeFrame_deep {y : st} {m num row : Int32} (h : fitY y 1) : f_X4_makeFrame m num row (nI 13) y = some (2, sx (cntY y 1) 1 0 6 7) := by
  unfold f_X4_makeFrame
  rw [count_fit h]
  unfold bnd
  rw [Option.bind_some]
  simp only
  rw [if_pos (by decide), if_pos trivial, if_neg (by decide)]
  rfl
theorem makeFrame_no {y y1 : st} {m num row v : Int32} {o : Nat} (h : ¬ fitY y 1) (hr : f_X5_refuse y = some (o, y1)) (ho : 0 < o ∧ o < 5) : f_X4_makeFrame m num row v y = some (o, y1) := by
  unfold f_X4_makeFrame
  rw [count_no h hr]
  unfold bnd
  rw [Option.bind_some]
  simp only
  rw [if_pos ho.2, if_neg (by omega)]
