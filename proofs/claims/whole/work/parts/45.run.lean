/-! a run: both sides -/
def AR (y z : st) : Prop := (∀ j, j < 600 → z 72 0 j = y 7 0 j ∧ z 71 0 j = y 8 0 j ∧ z 70 0 j = y 9 0 j) ∧ (∀ j, j < 4800 → z 73 0 j = y 6 0 j) ∧ ∀ j, j < 100 → z 81 0 j = y 3 0 (3 * j) ∧ z 82 0 j = y 3 0 (3 * j + 1) ∧ z 83 0 j = y 3 0 (3 * j + 2)
/-- between calls: the two sides -/
def Sim (y z : st) : Prop := IP y ∧ SP y z ∧ (z 30 0 15 = y 0 0 1 ∧ isN (y 0 0 1) 100) ∧
  (z 80 0 0 = y 2 0 0 ∧ z 80 0 1 = y 2 0 1 ∧ z 80 0 2 = y 4 0 0 ∧ z 80 0 3 = y 4 0 1 ∧ z 80 0 4 = y 2 0 2 ∧ z 80 0 5 = y 2 0 3 ∧ z 80 0 6 = y 2 0 4 ∧ z 80 0 7 = y 4 0 2 ∧ z 80 0 8 = y 2 0 5) ∧
  ((y 4 0 2 = 0 ∨ y 4 0 2 = 1) ∧ isN (y 2 0 3) 600) ∧ AR y z
theorem in_within {v : Int32} {a : Nat} (ha : a < 1000) : (v < 0 ∨ nI a < v) ↔ (v < 0 ∨ nI (a + 1) ≤ v) := by
  by_cases h : v < 0
  · exact ⟨fun _ => Or.inl h, fun _ => Or.inl h⟩
  · obtain ⟨j, hj, rfl⟩ := nI_of h
    rw [nI_ltI (by omega) (by omega), nI_leI (by omega) (by omega)]
    exact ⟨fun c => c.imp id (fun q => by omega), fun c => c.imp id (fun q => by omega)⟩
/-- how the reference's run ends -/
def finR (w : st) : Option (Int32 × st) := if w 30 0 37 = 0 then some (w 30 0 35, w) else some (1, sx (sx (sx w 30 0 35 1) 80 0 0 0) 80 0 1 0)
theorem b120_run {fu : Nat} : ∀ (n : Nat) (z w : st), Rn n z w → ¬ w 30 0 36 = 0 → f_X11_run_b120 fu (n + 1) z = finR w := by
  intro n
  induction n with
  | zero =>
    intro z w h h36
    have : z = w := h
    subst this
    unfold f_X11_run_b120 f_X11_run_b210 finR
    rw [if_neg h36]
    simp only [lets, i_0_9, i_1_9, c0, c1, if_true]
    by_cases h37 : z 30 0 37 = 0
    · rw [if_pos h37, if_pos h37]
    · rw [if_neg h37, if_neg h37]
      simp [sx_app]
  | succ n ih =>
    intro z w h h36
    obtain ⟨h0, z1, h1, hn⟩ := h
    have := ih z1 w hn h36
    unfold f_X11_run_b120
    rw [if_pos h0]
    unfold f_X11_run_b158 f_X11_run_b181
    unfold itR at h1
    by_cases h37 : z 30 0 37 = 0
    · rw [if_pos h37]
      rw [if_neg (fun c => c.1 h37)] at h1
      by_cases hi : inb (z 30 0 16 - 1) 13 = true
      · rw [if_pos hi] at h1 ⊢
        by_cases h62 : z 62 0 (z 30 0 16 - 1).toNatClampNeg = 0
        · rw [if_pos h62] at h1 ⊢
          rw [bnv_of h1]; exact this
        · rw [if_neg h62] at h1 ⊢
          rw [bnv_of h1]; exact this
      · rw [if_neg hi] at h1; cases h1
    · rw [if_neg h37]
      by_cases h38 : z 30 0 16 - 1 = z 30 0 38
      · rw [if_pos ⟨h37, h38⟩] at h1
        rw [if_pos h38, bnv_of h1]; exact this
      · rw [if_neg (fun c => h38 c.2)] at h1
        rw [if_neg h38]
        by_cases hi : inb (z 30 0 16 - 1) 13 = true
        · rw [if_pos hi] at h1 ⊢
          by_cases h62 : z 62 0 (z 30 0 16 - 1).toNatClampNeg = 0
          · rw [if_pos h62] at h1 ⊢
            rw [bnv_of h1]; exact this
          · rw [if_neg h62] at h1 ⊢
            rw [bnv_of h1]; exact this
        · rw [if_neg hi] at h1; cases h1
/-- the reference, as a run begins -/
def szL (z : st) (i : Nat) : st := sxA z 80 0 (fun j => if i ≤ j ∧ j < 9 then 0 else z 80 0 j)
def szZ (z : st) (b : Int32) : st := sx (sx (sx (sx (sx (sx (sx (sx (sx (szL z 0) 30 0 34 b) 30 0 16 0) 30 0 28 0) 30 0 29 0) 30 0 36 0) 30 0 37 0) 30 0 35 0) 30 0 38 (-1)) 30 0 39 0
def rest (fu : Nat) (m v b : Int32) (x15 : st) : Option (Int32 × st) := bnd (f_X11_counts x15) fun r17 x16 => if r17 = 0 then some (1, sx x16 30 0 35 1) else bnd (f_X11_makes m (-1) 0 0 0 x16) fun _ x19 => f_X11_run_b120 fu fu (sx x19 59 0 0 v)
theorem b23_run {fu : Nat} {m v b : Int32} : ∀ (r N i : Nat) (z : st), i + r = 9 → r < N → f_X11_run_b23 fu N m v b (nI i) z = rest fu m v b (sx (sx (sx (sx (sx (sx (sx (sx (sx (szL z i) 30 0 34 b) 30 0 16 0) 30 0 28 0) 30 0 29 0) 30 0 36 0) 30 0 37 0) 30 0 35 0) 30 0 38 (-1)) 30 0 39 0) := by
  intro r
  induction r with
  | zero =>
    intro N i z hi hN
    obtain ⟨N, rfl⟩ : ∃ q, N = q + 1 := ⟨N - 1, by omega⟩
    have h9 : i = 9 := by omega
    subst h9
    have es : szL z 9 = z := by
      apply st_ext
      intro k w j
      unfold szL
      rw [sxA_app]
      by_cases h : k = 80 ∧ w = 0
      · obtain ⟨rfl, rfl⟩ := h
        rw [if_pos ⟨rfl, rfl⟩, if_neg (by omega)]
      · rw [if_neg h]
    rw [es]
    unfold f_X11_run_b23 rest
    rw [if_pos (by decide)]
    simp only [lets, i_0_78, c0, if_true]
  | succ r ih =>
    intro N i z hi hN
    obtain ⟨N, rfl⟩ : ∃ q, N = q + 1 := ⟨N - 1, by omega⟩
    unfold f_X11_run_b23
    rw [show (9 : Int32) = nI 9 from rfl, if_neg (nI_ge (by omega) (by decide)), inb_nI (show i < 9 by omega) (by decide), if_pos rfl, nI_clamp (show i < 2 ^ 31 by omega), lets_eq, nI_add1, ih N (i + 1) _ (by omega) (by omega)]
    have es : szL (sx z 80 0 i 0) (i + 1) = szL z i := by
      apply st_ext
      intro k w j
      unfold szL
      rw [sxA_app, sxA_app]
      by_cases h : k = 80 ∧ w = 0
      · rw [if_pos h, if_pos h]
        by_cases hj : j = i
        · subst hj
          rw [if_neg (by omega), if_pos (by omega), sx_app, if_pos ⟨rfl, rfl, rfl⟩]
        · by_cases hr : i + 1 ≤ j ∧ j < 9
          · rw [if_pos hr, if_pos (by omega)]
          · rw [if_neg hr, if_neg (by omega), sx_app, if_neg (fun c => hj c.2.2)]
      · rw [if_neg h, if_neg h, sx_app, if_neg (fun c => h ⟨c.1, c.2.1⟩)]
    rw [es]
/-- the class, as a run begins -/
def syR (y : st) : st := sx (sx (sx (sx (sx (sx y 2 0 0 0) 2 0 1 0) 2 0 2 0) 2 0 3 0) 2 0 4 0) 2 0 5 0
def syW (y : st) : st := sx (sx y 5 0 4 0) 5 0 5 0
def syM (y : st) (b r : Int32) : st := sx (sx (sx (sx (sx (sx (sx y 4 0 3 b) 4 0 4 r) 4 0 0 0) 4 0 1 0) 4 0 5 0) 4 0 6 0) 4 0 2 0
def syY (y : st) (b r : Int32) : st := syM (syW (syR y)) b r
theorem syY_k {y : st} {b r : Int32} {k : Nat} (h : k ≠ 2 ∧ k ≠ 5 ∧ k ≠ 4) : syY y b r k = y k := by
  unfold syY syM syW syR
  simp only [sx_k _ h.1, sx_k _ h.2.1, sx_k _ h.2.2]
theorem syY_2 {y : st} {b r : Int32} {j : Nat} (h : j < 6) : syY y b r 2 0 j = 0 := by
  unfold syY syM syW syR
  simp only [sx_app]
  simp
  omega
theorem syY_4 {y : st} {b r : Int32} : syY y b r 4 0 0 = 0 ∧ syY y b r 4 0 1 = 0 ∧ syY y b r 4 0 2 = 0 ∧ syY y b r 4 0 3 = b ∧ syY y b r 4 0 4 = r ∧ syY y b r 4 0 5 = 0 ∧ syY y b r 4 0 6 = 0 ∧ syY y b r 5 0 4 = 0 ∧ syY y b r 5 0 5 = 0 := by
  unfold syY syM syW syR
  simp [sx_app]
theorem szZ_k {z : st} {b : Int32} {k : Nat} (h : k ≠ 30 ∧ k ≠ 80) : szZ z b k = z k := by
  unfold szZ szL
  simp only [sx_k _ h.1, sxA_k _ h.2]
theorem szZ_80 {z : st} {b : Int32} {j : Nat} (h : j < 9) : szZ z b 80 0 j = 0 := by
  unfold szZ szL
  simp [sx_app, sxA_app]
  omega
theorem szZ_30 {z : st} {b : Int32} : szZ z b 30 0 34 = b ∧ szZ z b 30 0 15 = z 30 0 15 ∧ szZ z b 30 0 39 = 0 ∧ szZ z b 30 0 37 = 0 ∧ szZ z b 30 0 28 = 0 ∧ szZ z b 30 0 29 = 0 ∧ szZ z b 30 0 16 = nI 0 ∧ szZ z b 30 0 36 = 0 := by
  unfold szZ szL
  simp [sx_app, sxA_app]
  rfl
theorem isN0 {B : Nat} : isN 0 B := isN.of (n := 0) (by omega) (by omega)
theorem nv0 : nv 0 = 0 := rfl
theorem start_DG {y z : st} {b : Int32} (h : Sim y z) (hb : isN b 500) : DG (syY y b (y 0 0 1)) (szZ z b) := by
  obtain ⟨-, -, ⟨r1, r2⟩, -, -, ar⟩ := h
  obtain ⟨q0, q1, q2, q3, q4, q5, q6, q7, q8⟩ := syY_4 (y := y) (b := b) (r := y 0 0 1)
  obtain ⟨w1, w2, w3, w4, w5, w6, w7, w8⟩ := szZ_30 (z := z) (b := b)
  refine ⟨⟨?_, ?_⟩, ?_⟩
  · unfold IM
    rw [q0, q1, q3, q4, q5, q6, q7, q8]
    refine ⟨⟨isN0, isN0, hb, r2, isN0, Or.inl rfl⟩, ⟨by rw [nv0]; omega, by rw [nv0]; omega⟩, ⟨isN0, isN0⟩, ⟨by rw [nv0]; omega, by rw [nv0]; omega⟩, fun r hr => ?_⟩
    rw [nv0] at hr; omega
  · unfold SG
    rw [q0, q1, q2, q3, q4, q5, q6, q7, q8, w1, w2, w3, w4, w5, w6, szZ_80 (by omega), szZ_80 (by omega), szZ_80 (by omega), szZ_80 (by omega), szZ_80 (by omega), szZ_80 (by omega), szZ_80 (by omega), syY_2 (by omega), syY_2 (by omega), syY_2 (by omega), syY_2 (by omega)]
    rw [syY_k (k := 7) (by decide), syY_k (k := 8) (by decide), syY_k (k := 9) (by decide), syY_k (k := 6) (by decide), syY_k (k := 3) (by decide), szZ_k (k := 70) (by decide), szZ_k (k := 71) (by decide), szZ_k (k := 72) (by decide), szZ_k (k := 73) (by decide), szZ_k (k := 81) (by decide), szZ_k (k := 82) (by decide), szZ_k (k := 83) (by decide)]
    exact ⟨⟨rfl, rfl, rfl, rfl, r1, rfl, rfl⟩, ⟨rfl, rfl, rfl, rfl⟩, ⟨rfl, rfl⟩, ar⟩
  · unfold IC
    rw [syY_2 (by omega)]
    exact ⟨isN0, by rw [nv0]; omega⟩
theorem first_eq {z : st} {m v : Int32} : sx (mk2 (mk1 (mk0 z 0 m) 0 0) 0) 59 0 0 v = mkZ z 0 m v (-3) 0 := by
  apply st_ext
  intro k i j
  unfold mkZ mkN mk2 mk1 mk0 fl60 fl59
  simp only [sx_app, sxA_app]
  by_cases h59 : k = 59 ∧ i = 0 ∧ j = 0
  · obtain ⟨rfl, rfl, rfl⟩ := h59; simp
  · by_cases h60 : k = 60 ∧ i = 0 ∧ j = 0
    · obtain ⟨rfl, rfl, rfl⟩ := h60; simp
    · simp [h59, h60]
/-- what the end of a run leaves -/
theorem Sim_of {y y' z z' : st} (hS : Sim y z) (k15 : ∀ k, 15 ≤ k → y' k = y k) (k0 : y' 0 = y 0) (kz : ∀ k, 40 ≤ k → k ≤ 54 → z' k = z k) (kr : z' 30 0 15 = z 30 0 15) (hD : DG y' z') (h02 : y' 4 0 2 = 0 ∨ y' 4 0 2 = 1) (e0 : z' 80 0 0 = y' 2 0 0) (e1 : z' 80 0 1 = y' 2 0 1) : Sim y' z' := by
  obtain ⟨hIP, hSP, ⟨r1, r2⟩, -, -, -⟩ := hS
  have S := hD.1.2
  refine ⟨?_, ?_, ⟨by rw [kr, k0]; exact r1, by rw [k0]; exact r2⟩, ⟨e0, e1, S.1.1, S.1.2.1, S.2.1.1, S.2.1.2.1, S.2.1.2.2.1, S.1.2.2.1, S.2.1.2.2.2⟩, ⟨h02, hD.2.1⟩, S.2.2.2⟩
  · intro m hm
    rw [k15 21 (by decide), k15 22 (by decide), k15 23 (by decide), k15 24 (by decide), k15 25 (by decide), k15 26 (by decide), k15 18 (by decide), k15 19 (by decide), k15 20 (by decide)]
    exact hIP m hm
  · intro m hm
    rw [k15 21 (by decide), k15 22 (by decide), k15 23 (by decide), k15 18 (by decide), k15 19 (by decide), k15 20 (by decide), kz 40 (by decide) (by decide), kz 46 (by decide) (by decide), kz 51 (by decide) (by decide)]
    obtain ⟨h1, h2, h3, h4⟩ := hSP m hm
    refine ⟨h1, fun j hj s hs => ?_, fun j hj s hs => ?_, fun j hj s hs => ?_⟩
    · rw [kz (41 + s) (by omega) (by omega)]; exact h2 j hj s hs
    · rw [kz (47 + s) (by omega) (by omega)]; exact h3 j hj s hs
    · rw [kz (52 + s) (by omega) (by omega)]; exact h4 j hj s hs
theorem DG.fin {y z : st} {v w : Int32} (h : DG y z) {j : Nat} (hj : j = 0 ∨ j = 1) : DG (sx y 2 0 j v) (sx (sx (sx z 80 0 j v) 30 0 35 w) 30 0 36 1) := by
  obtain ⟨⟨hIM, S⟩, ic⟩ := h
  have y2 : ∀ q, q ≠ j → (sx y 2 0 j v) 2 0 q = y 2 0 q := fun q hq => by rw [sx_app, if_neg (by omega)]
  have z80 : ∀ q, q ≠ j → (sx (sx (sx z 80 0 j v) 30 0 35 w) 30 0 36 1) 80 0 q = z 80 0 q := fun q hq => by rw [sx_k _ (by decide), sx_k _ (by decide), sx_app, if_neg (by omega)]
  have z30 : ∀ q, q ≠ 35 → q ≠ 36 → (sx (sx (sx z 80 0 j v) 30 0 35 w) 30 0 36 1) 30 0 q = z 30 0 q := fun q h1 h2 => by rw [sx_app, if_neg (by omega), sx_app, if_neg (by omega), sx_k _ (by decide)]
  have zk : ∀ k, k ≠ 30 → k ≠ 80 → (sx (sx (sx z 80 0 j v) 30 0 35 w) 30 0 36 1) k = z k := fun k h1 h2 => by rw [sx_k _ h1, sx_k _ h1, sx_k _ h2]
  refine ⟨⟨?_, ?_⟩, ?_⟩
  · unfold IM at hIM ⊢
    rw [sx_k (k' := 4) _ (by decide), sx_k (k' := 5) _ (by decide), sx_k (k' := 7) _ (by decide), sx_k (k' := 8) _ (by decide)]
    exact hIM
  · unfold SG at S ⊢
    rw [sx_k (x := y) (k' := 4) (by decide), sx_k (x := y) (k' := 5) (by decide), sx_k (x := y) (k' := 7) (by decide), sx_k (x := y) (k' := 8) (by decide), sx_k (x := y) (k' := 9) (by decide), sx_k (x := y) (k' := 6) (by decide), sx_k (x := y) (k' := 3) (by decide)]
    rw [z80 2 (by omega), z80 3 (by omega), z80 7 (by omega), z80 4 (by omega), z80 5 (by omega), z80 6 (by omega), z80 8 (by omega), z30 34 (by decide) (by decide), z30 15 (by decide) (by decide), z30 39 (by decide) (by decide), z30 37 (by decide) (by decide), z30 28 (by decide) (by decide), z30 29 (by decide) (by decide), y2 2 (by omega), y2 3 (by omega), y2 4 (by omega), y2 5 (by omega), zk 72 (by decide) (by decide), zk 71 (by decide) (by decide), zk 70 (by decide) (by decide), zk 73 (by decide) (by decide), zk 81 (by decide) (by decide), zk 82 (by decide) (by decide), zk 83 (by decide) (by decide)]
    exact S
  · unfold IC stp at ic ⊢
    rw [y2 3 (by omega), sx_k (x := y) (k' := 4) (by decide)]
    exact ic
theorem finR_stop {y z : st} (h : DG y z) (h0 : y 2 0 0 = 0) (h1 : y 2 0 1 = 0) : DG y (sx (sx (sx z 30 0 35 1) 80 0 0 0) 80 0 1 0) := by
  obtain ⟨⟨hIM, S⟩, ic⟩ := h
  refine ⟨⟨hIM, ?_⟩, ic⟩
  obtain ⟨⟨a1, a2, a3, a4, a5, a6, a7⟩, ⟨b1, b2, b3, b4⟩, ⟨c1, c2⟩, hd, he, hk⟩ := S
  refine ⟨⟨?_, ?_, ?_, ?_, ?_, ?_, ?_⟩, ⟨?_, ?_, ?_, ?_⟩, ⟨?_, ?_⟩, ?_, ?_, ?_⟩
  · simpa [sx_app] using a1
  · simpa [sx_app] using a2
  · simpa [sx_app] using a3
  · simpa [sx_app] using a4
  · simpa [sx_app] using a5
  · simpa [sx_app] using a6
  · simpa [sx_app] using a7
  · simpa [sx_app] using b1
  · simpa [sx_app] using b2
  · simpa [sx_app] using b3
  · simpa [sx_app] using b4
  · simpa [sx_app] using c1
  · simpa [sx_app] using c2
  · simpa [sx_app] using hd
  · simpa [sx_app] using he
  · simpa [sx_app] using hk
theorem run10 {pf : Int32 → st → Option (Nat × st)} {m v b : Int32} {y : st} : f_X10_run pf m v b y = if (m < 0 ∨ 8 ≤ m) ∨ (b < 0 ∨ 501 ≤ b) then some (-1, y) else f_X4_start pf m v b (y 0 0 1) y := by
  unfold f_X10_run f_X10_run_b19
  rw [bnd_of within_eq]
  by_cases hm : m < 0 ∨ 8 ≤ m
  · rw [if_pos hm, if_pos rfl, if_pos (Or.inl hm)]
  · rw [if_neg hm, if_neg (by decide), bnd_of within_eq]
    by_cases hb : b < 0 ∨ 501 ≤ b
    · rw [if_pos hb, if_pos rfl, if_pos (Or.inr hb)]
    · rw [if_neg hb, if_neg (by decide), if_neg (fun c => c.elim hm hb), bnd_id]
theorem run11 {fu : Nat} {m v b : Int32} {z : st} : f_X11_run fu m v b z = if (m < 0 ∨ 8 ≤ m) ∨ (b < 0 ∨ 501 ≤ b) then some (-1, z) else rest fu m v b (szZ z b) := by
  have hmw := in_within (v := m) (a := 7) (by omega)
  change (m < 0 ∨ 7 < m) ↔ (m < 0 ∨ 8 ≤ m) at hmw
  have hbw := in_within (v := b) (a := 500) (by omega)
  change (b < 0 ∨ 500 < b) ↔ (b < 0 ∨ 501 ≤ b) at hbw
  unfold f_X11_run f_X11_isMethod f_X11_run_b18
  rw [in_eq, bnd_of rfl]
  by_cases hm : m < 0 ∨ 8 ≤ m
  · rw [if_pos (hmw.mpr hm), if_pos (Or.inl hm)]
    rfl
  · rw [if_neg (fun c => hm (hmw.mp c))]
    rw [show isz 1 = true from rfl, if_pos rfl, bnd_of rfl, if_neg (by decide), bnd_of in_eq]
    by_cases hb : b < 0 ∨ 501 ≤ b
    · rw [if_pos (hbw.mpr hb), if_pos rfl, if_pos (Or.inr hb)]
    · rw [if_neg (fun c => hb (hbw.mp c)), if_neg (by decide), if_neg (fun c => c.elim hm hb)]
      exact b23_run 9 100 0 z (by omega) (by omega)
/-- run: both sides -/
theorem run_pair {y z : st} {m v b : Int32} (h : Sim y z) : ∃ fu r y' z', f_X10_run (pfn 12) m v b y = some (r, y') ∧ f_X11_run fu m v b z = some (r, z') ∧ Sim y' z' ∧ (∀ k, 15 ≤ k → y' k = y k) ∧ (∀ k, k < 30 → z' k = z k) := by
  by_cases hbad : (m < 0 ∨ 8 ≤ m) ∨ (b < 0 ∨ 501 ≤ b)
  · exact ⟨0, -1, y, z, by rw [run10, if_pos hbad], by rw [run11, if_pos hbad], h, fun _ _ => rfl, fun _ _ => rfl⟩
  · have hmn : ¬ m < 0 := fun q => hbad (Or.inl (Or.inl q))
    have hbn : ¬ b < 0 := fun q => hbad (Or.inr (Or.inl q))
    obtain ⟨mm, hmm, rfl⟩ := nI_of hmn
    obtain ⟨bb, hbb, rfl⟩ := nI_of hbn
    have hm8 : mm < 8 := by
      have : ¬ (8 : Int32) ≤ nI mm := fun q => hbad (Or.inl (Or.inr q))
      rw [n8, nI_leI (by decide) (by omega)] at this; omega
    have hb5 : bb ≤ 500 := by
      have : ¬ (501 : Int32) ≤ nI bb := fun q => hbad (Or.inr (Or.inr q))
      rw [show (501 : Int32) = nI 501 from rfl, nI_leI (by decide) (by omega)] at this; omega
    have hD := start_DG h (isN.of hb5 (by omega))
    obtain ⟨w1, w2, w3, w4, w5, w6, w7, w8⟩ := szZ_30 (z := z) (b := nI bb)
    obtain ⟨s40, s41, s42, s43, s44, s45, s46, s54, s55⟩ := syY_4 (y := y) (b := nI bb) (r := y 0 0 1)
    have k0z : ∀ k, k < 30 → szZ z (nI bb) k = z k := fun k hk => szZ_k (by omega)
    have k4z : ∀ k, 40 ≤ k → k ≤ 54 → szZ z (nI bb) k = z k := fun k _ _ => szZ_k (by omega)
    have k15y : ∀ k, 15 ≤ k → syY y (nI bb) (y 0 0 1) k = y k := fun k hk => syY_k (by omega)
    have hIP1 : IP (syY y (nI bb) (y 0 0 1)) := by
      intro m hm
      rw [k15y 21 (by decide), k15y 22 (by decide), k15y 23 (by decide), k15y 24 (by decide), k15y 25 (by decide), k15y 26 (by decide), k15y 18 (by decide), k15y 19 (by decide), k15y 20 (by decide)]
      exact h.1 m hm
    have hSP1 : SP (syY y (nI bb) (y 0 0 1)) (szZ z (nI bb)) := by
      intro m hm
      rw [k15y 21 (by decide), k15y 22 (by decide), k15y 23 (by decide), k15y 18 (by decide), k15y 19 (by decide), k15y 20 (by decide), k4z 40 (by decide) (by decide), k4z 46 (by decide) (by decide), k4z 51 (by decide) (by decide)]
      obtain ⟨h1, h2, h3, h4⟩ := h.2.1 m hm
      refine ⟨h1, fun j hj s hs => ?_, fun j hj s hs => ?_, fun j hj s hs => ?_⟩
      · rw [k4z (41 + s) (by omega) (by omega)]; exact h2 j hj s hs
      · rw [k4z (47 + s) (by omega) (by omega)]; exact h3 j hj s hs
      · rw [k4z (52 + s) (by omega) (by omega)]; exact h4 j hj s hs
    have hy20 : syY y (nI bb) (y 0 0 1) 2 0 0 = 0 := syY_2 (by omega)
    have hy21 : syY y (nI bb) (y 0 0 1) 2 0 1 = 0 := syY_2 (by omega)
    have hz80 : szZ z (nI bb) 80 0 0 = 0 := szZ_80 (by omega)
    have hz81 : szZ z (nI bb) 80 0 1 = 0 := szZ_80 (by omega)
    have hy0 : syY y (nI bb) (y 0 0 1) 0 = y 0 := syY_k (by decide)
    have hst : ∀ pf, f_X4_start pf (nI mm) v (nI bb) (y 0 0 1) y = bnd (f_X4_callFrame pf (nI mm) v (-3) 1 (syY y (nI bb) (y 0 0 1))) fun r11 x10 => if r11 < 5 then if r11 = 1 then some (0, sx x10 2 0 0 (x10 1 0 5)) else if r11 < 5 then if r11 = 2 then some (2, sx x10 2 0 1 (x10 1 0 6)) else some (1, x10) else none else none := fun pf => rfl
    rw [run10, if_neg hbad, hst]
    generalize hys : syY y (nI bb) (y 0 0 1) = ys at *
    generalize hzs : szZ z (nI bb) = zs at *
    by_cases hfit : fitY ys 1
    · have hcz : f_X11_counts zs = some (1, cntZ zs 1) := counts_of (take_fit ((fit_eq hD.1.2).mpr hfit)) (Or.inr rfl)
      obtain ⟨d1, kc1, kr1, r1, s1, k1, e46, e45⟩ := cnt_pair (n := 1) hD (by omega) hfit
      rw [show nI 1 = (1 : Int32) from rfl] at d1 kc1 kr1 r1 s1 k1 e46 e45
      obtain ⟨d2, kc2, kr2, sf2, if2⟩ := mk_pair (f := 0) (m := nI mm) (num := v) (row := -3) (cl := 0) d1
      have sf2' := sf2 (fun f hf => by omega)
      have if2' := if2 (fun f hf => by omega) (isN.of (by omega) (by omega)) (Or.inl rfl)
      have hmk := makeFrame_ok (m := nI mm) (num := v) (row := -3) (f := 0) (by omega) hfit
      change f_X4_makeFrame _ _ _ 1 ys = some (0, nfY (cntY ys 1) 0 (nI mm) v (-3)) at hmk
      have hmz : (fun (_ : Int32) (x19 : st) => sx x19 59 0 0 v) 1 (mk2 (mk1 (mk0 (cntZ zs 1) 0 (nI mm)) 0 0) 0) = mkZ (cntZ zs 1) 0 (nI mm) v (-3) 0 := first_eq
      have hrest : ∀ fu, rest fu (nI mm) v (nI bb) zs = f_X11_run_b120 fu fu (mkZ (cntZ zs 1) 0 (nI mm) v (-3) 0) := by
        intro fu
        unfold rest
        rw [bnd_of hcz, if_neg (by decide), bnd_of (makes_first (d := 0) (by omega) (Or.inl rfl) (by rw [cntZ_k (by decide)]; exact w7)), first_eq]
      have z30 : ∀ j, mkZ (cntZ zs 1) 0 (nI mm) v (-3) 0 30 0 j = if j = 16 then nI 1 else zs 30 0 j := by
        intro j; rw [mkZ_30, cntZ_k (by decide)]
      have z62 : mkZ (cntZ zs 1) 0 (nI mm) v (-3) 0 62 0 0 = 0 := by rw [mkZ_1.2.2.2.1, if_pos rfl]
      have y14 : nfY (cntY ys 1) 0 (nI mm) v (-3) 4 0 6 = 0 := by rw [nfY_k (by decide), e46]; exact s46
      have hkr : KR 0 zs (mkZ (cntZ zs 1) 0 (nI mm) v (-3) 0) := (kr1 0).tr kr2
      have hkc : KC 0 ys (nfY (cntY ys 1) 0 (nI mm) v (-3)) := (kc1 0).tr kc2
      generalize nfY (cntY ys 1) 0 (nI mm) v (-3) = y1 at *
      generalize mkZ (cntZ zs 1) 0 (nI mm) v (-3) 0 = z1 at *
      have hTR1 : TR 0 z1 := ⟨by rw [z30]; simp, by rw [z30]; simp [w8], z62, Or.inl (by rw [z30]; simp [w4])⟩
      obtain ⟨o, y', hpf1, hQp, hcs⟩ := PF_all 11 0 (by omega) y1 z1 (hIP1.kc hkc) (hSP1.kc hkc hkr.1) d2 if2' sf2' hTR1
      have hcall : f_X4_callFrame (pfn 12) (nI mm) v (-3) 1 ys = some (o, y') := by
        unfold f_X4_callFrame
        rw [bnd_of hmk, if_pos (by decide), if_pos rfl, bnd_id]
        exact hpf1
      rw [bnd_of hcall]
      have hkcA : KC 0 ys y' := hkc.tr hQp.1
      have ky15 : ∀ k, 15 ≤ k → y' k = y k := fun k hk => (hkcA.1 k hk).trans (k15y k hk)
      have ky0 : y' 0 = y 0 := hkcA.2.1.trans hy0
      have kg : y' 2 0 0 = 0 := hkcA.2.2.1.2.2.1.trans hy20
      have kt : y' 2 0 1 = 0 := hkcA.2.2.1.2.2.2.1.trans hy21
      have k42 : y' 4 0 2 = 0 ∨ y' 4 0 2 = 1 := hkcA.2.2.1.2.2.2.2.imp (fun c => c.trans s42) id
      rcases hcs with ⟨ho, e6, z2, zp, g1, g2, g3, g4, g5, g6, g7, g8⟩ | ⟨ho, e6, z2, zp, g1, g2, g3, g4, g5, g6, g7⟩ | ⟨ho, e6, z2, g1, g2, g3, g4, g5, g6, g7⟩ | ⟨ho, z2, g1, g2, g3, g4, g5, g6⟩
      · subst ho
        rw [if_pos (by decide), if_pos rfl]
        have hkz : K0 zs zp := hkr.1.tr g5.1
        have hga : f_X11_gave (nI 0) (y' 1 0 5) zp = some (sx (sx (sx zp 80 0 0 (y' 1 0 5)) 30 0 35 0) 30 0 36 1) := by
          unfold f_X11_gave
          rw [g6, if_pos (show nI 0 = 0 from rfl), i_0_9, if_pos rfl]
          rfl
        obtain ⟨n, hn⟩ := g1.tr (Rch.hd g2 (g3.trans hga) Rch.rf)
        have h37 : zp 30 0 37 = 0 := by rw [g4.1.2.1.2.2.2.2.2.2, e6, y14]
        refine ⟨n + 1, 0, _, sx (sx (sx zp 80 0 0 (y' 1 0 5)) 30 0 35 0) 30 0 36 1, rfl, by rw [run11, if_neg hbad, hzs, hrest, b120_run n _ _ hn (by simp [sx_app])]; unfold finR; rw [if_pos (by simp [sx_app, h37])]; simp [sx_app], ?_, ?_, ?_⟩
        · refine Sim_of h (fun k hk => by rw [sx_k _ (by omega)]; exact ky15 k hk) (by rw [sx_k _ (by decide)]; exact ky0) (fun k h1 h2 => by rw [sx_k _ (by omega), sx_k _ (by omega), sx_k _ (by omega), hkz.2.1 k h1 h2]; exact k4z k h1 h2) (by simp [sx_app]; exact hkz.2.2.1.trans w2) (g4.fin (Or.inl rfl)) (by rw [sx_k _ (by decide)]; exact k42) (by simp [sx_app]) ?_
          simp [sx_app]
          rw [kt]
          exact hkz.2.2.2.2.2.trans hz81
        · intro k hk; rw [sx_k _ (by omega)]; exact ky15 k hk
        · intro k hk; rw [sx_k _ (by omega), sx_k _ (by omega), sx_k _ (by omega)]; exact (hkz.1 k hk).trans (k0z k hk)
      · subst ho
        rw [if_pos (by decide), if_neg (by decide), if_pos (by decide), if_pos rfl]
        have hkz : K0 zs zp := hkr.1.tr g5.1
        have g4' : DG y' (sx zp 30 0 16 0) := g4.z (fun k h1 _ => sx_k _ h1) (fun j hj => by rw [sx_app, if_neg (by omega)])
        have hth : thr (y' 1 0 6) 0 zp = some (sx (sx (sx (sx zp 30 0 16 0) 80 0 1 (y' 1 0 6)) 30 0 35 2) 30 0 36 1) := rfl
        obtain ⟨n, hn⟩ := g1.tr (Rch.hd g2 (g3.trans hth) Rch.rf)
        have h37 : zp 30 0 37 = 0 := by rw [g4.1.2.1.2.2.2.2.2.2, e6, y14]
        refine ⟨n + 1, 2, _, sx (sx (sx (sx zp 30 0 16 0) 80 0 1 (y' 1 0 6)) 30 0 35 2) 30 0 36 1, rfl, by rw [run11, if_neg hbad, hzs, hrest, b120_run n _ _ hn (by simp [sx_app])]; unfold finR; rw [if_pos (by simp [sx_app, h37])]; simp [sx_app], ?_, ?_, ?_⟩
        · refine Sim_of h (fun k hk => by rw [sx_k _ (by omega)]; exact ky15 k hk) (by rw [sx_k _ (by decide)]; exact ky0) (fun k h1 h2 => by rw [sx_k _ (by omega), sx_k _ (by omega), sx_k _ (by omega), sx_k _ (by omega), hkz.2.1 k h1 h2]; exact k4z k h1 h2) (by simp [sx_app]; exact hkz.2.2.1.trans w2) (g4'.fin (Or.inr rfl)) (by rw [sx_k _ (by decide)]; exact k42) ?_ (by simp [sx_app])
          simp [sx_app]
          rw [kg]
          exact hkz.2.2.2.2.1.trans hz80
        · intro k hk; rw [sx_k _ (by omega)]; exact ky15 k hk
        · intro k hk; rw [sx_k _ (by omega), sx_k _ (by omega), sx_k _ (by omega), sx_k _ (by omega)]; exact (hkz.1 k hk).trans (k0z k hk)
      · subst ho
        rw [if_pos (by decide), if_neg (by decide), if_pos (by decide), if_neg (by decide)]
        have hkz : K0 zs z2 := hkr.1.tr g3.1
        obtain ⟨n, hn⟩ := g1
        have h36 := g6 rfl
        refine ⟨n + 1, 1, _, _, rfl, by rw [run11, if_neg hbad, hzs, hrest, b120_run n _ _ hn (by rw [h36]; decide)]; unfold finR; rw [if_neg (by rw [g3.2.2.1]; decide)], ?_, ky15, ?_⟩
        · exact Sim_of h ky15 ky0 (fun k h1 h2 => by rw [sx_k _ (by omega), sx_k _ (by omega), sx_k _ (by omega), hkz.2.1 k h1 h2]; exact k4z k h1 h2) (by simp [sx_app]; exact hkz.2.2.1.trans w2) (finR_stop g2 kg kt) k42 (by simp [sx_app, kg]) (by simp [sx_app, kt])
        · intro k hk; rw [sx_k _ (by omega), sx_k _ (by omega), sx_k _ (by omega)]; exact (hkz.1 k hk).trans (k0z k hk)
      · subst ho
        rw [if_pos (by decide), if_neg (by decide), if_pos (by decide), if_neg (by decide)]
        have hkz : K0 zs z2 := hkr.1.tr g3
        obtain ⟨n, hn⟩ := g1
        refine ⟨n + 1, 1, _, _, rfl, by rw [run11, if_neg hbad, hzs, hrest, b120_run n _ _ hn (by rw [g4]; decide)]; unfold finR; rw [if_neg (by rw [g5]; decide)], ?_, ky15, ?_⟩
        · exact Sim_of h ky15 ky0 (fun k h1 h2 => by rw [sx_k _ (by omega), sx_k _ (by omega), sx_k _ (by omega), hkz.2.1 k h1 h2]; exact k4z k h1 h2) (by simp [sx_app]; exact hkz.2.2.1.trans w2) (finR_stop g2 kg kt) k42 (by simp [sx_app, kg]) (by simp [sx_app, kt])
        · intro k hk; rw [sx_k _ (by omega), sx_k _ (by omega), sx_k _ (by omega)]; exact (hkz.1 k hk).trans (k0z k hk)
    · have hov : f_X11_over zs = some (ovS zs 0) := over_stop (by omega) w4 w7 (fun j hj => by omega)
      have hcz : f_X11_counts zs = some (0, ovS zs 0) := counts_of (take_over (fun q => hfit ((fit_eq hD.1.2).mp q)) hov) (Or.inl rfl)
      obtain ⟨d1, ks⟩ := stop_pair (d := 0) hD s46
      have hmk := makeFrame_no (m := nI mm) (num := v) (row := -3) (v := 1) hfit (refuse_0 s46) (by omega)
      have hcall : f_X4_callFrame (pfn 12) (nI mm) v (-3) 1 ys = some (3, sx ys 4 0 6 1) := by
        unfold f_X4_callFrame
        rw [bnd_of hmk, if_pos (by decide), if_neg (by decide)]
      rw [bnd_of hcall, if_pos (by decide), if_neg (by decide), if_pos (by decide), if_neg (by decide)]
      have d2 : DG (sx ys 4 0 6 1) (sx (ovS zs 0) 30 0 35 1) := d1.z (fun k h1 _ => sx_k _ h1) (fun j hj => by rw [sx_app, if_neg (by omega)])
      refine ⟨0, 1, _, _, rfl, by rw [run11, if_neg hbad, hzs]; unfold rest; rw [bnd_of hcz, if_pos rfl], ?_, ?_, ?_⟩
      · exact Sim_of h (fun k hk => by rw [sx_k _ (by omega)]; exact k15y k hk) (by rw [sx_k _ (by decide)]; exact hy0) (fun k h1 h2 => by rw [sx_k _ (by omega), ks.1.2.1 k h1 h2]; exact k4z k h1 h2) (by simp [sx_app]; exact ks.1.2.2.1.trans w2) d2 (by simp [sx_app, s42]) (by simp [sx_app]; rw [hy20]; exact ks.1.2.2.2.2.1.trans hz80) (by simp [sx_app]; rw [hy21]; exact ks.1.2.2.2.2.2.trans hz81)
      · intro k hk; rw [sx_k _ (by omega)]; exact k15y k hk
      · intro k hk; rw [sx_k _ (by omega)]; exact (ks.1.1 k hk).trans (k0z k hk)
