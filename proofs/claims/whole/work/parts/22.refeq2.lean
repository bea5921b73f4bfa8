theorem st_ext {x y : st} (h : ∀ k i j, x k i j = y k i j) : x = y := funext fun k => funext fun i => funext fun j => h k i j
theorem sx_self {x : st} {k i j : Nat} {v : Int32} (h : x k i j = v) : sx x k i j v = x := by
  apply st_ext
  intro a b c
  rw [sx_app]
  by_cases q : a = k ∧ b = i ∧ c = j
  · rw [if_pos q]; obtain ⟨rfl, rfl, rfl⟩ := q; exact h.symm
  · rw [if_neg q]
def fl59 (z : st) (d i : Nat) : st := sxA z 59 0 (fun j => if 6 * d + i ≤ j ∧ j < 6 * d + 6 then 0 else z 59 0 j)
def fl60 (z : st) (d i : Nat) : st := sxA z 60 0 (fun j => if 3 * d + i ≤ j ∧ j < 3 * d + 3 then (-3) else z 60 0 j)
theorem makes_l59 {d : Nat} (hd : d < 12) {a b c w : Int32} : ∀ (r n i : Nat) (z : st), i + r = 6 → r < n → z 30 0 16 = nI d → f_X11_makes_b34 n a b c w (nI i) z = f_X11_makes_b66 100 a b c w 0 (fl59 z d i) := by
  intro r
  induction r with
  | zero =>
    intro n i z hi hn h16
    obtain ⟨n, rfl⟩ : ∃ q, n = q + 1 := ⟨n - 1, by omega⟩
    have hi6 : i = 6 := by omega
    subst hi6
    unfold f_X11_makes_b34
    rw [if_pos (by decide)]
    congr 1
    apply st_ext
    intro k q j
    unfold fl59
    rw [sxA_app]
    by_cases h : k = 59 ∧ q = 0
    · rw [if_pos h, if_neg (by omega)]; obtain ⟨rfl, rfl⟩ := h; rfl
    · rw [if_neg h]
  | succ r ih =>
    intro n i z hi hn h16
    obtain ⟨n, rfl⟩ : ∃ q, n = q + 1 := ⟨n - 1, by omega⟩
    have e5 : (6 : Int32) * nI d + nI i = nI (6 * d + i) := by rw [n6, pk_mul, nI_add]
    have e6 : inb (nI (6 * d + i)) 78 = true := inb_nI (by omega) (by decide)
    have e7 : (nI (6 * d + i)).toNatClampNeg = 6 * d + i := nI_clamp (by omega)
    unfold f_X11_makes_b34
    rw [n6, if_neg (nI_ge (by omega) (by decide)), ← n6, h16, e5, e6, if_pos rfl, e7]
    simp only [lets]
    rw [nI_add1, ih n (i + 1) _ (by omega) (by omega) (by simp [sx_app, h16])]
    congr 1
    apply st_ext
    intro k q j
    unfold fl59
    rw [sxA_app, sxA_app]
    by_cases h : k = 59 ∧ q = 0
    · obtain ⟨rfl, rfl⟩ := h
      simp only [true_and, if_true, sx_app]
      by_cases hj : j = 6 * d + i
      · subst hj
        rw [if_neg (by omega), if_pos rfl, if_pos (by omega)]
      · by_cases hr : 6 * d + (i + 1) ≤ j ∧ j < 6 * d + 6
        · rw [if_pos hr, if_pos (by omega)]
        · rw [if_neg hr, if_neg hj, if_neg (by omega)]
    · rw [if_neg h, if_neg h, sx_app, if_neg (fun c => h ⟨c.1, c.2.1⟩)]
/-- what 'makes' leaves: a FRAME on top -/
def mk1 (z : st) (d : Nat) (cl : Int32) : st := sx (sx (sx z 61 0 d cl) 62 0 d 0) 66 0 d 0
def mk2 (z : st) (d : Nat) : st := sx (sx (sx z 30 0 16 (nI (d + 1))) 80 0 4 (z 80 0 4 + 1)) 80 0 8 (if nI (d + 1) ≤ z 80 0 8 then z 80 0 8 else nI (d + 1))
theorem makes_tail {z : st} {d : Nat} (hd : d < 12) {cl : Int32} (hc : cl = 0 ∨ cl = 1) (h16 : z 30 0 16 = nI d) : f_X11_makes_b143 cl z = some (1, mk2 (mk1 z d cl) d) := by
  have e1 : inb (nI d) 13 = true := inb_nI (by omega) (by decide)
  have e2 : (nI d).toNatClampNeg = d := nI_clamp (by omega)
  have e3 : isz cl = true := by rcases hc with rfl | rfl <;> rfl
  have a1 : (sx z 61 0 d cl) 30 0 16 = nI d := by simp [sx_app, h16]
  have a2 : (sx (sx z 61 0 d cl) 62 0 d 0) 30 0 16 = nI d := by simp [sx_app, h16]
  have a3 : (mk1 z d cl) 30 0 16 = nI d := by simp [mk1, sx_app, h16]
  unfold f_X11_makes_b143
  simp only [lets]
  rw [h16, e1, if_pos rfl, e3, if_pos rfl, e2, a1, e1, if_pos rfl, e2, a2, e1, if_pos rfl, e2]
  show (let x11 := mk1 z d cl; _) = _
  simp only [i_4_9, i_8_9, c4, c8, if_true]
  rw [show sx (sx (sx z 61 0 d cl) 62 0 d 0) 66 0 d 0 = mk1 z d cl from rfl, a3, nI_add1]
  have b1 : (sx (sx (mk1 z d cl) 30 0 16 (nI (d + 1))) 80 0 4 (sx (mk1 z d cl) 30 0 16 (nI (d + 1)) 80 0 4 + 1)) 30 0 16 = nI (d + 1) := by simp [sx_app]
  have b2 : (sx (sx (mk1 z d cl) 30 0 16 (nI (d + 1))) 80 0 4 (sx (mk1 z d cl) 30 0 16 (nI (d + 1)) 80 0 4 + 1)) 80 0 8 = mk1 z d cl 80 0 8 := by simp [sx_app]
  have b3 : (sx (mk1 z d cl) 30 0 16 (nI (d + 1))) 80 0 4 = mk1 z d cl 80 0 4 := by simp [sx_app]
  rw [b1, b2, b3]
  unfold f_X11_makes_b228 mk2
  simp only [lets, i_8_9, c8, if_true]
  by_cases h : nI (d + 1) ≤ mk1 z d cl 80 0 8
  · rw [if_pos h, if_pos h]
  · rw [if_neg h, if_neg h]
theorem makes_l60 {d : Nat} (hd : d < 12) {a b c w : Int32} : ∀ (r n i : Nat) (z : st), i + r = 3 → r < n → z 30 0 16 = nI d → ∃ n', f_X11_makes_b66 n a b c w (nI i) z = f_X11_makes_b66 (n' + 1) a b c w 3 (fl60 z d i) := by
  intro r
  induction r with
  | zero =>
    intro n i z hi hn h16
    obtain ⟨n, rfl⟩ : ∃ q, n = q + 1 := ⟨n - 1, by omega⟩
    have hi6 : i = 3 := by omega
    subst hi6
    refine ⟨n, ?_⟩
    congr 1
    apply st_ext
    intro k q j
    unfold fl60
    rw [sxA_app]
    by_cases h : k = 60 ∧ q = 0
    · rw [if_pos h, if_neg (by omega)]; obtain ⟨rfl, rfl⟩ := h; rfl
    · rw [if_neg h]
  | succ r ih =>
    intro n i z hi hn h16
    obtain ⟨n, rfl⟩ : ∃ q, n = q + 1 := ⟨n - 1, by omega⟩
    have e5 : (3 : Int32) * nI d + nI i = nI (3 * d + i) := by rw [n3, pk_mul, nI_add]
    have e6 : inb (nI (3 * d + i)) 39 = true := inb_nI (by omega) (by decide)
    have e7 : (nI (3 * d + i)).toNatClampNeg = 3 * d + i := nI_clamp (by omega)
    obtain ⟨n', hn'⟩ := ih n (i + 1) (sx z 60 0 (3 * d + i) (-3)) (by omega) (by omega) (by simp [sx_app, h16])
    refine ⟨n', ?_⟩
    conv => lhs; unfold f_X11_makes_b66
    rw [n3, if_neg (nI_ge (by omega) (by decide)), ← n3, h16, e5, e6, if_pos rfl, e7]
    simp only [lets]
    rw [nI_add1, hn']
    congr 1
    apply st_ext
    intro k q j
    unfold fl60
    rw [sxA_app, sxA_app]
    by_cases h : k = 60 ∧ q = 0
    · obtain ⟨rfl, rfl⟩ := h
      simp only [true_and, if_true, sx_app]
      by_cases hj : j = 3 * d + i
      · subst hj
        rw [if_neg (by omega), if_pos rfl, if_pos (by omega)]
      · by_cases hr : 3 * d + (i + 1) ≤ j ∧ j < 3 * d + 3
        · rw [if_pos hr, if_pos (by omega)]
        · rw [if_neg hr, if_neg hj, if_neg (by omega)]
    · rw [if_neg h, if_neg h, sx_app, if_neg (fun c => h ⟨c.1, c.2.1⟩)]
def mk0 (z : st) (d : Nat) (m : Int32) : st := fl60 (fl59 (sx (sx z 57 0 d m) 58 0 d 0) d 0) d 0
def mkN (z : st) (d : Nat) (num row : Int32) : st := sx (sx z 59 0 (6 * d) num) 60 0 (3 * d) row
theorem mk0_16 {z : st} {d : Nat} {m : Int32} : mk0 z d m 30 0 16 = z 30 0 16 := by
  simp [mk0, fl60, fl59, sxA_app, sx_app]
theorem makes_first {z : st} {d : Nat} (hd : d < 12) {m cl : Int32} (hc : cl = 0 ∨ cl = 1) (h16 : z 30 0 16 = nI d) : f_X11_makes m (-1) 0 0 cl z = some (1, mk2 (mk1 (mk0 z d m) d cl) d) := by
  have e1 : inb (nI d) 13 = true := inb_nI (by omega) (by decide)
  have e2 : (nI d).toNatClampNeg = d := nI_clamp (by omega)
  unfold f_X11_makes
  simp only [lets]
  rw [h16, n12, if_neg (fun q => by have := (nI_eq (by omega) (by decide)).mp q; omega), e1, if_pos rfl, e2, show (sx z 57 0 d m) 30 0 16 = nI d from by simp [sx_app, h16], e1, if_pos rfl, e2]
  rw [show (0 : Int32) = nI 0 from rfl, makes_l59 hd 6 100 0 _ (by omega) (by omega) (by simp [sx_app, h16])]
  obtain ⟨n', hn'⟩ := makes_l60 hd (a := -1) (b := nI 0) (c := nI 0) (w := cl) 3 100 0 (fl59 (sx (sx z 57 0 d m) 58 0 d (nI 0)) d 0) (by omega) (by omega) (by simp [fl59, sxA_app, sx_app, h16])
  rw [show (0 : Int32) = nI 0 from rfl, hn']
  unfold f_X11_makes_b66
  rw [if_pos (by decide), if_pos (by decide)]
  exact makes_tail hd hc (by rw [← h16]; exact mk0_16)
theorem makes_eq {z : st} {d p fn fr : Nat} (hd : d < 12) (hp : p < d) (hfn : fn < 6) (hfr : fr < 3) {m cl : Int32} (hc : cl = 0 ∨ cl = 1) (h16 : z 30 0 16 = nI d) :
    f_X11_makes m (nI p) (nI fn) (nI fr) cl z = some (1, mk2 (mk1 (mkN (mk0 z d m) d (z 59 0 (6 * p + fn)) (z 60 0 (3 * p + fr))) d cl) d) := by
  have e1 : inb (nI d) 13 = true := inb_nI (by omega) (by decide)
  have e2 : (nI d).toNatClampNeg = d := nI_clamp (by omega)
  unfold f_X11_makes
  simp only [lets]
  rw [h16, n12, if_neg (fun q => by have := (nI_eq (by omega) (by decide)).mp q; omega), e1, if_pos rfl, e2, show (sx z 57 0 d m) 30 0 16 = nI d from by simp [sx_app, h16], e1, if_pos rfl, e2]
  rw [show (0 : Int32) = nI 0 from rfl, makes_l59 hd 6 100 0 _ (by omega) (by omega) (by simp [sx_app, h16])]
  obtain ⟨n', hn'⟩ := makes_l60 hd (a := nI p) (b := nI fn) (c := nI fr) (w := cl) 3 100 0 (fl59 (sx (sx z 57 0 d m) 58 0 d (nI 0)) d 0) (by omega) (by omega) (by simp [fl59, sxA_app, sx_app, h16])
  rw [show (0 : Int32) = nI 0 from rfl, hn']
  unfold f_X11_makes_b66
  rw [if_pos (by decide), if_neg (nI_pos (by omega))]
  rw [show fl60 (fl59 (sx (sx z 57 0 d m) 58 0 d (nI 0)) d 0) d 0 = mk0 z d m from rfl, show mk0 z d m 30 0 16 = nI d from by rw [mk0_16, h16]]
  have a1 : (6 : Int32) * nI p + nI fn = nI (6 * p + fn) := by rw [n6, pk_mul, nI_add]
  have a2 : (3 : Int32) * nI p + nI fr = nI (3 * p + fr) := by rw [n3, pk_mul, nI_add]
  have a3 : (6 : Int32) * nI d = nI (6 * d) := by rw [n6, pk_mul]
  have a4 : (3 : Int32) * nI d = nI (3 * d) := by rw [n3, pk_mul]
  simp only [lets]
  rw [a1, a3, inb_nI (show 6 * p + fn < 78 by omega) (by decide), if_pos rfl, inb_nI (show 6 * d < 78 by omega) (by decide), if_pos rfl, nI_clamp (show 6 * p + fn < 2 ^ 31 by omega), nI_clamp (show 6 * d < 2 ^ 31 by omega)]
  rw [show (sx (mk0 z d m) 59 0 (6 * d) (mk0 z d m 59 0 (6 * p + fn))) 30 0 16 = nI d from by rw [sx_app, if_neg (by simp), mk0_16, h16]]
  rw [a2, a4, inb_nI (show 3 * p + fr < 39 by omega) (by decide), if_pos rfl, inb_nI (show 3 * d < 39 by omega) (by decide), if_pos rfl, nI_clamp (show 3 * p + fr < 2 ^ 31 by omega), nI_clamp (show 3 * d < 2 ^ 31 by omega)]
  have b1 : mk0 z d m 59 0 (6 * p + fn) = z 59 0 (6 * p + fn) := by
    unfold mk0 fl60 fl59
    rw [sxA_app, if_neg (by decide), sxA_app, if_pos ⟨rfl, rfl⟩, if_neg (by omega)]
    simp [sx_app]
  have b2 : (sx (mk0 z d m) 59 0 (6 * d) (z 59 0 (6 * p + fn))) 60 0 (3 * p + fr) = z 60 0 (3 * p + fr) := by
    rw [sx_app, if_neg (by simp)]
    unfold mk0 fl60 fl59
    rw [sxA_app, if_pos ⟨rfl, rfl⟩, if_neg (by omega), sxA_app, if_neg (by decide)]
    simp [sx_app]
  rw [b1, b2]
  exact makes_tail hd hc (by simp [sx_app, mk0_16, h16])
theorem makes_deep {z : st} {m a b c w : Int32} (h16 : z 30 0 16 = nI 12) : f_X11_makes m a b c w z = some (0, z) := by
  unfold f_X11_makes
  rw [h16, n12, if_pos rfl]
/-- a throw comes out of FRAME f -/
def thr (k : Int32) : Nat → st → Option st
  | 0, z => some (sx (sx (sx (sx z 30 0 16 0) 80 0 1 k) 30 0 35 2) 30 0 36 1)
  | f + 1, z => if z 61 0 (f + 1) = 0 then f_X11_raise (nI f) k (sx z 30 0 16 (nI (f + 1))) else if z 30 0 37 = 0 ∨ ¬ z 30 0 38 = nI f then thr k f (sx z 30 0 16 (nI (f + 1))) else some (sx z 30 0 16 (nI (f + 1)))
theorem throwOn_loop {k : Int32} : ∀ (f n : Nat) (z : st), f < 13 → f + 1 < n → f_X11_throwOn_b5 n k (nI f) 1 z = thr k f z := by
  intro f
  induction f with
  | zero =>
    intro n z hf hn
    obtain ⟨n, rfl⟩ : ∃ q, n = q + 1 := ⟨n - 1, by omega⟩
    obtain ⟨n, rfl⟩ : ∃ q, n = q + 1 := ⟨n - 1, by omega⟩
    unfold f_X11_throwOn_b5
    simp only [lets]
    rw [if_neg (by decide), inb_nI (by decide) (by decide), if_pos rfl, show (sx z 30 0 16 (nI 0)) 30 0 16 = 0 from by simp [sx_app]; rfl, if_pos (by decide)]
    unfold f_X11_throwOn_b59 f_X11_throwOn_b60 f_X11_throwOn_b93 f_X11_throwOn_b117
    rw [show (sx z 30 0 16 (nI 0)) 30 0 16 = 0 from by simp [sx_app]; rfl, if_pos rfl, if_pos (by decide), if_pos rfl, i_1_9, if_pos rfl]
    simp only [lets]
    unfold f_X11_throwOn_b5
    rw [if_pos rfl]
    rfl
  | succ f ih =>
    intro n z hf hn
    obtain ⟨n, rfl⟩ : ∃ q, n = q + 1 := ⟨n - 1, by omega⟩
    obtain ⟨n', rfl⟩ : ∃ q, n = q + 1 := ⟨n - 1, by omega⟩
    have e1 : (sx z 30 0 16 (nI (f + 1))) 30 0 16 = nI (f + 1) := by simp [sx_app]
    have e2 : ¬ nI (f + 1) ≤ 0 := nI_nle (by omega) (by omega)
    have e3 : nI (f + 1) - 1 = nI f := nI_pred f
    have e4 : (sx z 30 0 16 (nI (f + 1))) 61 0 (f + 1) = z 61 0 (f + 1) := by simp [sx_app]
    have e5 : (sx z 30 0 16 (nI (f + 1))) 30 0 37 = z 30 0 37 := by simp [sx_app]
    have e6 : (sx z 30 0 16 (nI (f + 1))) 30 0 38 = z 30 0 38 := by simp [sx_app]
    have b59 : f_X11_throwOn_b59 (f_X11_throwOn_b5 (n' + 1)) k (z 61 0 (f + 1)) (sx z 30 0 16 (nI (f + 1))) = if z 61 0 (f + 1) = 0 then f_X11_raise (nI f) k (sx z 30 0 16 (nI (f + 1))) else some (sx z 30 0 16 (nI (f + 1))) := by
      unfold f_X11_throwOn_b59 f_X11_throwOn_b60
      rw [if_pos rfl, e1, if_neg e2, e3]
      by_cases h0 : z 61 0 (f + 1) = 0
      · rw [if_pos h0, if_pos h0]
        unfold bnv f_X11_throwOn_b117
        cases f_X11_raise (nI f) k (sx z 30 0 16 (nI (f + 1))) with
        | none => rfl
        | some w => simp [f_X11_throwOn_b5]
      · rw [if_neg h0, if_neg h0]
        unfold f_X11_throwOn_b93 f_X11_throwOn_b117
        rw [e1, if_neg (nI_ne0 (by omega) (by omega))]
        unfold f_X11_throwOn_b5
        rw [if_pos rfl]
    have b55 : f_X11_throwOn_b55 (f_X11_throwOn_b5 (n' + 1)) k (z 61 0 (f + 1)) (sx z 30 0 16 (nI (f + 1))) = thr k f (sx z 30 0 16 (nI (f + 1))) := by
      unfold f_X11_throwOn_b55 f_X11_throwOn_b60
      rw [if_neg (by decide)]
      unfold f_X11_throwOn_b93 f_X11_throwOn_b117
      rw [e1, if_neg (nI_ne0 (by omega) (by omega)), e3]
      exact ih (n' + 1) _ (by omega) (by omega)
    unfold f_X11_throwOn_b5 thr
    simp only [lets]
    rw [if_neg (by decide), inb_nI hf (by decide), if_pos rfl, e1, if_neg e2, nI_clamp (by omega), e4, e5, e6, e3, b59, b55]
    by_cases h0 : z 61 0 (f + 1) = 0
    · simp only [h0, if_true]
    · simp only [h0, if_false]
      by_cases h37 : z 30 0 37 = 0
      · simp only [h37, if_true, true_or]
      · simp only [h37, if_false, false_or]
        by_cases h38 : z 30 0 38 = nI f
        · rw [if_pos h38, if_neg (fun q => q h38)]
        · rw [if_neg h38, if_pos h38]
theorem throwOn_eq {k : Int32} {f : Nat} {z : st} (hf : f < 13) : f_X11_throwOn (nI f) k z = thr k f z := throwOn_loop f 100 z hf (by omega)
theorem thrown_eq {k : Int32} {f : Nat} {z : st} (hf : f < 13) (h16 : z 30 0 16 = nI f) : f_X11_thrown (nI f) k z = thr k f z := by
  unfold f_X11_thrown
  cases f with
  | zero =>
    rw [h16, nI_0, if_pos rfl]
    unfold thr
    rw [i_1_9, if_pos rfl, sx_self (show z 30 0 16 = 0 from h16)]
    rfl
  | succ f =>
    have e3 : nI (f + 1) - 1 = nI f := nI_pred f
    unfold thr f_X11_thrown_b54
    rw [h16, if_neg (nI_ne0 (by omega) (by omega)), inb_nI hf (by decide), if_pos rfl, nI_clamp (by omega), e3, sx_self h16, throwOn_eq (by omega)]
    unfold bnv
    simp only [Option.bind_fun_some]
    by_cases h0 : z 61 0 (f + 1) = 0
    · rw [if_pos h0, if_pos h0]
    · rw [if_neg h0, if_neg h0]
      by_cases h37 : z 30 0 37 = 0
      · rw [if_pos h37, if_pos (Or.inl h37)]
      · rw [if_neg h37]
        by_cases h38 : z 30 0 38 = nI f
        · rw [if_pos h38, if_neg (fun q => q.elim h37 (fun c => c h38))]
        · rw [if_neg h38, if_pos (Or.inr h38)]
