/-! NEW: both sides -/
theorem nI_div8' : ∀ n : Fin 65, nI n.1 / 8 = nI (n.1 / 8) := by decide
theorem nI_div8 {n : Nat} (h : n ≤ 64) : nI n / 8 = nI (n / 8) := nI_div8' ⟨n, by omega⟩
theorem fill6 {e : Nat} (he : e ≤ 4800) {v : Int32} : ∀ (r n i : Nat) (x : st), i + r = e → r < n → f_J7_fill_fda19_6_b10 n (nI e) v (nI i) x = some (sxA x 6 0 (fun j => if i ≤ j ∧ j < e then v else x 6 0 j)) := by
  intro r
  induction r with
  | zero =>
    intro n i x hi hn
    obtain ⟨n, rfl⟩ : ∃ q, n = q + 1 := ⟨n - 1, by omega⟩
    have h6 : i = e := by omega
    subst h6
    unfold f_J7_fill_fda19_6_b10
    rw [if_pos (nI_le (Nat.le_refl _) (by omega))]
    congr 1
    apply st_ext
    intro k q j
    rw [sxA_app]
    by_cases h : k = 6 ∧ q = 0
    · obtain ⟨rfl, rfl⟩ := h
      rw [if_pos ⟨rfl, rfl⟩, if_neg (by omega)]
    · rw [if_neg h]
  | succ r ih =>
    intro n i x hi hn
    obtain ⟨n, rfl⟩ : ∃ q, n = q + 1 := ⟨n - 1, by omega⟩
    unfold f_J7_fill_fda19_6_b10
    rw [if_neg (nI_ge (by omega) (by omega)), inb_nI (show i < 4800 by omega) (by decide), if_pos rfl, nI_clamp (by omega)]
    simp only [lets]
    rw [nI_add1, ih n (i + 1) _ (by omega) (by omega)]
    congr 1
    apply st_ext
    intro k q j
    rw [sxA_app, sxA_app]
    by_cases h : k = 6 ∧ q = 0
    · rw [if_pos h, if_pos h]
      by_cases hj : j = i
      · subst hj
        rw [if_neg (by omega), if_pos (by omega), sx_app, if_pos ⟨rfl, rfl, rfl⟩]
      · by_cases hr : i + 1 ≤ j ∧ j < e
        · rw [if_pos hr, if_pos (by omega)]
        · rw [if_neg hr, if_neg (by omega), sx_app, if_neg (fun c => hj c.2.2)]
    · rw [if_neg h, if_neg h, sx_app, if_neg (fun c => h ⟨c.1, c.2.1⟩)]
def nrY (y : st) (f a c u n : Nat) (l : Int32) : st := sx (sx (sx (sx (sx (sx (sxA y 6 0 (fun j => if u ≤ j ∧ j < u + n then 0 else y 6 0 j)) 7 0 c (nI u)) 8 0 c (nI n)) 9 0 c l) 5 0 5 (nI (u + n))) 5 0 4 (nI (c + 1))) 14 f a (nI c)
def nrZ (z : st) (f a c u n : Nat) (l : Int32) : st := sx (sx (sx (sxA (sx (sx (sx z 70 0 c l) 71 0 c (nI n)) 72 0 c (nI u)) 73 0 (fun j => if u ≤ j ∧ j < u + n then 0 else z 73 0 j)) 30 0 29 (nI (u + n))) 60 0 (3 * f + a) (nI c)) 30 0 28 (nI (c + 1))
theorem nrY_k {y : st} {f a c u n : Nat} {l : Int32} {k : Nat} (h : k ≠ 5 ∧ k ≠ 6 ∧ k ≠ 7 ∧ k ≠ 8 ∧ k ≠ 9 ∧ k ≠ 14) : nrY y f a c u n l k = y k := by
  obtain ⟨h1, h2, h3, h4, h5, h6⟩ := h
  unfold nrY
  rw [sx_k _ h6, sx_k _ h1, sx_k _ h1, sx_k _ h5, sx_k _ h4, sx_k _ h3, sxA_k _ h2]
theorem nrZ_k {z : st} {f a c u n : Nat} {l : Int32} {k : Nat} (h : k ≠ 30 ∧ k ≠ 60 ∧ k ≠ 70 ∧ k ≠ 71 ∧ k ≠ 72 ∧ k ≠ 73) : nrZ z f a c u n l k = z k := by
  obtain ⟨h1, h2, h3, h4, h5, h6⟩ := h
  unfold nrZ
  rw [sx_k _ h1, sx_k _ h2, sx_k _ h1, sxA_k _ h6, sx_k _ h5, sx_k _ h4, sx_k _ h3]
theorem nrY_at {y : st} {f a c u n : Nat} {l : Int32} : (∀ j, nrY y f a c u n l 5 0 j = if j = 4 then nI (c + 1) else if j = 5 then nI (u + n) else y 5 0 j) ∧ (∀ j, nrY y f a c u n l 6 0 j = if u ≤ j ∧ j < u + n then 0 else y 6 0 j) ∧ (∀ j, nrY y f a c u n l 7 0 j = if j = c then nI u else y 7 0 j) ∧ (∀ j, nrY y f a c u n l 8 0 j = if j = c then nI n else y 8 0 j) ∧ (∀ j, nrY y f a c u n l 9 0 j = if j = c then l else y 9 0 j) ∧ (∀ i j, nrY y f a c u n l 14 i j = if i = f ∧ j = a then nI c else y 14 i j) := by
  unfold nrY
  refine ⟨?_, ?_, ?_, ?_, ?_, ?_⟩ <;> intros <;> simp [sx_app, sxA_app]
theorem nrZ_at {z : st} {f a c u n : Nat} {l : Int32} : (∀ j, nrZ z f a c u n l 30 0 j = if j = 28 then nI (c + 1) else if j = 29 then nI (u + n) else z 30 0 j) ∧ (∀ j, nrZ z f a c u n l 73 0 j = if u ≤ j ∧ j < u + n then 0 else z 73 0 j) ∧ (∀ j, nrZ z f a c u n l 72 0 j = if j = c then nI u else z 72 0 j) ∧ (∀ j, nrZ z f a c u n l 71 0 j = if j = c then nI n else z 71 0 j) ∧ (∀ j, nrZ z f a c u n l 70 0 j = if j = c then l else z 70 0 j) ∧ (∀ j, nrZ z f a c u n l 60 0 j = if j = 3 * f + a then nI c else z 60 0 j) := by
  unfold nrZ
  refine ⟨?_, ?_, ?_, ?_, ?_, ?_⟩ <;> intros <;> simp [sx_app, sxA_app]
theorem nr_pair {f m a c u n : Nat} {l : Int32} {y z0 z : st} (h : Wf f m y z0 z) (hc : y 5 0 4 = nI c) (hu : y 5 0 5 = nI u) (hc6 : c < 600) (hun : u + n ≤ 4800) (hcs : c + 1 ≤ stp y) (hus : u + n ≤ 8 * stp y) (hn : n ≤ 64) (ha : a < 3) : Wf f m (nrY y f a c u n l) z0 (nrZ z f a c u n l) ∧ Qk f y (nrY y f a c u n l) := by
  obtain ⟨hIP, hSP, ⟨⟨hIM, S⟩, ic⟩, hIF, hSF, hm, h5, hK, hTR, h61⟩ := h
  obtain ⟨Y5, Y6, Y7, Y8, Y9, Y14⟩ := nrY_at (y := y) (f := f) (a := a) (c := c) (u := u) (n := n) (l := l)
  obtain ⟨Z30, Z73, Z72, Z71, Z70, Z60⟩ := nrZ_at (z := z) (f := f) (a := a) (c := c) (u := u) (n := n) (l := l)
  have vc : nv (y 5 0 4) = c := by rw [hc, nv_nI (by omega)]
  have vu : nv (y 5 0 5) = u := by rw [hu, nv_nI (by omega)]
  have w4 : nrY y f a c u n l 5 0 4 = nI (c + 1) := by rw [Y5]; simp
  have w5 : nrY y f a c u n l 5 0 5 = nI (u + n) := by rw [Y5]; simp
  have v4 : nv (nrY y f a c u n l 5 0 4) = c + 1 := by rw [w4, nv_nI (by omega)]
  have v5 : nv (nrY y f a c u n l 5 0 5) = u + n := by rw [w5, nv_nI (by omega)]
  have kc : KC f y (nrY y f a c u n l) := by
    refine ⟨fun k hk => nrY_k (by omega), nrY_k (by decide), ⟨by rw [nrY_k (by decide)], by rw [nrY_k (by decide)], by rw [nrY_k (by decide)], by rw [nrY_k (by decide)], by rw [nrY_k (by decide)]; exact Or.inl rfl⟩, fun i hi => ⟨by rw [nrY_k (by decide)], by rw [nrY_k (by decide)], ?_⟩⟩
    funext j
    rw [Y14, if_neg (by omega)]
  have kr : KR f z (nrZ z f a c u n l) := by
    refine ⟨⟨fun k hk => nrZ_k (by omega), fun k _ _ => nrZ_k (by omega), by simp [Z30], by simp [Z30], by rw [nrZ_k (by decide)], by rw [nrZ_k (by decide)]⟩, ⟨fun i hi => ⟨?_, ?_, ?_, ?_, ?_, ?_, ?_⟩, fun i hi => ?_, fun i hi => ?_⟩, ⟨?_, ?_⟩, fun i hi => ⟨?_, ?_⟩⟩
    all_goals first | (rw [nrZ_k (by decide)]; done) | (simp [Z30]; done) | (rw [Z60, if_neg (by omega)])
  refine ⟨⟨hIP.kc kc, hSP.kc kc kr.1, ⟨⟨?_, ?_⟩, ?_⟩, ?_, ?_, by rw [nrY_k (by decide)]; exact hm, by rw [nrY_k (by decide)]; exact h5, hK.tr kr, ?_, by rw [nrZ_k (by decide)]; exact h61⟩, kc, by rw [rem_k (y := y) (nrY_k (by decide))]; exact Nat.le_refl _, by rw [v4, vc]; omega⟩
  · unfold IM
    rw [w4, w5, nv_nI (show c + 1 < 2 ^ 31 by omega), nv_nI (show u + n < 2 ^ 31 by omega), nrY_k (k := 4) (by decide)]
    obtain ⟨⟨i0, i1, i3, i4, i5, i6⟩, ⟨j0, j1⟩, ⟨r4, r5⟩, ⟨q4, q5⟩, hr⟩ := hIM
    unfold stp at hcs hus
    refine ⟨⟨i0, i1, i3, i4, i5, i6⟩, ⟨j0, j1⟩, ⟨isN.of (by omega) (by omega), isN.of (by omega) (by omega)⟩, ⟨by omega, by omega⟩, fun r hr1 => ?_⟩
    by_cases hrc : r = c
    · rw [Y7, Y8, if_pos hrc, if_pos hrc, nv_nI (by omega), nv_nI (by omega)]
      refine ⟨isN.of (by omega) (by omega), isN.of (by omega) (by omega), by omega, fun q hq => ?_⟩
      rw [Y7, Y8, if_neg (by omega), if_neg (by omega)]
      have := (hr q (by rw [vc]; omega)).2.2.1
      rw [vu] at this
      exact this
    · rw [Y7, Y8, if_neg hrc, if_neg hrc]
      obtain ⟨s1, s2, s3, s4⟩ := hr r (by rw [vc]; omega)
      refine ⟨s1, s2, by rw [vu] at s3; omega, fun q hq => ?_⟩
      rw [Y7, Y8, if_neg (by omega), if_neg (by omega)]
      exact s4 q hq
  · obtain ⟨⟨a1, a2, a3, a4, a5, a6, a7⟩, ⟨b1, b2, b3, b4⟩, ⟨c1, c2⟩, hd, he, hk⟩ := S
    unfold SG
    rw [nrY_k (k := 4) (by decide), nrY_k (k := 2) (by decide), nrY_k (k := 3) (by decide), nrZ_k (k := 80) (by decide), nrZ_k (k := 81) (by decide), nrZ_k (k := 82) (by decide), nrZ_k (k := 83) (by decide), w4, w5]
    refine ⟨⟨a1, a2, a3, ?_, ?_, ?_, ?_⟩, ⟨b1, b2, b3, b4⟩, ⟨?_, ?_⟩, fun j hj => ⟨?_, ?_, ?_⟩, fun j hj => ?_, hk⟩
    · simpa [Z30] using a4
    · simpa [Z30] using a5
    · simpa [Z30] using a6
    · simpa [Z30] using a7
    · simp [Z30]
    · simp [Z30]
    · rw [Z72, Y7, (hd j hj).1]
    · rw [Z71, Y8, (hd j hj).2.1]
    · rw [Z70, Y9, (hd j hj).2.2]
    · rw [Z73, Y6, he j hj]
  · unfold IC stp at ic ⊢
    rw [nrY_k (k := 2) (by decide), nrY_k (k := 4) (by decide)]
    exact ic
  · intro i hi
    obtain ⟨b1, b2, b3⟩ := hIF i hi
    rw [nrY_k (k := 12) (by decide), v4]
    refine ⟨b1, b2, fun j hj => ?_⟩
    rw [Y14]
    by_cases q : i = f ∧ j = a
    · rw [if_pos q, nv_nI (by omega)]
      exact Or.inr ⟨isN.of (by omega) (by omega), by omega⟩
    · rw [if_neg q]
      rcases b3 j hj with q | ⟨q1, q2⟩
      · exact Or.inl q
      · exact Or.inr ⟨q1, by omega⟩
  · intro i hi
    obtain ⟨b1, b2, b3, b4⟩ := hSF i hi
    rw [nrY_k (k := 12) (by decide), nrY_k (k := 13) (by decide), nrZ_k (k := 57) (by decide), nrZ_k (k := 58) (by decide), nrZ_k (k := 59) (by decide)]
    refine ⟨b1, b2, b3, fun j hj => ?_⟩
    rw [Z60, Y14]
    by_cases q : i = f ∧ j = a
    · rw [if_pos q, if_pos (by omega)]
    · rw [if_neg q, if_neg (by omega)]
      exact b4 j hj
  · unfold TR at hTR ⊢
    refine ⟨by simp [Z30, hTR.1], by simp [Z30, hTR.2.1], by rw [nrZ_k (by decide)]; exact hTR.2.2.1, hTR.2.2.2.of (by simp [Z30]) (by simp [Z30]) (Nat.le_refl _)⟩
theorem add_eq {c u n : Nat} {l : Int32} {y : st} (hc : y 5 0 4 = nI c) (hu : y 5 0 5 = nI u) (hc6 : c < 600) (hun : u + n ≤ 4800) (hn : n ≤ 64) : f_X9_add l (nI n) y = some (nI c, sx (sx (sx (sx (sx (sxA y 6 0 (fun j => if u ≤ j ∧ j < u + n then 0 else y 6 0 j)) 7 0 c (nI u)) 8 0 c (nI n)) 9 0 c l) 5 0 5 (nI (u + n))) 5 0 4 (nI (c + 1))) := by
  unfold f_X9_add f_J7_fill_fda19_6 f_J7_rangeCheck_23922
  rw [hc, hu, show (600 : Int32) = nI 600 from rfl, if_neg (nI_ge hc6 (by decide)), if_neg (nI_pos (by omega)), show (4800 : Int32) - nI u = nI (4800 - u) from by rw [show (4800 : Int32) = nI (4800 - u) + nI u from by rw [nI_add, Nat.sub_add_cancel (by omega)]; rfl, Int32.add_sub_cancel], if_pos (nI_le (by omega) (by omega)), nI_add]
  rw [if_pos (nI_le (by omega) (by omega)), if_pos (show (0 : Int32) ≤ nI u from by rw [n0]; exact nI_le (by omega) (by omega)), if_pos (show nI (u + n) ≤ (4800 : Int32) from by rw [show (4800 : Int32) = nI 4800 from rfl]; exact nI_le hun (by omega))]
  rw [bnv_of rfl, bnv_of (fill6 hun n 5000 u y (by omega) (by omega))]
  simp only [lets, sxA_app, sx_app]
  simp only [show ¬ ((5 : Nat) = 6) from by decide, false_and, if_false, hc, hu, inb_nI hc6 (by decide), nI_clamp (show c < 2 ^ 31 by omega), if_true]
  simp [hc, hu, nI_add, nI_add1, nI_clamp (show c < 2 ^ 31 by omega), inb_nI hc6 (by decide), nI_pred]
theorem newRow_ok {f q a c n u : Nat} {cc : Nat} {y : st} (hq1 : y 18 q 1 = nI a) (ha : a < 3) (hq3 : y 18 q 3 = nI cc) (hcc : cc < 6) (hn : y 13 f cc = nI n) (hn64 : n ≤ 64) (hfit : fitY y (nI (1 + n / 8))) (hc : y 5 0 4 = nI c) (hu : y 5 0 5 = nI u) (hc6 : c < 600) (hun : u + n ≤ 4800) : f_X4_newRow f q y = some (0, nrY (cntY y (nI (1 + n / 8))) f a c u n (y 18 q 2)) := by
  unfold f_X4_newRow f_X4_newRow_b25 f_X4_newRow_b46 f_X0_c f_X0_a f_X0_b
  rw [bnd_of rfl, hq3, inb_nI hcc (by decide), if_pos rfl, nI_clamp (show cc < 2 ^ 31 by omega), hn, if_neg (nI_pos (by omega)), show (64 : Int32) = nI 64 from rfl, if_neg (nI_nlt hn64 (by decide)), if_neg (by decide), nI_div8 hn64, n1, nI_add, bnd_of (count_fit hfit), if_pos (by decide), if_pos rfl, if_neg (by decide), bnd_of rfl, bnd_of rfl, cntY_k (k := 18) (by decide), hq1]
  rw [bnd_of (add_eq (by rw [cntY_k (by decide)]; exact hc) (by rw [cntY_k (by decide)]; exact hu) hc6 hun hn64), inb_nI ha (by decide), if_pos rfl, nI_clamp (show a < 2 ^ 31 by omega), lets_eq]
  rfl
theorem newRow_out {f q cc : Nat} {v : Int32} {y : st} (hq3 : y 18 q 3 = nI cc) (hcc : cc < 6) (hn : y 13 f cc = v) (hv : v < 0 ∨ 64 < v) : f_X4_newRow f q y = f_X4_newRow_b46 f q v 0 1 y := by
  unfold f_X4_newRow f_X4_newRow_b24 f_X4_newRow_b25 f_X0_c
  rw [bnd_of rfl, hq3, inb_nI hcc (by decide), if_pos rfl, nI_clamp (show cc < 2 ^ 31 by omega), hn]
  by_cases h : v < 0
  · rw [if_pos h, if_pos rfl]
  · rw [if_neg h, if_pos (hv.resolve_left h), if_pos rfl]
theorem news_loop {f q a n u c : Nat} (hq : q < 384) (ha : a < 3) (hf : f < 12) (hun : u + n ≤ 4800) : ∀ (r N i : Nat) (z : st), i + r = n → r < N → z 30 0 29 = nI u → z 30 0 28 = nI c → z 42 0 q = nI a →
    f_X11_news_b108 N (nI f) (nI q) (nI n) (nI i) z = f_X11_leave (nI f) (z 58 0 f + 1) 0 0 (sx (sx (sx (sxA z 73 0 (fun j => if u + i ≤ j ∧ j < u + n then 0 else z 73 0 j)) 30 0 29 (nI (u + n))) 60 0 (3 * f + a) (nI c)) 30 0 28 (nI (c + 1))) := by
  intro r
  induction r with
  | zero =>
    intro N i z hi hN h29 h28 h42
    obtain ⟨N, rfl⟩ : ∃ q, N = q + 1 := ⟨N - 1, by omega⟩
    have h6 : i = n := by omega
    subst h6
    have es : sxA z 73 0 (fun j => if u + i ≤ j ∧ j < u + i then 0 else z 73 0 j) = z := by
      apply st_ext
      intro k w j
      rw [sxA_app]
      by_cases h : k = 73 ∧ w = 0
      · obtain ⟨rfl, rfl⟩ := h
        rw [if_pos ⟨rfl, rfl⟩, if_neg (by omega)]
      · rw [if_neg h]
    have e5 : (3 : Int32) * nI f + nI a = nI (3 * f + a) := by rw [n3, pk_mul, nI_add]
    rw [es]
    unfold f_X11_news_b108
    rw [if_pos (nI_le (Nat.le_refl _) (by omega))]
    simp only [lets, h29, nI_add, inb_nI hq (by decide), if_true, nI_clamp (show q < 2 ^ 31 by omega), sx_app]
    simp only [show ¬ ((42 : Nat) = 30) from by decide, show ¬ ((30 : Nat) = 60) from by decide, show ¬ ((58 : Nat) = 30) from by decide, show ¬ ((58 : Nat) = 60) from by decide, false_and, if_false, h42, e5, inb_nI (show 3 * f + a < 39 by omega) (by decide), nI_clamp (show 3 * f + a < 2 ^ 31 by omega), inb_nI (show f < 13 by omega) (by decide), nI_clamp (show f < 2 ^ 31 by omega), if_true, bnv_id]
    simp [h28, nI_add1]
  | succ r ih =>
    intro N i z hi hN h29 h28 h42
    obtain ⟨N, rfl⟩ : ∃ q, N = q + 1 := ⟨N - 1, by omega⟩
    unfold f_X11_news_b108
    rw [if_neg (nI_ge (by omega) (by omega)), h29, nI_add, inb_nI (show u + i < 34000 by omega) (by decide), if_pos rfl, nI_clamp (by omega), lets_eq, nI_add1, ih N (i + 1) _ (by omega) (by omega) (by simp [sx_app, h29]) (by simp [sx_app, h28]) (by simp [sx_app, h42])]
    have es : sxA (sx z 73 0 (u + i) 0) 73 0 (fun j => if u + (i + 1) ≤ j ∧ j < u + n then 0 else sx z 73 0 (u + i) 0 73 0 j) = sxA z 73 0 (fun j => if u + i ≤ j ∧ j < u + n then 0 else z 73 0 j) := by
      apply st_ext
      intro k w j
      rw [sxA_app, sxA_app]
      by_cases h : k = 73 ∧ w = 0
      · rw [if_pos h, if_pos h]
        by_cases hj : j = u + i
        · subst hj
          rw [if_neg (by omega), if_pos (by omega), sx_app, if_pos ⟨rfl, rfl, rfl⟩]
        · by_cases hr : u + (i + 1) ≤ j ∧ j < u + n
          · rw [if_pos hr, if_pos (by omega)]
          · rw [if_neg hr, if_neg (by omega), sx_app, if_neg (fun c => hj c.2.2)]
      · rw [if_neg h, if_neg h, sx_app, if_neg (fun c => h ⟨c.1, c.2.1⟩)]
    rw [es, sx_k (k' := 58) _ (by decide)]
/-- NEW -/
theorem act_8 {pf : Int32 → st → Option (Nat × st)} {f m p : Nat} {y z : st} (hf : f < 12) (hm8 : m < 8) (h : Wa f m p y z) (hk : y 18 (48 * m + p) 0 = 8) : ∃ o y6, f_X4_doAct pf f (48 * m + p) (nI (f + 1)) y = some (o, y6) ∧ o < 5 ∧ AP f m p y z o y6 := by
  obtain ⟨hst, hs, hA, hp48⟩ := h.step hf hm8
  obtain ⟨hW, h3, h4, hp⟩ := h
  have h36 := hW.2.2.2.2.2.2.2.2.1.2.1
  have ha : isN (y 18 (48 * m + p) 1) 2 := hA.2.2.1 (by rw [hk]; decide)
  have hc : isN (y 18 (48 * m + p) 3) 5 := hA.2.2.2.2.2.2.1 (by rw [hk]; decide)
  have ha2 := ha.2
  have hc2 := hc.2
  have e6 : inb (nI (48 * m + p)) 384 = true := inb_nI (by omega) (by decide)
  have e7 : (nI (48 * m + p)).toNatClampNeg = 48 * m + p := nI_clamp (by omega)
  have e59 : z 59 0 (6 * f + nv (y 18 (48 * m + p) 3)) = y 13 f (nv (y 18 (48 * m + p) 3)) := (hW.2.2.2.2.1 f (by omega)).2.2.1 _ (by omega)
  have e42 : z 42 0 (48 * m + p) = nI (nv (y 18 (48 * m + p) 1)) := (hs 1 (by omega)).trans ha.1
  have e43 : z 43 0 (48 * m + p) = y 18 (48 * m + p) 2 := hs 2 (by omega)
  have e44 : z 44 0 (48 * m + p) = nI (nv (y 18 (48 * m + p) 3)) := (hs 3 (by omega)).trans hc.1
  rw [doAct_8 hk]
  rw [hk] at hst
  unfold stepK at hst
  rw [if_neg (by decide), if_neg (by decide), if_pos (by decide)] at hst
  unfold f_X11_news at hst
  rw [e6, if_pos rfl, e7, e44, bnd_of (get_eq (by omega) (by omega)), e59, bnd_of in_eq] at hst
  by_cases hin : y 13 f (nv (y 18 (48 * m + p) 3)) < 0 ∨ 64 < y 13 f (nv (y 18 (48 * m + p) 3))
  · rw [if_pos hin, if_pos rfl] at hst
    unfold f_X11_news_b32 f_X11_news_b63 at hst
    rw [show (1 : Int32) + 0 = 1 from rfl] at hst
    rw [newRow_out hc.1 (by omega) rfl hin]
    unfold f_X4_newRow_b46 f_X4_newRow_b79
    by_cases hfit : fitY y 1
    · rw [bnd_of (take_fit ((fit_eq hW.2.2.1.1.2).mpr hfit)), if_neg (by decide), bnd_of in_eq, if_pos hin, if_pos rfl, bnv_id, bnv_id] at hst
      obtain ⟨hW1, hQ1, hr1, h461, -⟩ := hW.cnt (n := 1) (by omega) hfit
      rw [show nI 1 = (1 : Int32) from rfl] at hW1 hQ1 hr1 h461
      rw [bnd_of (count_fit hfit), if_pos (by decide), if_pos rfl, if_pos rfl, bnd_id, bnd_id]
      by_cases h0 : (0 : Int32) ≤ y 13 f (nv (y 18 (48 * m + p) 3))
      · rw [if_pos h0] at hst ⊢
        obtain ⟨o, y6, g1, g2, g3⟩ := raise_sim (kk := 7) (p := p) hf hW1 Rch.rf h36 (by omega) hst
        exact ⟨o, y6, g1, g2, g3.pre hQ1 h461 (by rw [cntY_k (by decide)])⟩
      · rw [if_neg h0] at hst ⊢
        obtain ⟨o, y6, g1, g2, g3⟩ := raise_sim (kk := 6) (p := p) hf hW1 Rch.rf h36 (by omega) hst
        exact ⟨o, y6, g1, g2, g3.pre hQ1 h461 (by rw [cntY_k (by decide)])⟩
    · obtain ⟨zo, hzo⟩ := over_some hf hW
      rw [bnd_of (take_over (fun q => hfit ((fit_eq hW.2.2.1.1.2).mp q)) hzo), if_pos rfl, ← hzo] at hst
      obtain ⟨o, y', h1, ho0, ho5, hap⟩ := AP_no (p := p) hf hW Rch.rf h36 hst
      rw [bnd_of (count_no hfit h1), if_pos ho5, if_neg (by omega)]
      exact ⟨o, y', rfl, ho5, hap⟩
  · rw [if_neg hin, if_neg (by decide)] at hst
    obtain ⟨n, hnl, hn⟩ := nI_of (fun q => hin (Or.inl q))
    have hn64 : n ≤ 64 := by
      have : ¬ (64 : Int32) < nI n := fun q => hin (Or.inr (by rw [hn]; exact q))
      rw [show (64 : Int32) = nI 64 from rfl, nI_ltI (by decide) (by omega)] at this
      omega
    have hv : y 13 f (nv (y 18 (48 * m + p) 3)) = nI n := hn
    have hin' : ¬ (nI n < 0 ∨ 64 < nI n) := by rw [← hv]; exact hin
    rw [hv] at hst
    rw [nI_div8 hn64] at hst
    unfold f_X11_news_b32 at hst
    rw [n1, nI_add] at hst
    have hIM := hW.2.2.1.1.1
    obtain ⟨⟨i0, i1, i3, i4, i5, i6⟩, ⟨j0, j1⟩, ⟨r4, r5⟩, ⟨q4, q5⟩, hr⟩ := hIM
    by_cases hfit : fitY y (nI (1 + n / 8))
    · obtain ⟨hW1, hQ1, hr1, h461, hst1⟩ := hW.cnt (n := 1 + n / 8) (by omega) hfit
      have hb1 : stp (cntY y (nI (1 + n / 8))) ≤ 600 := by
        have hh := hW1.2.2.1.1.1.1
        unfold stp
        have a1 := hh.1.2
        have a2 := hh.2.1.2
        omega
      have hc6 : nv (y 5 0 4) < 600 := by unfold stp at hst1 hb1; omega
      have hun : nv (y 5 0 5) + n ≤ 8 * stp (cntY y (nI (1 + n / 8))) := by rw [hst1]; unfold stp; omega
      have hun2 : nv (y 5 0 5) + n ≤ 4800 := by omega
      rw [bnd_of (take_fit ((fit_eq hW.2.2.1.1.2).mpr hfit)), if_neg (by decide), bnd_of in_eq, if_neg hin', if_neg (by decide)] at hst
      have e28 : cntZ z (nI (1 + n / 8)) 30 0 28 = nI (nv (y 5 0 4)) := by rw [cntZ_k (by decide), hW.2.2.1.1.2.2.2.1.1]; exact r4.1
      have e29 : cntZ z (nI (1 + n / 8)) 30 0 29 = nI (nv (y 5 0 5)) := by rw [cntZ_k (by decide), hW.2.2.1.1.2.2.2.1.2]; exact r5.1
      rw [newRow_ok ha.1 (by omega) hc.1 (by omega) hv hn64 hfit r4.1 r5.1 hc6 hun2]
      obtain ⟨hW2, hQ2⟩ := nr_pair (a := nv (y 18 (48 * m + p) 1)) (n := n) (l := y 18 (48 * m + p) 2) hW1 (by rw [cntY_k (by decide)]; exact r4.1) (by rw [cntY_k (by decide)]; exact r5.1) hc6 hun2 (by rw [hst1]; unfold stp; omega) hun hn64 (by omega)
      refine ⟨0, _, rfl, by omega, AP_on hf hm8 hp48 (hQ1.tr hQ2) (by rw [nrY_k (by decide), cntY_k (by decide)]) (by rw [nrY_k (by decide)]; exact h461) hW2 (by rw [nrY_k (by decide), cntY_k (by decide)]; exact h3) (by rw [nrY_k (by decide), cntY_k (by decide)]; exact h4) Rch.rf h36 ?_⟩
      rw [hst]
      simp only [lets, e6, e7, e28, if_true, inb_nI (show nv (y 5 0 4) < 4200 by omega) (by decide), nI_clamp (nv_lt (y 5 0 4)), sx_app]
      simp only [show ¬ ((30 : Nat) = 70) from by decide, show ¬ ((30 : Nat) = 71) from by decide, false_and, if_false, e28, e29, inb_nI (show nv (y 5 0 4) < 4200 by omega) (by decide), nI_clamp (nv_lt (y 5 0 4)), if_true]
      have hl := news_loop (f := f) (q := 48 * m + p) (n := n) (a := nv (y 18 (48 * m + p) 1)) (u := nv (y 5 0 5)) (c := nv (y 5 0 4)) (by omega) (by omega) hf hun2 n 100 0 (sx (sx (sx (cntZ z (nI (1 + n / 8))) 70 0 (nv (y 5 0 4)) (cntZ z (nI (1 + n / 8)) 43 0 (48 * m + p))) 71 0 (nv (y 5 0 4)) (nI n)) 72 0 (nv (y 5 0 4)) (nI (nv (y 5 0 5)))) (by omega) (by omega) (by simp [sx_app, e29]) (by simp [sx_app, e28]) (by simp [sx_app, cntZ_k, e42])
      rw [show nI 0 = (0 : Int32) from rfl] at hl
      rw [hl]
      unfold nrZ
      simp only [Nat.add_zero]
      rw [show cntZ z (nI (1 + n / 8)) 43 0 (48 * m + p) = y 18 (48 * m + p) 2 from by rw [cntZ_k (by decide)]; exact e43]
      simp [sx_app, sxA_app]
    · obtain ⟨zo, hzo⟩ := over_some hf hW
      rw [bnd_of (take_over (fun q => hfit ((fit_eq hW.2.2.1.1.2).mp q)) hzo), if_pos rfl, ← hzo] at hst
      obtain ⟨o, y', h1, ho0, ho5, hap⟩ := AP_no (p := p) hf hW Rch.rf h36 hst
      unfold f_X4_newRow f_X4_newRow_b25 f_X4_newRow_b46 f_X0_c
      rw [bnd_of rfl, hc.1, inb_nI (by omega) (by decide), if_pos rfl, nI_clamp (nv_lt _), hv, if_neg (nI_pos (by omega)), show (64 : Int32) = nI 64 from rfl, if_neg (nI_nlt hn64 (by decide)), if_neg (by decide), nI_div8 hn64, n1, nI_add, bnd_of (count_no hfit h1), if_pos ho5, if_neg (by omega)]
      exact ⟨o, y', rfl, ho5, hap⟩
