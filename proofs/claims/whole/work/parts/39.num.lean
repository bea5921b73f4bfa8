/-! ACTS on NUMBERS, and the turns -/
theorem doAct_0 {pf : Int32 → st → Option (Nat × st)} {f q : Nat} {d : Int32} {y : st} (hk : y 18 q 0 = 0) : f_X4_doAct pf f q d y = f_X4_setNumber f (y 18 q 1) (y 18 q 2) y := by
  unfold f_X4_doAct f_X4_doAct_b94 f_X4_doAct_b101 f_X0_kind f_X0_a f_X0_b
  rw [bnd_of rfl, hk, if_pos rfl]
  simp only [bnd, Option.bind_some, lets]
  try exact bnd_id
theorem doAct_1 {pf : Int32 → st → Option (Nat × st)} {f q : Nat} {d : Int32} {y : st} (hk : y 18 q 0 = 1) : f_X4_doAct pf f q d y = f_X4_reckon f q y := by
  unfold f_X4_doAct f_X4_doAct_b94 f_X4_doAct_b101 f_X0_kind f_X0_a f_X0_b
  rw [bnd_of rfl, hk, if_neg (by decide), if_pos rfl]
  simp only [bnd, Option.bind_some, lets]
  try exact bnd_id
theorem doAct_2 {pf : Int32 → st → Option (Nat × st)} {f q : Nat} {d : Int32} {y : st} (hk : y 18 q 0 = 2) : f_X4_doAct pf f q d y = f_X4_reckon f q y := by
  unfold f_X4_doAct f_X4_doAct_b94 f_X4_doAct_b101 f_X0_kind f_X0_a f_X0_b
  rw [bnd_of rfl, hk, if_neg (by decide), if_neg (by decide), if_pos rfl]
  simp only [bnd, Option.bind_some, lets]
  try exact bnd_id
theorem doAct_3 {pf : Int32 → st → Option (Nat × st)} {f q : Nat} {d : Int32} {y : st} (hk : y 18 q 0 = 3) : f_X4_doAct pf f q d y = f_X4_reckon f q y := by
  unfold f_X4_doAct f_X4_doAct_b94 f_X4_doAct_b101 f_X0_kind f_X0_a f_X0_b
  rw [bnd_of rfl, hk, if_neg (by decide), if_neg (by decide), if_neg (by decide), if_pos rfl]
  simp only [bnd, Option.bind_some, lets]
  try exact bnd_id
theorem doAct_4 {pf : Int32 → st → Option (Nat × st)} {f q : Nat} {d : Int32} {y : st} (hk : y 18 q 0 = 4) : f_X4_doAct pf f q d y = f_X4_divide f q y := by
  unfold f_X4_doAct f_X4_doAct_b94 f_X4_doAct_b101 f_X0_kind f_X0_a f_X0_b
  rw [bnd_of rfl, hk, if_neg (by decide), if_neg (by decide), if_neg (by decide), if_neg (by decide), if_pos rfl]
  simp only [bnd, Option.bind_some, lets]
  try exact bnd_id
theorem doAct_5 {pf : Int32 → st → Option (Nat × st)} {f q : Nat} {d : Int32} {y : st} (hk : y 18 q 0 = 5) : f_X4_doAct pf f q d y = f_X4_divide f q y := by
  unfold f_X4_doAct f_X4_doAct_b94 f_X4_doAct_b101 f_X0_kind f_X0_a f_X0_b
  rw [bnd_of rfl, hk, if_neg (by decide), if_neg (by decide), if_neg (by decide), if_neg (by decide), if_neg (by decide), if_pos rfl]
  simp only [bnd, Option.bind_some, lets]
  try exact bnd_id
theorem doAct_6 {pf : Int32 → st → Option (Nat × st)} {f q : Nat} {d : Int32} {y : st} (hk : y 18 q 0 = 6) : f_X4_doAct pf f q d y = f_X4_jump f (y 18 q 2) y := by
  unfold f_X4_doAct f_X4_doAct_b94 f_X4_doAct_b101 f_X0_kind f_X0_a f_X0_b
  rw [bnd_of rfl, hk, if_neg (by decide), if_neg (by decide), if_neg (by decide), if_neg (by decide), if_neg (by decide), if_neg (by decide), if_pos rfl]
  simp only [bnd, Option.bind_some, lets]
  try exact bnd_id
theorem doAct_7 {pf : Int32 → st → Option (Nat × st)} {f q : Nat} {d : Int32} {y : st} (hk : y 18 q 0 = 7) : f_X4_doAct pf f q d y = (if inb (y 18 q 1) 6 = true then if y 13 f (y 18 q 1).toNatClampNeg ≤ 0 then some (0, y) else f_X4_jump f (y 18 q 2) y else none) := by
  unfold f_X4_doAct f_X4_doAct_b94 f_X4_doAct_b101 f_X0_kind f_X0_a f_X0_b
  rw [bnd_of rfl, hk, if_neg (by decide), if_neg (by decide), if_neg (by decide), if_neg (by decide), if_neg (by decide), if_neg (by decide), if_neg (by decide), if_pos rfl]
  simp only [bnd, Option.bind_some, lets]
  have e : ((f_X4_jump f (y 18 q 2) y).bind fun q => some (q.fst, q.snd)) = f_X4_jump f (y 18 q 2) y := bnd_id
  rw [e]
theorem doAct_8 {pf : Int32 → st → Option (Nat × st)} {f q : Nat} {d : Int32} {y : st} (hk : y 18 q 0 = 8) : f_X4_doAct pf f q d y = f_X4_newRow f q y := by
  unfold f_X4_doAct f_X4_doAct_b94 f_X4_doAct_b101 f_X0_kind f_X0_a f_X0_b
  rw [bnd_of rfl, hk, if_neg (by decide), if_neg (by decide), if_neg (by decide), if_neg (by decide), if_neg (by decide), if_neg (by decide), if_neg (by decide), if_neg (by decide), if_pos rfl]
  simp only [bnd, Option.bind_some, lets]
  try exact bnd_id
theorem doAct_9 {pf : Int32 → st → Option (Nat × st)} {f q : Nat} {d : Int32} {y : st} (hk : y 18 q 0 = 9) : f_X4_doAct pf f q d y = f_X4_putPlace f q y := by
  unfold f_X4_doAct f_X4_doAct_b94 f_X4_doAct_b101 f_X0_kind f_X0_a f_X0_b
  rw [bnd_of rfl, hk, if_neg (by decide), if_neg (by decide), if_neg (by decide), if_neg (by decide), if_neg (by decide), if_neg (by decide), if_neg (by decide), if_neg (by decide), if_neg (by decide), if_pos rfl]
  simp only [bnd, Option.bind_some, lets]
  try exact bnd_id
theorem doAct_10 {pf : Int32 → st → Option (Nat × st)} {f q : Nat} {d : Int32} {y : st} (hk : y 18 q 0 = 10) : f_X4_doAct pf f q d y = f_X4_getPlace f q y := by
  unfold f_X4_doAct f_X4_doAct_b94 f_X4_doAct_b101 f_X0_kind f_X0_a f_X0_b
  rw [bnd_of rfl, hk, if_neg (by decide), if_neg (by decide), if_neg (by decide), if_neg (by decide), if_neg (by decide), if_neg (by decide), if_neg (by decide), if_neg (by decide), if_neg (by decide), if_neg (by decide), if_pos rfl]
  simp only [bnd, Option.bind_some, lets]
  try exact bnd_id
theorem doAct_11 {pf : Int32 → st → Option (Nat × st)} {f q : Nat} {d : Int32} {y : st} (hk : y 18 q 0 = 11) : f_X4_doAct pf f q d y = f_X4_tellSize f q y := by
  unfold f_X4_doAct f_X4_doAct_b94 f_X4_doAct_b101 f_X0_kind f_X0_a f_X0_b
  rw [bnd_of rfl, hk, if_neg (by decide), if_neg (by decide), if_neg (by decide), if_neg (by decide), if_neg (by decide), if_neg (by decide), if_neg (by decide), if_neg (by decide), if_neg (by decide), if_neg (by decide), if_neg (by decide), if_pos rfl]
  simp only [bnd, Option.bind_some, lets]
  try exact bnd_id
theorem doAct_12 {pf : Int32 → st → Option (Nat × st)} {f q : Nat} {d : Int32} {y : st} (hk : y 18 q 0 = 12) : f_X4_doAct pf f q d y = f_X4_copyPlaces f q y := by
  unfold f_X4_doAct f_X4_doAct_b94 f_X4_doAct_b101 f_X0_kind f_X0_a f_X0_b
  rw [bnd_of rfl, hk, if_neg (by decide), if_neg (by decide), if_neg (by decide), if_neg (by decide), if_neg (by decide), if_neg (by decide), if_neg (by decide), if_neg (by decide), if_neg (by decide), if_neg (by decide), if_neg (by decide), if_neg (by decide), if_pos rfl]
  simp only [bnd, Option.bind_some, lets]
  try exact bnd_id
theorem doAct_13 {pf : Int32 → st → Option (Nat × st)} {f q : Nat} {d : Int32} {y : st} (hk : y 18 q 0 = 13) : f_X4_doAct pf f q d y = f_X4_callMethod pf f q d y := by
  unfold f_X4_doAct f_X4_doAct_b94 f_X4_doAct_b101 f_X0_kind f_X0_a f_X0_b
  rw [bnd_of rfl, hk, if_neg (by decide), if_neg (by decide), if_neg (by decide), if_neg (by decide), if_neg (by decide), if_neg (by decide), if_neg (by decide), if_neg (by decide), if_neg (by decide), if_neg (by decide), if_neg (by decide), if_neg (by decide), if_neg (by decide), if_pos rfl]
  simp only [bnd, Option.bind_some, lets]
  try exact bnd_id
theorem doAct_14 {pf : Int32 → st → Option (Nat × st)} {f q : Nat} {d : Int32} {y : st} (hk : y 18 q 0 = 14) : f_X4_doAct pf f q d y = (if inb (y 18 q 1) 6 = true then some (1, sx y 1 0 5 (y 13 f (y 18 q 1).toNatClampNeg)) else none) := by
  unfold f_X4_doAct f_X4_doAct_b94 f_X4_doAct_b101 f_X0_kind f_X0_a f_X0_b
  rw [bnd_of rfl, hk, if_neg (by decide), if_neg (by decide), if_neg (by decide), if_neg (by decide), if_neg (by decide), if_neg (by decide), if_neg (by decide), if_neg (by decide), if_neg (by decide), if_neg (by decide), if_neg (by decide), if_neg (by decide), if_neg (by decide), if_neg (by decide), if_pos rfl]
  simp only [bnd, Option.bind_some, lets]
  try exact bnd_id
theorem doAct_15 {pf : Int32 → st → Option (Nat × st)} {f q : Nat} {d : Int32} {y : st} (hk : y 18 q 0 = 15) : f_X4_doAct pf f q d y = f_X4_raise (y 18 q 2) y := by
  unfold f_X4_doAct f_X4_doAct_b94 f_X4_doAct_b101 f_X0_kind f_X0_a f_X0_b
  rw [bnd_of rfl, hk, if_neg (by decide), if_neg (by decide), if_neg (by decide), if_neg (by decide), if_neg (by decide), if_neg (by decide), if_neg (by decide), if_neg (by decide), if_neg (by decide), if_neg (by decide), if_neg (by decide), if_neg (by decide), if_neg (by decide), if_neg (by decide), if_neg (by decide)]
  simp only [bnd, Option.bind_some, lets]
  try exact bnd_id
theorem setNumber_eq {f a : Nat} {v : Int32} {y : st} (ha : a < 6) : f_X4_setNumber f (nI a) v y = some (0, sx y 13 f a v) := by
  unfold f_X4_setNumber
  rw [inb_nI ha (by decide), if_pos rfl, nI_clamp (by omega), lets_eq]
/-- the ACT sets a NUMBER and goes on -/
theorem act_num {f m p a : Nat} {v : Int32} {y z zr z1 : st} (hf : f < 12) (hm8 : m < 8) (hp : p < 48) (ha : a < 6) (hW : Wf f m y z z1) (h3 : y 12 f 3 = nI p) (h4 : y 12 f 4 = nI (p + 1)) (hR0 : Rch z zr) (h036 : zr 30 0 36 = 0) (hit : itR zr = f_X11_step_b228 (nI f) 0 (sx z1 59 0 (6 * f + a) v)) :
    ∃ o y6, f_X4_setNumber f (nI a) v y = some (o, y6) ∧ o < 5 ∧ AP f m p y z o y6 := by
  refine ⟨0, _, setNumber_eq ha, by omega, ?_⟩
  exact AP_on hf hm8 hp Qk_num (by rw [sx_k _ (by decide)]) (by rw [sx_k _ (by decide)]) (hW.num ha) (by rw [sx_k _ (by decide)]; exact h3) (by rw [sx_k _ (by decide)]; exact h4) hR0 h036 (hit.trans (b228_0 hf))
theorem reckons_0 {f q a : Nat} {z : st} (hf : f < 12) (hq : q < 384) (ha : a < 6) (h41 : z 41 0 q = 0) (h42 : z 42 0 q = nI a) : f_X11_reckons (nI f) (nI q) z = some (0, sx z 59 0 (6 * f + a) (z 43 0 q)) := by
  have e6 : inb (nI q) 384 = true := inb_nI hq (by decide)
  have e7 : (nI q).toNatClampNeg = q := nI_clamp (by omega)
  unfold f_X11_reckons f_X11_reckons_b31 f_X11_reckons_b57
  simp only [e6, e7, if_true, h41, h42]
  rw [bnv_of (put_eq (by omega) ha)]
theorem reckons_k {f q a b c k : Nat} {z : st} (hf : f < 12) (hq : q < 384) (ha : a < 6) (hb : b < 6) (hc : c < 6) (hk : 0 < k) (hk5 : k ≤ 5) (h41 : z 41 0 q = nI k) (h42 : z 42 0 q = nI a) (h43 : z 43 0 q = nI b) (h44 : z 44 0 q = nI c) : f_X11_reckons (nI f) (nI q) z = f_X11_reckons_b57 (nI f) (nI q) (nI a) (z 59 0 (6 * f + b)) (z 59 0 (6 * f + c)) z := by
  have e6 : inb (nI q) 384 = true := inb_nI hq (by decide)
  have e7 : (nI q).toNatClampNeg = q := nI_clamp (by omega)
  have e8 : ¬ nI k = 0 := nI_ne0 (by omega) (by omega)
  unfold f_X11_reckons f_X11_reckons_b31
  simp only [e6, e7, if_true, h41, h42, h43, h44, e8, if_false]
  rw [bnd_of (get_eq (by omega) hb), h41, if_neg e8, h44, bnd_of (get_eq (by omega) hc)]
/-- SET -/
theorem act_0 {pf : Int32 → st → Option (Nat × st)} {f m p : Nat} {y z : st} (hf : f < 12) (hm8 : m < 8) (h : Wa f m p y z) (hk : y 18 (48 * m + p) 0 = 0) : ∃ o y6, f_X4_doAct pf f (48 * m + p) (nI (f + 1)) y = some (o, y6) ∧ o < 5 ∧ AP f m p y z o y6 := by
  obtain ⟨hst, hs, hA, hp48⟩ := h.step hf hm8
  obtain ⟨hW, h3, h4, hp⟩ := h
  have ha : isN (y 18 (48 * m + p) 1) 5 := hA.2.1 (by rw [hk]; exact Or.inl (by decide))
  have e41 : z 41 0 (48 * m + p) = 0 := (hs 0 (by omega)).trans hk
  have e42 : z 42 0 (48 * m + p) = nI (nv (y 18 (48 * m + p) 1)) := (hs 1 (by omega)).trans ha.1
  have e43 : z 43 0 (48 * m + p) = y 18 (48 * m + p) 2 := hs 2 (by omega)
  rw [doAct_0 hk, ha.1]
  have ha2 := ha.2
  refine act_num hf hm8 hp48 (by omega) hW h3 h4 Rch.rf hW.2.2.2.2.2.2.2.2.1.2.1 ?_
  rw [hst, hk]
  unfold stepK
  rw [if_neg (by decide), if_neg (by decide), if_neg (by decide), if_neg (by decide), if_neg (by decide), if_neg (by decide), if_neg (by decide), bnd_of (reckons_0 hf (by omega) (by omega) e41 e42), e43]
theorem reck_it {f m p k : Nat} {y z : st} (hf : f < 12) (hm8 : m < 8) (h : Wa f m p y z) (hk0 : 0 < k) (hk5 : k ≤ 5) (hk : y 18 (48 * m + p) 0 = nI k) :
    ∃ a b c, a < 6 ∧ b < 6 ∧ c < 6 ∧ y 18 (48 * m + p) 1 = nI a ∧ y 18 (48 * m + p) 2 = nI b ∧ y 18 (48 * m + p) 3 = nI c ∧ z 41 0 (48 * m + p) = nI k ∧ p < 48 ∧ itR z = bnd (f_X11_reckons_b57 (nI f) (nI (48 * m + p)) (nI a) (y 13 f b) (y 13 f c) z) fun r7 x6 => f_X11_step_b228 (nI f) r7 x6 := by
  obtain ⟨hst, hs, hA, hp48⟩ := h.step hf hm8
  obtain ⟨hW, h3, h4, hp⟩ := h
  have hn : nv (y 18 (48 * m + p) 0) = k := by rw [hk, nv_nI (by omega)]
  have ha : isN (y 18 (48 * m + p) 1) 5 := hA.2.1 (by rw [hn]; omega)
  obtain ⟨hb, hc⟩ := hA.2.2.2.1 (by rw [hn]; omega)
  have ha2 := ha.2
  have hb2 := hb.2
  have hc2 := hc.2
  have e41 : z 41 0 (48 * m + p) = nI k := (hs 0 (by omega)).trans hk
  refine ⟨nv (y 18 (48 * m + p) 1), nv (y 18 (48 * m + p) 2), nv (y 18 (48 * m + p) 3), by omega, by omega, by omega, ha.1, hb.1, hc.1, e41, hp48, ?_⟩
  have hSF := (hW.2.2.2.2.1 f (by omega)).2.2.1
  rw [hst, hk, ← hSF _ (by omega), ← hSF (nv (y 18 (48 * m + p) 3)) (by omega), ← reckons_k hf (by omega) (by omega) (by omega) (by omega) hk0 hk5 e41 ((hs 1 (by omega)).trans ha.1) ((hs 2 (by omega)).trans hb.1) ((hs 3 (by omega)).trans hc.1)]
  unfold stepK
  have q6 : ¬ nI k = 6 := by rw [n6, nI_eq (by omega) (by omega)]; omega
  have q7 : ¬ nI k = 7 := by rw [n7, nI_eq (by omega) (by omega)]; omega
  have q8 : ¬ nI k = 8 := by rw [n8, nI_eq (by omega) (by omega)]; omega
  have q13 : ¬ nI k = 13 := by rw [show (13 : Int32) = nI 13 from rfl, nI_eq (by omega) (by omega)]; omega
  have q14 : ¬ nI k = 14 := by rw [show (14 : Int32) = nI 14 from rfl, nI_eq (by omega) (by omega)]; omega
  have q15 : ¬ nI k = 15 := by rw [show (15 : Int32) = nI 15 from rfl, nI_eq (by omega) (by omega)]; omega
  have q16 : ¬ 6 ≤ nI k := by rw [n6, nI_leI (by omega) (by omega)]; omega
  rw [if_neg q6, if_neg q7, if_neg q8, if_neg q13, if_neg q14, if_neg q15, if_neg q16]
/-- ADD, LESS, TIMES -/
theorem act_1 {pf : Int32 → st → Option (Nat × st)} {f m p k : Nat} {y z : st} (hf : f < 12) (hm8 : m < 8) (h : Wa f m p y z) (hk0 : 0 < k) (hk3 : k ≤ 3) (hk : y 18 (48 * m + p) 0 = nI k) : ∃ o y6, f_X4_reckon f (48 * m + p) y = some (o, y6) ∧ o < 5 ∧ AP f m p y z o y6 := by
  obtain ⟨a, b, c, ha, hb, hc, ea, eb, ec, e41, hp48, hit⟩ := reck_it hf hm8 h hk0 (by omega) hk
  obtain ⟨hW, h3, h4, hp⟩ := h
  have e6 : inb (nI (48 * m + p)) 384 = true := inb_nI (by omega) (by decide)
  have e7 : (nI (48 * m + p)).toNatClampNeg = 48 * m + p := nI_clamp (by omega)
  unfold f_X11_reckons_b57 at hit
  rw [e6, if_pos rfl, e7, e41] at hit
  unfold f_X4_reckon f_X4_reckon_b68 f_X0_kind f_X0_a f_X0_b f_X0_c
  simp only [bnd, Option.bind_some, ea, eb, ec, hk, inb_nI hb (by decide), inb_nI hc (by decide), nI_clamp (show b < 2 ^ 31 by omega), nI_clamp (show c < 2 ^ 31 by omega), if_true]
  have h36 := hW.2.2.2.2.2.2.2.2.1.2.1
  have hcase : k = 1 ∨ k = 2 ∨ k = 3 := by omega
  rcases hcase with rfl | rfl | rfl
  · rw [if_neg (by decide), if_pos (by decide), bnv_of (put_eq (by omega) ha), bnd_of rfl] at hit
    rw [if_pos (by decide)]
    obtain ⟨o, y6, h1, h5, h2⟩ := act_num (v := y 13 f b + y 13 f c) hf hm8 hp48 ha hW h3 h4 Rch.rf h36 hit
    exact ⟨o, y6, by rw [h1]; rfl, h5, h2⟩
  · rw [if_neg (by decide), if_neg (by decide), if_pos (by decide), bnv_of (put_eq (by omega) ha), bnd_of rfl] at hit
    rw [if_neg (by decide), if_pos (by decide)]
    obtain ⟨o, y6, h1, h5, h2⟩ := act_num (v := y 13 f b - y 13 f c) hf hm8 hp48 ha hW h3 h4 Rch.rf h36 hit
    exact ⟨o, y6, by rw [h1]; rfl, h5, h2⟩
  · rw [if_neg (by decide), if_neg (by decide), if_neg (by decide), if_pos (by decide), bnv_of (put_eq (by omega) ha), bnd_of rfl] at hit
    rw [if_neg (by decide), if_neg (by decide)]
    obtain ⟨o, y6, h1, h5, h2⟩ := act_num (v := y 13 f b * y 13 f c) hf hm8 hp48 ha hW h3 h4 Rch.rf h36 hit
    exact ⟨o, y6, by rw [h1]; rfl, h5, h2⟩
/-- OVER, REST -/
theorem act_4 {f m p k : Nat} {y z : st} (hf : f < 12) (hm8 : m < 8) (h : Wa f m p y z) (hk0 : k = 4 ∨ k = 5) (hk : y 18 (48 * m + p) 0 = nI k) : ∃ o y6, f_X4_divide f (48 * m + p) y = some (o, y6) ∧ o < 5 ∧ AP f m p y z o y6 := by
  obtain ⟨a, b, c, ha, hb, hc, ea, eb, ec, e41, hp48, hit⟩ := reck_it hf hm8 h (by omega) (by omega) hk
  obtain ⟨hW, h3, h4, hp⟩ := h
  have e6 : inb (nI (48 * m + p)) 384 = true := inb_nI (by omega) (by decide)
  have e7 : (nI (48 * m + p)).toNatClampNeg = 48 * m + p := nI_clamp (by omega)
  unfold f_X11_reckons_b57 f_X11_reckons_b182 at hit
  rw [e6, if_pos rfl, e7, e41] at hit
  unfold f_X4_divide f_X4_divide_b57 f_X0_kind f_X0_a f_X0_b f_X0_c
  rw [bnd_of rfl, eb, inb_nI hb (by decide), if_pos rfl, nI_clamp (show b < 2 ^ 31 by omega), bnd_of rfl, ec, inb_nI hc (by decide), if_pos rfl, nI_clamp (show c < 2 ^ 31 by omega)]
  have h36 := hW.2.2.2.2.2.2.2.2.1.2.1
  by_cases h0 : y 13 f c = 0
  · have hit2 : itR z = f_X11_begins (nI f) (nI 1) z := by
      rw [← b228_k (f := f) (kk := 1) (by omega) (by omega)]
      rcases hk0 with rfl | rfl
      · rw [if_neg (by decide), if_neg (by decide), if_neg (by decide), if_neg (by decide), if_pos h0, bnd_of rfl] at hit
        exact hit
      · rw [if_neg (by decide), if_neg (by decide), if_neg (by decide), if_neg (by decide), if_pos h0, bnd_of rfl] at hit
        exact hit
    rw [if_pos h0]
    obtain ⟨o, y6, h1, h5, h2⟩ := raise_sim (p := p) hf hW Rch.rf h36 (by omega) hit2
    exact ⟨o, y6, by rw [show (1 : Int32) = nI 1 from rfl, h1]; rfl, h5, h2⟩
  · rw [if_neg h0, bnd_of rfl, ea, bnd_of rfl, hk, if_pos h0, if_pos h0]
    rcases hk0 with rfl | rfl
    · rw [if_neg (by decide), if_neg (by decide), if_neg (by decide), if_neg (by decide), if_neg h0, if_pos rfl, if_pos (by decide), if_pos h0, bnv_of (put_eq (by omega) ha), bnd_of rfl] at hit
      rw [if_pos (by decide)]
      obtain ⟨o, y6, h1, h5, h2⟩ := act_num (v := y 13 f b / y 13 f c) hf hm8 hp48 ha hW h3 h4 Rch.rf h36 hit
      exact ⟨o, y6, by rw [h1]; rfl, h5, h2⟩
    · rw [if_neg (by decide), if_neg (by decide), if_neg (by decide), if_neg (by decide), if_neg h0, if_pos rfl, if_neg (by decide), if_pos h0, bnv_of (put_eq (by omega) ha), bnd_of rfl] at hit
      rw [if_neg (by decide)]
      obtain ⟨o, y6, h1, h5, h2⟩ := act_num (v := y 13 f b - y 13 f b / y 13 f c * y 13 f c) hf hm8 hp48 ha hW h3 h4 Rch.rf h36 hit
      exact ⟨o, y6, by rw [h1]; rfl, h5, h2⟩
/-- GIVE -/
theorem act_14 {pf : Int32 → st → Option (Nat × st)} {f m p : Nat} {y z : st} (hf : f < 12) (hm8 : m < 8) (h : Wa f m p y z) (hk : y 18 (48 * m + p) 0 = 14) : ∃ o y6, f_X4_doAct pf f (48 * m + p) (nI (f + 1)) y = some (o, y6) ∧ o < 5 ∧ AP f m p y z o y6 := by
  obtain ⟨hst, hs, hA, hp48⟩ := h.step hf hm8
  obtain ⟨hW, h3, h4, hp⟩ := h
  have ha : isN (y 18 (48 * m + p) 1) 5 := hA.2.1 (by rw [hk]; decide)
  have ha2 := ha.2
  have e42 : z 42 0 (48 * m + p) = nI (nv (y 18 (48 * m + p) 1)) := (hs 1 (by omega)).trans ha.1
  rw [doAct_14 hk, ha.1, inb_nI (by omega) (by decide), if_pos rfl, nI_clamp (by omega)]
  have e57 : z 57 0 f = nI m := (hW.2.2.2.2.1 f (by omega)).1.trans hW.2.2.2.2.2.1
  refine ⟨1, _, rfl, by omega, y1_same.1, by rw [sx_k _ (by decide)], Or.inr (Or.inl ⟨rfl, by rw [sx_k _ (by decide)], z, z, Rch.rf, hW.2.2.2.2.2.2.2.2.1.2.1, ?_, hW.y1⟩)⟩
  rw [hst, hk]
  unfold stepK
  rw [if_neg (by decide), if_neg (by decide), if_neg (by decide), if_neg (by decide), if_pos (by decide), e42, bnd_of (get_eq (by omega) (by omega)), leave_eq (by omega) e57 hm8, sx_app, if_pos ⟨rfl, rfl, rfl⟩, (hW.2.2.2.2.1 f (by omega)).2.2.1 _ (by omega)]
/-- THROW -/
theorem act_15 {pf : Int32 → st → Option (Nat × st)} {f m p : Nat} {y z : st} (hf : f < 12) (hm8 : m < 8) (h : Wa f m p y z) (hk : y 18 (48 * m + p) 0 = 15) : ∃ o y6, f_X4_doAct pf f (48 * m + p) (nI (f + 1)) y = some (o, y6) ∧ o < 5 ∧ AP f m p y z o y6 := by
  obtain ⟨hst, hs, hA, hp48⟩ := h.step hf hm8
  obtain ⟨hW, h3, h4, hp⟩ := h
  have hb := hA.2.2.2.2.2.2.2.2.2.2 (by rw [hk]; rfl)
  have e43 : z 43 0 (48 * m + p) = y 18 (48 * m + p) 2 := hs 2 (by omega)
  rw [doAct_15 hk]
  rw [hk] at hst
  unfold stepK at hst
  rw [if_neg (by decide), if_neg (by decide), if_neg (by decide), if_neg (by decide), if_neg (by decide), if_pos (by decide), e43] at hst
  rcases hb with hb | hb
  · rw [hb] at hst ⊢
    exact raise_sim (kk := 8) hf hW Rch.rf hW.2.2.2.2.2.2.2.2.1.2.1 (by omega) hst
  · rw [hb] at hst ⊢
    exact raise_sim (kk := 9) hf hW Rch.rf hW.2.2.2.2.2.2.2.2.1.2.1 (by omega) hst
theorem Wf.y4 {f m : Nat} {v : Int32} {y z0 z : st} (h : Wf f m y z0 z) : Wf f m (sx y 12 f 4 v) z0 z ∧ Qk f y (sx y 12 f 4 v) := by
  obtain ⟨hIP, hSP, hDG, hIF, hSF, hm, h5, hK, hTR, h61⟩ := h
  have kc : KC f y (sx y 12 f 4 v) := ⟨fun k hk => sx_k _ (by omega), sx_k _ (by decide), ⟨by simp [sx_app], by simp [sx_app]⟩, fun i hi => ⟨sx_i _ (by omega), by rw [sx_k _ (by decide)], by rw [sx_k _ (by decide)]⟩⟩
  refine ⟨⟨hIP.kc kc, hSP.kc kc K0.rf, hDG.k (fun k _ h1 _ _ => sx_k _ h1) (fun _ _ _ => rfl) (fun _ _ => rfl), fun i hi => ?_, fun i hi => ?_, by rw [sx_app, if_neg (by omega)]; exact hm, by rw [sx_app, if_neg (by omega)]; exact h5, hK, hTR, h61⟩, kc, by rw [rem_k (y := y) (sx_k _ (by decide))]; exact Nat.le_refl _, by rw [sx_k _ (by decide)]; exact Nat.le_refl _⟩
  · have := hIF i hi
    simpa [sx_app] using this
  · have := hSF i hi
    simpa [sx_app] using this
/-- it goes on at b -/
theorem jump_sim {f m p b : Nat} {y z : st} (hf : f < 12) (hm8 : m < 8) (h : Wa f m p y z) (hp48 : p < 48) (hb : b ≤ 48) (h43 : z 43 0 (48 * m + p) = nI b) (hit : itR z = f_X11_goes_b30 (nI f) (nI (48 * m + p)) 1 z) :
    ∃ o y6, f_X4_jump f (nI b) y = some (o, y6) ∧ o < 5 ∧ AP f m p y z o y6 := by
  obtain ⟨hW, h3, h4, hp⟩ := h
  have h36 := hW.2.2.2.2.2.2.2.2.1.2.1
  have e6 : inb (nI (48 * m + p)) 384 = true := inb_nI (by omega) (by decide)
  have e7 : (nI (48 * m + p)).toNatClampNeg = 48 * m + p := nI_clamp (by omega)
  have e57 : z 57 0 f = nI m := (hW.2.2.2.2.1 f (by omega)).1.trans hW.2.2.2.2.2.1
  have e58 : z 58 0 f = nI p := (hW.2.2.2.2.1 f (by omega)).2.1.trans h3
  have b58 : ∀ w : st, w 43 0 (48 * m + p) = nI b → w 57 0 f = nI m → f_X11_goes_b58 (nI f) (nI (48 * m + p)) 1 w = some (lvS w f m (nI b) 0 0) := by
    intro w hw hw2
    unfold f_X11_goes_b58 f_X11_goes_b81
    rw [if_neg (by decide), e6, if_pos rfl, e7, hw, leave_eq (by omega) hw2 hm8]
    rfl
  unfold f_X11_goes_b30 at hit
  rw [if_neg (by decide), e6, if_pos rfl, inb_nI (show f < 13 by omega) (by decide), if_pos rfl, nI_clamp (show f < 2 ^ 31 by omega), e7, e58, h43] at hit
  unfold f_X4_jump f_X4_jump_b26
  rw [h3]
  by_cases hlt : p < b
  · rw [if_pos ((nI_ltI (by omega) (by omega)).mpr hlt), b58 z h43 e57] at hit
    rw [if_pos ((nI_ltI (by omega) (by omega)).mpr hlt), lets_eq]
    obtain ⟨hW1, hQ1⟩ := hW.y4 (v := nI b)
    exact ⟨0, _, rfl, by omega, hQ1, by rw [sx_app, if_neg (by omega)], Or.inl ⟨rfl, by rw [sx_k _ (by decide)], z, z, b, Rch.rf, h36, hit, hW1, by rw [sx_app, if_pos ⟨rfl, rfl, rfl⟩], by omega, Or.inl hlt⟩⟩
  · rw [if_neg (fun q => hlt ((nI_ltI (by omega) (by omega)).mp q))] at hit
    rw [if_neg (fun q => hlt ((nI_ltI (by omega) (by omega)).mp q))]
    by_cases hfit : fitY y 1
    · have hcz : f_X11_counts z = some (1, cntZ z 1) := counts_of (take_fit ((fit_eq hW.2.2.1.1.2).mpr hfit)) (Or.inr rfl)
      rw [bnd_of hcz, if_neg (by decide), b58 _ (by rw [cntZ_k (by decide)]; exact h43) (by rw [cntZ_k (by decide)]; exact e57)] at hit
      obtain ⟨hW1, hQ1, hr1, h461, -⟩ := hW.cnt (n := 1) (by omega) hfit
      rw [show nI 1 = (1 : Int32) from rfl] at hW1 hQ1 hr1 h461
      obtain ⟨hW2, hQ2⟩ := hW1.y4 (v := nI b)
      rw [bnd_of (count_fit hfit), if_pos (by decide), if_pos rfl, lets_eq]
      refine ⟨0, _, rfl, by omega, hQ1.tr hQ2, by rw [sx_app, if_neg (by omega), cntY_k (by decide)], Or.inl ⟨rfl, by rw [sx_k _ (by decide)]; exact h461, _, z, b, Rch.rf, h36, hit, hW2, by rw [sx_app, if_pos ⟨rfl, rfl, rfl⟩], by omega, Or.inr ?_⟩⟩
      rw [rem_k (y := cntY y 1) (sx_k _ (by decide))]; omega
    · obtain ⟨zo, hzo⟩ := over_some hf hW
      have hcz : f_X11_counts z = some (0, zo) := counts_of (take_over (fun q => hfit ((fit_eq hW.2.2.1.1.2).mp q)) hzo) (Or.inl rfl)
      rw [bnd_of hcz, if_pos rfl, ← hzo] at hit
      obtain ⟨o, y', h1, ho0, ho5, hap⟩ := AP_no (p := p) hf hW Rch.rf h36 hit
      rw [bnd_of (count_no hfit h1), if_pos ho5, if_neg (by omega)]
      exact ⟨o, y', rfl, ho5, hap⟩
/-- GO, IF -/
theorem act_6 {pf : Int32 → st → Option (Nat × st)} {f m p : Nat} {y z : st} (hf : f < 12) (hm8 : m < 8) (h : Wa f m p y z) (hk : y 18 (48 * m + p) 0 = 6) : ∃ o y6, f_X4_doAct pf f (48 * m + p) (nI (f + 1)) y = some (o, y6) ∧ o < 5 ∧ AP f m p y z o y6 := by
  obtain ⟨hst, hs, hA, hp48⟩ := h.step hf hm8
  have hb := hA.2.2.2.2.1 (by rw [hk]; decide)
  have e6 : inb (nI (48 * m + p)) 384 = true := inb_nI (by omega) (by decide)
  have e7 : (nI (48 * m + p)).toNatClampNeg = 48 * m + p := nI_clamp (by omega)
  rw [doAct_6 hk, hb.1]
  refine jump_sim hf hm8 h hp48 hb.2 ((hs 2 (by omega)).trans hb.1) ?_
  rw [hst, hk]
  unfold stepK
  rw [if_pos (by decide)]
  unfold f_X11_goes f_X11_goes_b25
  rw [e6, if_pos rfl, e7, show z 41 0 (48 * m + p) = 6 from (hs 0 (by omega)).trans hk, if_pos rfl]
theorem act_7 {pf : Int32 → st → Option (Nat × st)} {f m p : Nat} {y z : st} (hf : f < 12) (hm8 : m < 8) (h : Wa f m p y z) (hk : y 18 (48 * m + p) 0 = 7) : ∃ o y6, f_X4_doAct pf f (48 * m + p) (nI (f + 1)) y = some (o, y6) ∧ o < 5 ∧ AP f m p y z o y6 := by
  obtain ⟨hst, hs, hA, hp48⟩ := h.step hf hm8
  have hb := hA.2.2.2.2.1 (by rw [hk]; decide)
  have ha : isN (y 18 (48 * m + p) 1) 5 := hA.2.1 (by rw [hk]; decide)
  have ha2 := ha.2
  have e6 : inb (nI (48 * m + p)) 384 = true := inb_nI (by omega) (by decide)
  have e7 : (nI (48 * m + p)).toNatClampNeg = 48 * m + p := nI_clamp (by omega)
  have e59 : z 59 0 (6 * f + nv (y 18 (48 * m + p) 1)) = y 13 f (nv (y 18 (48 * m + p) 1)) := (h.1.2.2.2.2.1 f (by omega)).2.2.1 _ (by omega)
  rw [doAct_7 hk, hb.1, ha.1, inb_nI (by omega) (by decide), if_pos rfl, nI_clamp (by omega)]
  rw [hk] at hst
  unfold stepK at hst
  rw [if_neg (by decide), if_pos (by decide)] at hst
  unfold f_X11_goes f_X11_goes_b25 at hst
  rw [e6, if_pos rfl, e7, show z 41 0 (48 * m + p) = 7 from (hs 0 (by omega)).trans hk, if_neg (by decide), if_pos rfl, show z 42 0 (48 * m + p) = nI (nv (y 18 (48 * m + p) 1)) from (hs 1 (by omega)).trans ha.1, bnd_of (get_eq (by omega) (by omega)), e59] at hst
  by_cases h0 : y 13 f (nv (y 18 (48 * m + p) 1)) ≤ 0
  · rw [if_pos h0] at hst ⊢
    refine ⟨0, y, rfl, by omega, ?_⟩
    refine AP_on hf hm8 hp48 Qk.rf rfl rfl h.1 h.2.1 h.2.2.1 Rch.rf h.1.2.2.2.2.2.2.2.2.1.2.1 ?_
    rw [hst]
    unfold f_X11_goes_b30 f_X11_goes_b58 f_X11_goes_b81
    rw [if_pos rfl, if_pos rfl, inb_nI (show f < 13 by omega) (by decide), if_pos rfl, nI_clamp (show f < 2 ^ 31 by omega), bnv_id]
  · rw [if_neg h0] at hst ⊢
    exact jump_sim hf hm8 h hp48 hb.2 ((hs 2 (by omega)).trans hb.1) hst
