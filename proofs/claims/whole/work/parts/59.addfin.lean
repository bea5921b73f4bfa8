/-! an element is added: the world behind it -/
theorem iw.mp {D : va_G} {z : Nat} {ad ad' : Nat → Nat → Nat} {dm dm' : Nat → Nat → Prop} {ce ce' : Nat → Nat → va_E} {H : Heap} (φ : Nat → Nat → Nat × Nat) (h : iw D z ad dm ce H) (hc : ∀ k i, dm' k i → dm (φ k i).1 (φ k i).2 ∧ ad' k i = ad (φ k i).1 (φ k i).2 ∧ ce' k i = ce (φ k i).1 (φ k i).2) (hi : ∀ k i k' i', dm' k i → dm' k' i' → φ k i = φ k' i' → k = k' ∧ i = i') : iw D z ad' dm' ce' H := by
  refine ⟨fun k i hd => ?_, fun k i k' i' h1 h2 e => ?_, fun k i hd => ?_⟩
  · obtain ⟨a1, a2, a3⟩ := hc k i hd
    rw [a2, a3]; exact h.1 _ _ a1
  · obtain ⟨a1, a2, -⟩ := hc k i h1
    obtain ⟨b1, b2, -⟩ := hc k' i' h2
    rw [a2, b2] at e
    have := h.2.1 _ _ _ _ a1 b1 e
    exact hi k i k' i' h1 h2 (Prod.ext this.1 this.2)
  · obtain ⟨a1, a2, -⟩ := hc k i hd
    rw [a2]; exact h.2.2 _ _ a1
theorem addX_app {x : st} {kl ka ke mul m n : Nat} {F : Nat → Int32} {k i : Nat} : addX x kl ka ke mul m n F k i = if k = kl ∧ i = m then (fun j => if j = 0 then x kl m 0 + 1 else if j = 2 then nI (n + 1) else x kl m j) else if k = ka ∧ i = m then (fun j => if j = 0 then nI (n + 1) else nI (newcap n (nv (x ka m 1)))) else if k = ke ∧ i = mul * m + n then F else x k i := by
  unfold addX
  rw [sxA_app, sxA_app, sxA_app]
/-- what the list's family says -/
def gokL (g : gT) (x : st) (kl ka ke mul m : Nat) : Prop := x kl m 2 = x ka m 0 ∧ ∀ j, j < nv (x ka m 0) → gd g ka m ∧ gd g ke (mul * m + j) ∧ j < nv (x ka m 1)
theorem gok_L {g : gT} {x : st} : gok g x ↔ (∀ k i, i < famN.getD k 0 → gd g k i) ∧ ∀ m, m < 8 → gokL g x 21 24 18 48 m ∧ gokL g x 22 25 19 6 m ∧ gokL g x 23 26 20 6 m := by
  constructor
  · rintro ⟨h1, h2, h3, h4, h5⟩
    exact ⟨h1, fun m hm => ⟨⟨(h2 m hm).1, fun j hj => h3 m j hm hj⟩, ⟨(h2 m hm).2.1, fun j hj => h4 m j hm hj⟩, ⟨(h2 m hm).2.2, fun j hj => h5 m j hm hj⟩⟩⟩
  · rintro ⟨h1, h2⟩
    exact ⟨h1, fun m hm => ⟨(h2 m hm).1.1, (h2 m hm).2.1.1, (h2 m hm).2.2.1⟩, fun m j hm hj => (h2 m hm).1.2 j hj, fun m j hm hj => (h2 m hm).2.1.2 j hj, fun m j hm hj => (h2 m hm).2.2.2 j hj⟩
theorem gokL.up {g g' : gT} {x x' : st} {kl ka ke mul m : Nat} (h : gokL g x kl ka ke mul m) (hd : ∀ k i, gd g k i → gd g' k i) (e1 : x' kl m = x kl m) (e2 : x' ka m = x ka m) : gokL g' x' kl ka ke mul m := by
  unfold gokL at h ⊢
  rw [e1, e2]
  exact ⟨h.1, fun j hj => ⟨hd _ _ (h.2 j hj).1, hd _ _ (h.2 j hj).2.1, (h.2 j hj).2.2⟩⟩
theorem lok.up {g g' : gT} {x x' : st} {ka m : Nat} (h : lok g x ka m) (hd : gd g' ka m ↔ gd g ka m) (ha : ga g' ka m = ga g ka m) (he : ge g' = ge g) (e2 : x' ka m = x ka m) : lok g' x' ka m := by
  unfold lok at h ⊢
  rw [e2, hd, ha, he]
  exact h
theorem LK.lok {kl ka ke mul ci : Nat} (h : LK kl ka ke mul ci) {g : gT} {x : st} {m : Nat} (h2 : gok2 g x) (hm : m < 8) : lok g x ka m ∧ isN (x ka m 0) mul := by
  have := h2.2 m hm
  rcases h with ⟨rfl, rfl, rfl, rfl, rfl⟩ | ⟨rfl, rfl, rfl, rfl, rfl⟩ | ⟨rfl, rfl, rfl, rfl, rfl⟩
  · exact ⟨this.2.1, this.1.1⟩
  · exact ⟨this.2.2.1, this.1.2.1⟩
  · exact ⟨this.2.2.2, this.1.2.2⟩
theorem LK.gl {kl ka ke mul ci : Nat} (h : LK kl ka ke mul ci) {g : gT} {x : st} {m : Nat} (h2 : gok g x) (hm : m < 8) : gokL g x kl ka ke mul m := by
  have := (gok_L.mp h2).2 m hm
  rcases h with ⟨rfl, rfl, rfl, rfl, rfl⟩ | ⟨rfl, rfl, rfl, rfl, rfl⟩ | ⟨rfl, rfl, rfl, rfl, rfl⟩
  · exact this.1
  · exact this.2.1
  · exact this.2.2
theorem LK.b8 {kl ka ke mul ci : Nat} (h : LK kl ka ke mul ci) {g : gT} {x : st} {i : Nat} (h2 : gok2 g x) (hd : gd g ka i) : i < 8 := by
  have := h2.1 i
  rcases h with ⟨rfl, rfl, rfl, rfl, rfl⟩ | ⟨rfl, rfl, rfl, rfl, rfl⟩ | ⟨rfl, rfl, rfl, rfl, rfl⟩
  · exact this.2.1 hd
  · exact this.2.2.1 hd
  · exact this.2.2.2 hd
def addG (g : gT) (ka ke e m q q2 : Nat) : gT := gre g (up2 (up2 (ga g) ke e q) ka m q2) (up2 (up2 (gd g) ke e True) ka m True)
theorem addG_d {g : gT} {ka ke e m q q2 k i : Nat} (h : gd g k i) : gd (addG g ka ke e m q q2) k i := by
  show up2 (up2 (gd g) ke e True) ka m True k i
  by_cases c : k = ka ∧ i = m
  · rw [c.1, c.2, up2_same]; trivial
  · rw [up2_ne _ _ c]
    by_cases d : k = ke ∧ i = e
    · rw [d.1, d.2, up2_same]; trivial
    · rw [up2_ne _ _ d]; exact h
theorem addG_n {g : gT} {ka ke e m q q2 k i : Nat} (h1 : ¬ (k = ka ∧ i = m)) (h2 : ¬ (k = ke ∧ i = e)) : (gd (addG g ka ke e m q q2) k i ↔ gd g k i) ∧ ga (addG g ka ke e m q q2) k i = ga g k i := by
  refine ⟨?_, ?_⟩
  · show up2 (up2 (gd g) ke e True) ka m True k i ↔ _
    rw [up2_ne _ _ h1, up2_ne _ _ h2]
  · show up2 (up2 (ga g) ke e q) ka m q2 k i = _
    rw [up2_ne _ _ h1, up2_ne _ _ h2]
set_option maxHeartbeats 4000000 in
/-- the world, where a list has one element more -/
theorem add_fin {kl ka ke mul ci : Nat} (hL : LK kl ka ke mul ci) {g : gT} {x : st} {H : Heap} {m n q q2 : Nat} {F : Nat → Int32} (hm : m < 8) (hk : gok g x) (hk2 : gok2 g x) (hn : x ka m 0 = nI n) (hnm : n < mul)
    (hI : iw (gD g) (gz g) (up2 (up2 (ga g) ke (mul * m + n) q) ka m q2) (up2 (up2 (gd g) ke (mul * m + n) True) ka m True)
      (up2 (up2 (up2 (fcs g x) ke (mul * m + n) (fc (addG g ka ke (mul * m + n) m q q2) ke (mul * m + n) F)) ka m (.inl (gy g 3, newcap n (nv (x ka m 1)), qa (va_up (fun j => if j < n then some (ga g ke (mul * m + j)) else none) n (some q))))) kl m (.inr (0, [.int (x kl m 0 + 1), .ref q2, .int (nI (n + 1))]))) H) :
    wst (addG g ka ke (mul * m + n) m q q2) (addX x kl ka ke mul m n F) H ∧ gok2 (addG g ka ke (mul * m + n) m q q2) (addX x kl ka ke mul m n F) ∧ gx g (addG g ka ke (mul * m + n) m q q2) := by
  obtain ⟨⟨-, -, hlka⟩, -, hea, hel, -, ⟨hmul, hmul0⟩⟩ := hL.ne
  obtain ⟨hlo, hN⟩ := hL.lok hk2 hm
  have hgl := hL.gl hk hm
  have hcap : nv (x ka m 1) < 100 := by
    rcases hlo with ⟨-, -, -, h⟩ | ⟨-, -, -, h⟩
    · exact h
    · rw [h]; decide
  obtain ⟨hc1, hc2⟩ := newcap_le (n := n) (cap := nv (x ka m 1)) (by omega) hcap
  have aa : ga (addG g ka ke (mul * m + n) m q q2) ka m = q2 := up2_same _ _ _ _
  have ae : ∀ j, ¬ j = mul * m + n → ga (addG g ka ke (mul * m + n) m q q2) ke j = ga g ke j := fun j hj => (addG_n (fun c => hea c.1) (fun c => hj c.2)).2
  have aq : ga (addG g ka ke (mul * m + n) m q q2) ke (mul * m + n) = q := by
    show up2 (up2 (ga g) ke (mul * m + n) q) ka m q2 ke (mul * m + n) = q
    rw [up2_ne _ _ (fun c => hea c.1), up2_same]
  have hw : iw (gD g) (gz g) (ga (addG g ka ke (mul * m + n) m q q2)) (gd (addG g ka ke (mul * m + n) m q q2)) (fcs (addG g ka ke (mul * m + n) m q q2) (addX x kl ka ke mul m n F)) H := by
    refine hI.cg (fun k i hd => ?_)
    show _ = fc (addG g ka ke (mul * m + n) m q q2) k i (addX x kl ka ke mul m n F k i)
    rw [addX_app]
    by_cases c1 : k = kl ∧ i = m
    · obtain ⟨rfl, rfl⟩ := c1
      rw [up2_same, if_pos ⟨rfl, rfl⟩, (hL.fl _ _ _).1, aa]
      rfl
    · rw [up2_ne _ _ c1, if_neg c1]
      by_cases c2 : k = ka ∧ i = m
      · obtain ⟨rfl, rfl⟩ := c2
        rw [up2_same, if_pos ⟨rfl, rfl⟩, (hL.fl _ _ _).2]
        have e0 : nv (nI (n + 1)) = n + 1 := nv_nI (by omega)
        have e1 : nv (nI (newcap n (nv (x k i 1)))) = newcap n (nv (x k i 1)) := nv_nI (by omega)
        show _ = Sum.inl (gy g 3, nv (nI (newcap n (nv (x k i 1)))), qa (fun j => if j < nv (nI (n + 1)) then some (ga (addG g k ke (mul * i + n) i q q2) ke (mul * i + j)) else none))
        rw [e0, e1]
        congr 5
        funext j
        unfold va_up
        by_cases hj : j = n
        · subst hj; rw [if_pos rfl, if_pos (by omega), aq]
        · rw [if_neg hj]
          show (if j < n then some (ga g ke (mul * i + j)) else none) = _
          by_cases h2 : j < n
          · rw [if_pos h2, if_pos (by omega), ae _ (by omega)]
          · rw [if_neg h2, if_neg (by omega)]
      · rw [up2_ne _ _ c2, if_neg c2]
        by_cases c3 : k = ke ∧ i = mul * m + n
        · obtain ⟨rfl, rfl⟩ := c3
          rw [up2_same, if_pos ⟨rfl, rfl⟩]
        · rw [up2_ne _ _ c3, if_neg c3]
          show fc g k i (x k i) = _
          have hgd : gd g k i := (addG_n (g := g) (q := q) (q2 := q2) c2 c3).1.mp hd
          by_cases c4 : k = ka
          · subst c4
            have hi8 : i < 8 := hL.b8 hk2 hgd
            have hb := (hL.lok hk2 hi8).2
            have hb2 := hb.2
            have him : ¬ i = m := fun q => c2 ⟨rfl, q⟩
            rw [(hL.fl _ _ _).2, (hL.fl _ _ _).2]
            show _ = Sum.inl (gy g 3, nv (x k i 1), qa (fun j => if j < nv (x k i 0) then some (ga (addG g k ke (mul * m + n) m q q2) ke (mul * i + j)) else none))
            congr 5
            funext j
            by_cases hj : j < nv (x k i 0)
            · rw [if_pos hj, if_pos hj, ae]
              intro q
              rcases Nat.lt_or_ge i m with hlt | hge
              · have h1 : mul * i + mul ≤ mul * m := by
                  have := Nat.mul_le_mul_left mul (show i + 1 ≤ m by omega)
                  rw [Nat.mul_add, Nat.mul_one] at this
                  exact this
                omega
              · have h1 : mul * m + mul ≤ mul * i := by
                  have := Nat.mul_le_mul_left mul (show m + 1 ≤ i by omega)
                  rw [Nat.mul_add, Nat.mul_one] at this
                  exact this
                omega
            · rw [if_neg hj, if_neg hj]
          · exact (fc_cg hL (g := g) (g' := addG g ka ke (mul * m + n) m q q2) rfl (fun K I h1 h2 => (addG_n h2 (fun c => h1 c.1)).2) k i _ c4 c1).symm
  have e0 : nv (nI (n + 1)) = n + 1 := nv_nI (by omega)
  have e1 : nv (nI (newcap n (nv (x ka m 1)))) = newcap n (nv (x ka m 1)) := nv_nI (by omega)
  have xl : addX x kl ka ke mul m n F kl m 2 = nI (n + 1) := by rw [addX_app, if_pos ⟨rfl, rfl⟩]; rfl
  have xa0 : addX x kl ka ke mul m n F ka m 0 = nI (n + 1) := by rw [addX_app, if_neg (fun c => hlka c.1.symm), if_pos ⟨rfl, rfl⟩]; rfl
  have xa1 : addX x kl ka ke mul m n F ka m 1 = nI (newcap n (nv (x ka m 1))) := by rw [addX_app, if_neg (fun c => hlka c.1.symm), if_pos ⟨rfl, rfl⟩]; rfl
  have hda : gd (addG g ka ke (mul * m + n) m q q2) ka m := by
    show up2 (up2 (gd g) ke (mul * m + n) True) ka m True ka m
    rw [up2_same]; trivial
  have hde : gd (addG g ka ke (mul * m + n) m q q2) ke (mul * m + n) := by
    show up2 (up2 (gd g) ke (mul * m + n) True) ka m True ke (mul * m + n)
    rw [up2_ne _ _ (fun c => hea c.1), up2_same]; trivial
  have hself : gokL (addG g ka ke (mul * m + n) m q q2) (addX x kl ka ke mul m n F) kl ka ke mul m := by
    refine ⟨xl.trans xa0.symm, fun j hj => ⟨hda, ?_, ?_⟩⟩
    · rw [xa0, e0] at hj
      by_cases hjn : j = n
      · rw [hjn]; exact hde
      · exact addG_d (hgl.2 j (by rw [hn, nv_nI (by omega)]; omega)).2.1
    · rw [xa0, e0] at hj
      rw [xa1, e1]; omega
  have hlself : lok (addG g ka ke (mul * m + n) m q q2) (addX x kl ka ke mul m n F) ka m ∧ isN (addX x kl ka ke mul m n F ka m 0) mul := by
    refine ⟨Or.inl ⟨hda, ?_, ?_, ?_⟩, ?_⟩
    · rw [xa0, xa1, e0, e1]; omega
    · rw [xa1, e1]; omega
    · rw [xa1, e1]; exact hc2
    · rw [xa0]; exact isN.of (by omega) (by omega)
  have oth : ∀ kl2 ka2 ke2 mul2 m2, gokL g x kl2 ka2 ke2 mul2 m2 → ¬ (kl2 = kl ∧ m2 = m) → ¬ (ka2 = ka ∧ m2 = m) → ¬ kl2 = ka → ¬ kl2 = ke → ¬ ka2 = kl → ¬ ka2 = ke → gokL (addG g ka ke (mul * m + n) m q q2) (addX x kl ka ke mul m n F) kl2 ka2 ke2 mul2 m2 := by
    intro kl2 ka2 ke2 mul2 m2 h a b c d e f
    refine h.up (fun k i h => addG_d h) ?_ ?_
    · rw [addX_app, if_neg a, if_neg (fun q => c q.1), if_neg (fun q => d q.1)]
    · rw [addX_app, if_neg (fun q => e q.1), if_neg b, if_neg (fun q => f q.1)]
  have lth : ∀ ka2 m2, lok g x ka2 m2 → ¬ (ka2 = ka ∧ m2 = m) → ¬ ka2 = kl → ¬ ka2 = ke → lok (addG g ka ke (mul * m + n) m q q2) (addX x kl ka ke mul m n F) ka2 m2 := by
    intro ka2 m2 h b e f
    obtain ⟨p1, p2⟩ := addG_n (g := g) (q := q) (q2 := q2) b (fun c => f c.1 : ¬ (ka2 = ke ∧ m2 = mul * m + n))
    exact h.up p1 p2 rfl (by rw [addX_app, if_neg (fun q => e q.1), if_neg b, if_neg (fun q => f q.1)])
  have nth : ∀ ka2 m2 B, isN (x ka2 m2 0) B → ¬ (ka2 = ka ∧ m2 = m) → ¬ ka2 = kl → ¬ ka2 = ke → isN (addX x kl ka ke mul m n F ka2 m2 0) B := by
    intro ka2 m2 B h b e f
    rw [addX_app, if_neg (fun q => e q.1), if_neg b, if_neg (fun q => f q.1)]
    exact h
  obtain ⟨hst, hls⟩ := gok_L.mp hk
  refine ⟨⟨hw, gok_L.mpr ⟨fun k i hi => addG_d (hst k i hi), fun m2 hm2 => ?_⟩⟩, ⟨fun i => ?_, fun m2 hm2 => ?_⟩, ⟨_, _, rfl, ?_, ?_⟩⟩
  · obtain ⟨l1, l2, l3⟩ := hls m2 hm2
    by_cases hmm : m2 = m
    · subst hmm
      rcases hL with ⟨rfl, rfl, rfl, rfl, rfl⟩ | ⟨rfl, rfl, rfl, rfl, rfl⟩ | ⟨rfl, rfl, rfl, rfl, rfl⟩
      · exact ⟨hself, oth _ _ _ _ _ l2 (by simp) (by simp) (by decide) (by decide) (by decide) (by decide), oth _ _ _ _ _ l3 (by simp) (by simp) (by decide) (by decide) (by decide) (by decide)⟩
      · exact ⟨oth _ _ _ _ _ l1 (by simp) (by simp) (by decide) (by decide) (by decide) (by decide), hself, oth _ _ _ _ _ l3 (by simp) (by simp) (by decide) (by decide) (by decide) (by decide)⟩
      · exact ⟨oth _ _ _ _ _ l1 (by simp) (by simp) (by decide) (by decide) (by decide) (by decide), oth _ _ _ _ _ l2 (by simp) (by simp) (by decide) (by decide) (by decide) (by decide), hself⟩
    · rcases hL with ⟨rfl, rfl, rfl, rfl, rfl⟩ | ⟨rfl, rfl, rfl, rfl, rfl⟩ | ⟨rfl, rfl, rfl, rfl, rfl⟩ <;>
        exact ⟨oth _ _ _ _ _ l1 (fun c => hmm c.2) (fun c => hmm c.2) (by decide) (by decide) (by decide) (by decide), oth _ _ _ _ _ l2 (fun c => hmm c.2) (fun c => hmm c.2) (by decide) (by decide) (by decide) (by decide), oth _ _ _ _ _ l3 (fun c => hmm c.2) (fun c => hmm c.2) (by decide) (by decide) (by decide) (by decide)⟩
  · have hb := hk2.1 i
    have key : ∀ k, gd (addG g ka ke (mul * m + n) m q q2) k i → (k = ka ∧ i = m) ∨ k = ke ∨ gd g k i := by
      intro k h
      by_cases c : k = ka ∧ i = m
      · exact Or.inl c
      · by_cases d : k = ke
        · exact Or.inr (Or.inl d)
        · exact Or.inr (Or.inr ((addG_n c (fun q => d q.1)).1.mp h))
    rcases hL with ⟨rfl, rfl, rfl, rfl, rfl⟩ | ⟨rfl, rfl, rfl, rfl, rfl⟩ | ⟨rfl, rfl, rfl, rfl, rfl⟩ <;>
      refine ⟨fun h => ?_, fun h => ?_, fun h => ?_, fun h => ?_⟩ <;>
      rcases key _ h with c | c | c <;> first | (exact hb.1 c) | (exact hb.2.1 c) | (exact hb.2.2.1 c) | (exact hb.2.2.2 c) | (obtain ⟨c1, c2⟩ := c; omega) | omega
  · obtain ⟨⟨i1, i2, i3⟩, l1, l2, l3⟩ := hk2.2 m2 hm2
    by_cases hmm : m2 = m
    · subst hmm
      rcases hL with ⟨rfl, rfl, rfl, rfl, rfl⟩ | ⟨rfl, rfl, rfl, rfl, rfl⟩ | ⟨rfl, rfl, rfl, rfl, rfl⟩
      · exact ⟨⟨hlself.2, nth _ _ _ i2 (by simp) (by decide) (by decide), nth _ _ _ i3 (by simp) (by decide) (by decide)⟩, hlself.1, lth _ _ l2 (by simp) (by decide) (by decide), lth _ _ l3 (by simp) (by decide) (by decide)⟩
      · exact ⟨⟨nth _ _ _ i1 (by simp) (by decide) (by decide), hlself.2, nth _ _ _ i3 (by simp) (by decide) (by decide)⟩, lth _ _ l1 (by simp) (by decide) (by decide), hlself.1, lth _ _ l3 (by simp) (by decide) (by decide)⟩
      · exact ⟨⟨nth _ _ _ i1 (by simp) (by decide) (by decide), nth _ _ _ i2 (by simp) (by decide) (by decide), hlself.2⟩, lth _ _ l1 (by simp) (by decide) (by decide), lth _ _ l2 (by simp) (by decide) (by decide), hlself.1⟩
    · rcases hL with ⟨rfl, rfl, rfl, rfl, rfl⟩ | ⟨rfl, rfl, rfl, rfl, rfl⟩ | ⟨rfl, rfl, rfl, rfl, rfl⟩ <;>
        exact ⟨⟨nth _ _ _ i1 (fun c => hmm c.2) (by decide) (by decide), nth _ _ _ i2 (fun c => hmm c.2) (by decide) (by decide), nth _ _ _ i3 (fun c => hmm c.2) (by decide) (by decide)⟩, lth _ _ l1 (fun c => hmm c.2) (by decide) (by decide), lth _ _ l2 (fun c => hmm c.2) (by decide) (by decide), lth _ _ l3 (fun c => hmm c.2) (by decide) (by decide)⟩
  · rcases hL with ⟨rfl, rfl, rfl, rfl, rfl⟩ | ⟨rfl, rfl, rfl, rfl, rfl⟩ | ⟨rfl, rfl, rfl, rfl, rfl⟩ <;> rw [up2_ne _ _ (by simp), up2_ne _ _ (by simp)]
  · rcases hL with ⟨rfl, rfl, rfl, rfl, rfl⟩ | ⟨rfl, rfl, rfl, rfl, rfl⟩ | ⟨rfl, rfl, rfl, rfl, rfl⟩ <;> rw [up2_ne _ _ (by simp), up2_ne _ _ (by simp)]
