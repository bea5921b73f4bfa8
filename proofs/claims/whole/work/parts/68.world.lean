/-! the world behind the two constructors -/
def offL : List Nat := [0, 1, 2, 3, 4, 6, 7, 8, 9, 10, 5, 11, 0, 0, 0, 0, 0, 0, 0, 0, 0, 0, 0, 0, 0, 0, 0, 0, 0, 0, 80, 0, 0, 0, 0, 0, 0, 0, 0, 0,
  81, 82, 83, 84, 85, 86, 87, 88, 89, 90, 91, 92, 93, 94, 95, 0, 0, 96, 97, 98, 99, 100, 101, 102, 103, 104, 105, 106, 0, 0, 107, 108, 109, 110, 0, 0, 0, 0, 0, 0, 111, 112, 113, 114]
def ad0 (h e : Nat) : Nat → Nat → Nat := fun k i => if k = 12 then h + 44 + 3 * i else if k = 13 then h + 44 + 3 * i + 1 else if k = 14 then h + 44 + 3 * i + 2 else if k = 15 then h + 12 + 4 * i else if k = 21 then h + 12 + 4 * i + 1 else if k = 22 then h + 12 + 4 * i + 2 else if k = 23 then h + 12 + 4 * i + 3 else if k = 24 ∨ k = 25 ∨ k = 26 then e else h + offL.getD k 0
def gd0 : Nat → Nat → Prop := fun k i => i < famN.getD k 0
def x0 : st := fun k _ j => if (k = 0 ∧ j = 1) ∨ (k = 30 ∧ j = 15) then 10 else 0
def g0 (D : va_G) (y : Nat → ClassId) (e : Nat → Nat) (h : Nat) : gT := (D, y, e, h, ad0 h (e 20), gd0)
def L34 : List Nat := [83, 82, 81, 80, 73, 72, 71, 70, 67, 66, 65, 64, 63, 62, 61, 60, 59, 58, 57, 54, 53, 52, 51, 50, 49, 48, 47, 46, 45, 44, 43, 42, 41, 40]
theorem x0_z {k : Nat} (h1 : ¬ k = 0) (h2 : ¬ k = 30) (i : Nat) : x0 k i = fun _ => 0 := by
  funext j
  unfold x0
  rw [if_neg]
  rintro (q | q)
  · exact h1 q.1
  · exact h2 q.1
theorem at4_g0 (D : va_G) (y : Nat → ClassId) (e : Nat → Nat) (h : Nat) : at4 (g0 D y e h) (h + 2) := by
  refine ⟨⟨rfl, rfl, rfl, rfl, rfl, rfl, rfl, rfl, rfl, rfl⟩, fun i _ => ⟨?_, ?_, ?_, ?_, rfl, rfl, rfl⟩, fun i _ => ⟨?_, ?_, ?_⟩⟩
  · show h + 12 + 4 * i = h + 2 + 10 + 4 * i; omega
  · show h + 12 + 4 * i + 1 = h + 2 + 10 + 4 * i + 1; omega
  · show h + 12 + 4 * i + 2 = h + 2 + 10 + 4 * i + 2; omega
  · show h + 12 + 4 * i + 3 = h + 2 + 10 + 4 * i + 3; omega
  · show h + 44 + 3 * i = h + 2 + 42 + 3 * i; omega
  · show h + 44 + 3 * i + 1 = h + 2 + 42 + 3 * i + 1; omega
  · show h + 44 + 3 * i + 2 = h + 2 + 42 + 3 * i + 2; omega
theorem famK : ∀ k, k < 84 → famN.getD k 0 = (if k = 12 ∨ k = 13 ∨ k = 14 then 12 else if k = 15 ∨ k = 21 ∨ k = 22 ∨ k = 23 then 8 else if k ∈ [0, 1, 2, 3, 4, 5, 6, 7, 8, 9, 10, 11, 30] ∨ k ∈ L34 then 1 else 0) := by decide
theorem fam_c {k i : Nat} (h : gd0 k i) : ((k = 12 ∨ k = 13 ∨ k = 14) ∧ i < 12) ∨ ((k = 15 ∨ k = 21 ∨ k = 22 ∨ k = 23) ∧ i < 8) ∨ (k ∈ [0, 1, 2, 3, 4, 5, 6, 7, 8, 9, 10, 11, 30] ∧ i = 0) ∨ (k ∈ L34 ∧ i = 0) := by
  have h : i < famN.getD k 0 := h
  have hk : k < 84 := by
    refine Nat.not_le.mp (fun q => ?_)
    have : famN.getD k 0 = 0 := by
      rw [List.getD_eq_getElem?_getD, List.getElem?_eq_none (by exact q)]
      rfl
    omega
  rw [famK k hk] at h
  by_cases c1 : k = 12 ∨ k = 13 ∨ k = 14
  · rw [if_pos c1] at h; exact Or.inl ⟨c1, h⟩
  · rw [if_neg c1] at h
    by_cases c2 : k = 15 ∨ k = 21 ∨ k = 22 ∨ k = 23
    · rw [if_pos c2] at h; exact Or.inr (Or.inl ⟨c2, h⟩)
    · rw [if_neg c2] at h
      by_cases c3 : k ∈ [0, 1, 2, 3, 4, 5, 6, 7, 8, 9, 10, 11, 30] ∨ k ∈ L34
      · rw [if_pos c3] at h
        rcases c3 with c3 | c3
        · exact Or.inr (Or.inr (Or.inl ⟨c3, by omega⟩))
        · exact Or.inr (Or.inr (Or.inr ⟨c3, by omega⟩))
      · rw [if_neg c3] at h; omega
def dmB : Nat → Nat → Prop := dmL (up2 (dm4 (up2 (up2 (fun _ _ => False) 0 0 True) 1 0 True)) 30 0 True) 0 L34
def ceA (g : gT) (c : Nat → Nat → va_E) (a b : va_E) : Nat → Nat → va_E := up2 (ce4 g (up2 (up2 c 0 0 a) 1 0 b)) 0 0 (.inr (10, [.ref (ga g 1 0), .int 10]))
def ceB (g : gT) (c : Nat → Nat → va_E) (a b d : va_E) : Nat → Nat → va_E := up2 (ceL g (up2 (ceA g c a b) 30 0 d) 0 L34) 30 0 (fc g 30 0 (fun j => if j = 15 then 10 else 0))
theorem dmB_all {k i : Nat} (h : gd0 k i) : dmB k i := by
  unfold dmB
  rw [dmL_iff]
  rcases fam_c h with ⟨hk, hi⟩ | ⟨hk, hi⟩ | ⟨hk, hi⟩ | ⟨hk, hi⟩
  · left
    rw [up2_ne _ _ (by omega)]
    refine Or.inr ⟨?_, hi⟩
    rcases hk with rfl | rfl | rfl <;> decide
  · left
    rw [up2_ne _ _ (by omega)]
    refine Or.inl (Or.inr ⟨?_, hi⟩)
    rcases hk with rfl | rfl | rfl | rfl <;> decide
  · left
    subst hi
    by_cases c30 : k = 30
    · subst c30; rw [up2_same]; trivial
    · rw [up2_ne _ _ (fun q => c30 q.1)]
      refine Or.inl (Or.inl (dmL_iff.mpr ?_))
      by_cases c1 : k = 1
      · subst c1; left; rw [up2_same]; trivial
      · by_cases c0 : k = 0
        · subst c0; left; rw [up2_ne _ _ (by decide), up2_same]; trivial
        · right
          refine ⟨rfl, ?_⟩
          simp at hk ⊢
          omega
  · right
    exact ⟨hi, hk⟩
theorem ce4_e (g : gT) (c : Nat → Nat → va_E) {k i : Nat} (h : gd0 k i) (h0 : ¬ k = 0) (h30 : ¬ k = 30) (h34 : k ∉ L34) : ce4 g c k i = (if k = 11 then e11 g 12 else if k = 10 then e10 g 8 else fz g k i) := by
  unfold ce4 ceX
  rcases fam_c h with ⟨hk, hi⟩ | ⟨hk, hi⟩ | ⟨hk, hi⟩ | ⟨hk, hi⟩
  · rw [if_neg (by omega), if_pos ⟨by simp; omega, hi⟩, if_neg (by omega), if_neg (by omega)]
  · rw [if_neg (by omega), if_neg (fun q => by have := q.1; simp at this; omega), if_neg (by omega), if_pos ⟨by simp; omega, hi⟩, if_neg (by omega), if_neg (by omega)]
  · subst hi
    by_cases c11 : k = 11
    · rw [if_pos ⟨c11, rfl⟩, if_pos c11]
    · rw [if_neg (fun q => c11 q.1), if_neg c11]
      have n1 : ¬ ((k = 12 ∨ k ∈ [14, 13]) ∧ 0 < 12) := fun q => by have := q.1; simp at this hk; omega
      have n2 : ¬ ((k = 15 ∨ k ∈ [23, 22, 21]) ∧ 0 < 8) := fun q => by have := q.1; simp at this hk; omega
      rw [if_neg n1]
      by_cases c10 : k = 10
      · rw [if_pos ⟨c10, rfl⟩, if_pos c10]
      · rw [if_neg (fun q => c10 q.1), if_neg c10, if_neg n2]
        unfold ce5
        by_cases c1 : k = 1
        · subst c1; rw [up2_same]
        · rw [up2_ne _ _ (fun q => c1 q.1), up2_ne _ _ (fun q => c11 q.1)]
          by_cases c5 : k ∈ [5, 9, 8, 7, 6]
          · rw [ceL_in c5]
          · rw [ceL_ne c5, up2_ne _ _ (fun q => c10 q.1)]
            refine ceL_in ?_
            simp at hk c5 ⊢
            omega
  · exact absurd hk h34
theorem ceB_e (g : gT) (c : Nat → Nat → va_E) (a b d : va_E) {k i : Nat} (h : gd0 k i) : ceB g c a b d k i = (if k = 11 then e11 g 12 else if k = 10 then e10 g 8 else fcs g x0 k i) := by
  unfold ceB
  by_cases c30 : k = 30
  · subst c30
    have hi : i = 0 := by have : i < 1 := h; omega
    subst hi
    rw [up2_same]
    rfl
  · rw [up2_ne _ _ (fun q => c30 q.1)]
    by_cases c34 : k ∈ L34
    · have hi : i = 0 := by
        rcases fam_c h with ⟨hk, -⟩ | ⟨hk, -⟩ | ⟨-, hi⟩ | ⟨-, hi⟩
        · exfalso; rcases hk with rfl | rfl | rfl <;> revert c34 <;> decide
        · exfalso; rcases hk with rfl | rfl | rfl | rfl <;> revert c34 <;> decide
        · exact hi
        · exact hi
      subst hi
      rw [ceL_in c34, if_neg (fun q => by subst q; revert c34; decide), if_neg (fun q => by subst q; revert c34; decide)]
      show fc g k 0 (fun _ => 0) = fc g k 0 (x0 k 0)
      rw [x0_z (fun q => by subst q; revert c34; decide) c30]
    · rw [ceL_ne c34, up2_ne _ _ (fun q => c30 q.1)]
      unfold ceA
      by_cases c0 : k = 0
      · subst c0
        have hi : i = 0 := by have : i < 1 := h; omega
        subst hi
        rw [up2_same]
        rfl
      · rw [up2_ne _ _ (fun q => c0 q.1), ce4_e g _ h c0 c30 c34]
        by_cases c11 : k = 11
        · rw [if_pos c11, if_pos c11]
        · rw [if_neg c11, if_neg c11]
          by_cases c10 : k = 10
          · rw [if_pos c10, if_pos c10]
          · rw [if_neg c10, if_neg c10]
            show fc g k i (fun _ => 0) = fc g k i (x0 k i)
            rw [x0_z c0 c30]
theorem arrV_cg {cA : ClassId} {n : Nat} {f h : Nat → Value} (e : ∀ j, j < n → f j = h j) : arrV cA n f = arrV cA n h := by
  unfold arrV
  congr 2
  funext j
  exact e j.1 j.2
theorem iw.rv {D : va_G} {z : Nat} {ad : Nat → Nat → Nat} {dm dm' : Nat → Nat → Prop} {ce ce' : Nat → Nat → va_E} {H : Heap} (h : iw D z ad dm ce H) (hc : ∀ k i, dm' k i → dm k i ∧ (va_at D vwCl (ad k i, ce k i) H → va_at D vwCl (ad k i, ce' k i) H)) : iw D z ad dm' ce' H :=
  ⟨fun k i hd => (hc k i hd).2 (h.1 k i (hc k i hd).1), fun k i k' i' h1 h2 e => h.2.1 k i k' i' (hc k i h1).1 (hc k' i' h2).1 e, fun k i hd => h.2.2 k i (hc k i hd).1⟩
theorem gok_0 (D : va_G) (y : Nat → ClassId) (e : Nat → Nat) (h : Nat) : gok (g0 D y e h) x0 := by
  refine ⟨fun k i hi => hi, fun m _ => ⟨rfl, rfl, rfl⟩, fun m j _ hj => absurd hj (Nat.not_lt_zero _), fun m j _ hj => absurd hj (Nat.not_lt_zero _), fun m j _ hj => absurd hj (Nat.not_lt_zero _)⟩
theorem gok2_0 (D : va_G) (y : Nat → ClassId) (e : Nat → Nat) (h : Nat) : gok2 (g0 D y e h) x0 := by
  have n : ∀ k i, famN.getD k 0 = 0 → ¬ gd (g0 D y e h) k i := fun k i q r => by
    have r : i < famN.getD k 0 := r
    rw [q] at r; exact Nat.not_lt_zero _ r
  refine ⟨fun i => ⟨n 90 i (by decide), fun q => absurd q (n 24 i (by decide)), fun q => absurd q (n 25 i (by decide)), fun q => absurd q (n 26 i (by decide))⟩, fun m _ => ⟨⟨isN0, isN0, isN0⟩, Or.inr ⟨n 24 m (by decide), rfl, rfl, rfl⟩, Or.inr ⟨n 25 m (by decide), rfl, rfl, rfl⟩, Or.inr ⟨n 26 m (by decide), rfl, rfl, rfl⟩⟩⟩
theorem wst_0 {D : va_G} {y : Nat → ClassId} {e : Nat → Nat} {h : Nat} {c : Nat → Nat → va_E} {a b d : va_E} {H : Heap} (hI : iw D h (ad0 h (e 20)) dmB (ceB (g0 D y e h) c a b d) H) : wst (g0 D y e h) x0 H := by
  refine ⟨iw.rv hI (fun k i hd => ⟨dmB_all hd, fun hq => ?_⟩), gok_0 D y e h⟩
  rw [ceB_e (g0 D y e h) c a b d hd] at hq
  by_cases c11 : k = 11
  · subst c11
    rw [if_pos rfl] at hq
    have hq : H[ad0 h (e 20) 11 i]? = some (vp_cell (gy (g0 D y e h) 5) (12, qa (fun j => if j < 12 then some (ga (g0 D y e h) 12 j) else none))) := hq
    show H[ad0 h (e 20) 11 i]? = some (vp_cell (gy (g0 D y e h) 5) (12, qa (fun j => some (ga (g0 D y e h) 12 j))))
    rw [hq, vp_cell_q, vp_cell_q, arrV_cg (fun j hj => by rw [if_pos hj])]
  · rw [if_neg c11] at hq
    by_cases c10 : k = 10
    · subst c10
      rw [if_pos rfl] at hq
      have hq : H[ad0 h (e 20) 10 i]? = some (vp_cell (gy (g0 D y e h) 4) (8, qa (fun j => if j < 8 then some (ga (g0 D y e h) 15 j) else none))) := hq
      show H[ad0 h (e 20) 10 i]? = some (vp_cell (gy (g0 D y e h) 4) (8, qa (fun j => some (ga (g0 D y e h) 15 j))))
      rw [hq, vp_cell_q, vp_cell_q, arrV_cg (fun j hj => by rw [if_pos hj])]
    · rw [if_neg c10] at hq
      exact hq
theorem Sim_0 : Sim x0 x0 := by
  refine ⟨fun m _ => ⟨⟨isN0, isN0, isN0⟩, ⟨rfl, rfl, rfl⟩, fun j hj => absurd hj (Nat.not_lt_zero _), fun j hj => absurd hj (Nat.not_lt_zero _), fun j hj => absurd hj (Nat.not_lt_zero _)⟩, fun m _ => ⟨⟨rfl, rfl, rfl⟩, fun j hj => absurd hj (Nat.not_lt_zero _), fun j hj => absurd hj (Nat.not_lt_zero _), fun j hj => absurd hj (Nat.not_lt_zero _)⟩, ⟨rfl, isN.of (n := 10) (by decide) (by decide)⟩, ⟨rfl, rfl, rfl, rfl, rfl, rfl, rfl, rfl, rfl⟩, ⟨Or.inl rfl, isN0⟩, ⟨fun j _ => ⟨rfl, rfl, rfl⟩, fun j _ => rfl, fun j _ => ⟨rfl, rfl, rfl⟩⟩⟩
