/-! cells come: the state's words -/
def gre (g : gT) (ad : Nat → Nat → Nat) (dm : Nat → Nat → Prop) : gT := (g.1, g.2.1, g.2.2.1, g.2.2.2.1, ad, dm)
/-- the same classes and constants; the two objects are where they were -/
def gx (g g' : gT) : Prop := ∃ ad dm, g' = gre g ad dm ∧ ad 0 0 = ga g 0 0 ∧ ad 30 0 = ga g 30 0
theorem gx.rf {g : gT} : gx g g := ⟨ga g, gd g, rfl, rfl, rfl⟩
theorem gx.gst {g g' : gT} {U : State} (h : gx g g') (G : gst g U) : gst g' U := by
  obtain ⟨ad, dm, rfl, -⟩ := h
  exact G
theorem gx.z {g g' : gT} (h : gx g g') : gz g' = gz g := by
  obtain ⟨ad, dm, rfl, -⟩ := h
  rfl
theorem gx.a0 {g g' : gT} (h : gx g g') : ga g' 0 0 = ga g 0 0 ∧ ga g' 30 0 = ga g 30 0 := by
  obtain ⟨ad, dm, rfl, h1, h2⟩ := h
  exact ⟨h1, h2⟩
theorem gx.tr {a b c : gT} (h1 : gx a b) (h2 : gx b c) : gx a c := by
  obtain ⟨ad, dm, rfl, p1, p2⟩ := h1
  obtain ⟨ad', dm', rfl, q1, q2⟩ := h2
  exact ⟨ad', dm', rfl, q1.trans p1, q2.trans p2⟩
/-- a list: its family, its array's, its elements', how many, their class -/
def LK (kl ka ke mul ci : Nat) : Prop := (kl = 21 ∧ ka = 24 ∧ ke = 18 ∧ mul = 48 ∧ ci = 1) ∨ (kl = 22 ∧ ka = 25 ∧ ke = 19 ∧ mul = 6 ∧ ci = 4) ∨ (kl = 23 ∧ ka = 26 ∧ ke = 20 ∧ mul = 6 ∧ ci = 2)
/-- a list has its array, or the empty one -/
def lok (g : gT) (x : st) (ka m : Nat) : Prop := (gd g ka m ∧ nv (x ka m 0) ≤ nv (x ka m 1) ∧ 0 < nv (x ka m 1) ∧ nv (x ka m 1) < 100) ∨ (¬ gd g ka m ∧ ga g ka m = ge g 20 ∧ x ka m 0 = 0 ∧ x ka m 1 = 0)
def gok2 (g : gT) (x : st) : Prop := (∀ i, ¬ gd g 90 i ∧ (gd g 24 i → i < 8) ∧ (gd g 25 i → i < 8) ∧ (gd g 26 i → i < 8)) ∧ ∀ m, m < 8 → (isN (x 24 m 0) 48 ∧ isN (x 25 m 0) 6 ∧ isN (x 26 m 0) 6) ∧ lok g x 24 m ∧ lok g x 25 m ∧ lok g x 26 m
def newcap (n cap : Nat) : Nat := if n < cap then cap else if n = 0 then 10 else n + (if 1 < n / 2 then n / 2 else 1)
theorem newcap_le {n cap : Nat} (hn : n < 48) (hc : cap < 100) : n < newcap n cap ∧ newcap n cap < 100 := by
  unfold newcap
  split
  · omega
  · split
    · omega
    · split <;> omega
/-- an element is added -/
def addX (x : st) (kl ka ke mul m n : Nat) (F : Nat → Int32) : st := sxA (sxA (sxA x ke (mul * m + n) F) ka m (fun j => if j = 0 then nI (n + 1) else nI (newcap n (nv (x ka m 1))))) kl m (fun j => if j = 0 then x kl m 0 + 1 else if j = 2 then nI (n + 1) else x kl m j)
theorem LK.ne {kl ka ke mul ci : Nat} (h : LK kl ka ke mul ci) : (¬ kl = 90 ∧ ¬ ka = 90 ∧ ¬ kl = ka) ∧ ¬ ke = 90 ∧ ¬ ke = ka ∧ ¬ ke = kl ∧ ¬ ci = 0 ∧ (mul ≤ 48 ∧ 0 < mul) := by
  rcases h with ⟨rfl, rfl, rfl, rfl, rfl⟩ | ⟨rfl, rfl, rfl, rfl, rfl⟩ | ⟨rfl, rfl, rfl, rfl, rfl⟩ <;> decide
theorem LK.fl {kl ka ke mul ci : Nat} (h : LK kl ka ke mul ci) (g : gT) (m : Nat) (f : Nat → Int32) : fc g kl m f = .inr (0, [.int (f 0), .ref (ga g ka m), .int (f 2)]) ∧ fc g ka m f = .inl (gy g 3, nv (f 1), qa (fun j => if j < nv (f 0) then some (ga g ke (mul * m + j)) else none)) := by
  rcases h with ⟨rfl, rfl, rfl, rfl, rfl⟩ | ⟨rfl, rfl, rfl, rfl, rfl⟩ | ⟨rfl, rfl, rfl, rfl, rfl⟩ <;> exact ⟨rfl, rfl⟩
theorem LK.ci {kl ka ke mul ci : Nat} (h : LK kl ka ke mul ci) (g : gT) (m : Nat) (f : Nat → Int32) : ∃ vs, fc g ke m f = .inr (ci, vs) := by
  rcases h with ⟨rfl, rfl, rfl, rfl, rfl⟩ | ⟨rfl, rfl, rfl, rfl, rfl⟩ | ⟨rfl, rfl, rfl, rfl, rfl⟩ <;> exact ⟨_, rfl⟩
set_option maxHeartbeats 8000000 in
theorem fc_cg {kl ka ke mul ci : Nat} (h : LK kl ka ke mul ci) {g g' : gT} {m : Nat} (hy : gy g' = gy g) (hK : ∀ K I, ¬ K = ke → ¬ (K = ka ∧ I = m) → ga g' K I = ga g K I) (k i : Nat) (f : Nat → Int32) (h1 : ¬ k = ka) (h2 : ¬ (k = kl ∧ i = m)) : fc g' k i f = fc g k i f := by
  rcases h with ⟨rfl, rfl, rfl, rfl, rfl⟩ | ⟨rfl, rfl, rfl, rfl, rfl⟩ | ⟨rfl, rfl, rfl, rfl, rfl⟩
  · have e : ∀ K I, K ≠ 18 → K ≠ 24 → ga g' K I = ga g K I := fun K I a b => hK K I a (fun c => b c.1)
    unfold fc
    by_cases c21 : k = 21
    · subst c21
      rw [hK 24 i (by decide) (fun c => h2 ⟨rfl, c.2⟩)]
      simp
    · simp only [hy, c21, h1, if_false]
      simp only [e 1 0 (by decide) (by decide), e 2 0 (by decide) (by decide), e 4 0 (by decide) (by decide), e 10 0 (by decide) (by decide), e 5 0 (by decide) (by decide), e 11 0 (by decide) (by decide), e 3 0 (by decide) (by decide), e 6 0 (by decide) (by decide), e 7 0 (by decide) (by decide), e 8 0 (by decide) (by decide), e 9 0 (by decide) (by decide), e 40 0 (by decide) (by decide), e 41 0 (by decide) (by decide), e 42 0 (by decide) (by decide), e 43 0 (by decide) (by decide), e 44 0 (by decide) (by decide), e 45 0 (by decide) (by decide), e 46 0 (by decide) (by decide), e 47 0 (by decide) (by decide), e 48 0 (by decide) (by decide), e 49 0 (by decide) (by decide), e 50 0 (by decide) (by decide), e 51 0 (by decide) (by decide), e 52 0 (by decide) (by decide), e 53 0 (by decide) (by decide), e 54 0 (by decide) (by decide), e 57 0 (by decide) (by decide), e 58 0 (by decide) (by decide), e 59 0 (by decide) (by decide), e 60 0 (by decide) (by decide), e 61 0 (by decide) (by decide), e 62 0 (by decide) (by decide), e 63 0 (by decide) (by decide), e 64 0 (by decide) (by decide), e 65 0 (by decide) (by decide), e 66 0 (by decide) (by decide), e 67 0 (by decide) (by decide), e 70 0 (by decide) (by decide), e 71 0 (by decide) (by decide), e 72 0 (by decide) (by decide), e 73 0 (by decide) (by decide), e 80 0 (by decide) (by decide), e 81 0 (by decide) (by decide), e 82 0 (by decide) (by decide), e 83 0 (by decide) (by decide), e 13 i (by decide) (by decide), e 14 i (by decide) (by decide), e 21 i (by decide) (by decide), e 22 i (by decide) (by decide), e 23 i (by decide) (by decide), e 25 i (by decide) (by decide), e 26 i (by decide) (by decide), (fun j => e 15 j (by decide) (by decide) : ∀ j, ga g' 15 j = ga g 15 j), (fun j => e 12 j (by decide) (by decide) : ∀ j, ga g' 12 j = ga g 12 j), (fun j => e 19 j (by decide) (by decide) : ∀ j, ga g' 19 j = ga g 19 j), (fun j => e 20 j (by decide) (by decide) : ∀ j, ga g' 20 j = ga g 20 j)]
  · have e : ∀ K I, K ≠ 19 → K ≠ 25 → ga g' K I = ga g K I := fun K I a b => hK K I a (fun c => b c.1)
    unfold fc
    by_cases c21 : k = 22
    · subst c21
      rw [hK 25 i (by decide) (fun c => h2 ⟨rfl, c.2⟩)]
      simp
    · simp only [hy, c21, h1, if_false]
      simp only [e 1 0 (by decide) (by decide), e 2 0 (by decide) (by decide), e 4 0 (by decide) (by decide), e 10 0 (by decide) (by decide), e 5 0 (by decide) (by decide), e 11 0 (by decide) (by decide), e 3 0 (by decide) (by decide), e 6 0 (by decide) (by decide), e 7 0 (by decide) (by decide), e 8 0 (by decide) (by decide), e 9 0 (by decide) (by decide), e 40 0 (by decide) (by decide), e 41 0 (by decide) (by decide), e 42 0 (by decide) (by decide), e 43 0 (by decide) (by decide), e 44 0 (by decide) (by decide), e 45 0 (by decide) (by decide), e 46 0 (by decide) (by decide), e 47 0 (by decide) (by decide), e 48 0 (by decide) (by decide), e 49 0 (by decide) (by decide), e 50 0 (by decide) (by decide), e 51 0 (by decide) (by decide), e 52 0 (by decide) (by decide), e 53 0 (by decide) (by decide), e 54 0 (by decide) (by decide), e 57 0 (by decide) (by decide), e 58 0 (by decide) (by decide), e 59 0 (by decide) (by decide), e 60 0 (by decide) (by decide), e 61 0 (by decide) (by decide), e 62 0 (by decide) (by decide), e 63 0 (by decide) (by decide), e 64 0 (by decide) (by decide), e 65 0 (by decide) (by decide), e 66 0 (by decide) (by decide), e 67 0 (by decide) (by decide), e 70 0 (by decide) (by decide), e 71 0 (by decide) (by decide), e 72 0 (by decide) (by decide), e 73 0 (by decide) (by decide), e 80 0 (by decide) (by decide), e 81 0 (by decide) (by decide), e 82 0 (by decide) (by decide), e 83 0 (by decide) (by decide), e 13 i (by decide) (by decide), e 14 i (by decide) (by decide), e 21 i (by decide) (by decide), e 22 i (by decide) (by decide), e 23 i (by decide) (by decide), e 24 i (by decide) (by decide), e 26 i (by decide) (by decide), (fun j => e 15 j (by decide) (by decide) : ∀ j, ga g' 15 j = ga g 15 j), (fun j => e 12 j (by decide) (by decide) : ∀ j, ga g' 12 j = ga g 12 j), (fun j => e 18 j (by decide) (by decide) : ∀ j, ga g' 18 j = ga g 18 j), (fun j => e 20 j (by decide) (by decide) : ∀ j, ga g' 20 j = ga g 20 j)]
  · have e : ∀ K I, K ≠ 20 → K ≠ 26 → ga g' K I = ga g K I := fun K I a b => hK K I a (fun c => b c.1)
    unfold fc
    by_cases c21 : k = 23
    · subst c21
      rw [hK 26 i (by decide) (fun c => h2 ⟨rfl, c.2⟩)]
      simp
    · simp only [hy, c21, h1, if_false]
      simp only [e 1 0 (by decide) (by decide), e 2 0 (by decide) (by decide), e 4 0 (by decide) (by decide), e 10 0 (by decide) (by decide), e 5 0 (by decide) (by decide), e 11 0 (by decide) (by decide), e 3 0 (by decide) (by decide), e 6 0 (by decide) (by decide), e 7 0 (by decide) (by decide), e 8 0 (by decide) (by decide), e 9 0 (by decide) (by decide), e 40 0 (by decide) (by decide), e 41 0 (by decide) (by decide), e 42 0 (by decide) (by decide), e 43 0 (by decide) (by decide), e 44 0 (by decide) (by decide), e 45 0 (by decide) (by decide), e 46 0 (by decide) (by decide), e 47 0 (by decide) (by decide), e 48 0 (by decide) (by decide), e 49 0 (by decide) (by decide), e 50 0 (by decide) (by decide), e 51 0 (by decide) (by decide), e 52 0 (by decide) (by decide), e 53 0 (by decide) (by decide), e 54 0 (by decide) (by decide), e 57 0 (by decide) (by decide), e 58 0 (by decide) (by decide), e 59 0 (by decide) (by decide), e 60 0 (by decide) (by decide), e 61 0 (by decide) (by decide), e 62 0 (by decide) (by decide), e 63 0 (by decide) (by decide), e 64 0 (by decide) (by decide), e 65 0 (by decide) (by decide), e 66 0 (by decide) (by decide), e 67 0 (by decide) (by decide), e 70 0 (by decide) (by decide), e 71 0 (by decide) (by decide), e 72 0 (by decide) (by decide), e 73 0 (by decide) (by decide), e 80 0 (by decide) (by decide), e 81 0 (by decide) (by decide), e 82 0 (by decide) (by decide), e 83 0 (by decide) (by decide), e 13 i (by decide) (by decide), e 14 i (by decide) (by decide), e 21 i (by decide) (by decide), e 22 i (by decide) (by decide), e 23 i (by decide) (by decide), e 24 i (by decide) (by decide), e 25 i (by decide) (by decide), (fun j => e 15 j (by decide) (by decide) : ∀ j, ga g' 15 j = ga g 15 j), (fun j => e 12 j (by decide) (by decide) : ∀ j, ga g' 12 j = ga g 12 j), (fun j => e 18 j (by decide) (by decide) : ∀ j, ga g' 18 j = ga g 18 j), (fun j => e 19 j (by decide) (by decide) : ∀ j, ga g' 19 j = ga g 19 j)]
