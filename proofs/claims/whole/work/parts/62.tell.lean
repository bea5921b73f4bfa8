/-! what may be told: the class's tables and the reference's words -/
def wi (a e : Int32) : Int32 := if a < 0 ∨ e ≤ a then 0 else 1
theorem wi_n0 {a e : Int32} (h : ¬ wi a e = 0) : ¬ (a < 0 ∨ e ≤ a) := fun c => h (by unfold wi; rw [if_pos c])
theorem wi_01 (a e : Int32) : wi a e = 0 ∨ wi a e = 1 := by unfold wi; split <;> simp
theorem fits_eq {a e : Int32} {x : st} : f_X0_fits a e x = some (if e = 0 then 1 else wi a e, x) := by
  unfold f_X0_fits f_X0_fits_b12
  by_cases h : e = 0
  · rw [if_pos h, if_pos h]
  · rw [if_neg h, if_neg h, bnd_of within_eq]
    unfold wi
    by_cases c : a < 0 ∨ e ≤ a
    · rw [if_pos c]; rfl
    · rw [if_neg c]; rfl
theorem inw {v : Int32} {a : Nat} (ha : a < 1000) {z : st} : f_X11_in v 0 (nI a) z = some (wi v (nI (a + 1)), z) := inW ha
theorem isMethod_w {m : Int32} {z : st} : f_X11_isMethod m z = some (wi m 8, z) := isMethod_eq
theorem isz_wi {a e : Int32} : isz (wi a e) = true := by rcases wi_01 a e with h | h <;> rw [h] <;> rfl
theorem isNumber_w {a : Int32} {z : st} : f_X11_isNumber a z = some (wi a 6, z) := by
  have h : f_X11_in a 0 5 z = some (wi a 6, z) := inw (a := 5) (by decide)
  unfold f_X11_isNumber
  rw [bnd_of h, if_pos isz_wi]
theorem isRow_w {a : Int32} {z : st} : f_X11_isRow a z = some (wi a 3, z) := by
  have h : f_X11_in a 0 2 z = some (wi a 3, z) := inw (a := 2) (by decide)
  unfold f_X11_isRow
  rw [bnd_of h, if_pos isz_wi]
theorem isLane_w {a : Int32} {z : st} : f_X11_isLane a z = some (wi a 3, z) := by
  have h : f_X11_in a 0 2 z = some (wi a 3, z) := inw (a := 2) (by decide)
  unfold f_X11_isLane
  rw [bnd_of h, if_pos isz_wi]
theorem in48_w {a : Int32} {z : st} : f_X11_in a 0 48 z = some (wi a 49, z) := inw (a := 48) (by decide)
theorem in9_w {a : Int32} {z : st} : f_X11_in a 0 9 z = some (wi a 10, z) := inw (a := 9) (by decide)
/-- four tests, one behind the other -/
def and4 (a b c d : Int32) : Int32 := if a = 0 then 0 else if b = 0 then 0 else if c = 0 then 0 else if d = 0 then 0 else 1
theorem and4_01 (a b c d : Int32) : and4 a b c d = 0 ∨ and4 a b c d = 1 := by
  unfold and4
  by_cases h1 : a = 0
  · rw [if_pos h1]; exact Or.inl rfl
  · rw [if_neg h1]
    by_cases h2 : b = 0
    · rw [if_pos h2]; exact Or.inl rfl
    · rw [if_neg h2]
      by_cases h3 : c = 0
      · rw [if_pos h3]; exact Or.inl rfl
      · rw [if_neg h3]
        by_cases h4 : d = 0
        · rw [if_pos h4]; exact Or.inl rfl
        · rw [if_neg h4]; exact Or.inr rfl
def fitsV (a e : Int32) : Int32 := if e = 0 then 1 else wi a e
theorem and4_n0 {a b c d : Int32} (h : ¬ and4 a b c d = 0) : ¬ a = 0 ∧ ¬ b = 0 ∧ ¬ c = 0 ∧ ¬ d = 0 := by
  unfold and4 at h
  by_cases h1 : a = 0
  · rw [if_pos h1] at h; exact absurd rfl h
  · rw [if_neg h1] at h
    by_cases h2 : b = 0
    · rw [if_pos h2] at h; exact absurd rfl h
    · rw [if_neg h2] at h
      by_cases h3 : c = 0
      · rw [if_pos h3] at h; exact absurd rfl h
      · rw [if_neg h3] at h
        by_cases h4 : d = 0
        · rw [if_pos h4] at h; exact absurd rfl h
        · exact ⟨h1, h2, h3, h4⟩
theorem told_b23 {k : Nat} (hk : k < 16) {a b c d : Int32} {x : st} : f_X0_isAsTold_b23 (nI k) a b c d x = some (and4 (fitsV a ((endsV 0).getD k 0)) (fitsV b ((endsV 1).getD k 0)) (fitsV c ((endsV 2).getD k 0)) (fitsV d ((endsV 3).getD k 0)), x) := by
  have hin : inb (nI k) 16 = true := inb_nI hk (by decide)
  have hcl : (nI k).toNatClampNeg = k := nI_clamp (by omega)
  unfold f_X0_isAsTold_b23 f_X0_isAsTold_b76 and4 fitsV
  simp only [hin, hcl, if_true, fits_eq, bnd, Option.bind_some]
  repeat' split
  all_goals first | rfl | simp_all
def F5 (a b c d e : Int32) : Nat → Int32 := fun j => if j = 0 then a else if j = 1 then b else if j = 2 then c else if j = 3 then d else if j = 4 then e else 0
def F4 (a b c d : Int32) : Nat → Int32 := fun j => if j = 0 then a else if j = 1 then b else if j = 2 then c else if j = 3 then d else 0
def F3 (a b c : Int32) : Nat → Int32 := fun j => if j = 0 then a else if j = 1 then b else if j = 2 then c else 0
theorem wi_isN {a : Int32} {B : Nat} (hB : B < 1000) (h : ¬ wi a (nI (B + 1)) = 0) : isN a B := by
  obtain ⟨j, hj, rfl⟩ := inc hB (wi_n0 h)
  exact isN.of hj (by omega)
theorem actOK_of {q : Nat → Int32} {k : Nat} (h0 : q 0 = nI k) (hk : k ≤ 15)
    (h : (k ≤ 5 ∨ k = 7 ∨ k = 10 ∨ k = 11 ∨ k = 13 ∨ k = 14 → isN (q 1) 5) ∧ (k = 8 ∨ k = 9 ∨ k = 12 → isN (q 1) 2) ∧ (1 ≤ k ∧ k ≤ 5 → isN (q 2) 5 ∧ isN (q 3) 5) ∧ (k = 6 ∨ k = 7 → isN (q 2) 48) ∧ (8 ≤ k ∧ k ≤ 12 → isN (q 2) 2) ∧ (k = 8 ∨ k = 9 ∨ k = 12 → isN (q 3) 5) ∧ (k = 9 ∨ k = 10 ∨ k = 13 → isN (q 4) 5) ∧ (k = 10 ∨ k = 13 → isN (q 3) 2) ∧ (k = 13 → isN (q 2) 7) ∧ (k = 15 → q 2 = 8 ∨ q 2 = 9)) : actOK q := by
  have e : nv (q 0) = k := by rw [h0, nv_nI (by omega)]
  unfold actOK
  rw [e]
  exact ⟨by rw [h0]; exact isN.of hk (by omega), h⟩
theorem nx {a e : Int32} (h : ¬ e = 0) : fitsV a e = wi a e := by unfold fitsV; rw [if_neg h]
theorem nx0 {a : Int32} : fitsV a 0 = 1 := by unfold fitsV; rw [if_pos rfl]

set_option maxHeartbeats 1000000 in
theorem told_0 (a b c d : Int32) : ∃ r, (∀ x, f_X0_isAsTold (nI 0) a b c d x = some (r, x)) ∧ (∀ z, f_X11_isRight (nI 0) a b c d z = some (r, z)) ∧ (¬ r = 0 → actOK (F5 (nI 0) a b c d)) := by
  refine ⟨and4 (wi a 6) 1 1 1, fun x => ?_, fun z => ?_, fun h => ?_⟩
  · have h1 : f_X0_isAsTold (nI 0) a b c d x = f_X0_isAsTold_b23 (nI 0) a b c d x := by
      unfold f_X0_isAsTold
      rw [bnd_of within_eq, if_neg (by decide), if_neg (by decide)]
    rw [h1, told_b23 (by decide)]
    rw [show fitsV a ((endsV 0).getD 0 0) = wi a 6 from nx (by decide), show fitsV b ((endsV 1).getD 0 0) = 1 from nx0, show fitsV c ((endsV 2).getD 0 0) = 1 from nx0, show fitsV d ((endsV 3).getD 0 0) = 1 from nx0]
  · unfold f_X11_isRight
    rw [if_pos (by decide)]
    try unfold f_X11_isRight_b76
    try unfold f_X11_isRight_b81
    unfold and4
    rcases wi_01 a 6 with h0 | h0 <;> (try rw [h0]) <;>
      simp [bnd, isNumber_w, isRow_w, isLane_w, isMethod_w, in48_w, isz, f_X11_isRight_b106, f_X11_isRight_b137, f_X11_isRight_b164, f_X11_isRight_b199, f_X11_isRight_b234, f_X11_isRight_b254, f_X11_isRight_b281, f_X11_isRight_b316, *]
  · obtain ⟨g1, g2, g3, g4⟩ := and4_n0 h
    have i1 : isN a 5 := wi_isN (by decide) g1
    exact actOK_of (k := 0) rfl (by decide) ⟨fun _ => i1, fun h => absurd h (by decide), fun h => absurd h (by decide), fun h => absurd h (by decide), fun h => absurd h (by decide), fun h => absurd h (by decide), fun h => absurd h (by decide), fun h => absurd h (by decide), fun h => absurd h (by decide), fun h => absurd h (by decide)⟩
set_option maxHeartbeats 1000000 in
theorem told_1 (a b c d : Int32) : ∃ r, (∀ x, f_X0_isAsTold (nI 1) a b c d x = some (r, x)) ∧ (∀ z, f_X11_isRight (nI 1) a b c d z = some (r, z)) ∧ (¬ r = 0 → actOK (F5 (nI 1) a b c d)) := by
  refine ⟨and4 (wi a 6) (wi b 6) (wi c 6) 1, fun x => ?_, fun z => ?_, fun h => ?_⟩
  · have h1 : f_X0_isAsTold (nI 1) a b c d x = f_X0_isAsTold_b23 (nI 1) a b c d x := by
      unfold f_X0_isAsTold
      rw [bnd_of within_eq, if_neg (by decide), if_neg (by decide)]
    rw [h1, told_b23 (by decide)]
    rw [show fitsV a ((endsV 0).getD 1 0) = wi a 6 from nx (by decide), show fitsV b ((endsV 1).getD 1 0) = wi b 6 from nx (by decide), show fitsV c ((endsV 2).getD 1 0) = wi c 6 from nx (by decide), show fitsV d ((endsV 3).getD 1 0) = 1 from nx0]
  · unfold f_X11_isRight
    rw [if_neg (by decide), if_pos (by decide)]
    try unfold f_X11_isRight_b76
    try unfold f_X11_isRight_b81
    unfold and4
    rcases wi_01 a 6 with h0 | h0 <;> (try rw [h0]) <;>
    rcases wi_01 b 6 with h1 | h1 <;> (try rw [h1]) <;>
    rcases wi_01 c 6 with h2 | h2 <;> (try rw [h2]) <;>
      simp [bnd, isNumber_w, isRow_w, isLane_w, isMethod_w, in48_w, isz, f_X11_isRight_b106, f_X11_isRight_b137, f_X11_isRight_b164, f_X11_isRight_b199, f_X11_isRight_b234, f_X11_isRight_b254, f_X11_isRight_b281, f_X11_isRight_b316, *]
  · obtain ⟨g1, g2, g3, g4⟩ := and4_n0 h
    have i1 : isN a 5 := wi_isN (by decide) g1
    have i2 : isN b 5 := wi_isN (by decide) g2
    have i3 : isN c 5 := wi_isN (by decide) g3
    exact actOK_of (k := 1) rfl (by decide) ⟨fun _ => i1, fun h => absurd h (by decide), fun _ => ⟨i2, i3⟩, fun h => absurd h (by decide), fun h => absurd h (by decide), fun h => absurd h (by decide), fun h => absurd h (by decide), fun h => absurd h (by decide), fun h => absurd h (by decide), fun h => absurd h (by decide)⟩
set_option maxHeartbeats 1000000 in
theorem told_2 (a b c d : Int32) : ∃ r, (∀ x, f_X0_isAsTold (nI 2) a b c d x = some (r, x)) ∧ (∀ z, f_X11_isRight (nI 2) a b c d z = some (r, z)) ∧ (¬ r = 0 → actOK (F5 (nI 2) a b c d)) := by
  refine ⟨and4 (wi a 6) (wi b 6) (wi c 6) 1, fun x => ?_, fun z => ?_, fun h => ?_⟩
  · have h1 : f_X0_isAsTold (nI 2) a b c d x = f_X0_isAsTold_b23 (nI 2) a b c d x := by
      unfold f_X0_isAsTold
      rw [bnd_of within_eq, if_neg (by decide), if_neg (by decide)]
    rw [h1, told_b23 (by decide)]
    rw [show fitsV a ((endsV 0).getD 2 0) = wi a 6 from nx (by decide), show fitsV b ((endsV 1).getD 2 0) = wi b 6 from nx (by decide), show fitsV c ((endsV 2).getD 2 0) = wi c 6 from nx (by decide), show fitsV d ((endsV 3).getD 2 0) = 1 from nx0]
  · unfold f_X11_isRight
    rw [if_neg (by decide), if_neg (by decide), if_pos (by decide)]
    try unfold f_X11_isRight_b76
    try unfold f_X11_isRight_b81
    unfold and4
    rcases wi_01 a 6 with h0 | h0 <;> (try rw [h0]) <;>
    rcases wi_01 b 6 with h1 | h1 <;> (try rw [h1]) <;>
    rcases wi_01 c 6 with h2 | h2 <;> (try rw [h2]) <;>
      simp [bnd, isNumber_w, isRow_w, isLane_w, isMethod_w, in48_w, isz, f_X11_isRight_b106, f_X11_isRight_b137, f_X11_isRight_b164, f_X11_isRight_b199, f_X11_isRight_b234, f_X11_isRight_b254, f_X11_isRight_b281, f_X11_isRight_b316, *]
  · obtain ⟨g1, g2, g3, g4⟩ := and4_n0 h
    have i1 : isN a 5 := wi_isN (by decide) g1
    have i2 : isN b 5 := wi_isN (by decide) g2
    have i3 : isN c 5 := wi_isN (by decide) g3
    exact actOK_of (k := 2) rfl (by decide) ⟨fun _ => i1, fun h => absurd h (by decide), fun _ => ⟨i2, i3⟩, fun h => absurd h (by decide), fun h => absurd h (by decide), fun h => absurd h (by decide), fun h => absurd h (by decide), fun h => absurd h (by decide), fun h => absurd h (by decide), fun h => absurd h (by decide)⟩
set_option maxHeartbeats 1000000 in
theorem told_3 (a b c d : Int32) : ∃ r, (∀ x, f_X0_isAsTold (nI 3) a b c d x = some (r, x)) ∧ (∀ z, f_X11_isRight (nI 3) a b c d z = some (r, z)) ∧ (¬ r = 0 → actOK (F5 (nI 3) a b c d)) := by
  refine ⟨and4 (wi a 6) (wi b 6) (wi c 6) 1, fun x => ?_, fun z => ?_, fun h => ?_⟩
  · have h1 : f_X0_isAsTold (nI 3) a b c d x = f_X0_isAsTold_b23 (nI 3) a b c d x := by
      unfold f_X0_isAsTold
      rw [bnd_of within_eq, if_neg (by decide), if_neg (by decide)]
    rw [h1, told_b23 (by decide)]
    rw [show fitsV a ((endsV 0).getD 3 0) = wi a 6 from nx (by decide), show fitsV b ((endsV 1).getD 3 0) = wi b 6 from nx (by decide), show fitsV c ((endsV 2).getD 3 0) = wi c 6 from nx (by decide), show fitsV d ((endsV 3).getD 3 0) = 1 from nx0]
  · unfold f_X11_isRight
    rw [if_neg (by decide), if_neg (by decide), if_neg (by decide), if_pos (by decide)]
    try unfold f_X11_isRight_b76
    try unfold f_X11_isRight_b81
    unfold and4
    rcases wi_01 a 6 with h0 | h0 <;> (try rw [h0]) <;>
    rcases wi_01 b 6 with h1 | h1 <;> (try rw [h1]) <;>
    rcases wi_01 c 6 with h2 | h2 <;> (try rw [h2]) <;>
      simp [bnd, isNumber_w, isRow_w, isLane_w, isMethod_w, in48_w, isz, f_X11_isRight_b106, f_X11_isRight_b137, f_X11_isRight_b164, f_X11_isRight_b199, f_X11_isRight_b234, f_X11_isRight_b254, f_X11_isRight_b281, f_X11_isRight_b316, *]
  · obtain ⟨g1, g2, g3, g4⟩ := and4_n0 h
    have i1 : isN a 5 := wi_isN (by decide) g1
    have i2 : isN b 5 := wi_isN (by decide) g2
    have i3 : isN c 5 := wi_isN (by decide) g3
    exact actOK_of (k := 3) rfl (by decide) ⟨fun _ => i1, fun h => absurd h (by decide), fun _ => ⟨i2, i3⟩, fun h => absurd h (by decide), fun h => absurd h (by decide), fun h => absurd h (by decide), fun h => absurd h (by decide), fun h => absurd h (by decide), fun h => absurd h (by decide), fun h => absurd h (by decide)⟩
set_option maxHeartbeats 1000000 in
theorem told_4 (a b c d : Int32) : ∃ r, (∀ x, f_X0_isAsTold (nI 4) a b c d x = some (r, x)) ∧ (∀ z, f_X11_isRight (nI 4) a b c d z = some (r, z)) ∧ (¬ r = 0 → actOK (F5 (nI 4) a b c d)) := by
  refine ⟨and4 (wi a 6) (wi b 6) (wi c 6) 1, fun x => ?_, fun z => ?_, fun h => ?_⟩
  · have h1 : f_X0_isAsTold (nI 4) a b c d x = f_X0_isAsTold_b23 (nI 4) a b c d x := by
      unfold f_X0_isAsTold
      rw [bnd_of within_eq, if_neg (by decide), if_neg (by decide)]
    rw [h1, told_b23 (by decide)]
    rw [show fitsV a ((endsV 0).getD 4 0) = wi a 6 from nx (by decide), show fitsV b ((endsV 1).getD 4 0) = wi b 6 from nx (by decide), show fitsV c ((endsV 2).getD 4 0) = wi c 6 from nx (by decide), show fitsV d ((endsV 3).getD 4 0) = 1 from nx0]
  · unfold f_X11_isRight
    rw [if_neg (by decide), if_neg (by decide), if_neg (by decide), if_neg (by decide), if_pos (by decide)]
    try unfold f_X11_isRight_b76
    try unfold f_X11_isRight_b81
    unfold and4
    rcases wi_01 a 6 with h0 | h0 <;> (try rw [h0]) <;>
    rcases wi_01 b 6 with h1 | h1 <;> (try rw [h1]) <;>
    rcases wi_01 c 6 with h2 | h2 <;> (try rw [h2]) <;>
      simp [bnd, isNumber_w, isRow_w, isLane_w, isMethod_w, in48_w, isz, f_X11_isRight_b106, f_X11_isRight_b137, f_X11_isRight_b164, f_X11_isRight_b199, f_X11_isRight_b234, f_X11_isRight_b254, f_X11_isRight_b281, f_X11_isRight_b316, *]
  · obtain ⟨g1, g2, g3, g4⟩ := and4_n0 h
    have i1 : isN a 5 := wi_isN (by decide) g1
    have i2 : isN b 5 := wi_isN (by decide) g2
    have i3 : isN c 5 := wi_isN (by decide) g3
    exact actOK_of (k := 4) rfl (by decide) ⟨fun _ => i1, fun h => absurd h (by decide), fun _ => ⟨i2, i3⟩, fun h => absurd h (by decide), fun h => absurd h (by decide), fun h => absurd h (by decide), fun h => absurd h (by decide), fun h => absurd h (by decide), fun h => absurd h (by decide), fun h => absurd h (by decide)⟩
set_option maxHeartbeats 1000000 in
theorem told_5 (a b c d : Int32) : ∃ r, (∀ x, f_X0_isAsTold (nI 5) a b c d x = some (r, x)) ∧ (∀ z, f_X11_isRight (nI 5) a b c d z = some (r, z)) ∧ (¬ r = 0 → actOK (F5 (nI 5) a b c d)) := by
  refine ⟨and4 (wi a 6) (wi b 6) (wi c 6) 1, fun x => ?_, fun z => ?_, fun h => ?_⟩
  · have h1 : f_X0_isAsTold (nI 5) a b c d x = f_X0_isAsTold_b23 (nI 5) a b c d x := by
      unfold f_X0_isAsTold
      rw [bnd_of within_eq, if_neg (by decide), if_neg (by decide)]
    rw [h1, told_b23 (by decide)]
    rw [show fitsV a ((endsV 0).getD 5 0) = wi a 6 from nx (by decide), show fitsV b ((endsV 1).getD 5 0) = wi b 6 from nx (by decide), show fitsV c ((endsV 2).getD 5 0) = wi c 6 from nx (by decide), show fitsV d ((endsV 3).getD 5 0) = 1 from nx0]
  · unfold f_X11_isRight
    rw [if_neg (by decide), if_neg (by decide), if_neg (by decide), if_neg (by decide), if_neg (by decide), if_pos (by decide)]
    try unfold f_X11_isRight_b76
    try unfold f_X11_isRight_b81
    unfold and4
    rcases wi_01 a 6 with h0 | h0 <;> (try rw [h0]) <;>
    rcases wi_01 b 6 with h1 | h1 <;> (try rw [h1]) <;>
    rcases wi_01 c 6 with h2 | h2 <;> (try rw [h2]) <;>
      simp [bnd, isNumber_w, isRow_w, isLane_w, isMethod_w, in48_w, isz, f_X11_isRight_b106, f_X11_isRight_b137, f_X11_isRight_b164, f_X11_isRight_b199, f_X11_isRight_b234, f_X11_isRight_b254, f_X11_isRight_b281, f_X11_isRight_b316, *]
  · obtain ⟨g1, g2, g3, g4⟩ := and4_n0 h
    have i1 : isN a 5 := wi_isN (by decide) g1
    have i2 : isN b 5 := wi_isN (by decide) g2
    have i3 : isN c 5 := wi_isN (by decide) g3
    exact actOK_of (k := 5) rfl (by decide) ⟨fun _ => i1, fun h => absurd h (by decide), fun _ => ⟨i2, i3⟩, fun h => absurd h (by decide), fun h => absurd h (by decide), fun h => absurd h (by decide), fun h => absurd h (by decide), fun h => absurd h (by decide), fun h => absurd h (by decide), fun h => absurd h (by decide)⟩
set_option maxHeartbeats 1000000 in
theorem told_6 (a b c d : Int32) : ∃ r, (∀ x, f_X0_isAsTold (nI 6) a b c d x = some (r, x)) ∧ (∀ z, f_X11_isRight (nI 6) a b c d z = some (r, z)) ∧ (¬ r = 0 → actOK (F5 (nI 6) a b c d)) := by
  refine ⟨and4 1 (wi b 49) 1 1, fun x => ?_, fun z => ?_, fun h => ?_⟩
  · have h1 : f_X0_isAsTold (nI 6) a b c d x = f_X0_isAsTold_b23 (nI 6) a b c d x := by
      unfold f_X0_isAsTold
      rw [bnd_of within_eq, if_neg (by decide), if_neg (by decide)]
    rw [h1, told_b23 (by decide)]
    rw [show fitsV a ((endsV 0).getD 6 0) = 1 from nx0, show fitsV b ((endsV 1).getD 6 0) = wi b 49 from nx (by decide), show fitsV c ((endsV 2).getD 6 0) = 1 from nx0, show fitsV d ((endsV 3).getD 6 0) = 1 from nx0]
  · unfold f_X11_isRight
    rw [if_neg (by decide), if_neg (by decide), if_neg (by decide), if_neg (by decide), if_neg (by decide), if_neg (by decide), if_pos (by decide)]
    try unfold f_X11_isRight_b76
    try unfold f_X11_isRight_b81
    unfold and4
    rcases wi_01 b 49 with h1 | h1 <;> (try rw [h1]) <;>
      simp [bnd, isNumber_w, isRow_w, isLane_w, isMethod_w, in48_w, isz, f_X11_isRight_b106, f_X11_isRight_b137, f_X11_isRight_b164, f_X11_isRight_b199, f_X11_isRight_b234, f_X11_isRight_b254, f_X11_isRight_b281, f_X11_isRight_b316, *]
  · obtain ⟨g1, g2, g3, g4⟩ := and4_n0 h
    have i2 : isN b 48 := wi_isN (by decide) g2
    exact actOK_of (k := 6) rfl (by decide) ⟨fun h => absurd h (by decide), fun h => absurd h (by decide), fun h => absurd h (by decide), fun _ => i2, fun h => absurd h (by decide), fun h => absurd h (by decide), fun h => absurd h (by decide), fun h => absurd h (by decide), fun h => absurd h (by decide), fun h => absurd h (by decide)⟩
set_option maxHeartbeats 1000000 in
theorem told_7 (a b c d : Int32) : ∃ r, (∀ x, f_X0_isAsTold (nI 7) a b c d x = some (r, x)) ∧ (∀ z, f_X11_isRight (nI 7) a b c d z = some (r, z)) ∧ (¬ r = 0 → actOK (F5 (nI 7) a b c d)) := by
  refine ⟨and4 (wi a 6) (wi b 49) 1 1, fun x => ?_, fun z => ?_, fun h => ?_⟩
  · have h1 : f_X0_isAsTold (nI 7) a b c d x = f_X0_isAsTold_b23 (nI 7) a b c d x := by
      unfold f_X0_isAsTold
      rw [bnd_of within_eq, if_neg (by decide), if_neg (by decide)]
    rw [h1, told_b23 (by decide)]
    rw [show fitsV a ((endsV 0).getD 7 0) = wi a 6 from nx (by decide), show fitsV b ((endsV 1).getD 7 0) = wi b 49 from nx (by decide), show fitsV c ((endsV 2).getD 7 0) = 1 from nx0, show fitsV d ((endsV 3).getD 7 0) = 1 from nx0]
  · unfold f_X11_isRight
    rw [if_neg (by decide), if_neg (by decide), if_neg (by decide), if_neg (by decide), if_neg (by decide), if_neg (by decide), if_neg (by decide), if_pos (by decide)]
    try unfold f_X11_isRight_b76
    try unfold f_X11_isRight_b81
    unfold and4
    rcases wi_01 a 6 with h0 | h0 <;> (try rw [h0]) <;>
    rcases wi_01 b 49 with h1 | h1 <;> (try rw [h1]) <;>
      simp [bnd, isNumber_w, isRow_w, isLane_w, isMethod_w, in48_w, isz, f_X11_isRight_b106, f_X11_isRight_b137, f_X11_isRight_b164, f_X11_isRight_b199, f_X11_isRight_b234, f_X11_isRight_b254, f_X11_isRight_b281, f_X11_isRight_b316, *]
  · obtain ⟨g1, g2, g3, g4⟩ := and4_n0 h
    have i1 : isN a 5 := wi_isN (by decide) g1
    have i2 : isN b 48 := wi_isN (by decide) g2
    exact actOK_of (k := 7) rfl (by decide) ⟨fun _ => i1, fun h => absurd h (by decide), fun h => absurd h (by decide), fun _ => i2, fun h => absurd h (by decide), fun h => absurd h (by decide), fun h => absurd h (by decide), fun h => absurd h (by decide), fun h => absurd h (by decide), fun h => absurd h (by decide)⟩
set_option maxHeartbeats 1000000 in
theorem told_8 (a b c d : Int32) : ∃ r, (∀ x, f_X0_isAsTold (nI 8) a b c d x = some (r, x)) ∧ (∀ z, f_X11_isRight (nI 8) a b c d z = some (r, z)) ∧ (¬ r = 0 → actOK (F5 (nI 8) a b c d)) := by
  refine ⟨and4 (wi a 3) (wi b 3) (wi c 6) 1, fun x => ?_, fun z => ?_, fun h => ?_⟩
  · have h1 : f_X0_isAsTold (nI 8) a b c d x = f_X0_isAsTold_b23 (nI 8) a b c d x := by
      unfold f_X0_isAsTold
      rw [bnd_of within_eq, if_neg (by decide), if_neg (by decide)]
    rw [h1, told_b23 (by decide)]
    rw [show fitsV a ((endsV 0).getD 8 0) = wi a 3 from nx (by decide), show fitsV b ((endsV 1).getD 8 0) = wi b 3 from nx (by decide), show fitsV c ((endsV 2).getD 8 0) = wi c 6 from nx (by decide), show fitsV d ((endsV 3).getD 8 0) = 1 from nx0]
  · unfold f_X11_isRight
    rw [if_neg (by decide), if_neg (by decide), if_neg (by decide), if_neg (by decide), if_neg (by decide), if_neg (by decide), if_neg (by decide), if_neg (by decide), if_pos (by decide)]
    try unfold f_X11_isRight_b76
    try unfold f_X11_isRight_b81
    unfold and4
    rcases wi_01 a 3 with h0 | h0 <;> (try rw [h0]) <;>
    rcases wi_01 b 3 with h1 | h1 <;> (try rw [h1]) <;>
    rcases wi_01 c 6 with h2 | h2 <;> (try rw [h2]) <;>
      simp [bnd, isNumber_w, isRow_w, isLane_w, isMethod_w, in48_w, isz, f_X11_isRight_b106, f_X11_isRight_b137, f_X11_isRight_b164, f_X11_isRight_b199, f_X11_isRight_b234, f_X11_isRight_b254, f_X11_isRight_b281, f_X11_isRight_b316, *]
  · obtain ⟨g1, g2, g3, g4⟩ := and4_n0 h
    have i1 : isN a 2 := wi_isN (by decide) g1
    have i2 : isN b 2 := wi_isN (by decide) g2
    have i3 : isN c 5 := wi_isN (by decide) g3
    exact actOK_of (k := 8) rfl (by decide) ⟨fun h => absurd h (by decide), fun _ => i1, fun h => absurd h (by decide), fun h => absurd h (by decide), fun _ => i2, fun _ => i3, fun h => absurd h (by decide), fun h => absurd h (by decide), fun h => absurd h (by decide), fun h => absurd h (by decide)⟩
set_option maxHeartbeats 1000000 in
theorem told_9 (a b c d : Int32) : ∃ r, (∀ x, f_X0_isAsTold (nI 9) a b c d x = some (r, x)) ∧ (∀ z, f_X11_isRight (nI 9) a b c d z = some (r, z)) ∧ (¬ r = 0 → actOK (F5 (nI 9) a b c d)) := by
  refine ⟨and4 (wi a 3) (wi b 3) (wi c 6) (wi d 6), fun x => ?_, fun z => ?_, fun h => ?_⟩
  · have h1 : f_X0_isAsTold (nI 9) a b c d x = f_X0_isAsTold_b23 (nI 9) a b c d x := by
      unfold f_X0_isAsTold
      rw [bnd_of within_eq, if_neg (by decide), if_neg (by decide)]
    rw [h1, told_b23 (by decide)]
    rw [show fitsV a ((endsV 0).getD 9 0) = wi a 3 from nx (by decide), show fitsV b ((endsV 1).getD 9 0) = wi b 3 from nx (by decide), show fitsV c ((endsV 2).getD 9 0) = wi c 6 from nx (by decide), show fitsV d ((endsV 3).getD 9 0) = wi d 6 from nx (by decide)]
  · unfold f_X11_isRight
    rw [if_neg (by decide), if_neg (by decide), if_neg (by decide), if_neg (by decide), if_neg (by decide), if_neg (by decide), if_neg (by decide), if_neg (by decide), if_neg (by decide), if_pos (by decide)]
    try unfold f_X11_isRight_b76
    try unfold f_X11_isRight_b81
    unfold and4
    rcases wi_01 a 3 with h0 | h0 <;> (try rw [h0]) <;>
    rcases wi_01 b 3 with h1 | h1 <;> (try rw [h1]) <;>
    rcases wi_01 c 6 with h2 | h2 <;> (try rw [h2]) <;>
    rcases wi_01 d 6 with h3 | h3 <;> (try rw [h3]) <;>
      simp [bnd, isNumber_w, isRow_w, isLane_w, isMethod_w, in48_w, isz, f_X11_isRight_b106, f_X11_isRight_b137, f_X11_isRight_b164, f_X11_isRight_b199, f_X11_isRight_b234, f_X11_isRight_b254, f_X11_isRight_b281, f_X11_isRight_b316, *]
  · obtain ⟨g1, g2, g3, g4⟩ := and4_n0 h
    have i1 : isN a 2 := wi_isN (by decide) g1
    have i2 : isN b 2 := wi_isN (by decide) g2
    have i3 : isN c 5 := wi_isN (by decide) g3
    have i4 : isN d 5 := wi_isN (by decide) g4
    exact actOK_of (k := 9) rfl (by decide) ⟨fun h => absurd h (by decide), fun _ => i1, fun h => absurd h (by decide), fun h => absurd h (by decide), fun _ => i2, fun _ => i3, fun _ => i4, fun h => absurd h (by decide), fun h => absurd h (by decide), fun h => absurd h (by decide)⟩
set_option maxHeartbeats 1000000 in
theorem told_10 (a b c d : Int32) : ∃ r, (∀ x, f_X0_isAsTold (nI 10) a b c d x = some (r, x)) ∧ (∀ z, f_X11_isRight (nI 10) a b c d z = some (r, z)) ∧ (¬ r = 0 → actOK (F5 (nI 10) a b c d)) := by
  refine ⟨and4 (wi a 6) (wi b 3) (wi c 3) (wi d 6), fun x => ?_, fun z => ?_, fun h => ?_⟩
  · have h1 : f_X0_isAsTold (nI 10) a b c d x = f_X0_isAsTold_b23 (nI 10) a b c d x := by
      unfold f_X0_isAsTold
      rw [bnd_of within_eq, if_neg (by decide), if_neg (by decide)]
    rw [h1, told_b23 (by decide)]
    rw [show fitsV a ((endsV 0).getD 10 0) = wi a 6 from nx (by decide), show fitsV b ((endsV 1).getD 10 0) = wi b 3 from nx (by decide), show fitsV c ((endsV 2).getD 10 0) = wi c 3 from nx (by decide), show fitsV d ((endsV 3).getD 10 0) = wi d 6 from nx (by decide)]
  · unfold f_X11_isRight
    rw [if_neg (by decide), if_neg (by decide), if_neg (by decide), if_neg (by decide), if_neg (by decide), if_neg (by decide), if_neg (by decide), if_neg (by decide), if_neg (by decide), if_neg (by decide), if_pos (by decide)]
    try unfold f_X11_isRight_b76
    try unfold f_X11_isRight_b81
    unfold and4
    rcases wi_01 a 6 with h0 | h0 <;> (try rw [h0]) <;>
    rcases wi_01 b 3 with h1 | h1 <;> (try rw [h1]) <;>
    rcases wi_01 c 3 with h2 | h2 <;> (try rw [h2]) <;>
    rcases wi_01 d 6 with h3 | h3 <;> (try rw [h3]) <;>
      simp [bnd, isNumber_w, isRow_w, isLane_w, isMethod_w, in48_w, isz, f_X11_isRight_b106, f_X11_isRight_b137, f_X11_isRight_b164, f_X11_isRight_b199, f_X11_isRight_b234, f_X11_isRight_b254, f_X11_isRight_b281, f_X11_isRight_b316, *]
  · obtain ⟨g1, g2, g3, g4⟩ := and4_n0 h
    have i1 : isN a 5 := wi_isN (by decide) g1
    have i2 : isN b 2 := wi_isN (by decide) g2
    have i3 : isN c 2 := wi_isN (by decide) g3
    have i4 : isN d 5 := wi_isN (by decide) g4
    exact actOK_of (k := 10) rfl (by decide) ⟨fun _ => i1, fun h => absurd h (by decide), fun h => absurd h (by decide), fun h => absurd h (by decide), fun _ => i2, fun h => absurd h (by decide), fun _ => i4, fun _ => i3, fun h => absurd h (by decide), fun h => absurd h (by decide)⟩
set_option maxHeartbeats 1000000 in
theorem told_11 (a b c d : Int32) : ∃ r, (∀ x, f_X0_isAsTold (nI 11) a b c d x = some (r, x)) ∧ (∀ z, f_X11_isRight (nI 11) a b c d z = some (r, z)) ∧ (¬ r = 0 → actOK (F5 (nI 11) a b c d)) := by
  refine ⟨and4 (wi a 6) (wi b 3) 1 1, fun x => ?_, fun z => ?_, fun h => ?_⟩
  · have h1 : f_X0_isAsTold (nI 11) a b c d x = f_X0_isAsTold_b23 (nI 11) a b c d x := by
      unfold f_X0_isAsTold
      rw [bnd_of within_eq, if_neg (by decide), if_neg (by decide)]
    rw [h1, told_b23 (by decide)]
    rw [show fitsV a ((endsV 0).getD 11 0) = wi a 6 from nx (by decide), show fitsV b ((endsV 1).getD 11 0) = wi b 3 from nx (by decide), show fitsV c ((endsV 2).getD 11 0) = 1 from nx0, show fitsV d ((endsV 3).getD 11 0) = 1 from nx0]
  · unfold f_X11_isRight
    rw [if_neg (by decide), if_neg (by decide), if_neg (by decide), if_neg (by decide), if_neg (by decide), if_neg (by decide), if_neg (by decide), if_neg (by decide), if_neg (by decide), if_neg (by decide), if_neg (by decide), if_pos (by decide)]
    try unfold f_X11_isRight_b76
    try unfold f_X11_isRight_b81
    unfold and4
    rcases wi_01 a 6 with h0 | h0 <;> (try rw [h0]) <;>
    rcases wi_01 b 3 with h1 | h1 <;> (try rw [h1]) <;>
      simp [bnd, isNumber_w, isRow_w, isLane_w, isMethod_w, in48_w, isz, f_X11_isRight_b106, f_X11_isRight_b137, f_X11_isRight_b164, f_X11_isRight_b199, f_X11_isRight_b234, f_X11_isRight_b254, f_X11_isRight_b281, f_X11_isRight_b316, *]
  · obtain ⟨g1, g2, g3, g4⟩ := and4_n0 h
    have i1 : isN a 5 := wi_isN (by decide) g1
    have i2 : isN b 2 := wi_isN (by decide) g2
    exact actOK_of (k := 11) rfl (by decide) ⟨fun _ => i1, fun h => absurd h (by decide), fun h => absurd h (by decide), fun h => absurd h (by decide), fun _ => i2, fun h => absurd h (by decide), fun h => absurd h (by decide), fun h => absurd h (by decide), fun h => absurd h (by decide), fun h => absurd h (by decide)⟩
set_option maxHeartbeats 1000000 in
theorem told_12 (a b c d : Int32) : ∃ r, (∀ x, f_X0_isAsTold (nI 12) a b c d x = some (r, x)) ∧ (∀ z, f_X11_isRight (nI 12) a b c d z = some (r, z)) ∧ (¬ r = 0 → actOK (F5 (nI 12) a b c d)) := by
  refine ⟨and4 (wi a 3) (wi b 3) (wi c 6) 1, fun x => ?_, fun z => ?_, fun h => ?_⟩
  · have h1 : f_X0_isAsTold (nI 12) a b c d x = f_X0_isAsTold_b23 (nI 12) a b c d x := by
      unfold f_X0_isAsTold
      rw [bnd_of within_eq, if_neg (by decide), if_neg (by decide)]
    rw [h1, told_b23 (by decide)]
    rw [show fitsV a ((endsV 0).getD 12 0) = wi a 3 from nx (by decide), show fitsV b ((endsV 1).getD 12 0) = wi b 3 from nx (by decide), show fitsV c ((endsV 2).getD 12 0) = wi c 6 from nx (by decide), show fitsV d ((endsV 3).getD 12 0) = 1 from nx0]
  · unfold f_X11_isRight
    rw [if_neg (by decide), if_neg (by decide), if_neg (by decide), if_neg (by decide), if_neg (by decide), if_neg (by decide), if_neg (by decide), if_neg (by decide), if_neg (by decide), if_neg (by decide), if_neg (by decide), if_neg (by decide), if_pos (by decide)]
    try unfold f_X11_isRight_b76
    try unfold f_X11_isRight_b81
    unfold and4
    rcases wi_01 a 3 with h0 | h0 <;> (try rw [h0]) <;>
    rcases wi_01 b 3 with h1 | h1 <;> (try rw [h1]) <;>
    rcases wi_01 c 6 with h2 | h2 <;> (try rw [h2]) <;>
      simp [bnd, isNumber_w, isRow_w, isLane_w, isMethod_w, in48_w, isz, f_X11_isRight_b106, f_X11_isRight_b137, f_X11_isRight_b164, f_X11_isRight_b199, f_X11_isRight_b234, f_X11_isRight_b254, f_X11_isRight_b281, f_X11_isRight_b316, *]
  · obtain ⟨g1, g2, g3, g4⟩ := and4_n0 h
    have i1 : isN a 2 := wi_isN (by decide) g1
    have i2 : isN b 2 := wi_isN (by decide) g2
    have i3 : isN c 5 := wi_isN (by decide) g3
    exact actOK_of (k := 12) rfl (by decide) ⟨fun h => absurd h (by decide), fun _ => i1, fun h => absurd h (by decide), fun h => absurd h (by decide), fun _ => i2, fun _ => i3, fun h => absurd h (by decide), fun h => absurd h (by decide), fun h => absurd h (by decide), fun h => absurd h (by decide)⟩
set_option maxHeartbeats 1000000 in
theorem told_13 (a b c d : Int32) : ∃ r, (∀ x, f_X0_isAsTold (nI 13) a b c d x = some (r, x)) ∧ (∀ z, f_X11_isRight (nI 13) a b c d z = some (r, z)) ∧ (¬ r = 0 → actOK (F5 (nI 13) a b c d)) := by
  refine ⟨and4 (wi a 6) (wi b 8) (wi c 3) (wi d 6), fun x => ?_, fun z => ?_, fun h => ?_⟩
  · have h1 : f_X0_isAsTold (nI 13) a b c d x = f_X0_isAsTold_b23 (nI 13) a b c d x := by
      unfold f_X0_isAsTold
      rw [bnd_of within_eq, if_neg (by decide), if_neg (by decide)]
    rw [h1, told_b23 (by decide)]
    rw [show fitsV a ((endsV 0).getD 13 0) = wi a 6 from nx (by decide), show fitsV b ((endsV 1).getD 13 0) = wi b 8 from nx (by decide), show fitsV c ((endsV 2).getD 13 0) = wi c 3 from nx (by decide), show fitsV d ((endsV 3).getD 13 0) = wi d 6 from nx (by decide)]
  · unfold f_X11_isRight
    rw [if_neg (by decide), if_neg (by decide), if_neg (by decide), if_neg (by decide), if_neg (by decide), if_neg (by decide), if_neg (by decide), if_neg (by decide), if_neg (by decide), if_neg (by decide), if_neg (by decide), if_neg (by decide), if_neg (by decide), if_pos (by decide)]
    try unfold f_X11_isRight_b76
    try unfold f_X11_isRight_b81
    unfold and4
    rcases wi_01 a 6 with h0 | h0 <;> (try rw [h0]) <;>
    rcases wi_01 b 8 with h1 | h1 <;> (try rw [h1]) <;>
    rcases wi_01 c 3 with h2 | h2 <;> (try rw [h2]) <;>
    rcases wi_01 d 6 with h3 | h3 <;> (try rw [h3]) <;>
      simp [bnd, isNumber_w, isRow_w, isLane_w, isMethod_w, in48_w, isz, f_X11_isRight_b106, f_X11_isRight_b137, f_X11_isRight_b164, f_X11_isRight_b199, f_X11_isRight_b234, f_X11_isRight_b254, f_X11_isRight_b281, f_X11_isRight_b316, *]
  · obtain ⟨g1, g2, g3, g4⟩ := and4_n0 h
    have i1 : isN a 5 := wi_isN (by decide) g1
    have i2 : isN b 7 := wi_isN (by decide) g2
    have i3 : isN c 2 := wi_isN (by decide) g3
    have i4 : isN d 5 := wi_isN (by decide) g4
    exact actOK_of (k := 13) rfl (by decide) ⟨fun _ => i1, fun h => absurd h (by decide), fun h => absurd h (by decide), fun h => absurd h (by decide), fun h => absurd h (by decide), fun h => absurd h (by decide), fun _ => i4, fun _ => i3, fun _ => i2, fun h => absurd h (by decide)⟩
set_option maxHeartbeats 1000000 in
theorem told_14 (a b c d : Int32) : ∃ r, (∀ x, f_X0_isAsTold (nI 14) a b c d x = some (r, x)) ∧ (∀ z, f_X11_isRight (nI 14) a b c d z = some (r, z)) ∧ (¬ r = 0 → actOK (F5 (nI 14) a b c d)) := by
  refine ⟨and4 (wi a 6) 1 1 1, fun x => ?_, fun z => ?_, fun h => ?_⟩
  · have h1 : f_X0_isAsTold (nI 14) a b c d x = f_X0_isAsTold_b23 (nI 14) a b c d x := by
      unfold f_X0_isAsTold
      rw [bnd_of within_eq, if_neg (by decide), if_neg (by decide)]
    rw [h1, told_b23 (by decide)]
    rw [show fitsV a ((endsV 0).getD 14 0) = wi a 6 from nx (by decide), show fitsV b ((endsV 1).getD 14 0) = 1 from nx0, show fitsV c ((endsV 2).getD 14 0) = 1 from nx0, show fitsV d ((endsV 3).getD 14 0) = 1 from nx0]
  · unfold f_X11_isRight
    rw [if_neg (by decide), if_neg (by decide), if_neg (by decide), if_neg (by decide), if_neg (by decide), if_neg (by decide), if_neg (by decide), if_neg (by decide), if_neg (by decide), if_neg (by decide), if_neg (by decide), if_neg (by decide), if_neg (by decide), if_neg (by decide), if_pos (by decide)]
    try unfold f_X11_isRight_b76
    try unfold f_X11_isRight_b81
    unfold and4
    rcases wi_01 a 6 with h0 | h0 <;> (try rw [h0]) <;>
      simp [bnd, isNumber_w, isRow_w, isLane_w, isMethod_w, in48_w, isz, f_X11_isRight_b106, f_X11_isRight_b137, f_X11_isRight_b164, f_X11_isRight_b199, f_X11_isRight_b234, f_X11_isRight_b254, f_X11_isRight_b281, f_X11_isRight_b316, *]
  · obtain ⟨g1, g2, g3, g4⟩ := and4_n0 h
    have i1 : isN a 5 := wi_isN (by decide) g1
    exact actOK_of (k := 14) rfl (by decide) ⟨fun _ => i1, fun h => absurd h (by decide), fun h => absurd h (by decide), fun h => absurd h (by decide), fun h => absurd h (by decide), fun h => absurd h (by decide), fun h => absurd h (by decide), fun h => absurd h (by decide), fun h => absurd h (by decide), fun h => absurd h (by decide)⟩
theorem told_15 (a b c d : Int32) : ∃ r, (∀ x, f_X0_isAsTold (nI 15) a b c d x = some (r, x)) ∧ (∀ z, f_X11_isRight (nI 15) a b c d z = some (r, z)) ∧ (¬ r = 0 → actOK (F5 (nI 15) a b c d)) := by
  have hlt : b < 8 ∨ 8 ≤ b := by
    by_cases h : b < 8
    · exact Or.inl h
    · exact Or.inr (Int32.not_lt.mp h)
  refine ⟨if b < 8 then 0 else wi b 10, fun x => ?_, fun z => ?_, fun h => ?_⟩
  · unfold f_X0_isAsTold
    rw [bnd_of within_eq, if_neg (by decide), if_pos (by decide)]
    rcases hlt with h | h
    · rw [if_neg (Int32.not_le.mpr h), if_pos h]; rfl
    · rw [if_pos h, if_neg (Int32.not_lt.mpr h), told_b23 (by decide)]
      rw [show fitsV a ((endsV 0).getD 15 0) = 1 from nx0, show fitsV b ((endsV 1).getD 15 0) = wi b 10 from nx (by decide), show fitsV c ((endsV 2).getD 15 0) = 1 from nx0, show fitsV d ((endsV 3).getD 15 0) = 1 from nx0]
      unfold and4
      rcases wi_01 b 10 with h0 | h0 <;> rw [h0] <;> rfl
  · unfold f_X11_isRight
    rw [if_neg (by decide), if_neg (by decide), if_neg (by decide), if_neg (by decide), if_neg (by decide), if_neg (by decide), if_neg (by decide), if_neg (by decide), if_neg (by decide), if_neg (by decide), if_neg (by decide), if_neg (by decide), if_neg (by decide), if_neg (by decide), if_neg (by decide), if_pos (by decide)]
    unfold f_X11_in f_X11_in_b14
    rcases hlt with h | h
    · rw [if_pos h, if_pos h]; rfl
    · rw [if_neg (Int32.not_lt.mpr h), if_neg (Int32.not_lt.mpr h)]
      have hiff : (b < 0 ∨ 10 ≤ b) ↔ 9 < b := by
        have h10 : (10 : Int32).toInt = 10 := rfl
        have h9 : (9 : Int32).toInt = 9 := rfl
        have h8 : (8 : Int32).toInt = 8 := rfl
        have h0 : (0 : Int32).toInt = 0 := rfl
        rw [Int32.le_iff_toInt_le] at h
        rw [Int32.lt_iff_toInt_lt, Int32.le_iff_toInt_le, Int32.lt_iff_toInt_lt]
        omega
      by_cases q : 9 < b
      · rw [if_pos q]; unfold wi; rw [if_pos (hiff.mpr q)]; rfl
      · rw [if_neg q]; unfold wi; rw [if_neg (fun c => q (hiff.mp c))]; rfl
  · rcases hlt with h' | h'
    · rw [if_pos h'] at h; exact absurd rfl h
    · rw [if_neg (Int32.not_lt.mpr h')] at h
      have i2 : b = 8 ∨ b = 9 := by
        obtain ⟨j, hj, rfl⟩ := inc (a := 9) (by decide) (wi_n0 h)
        have : 8 ≤ j := Nat.not_lt.mp (fun q => Int32.not_lt.mpr h' (nI_lt q (by decide)))
        have : j = 8 ∨ j = 9 := by omega
        rcases this with rfl | rfl
        · exact Or.inl rfl
        · exact Or.inr rfl
      exact actOK_of (k := 15) rfl (by decide) ⟨fun h => absurd h (by decide), fun h => absurd h (by decide), fun h => absurd h (by decide), fun h => absurd h (by decide), fun h => absurd h (by decide), fun h => absurd h (by decide), fun h => absurd h (by decide), fun h => absurd h (by decide), fun h => absurd h (by decide), fun _ => i2⟩
theorem told_ex (a1 a b c d : Int32) : ∃ r, (∀ x, f_X0_isAsTold a1 a b c d x = some (r, x)) ∧ (∀ z, f_X11_isRight a1 a b c d z = some (r, z)) ∧ (¬ r = 0 → actOK (F5 a1 a b c d)) := by
  by_cases h : a1 < 0 ∨ 16 ≤ a1
  · refine ⟨0, fun x => ?_, fun z => ?_, fun c => absurd rfl c⟩
    · unfold f_X0_isAsTold
      rw [bnd_of within_eq, if_pos h, if_pos rfl]
      rfl
    · unfold f_X11_isRight
      rw [if_neg (fun q => by subst q; revert h; decide), if_neg (fun q => by subst q; revert h; decide), if_neg (fun q => by subst q; revert h; decide), if_neg (fun q => by subst q; revert h; decide), if_neg (fun q => by subst q; revert h; decide), if_neg (fun q => by subst q; revert h; decide), if_neg (fun q => by subst q; revert h; decide), if_neg (fun q => by subst q; revert h; decide), if_neg (fun q => by subst q; revert h; decide), if_neg (fun q => by subst q; revert h; decide), if_neg (fun q => by subst q; revert h; decide), if_neg (fun q => by subst q; revert h; decide), if_neg (fun q => by subst q; revert h; decide), if_neg (fun q => by subst q; revert h; decide), if_neg (fun q => by subst q; revert h; decide), if_neg (fun q => by subst q; revert h; decide)]
      rfl
  · obtain ⟨k, hk, rfl⟩ := inc (a := 15) (by decide) h
    have hc : k = 0 ∨ k = 1 ∨ k = 2 ∨ k = 3 ∨ k = 4 ∨ k = 5 ∨ k = 6 ∨ k = 7 ∨ k = 8 ∨ k = 9 ∨ k = 10 ∨ k = 11 ∨ k = 12 ∨ k = 13 ∨ k = 14 ∨ k = 15 := by omega
    rcases hc with rfl | rfl | rfl | rfl | rfl | rfl | rfl | rfl | rfl | rfl | rfl | rfl | rfl | rfl | rfl | rfl
    · exact told_0 a b c d
    · exact told_1 a b c d
    · exact told_2 a b c d
    · exact told_3 a b c d
    · exact told_4 a b c d
    · exact told_5 a b c d
    · exact told_6 a b c d
    · exact told_7 a b c d
    · exact told_8 a b c d
    · exact told_9 a b c d
    · exact told_10 a b c d
    · exact told_11 a b c d
    · exact told_12 a b c d
    · exact told_13 a b c d
    · exact told_14 a b c d
    · exact told_15 a b c d
