/-! the two sides beside each other: what is the same, what is kept -/
def nv (v : Int32) : Nat := v.toNatClampNeg
def isN (v : Int32) (B : Nat) : Prop := v = nI (nv v) ∧ nv v ≤ B
theorem isN.of {n B : Nat} (h : n ≤ B) (hB : n < 2 ^ 31) : isN (nI n) B := ⟨by unfold nv; rw [nI_clamp hB], by unfold nv; rw [nI_clamp hB]; exact h⟩
theorem nv_nI {n : Nat} (h : n < 2 ^ 31) : nv (nI n) = n := nI_clamp h
theorem nv_lt (v : Int32) : nv v < 2 ^ 31 := by
  by_cases h : v < 0
  · have : v.toNatClampNeg = 0 := by
      rw [Int32.lt_iff_toInt_lt, Int32.toInt_zero] at h
      show v.toInt.toNat = 0
      omega
    unfold nv; omega
  · obtain ⟨j, hj, rfl⟩ := nI_of h
    rw [nv_nI hj]; exact hj
/-- an ACT as told -/
def actOK (q : Nat → Int32) : Prop :=
  isN (q 0) 15 ∧
  (nv (q 0) ≤ 5 ∨ nv (q 0) = 7 ∨ nv (q 0) = 10 ∨ nv (q 0) = 11 ∨ nv (q 0) = 13 ∨ nv (q 0) = 14 → isN (q 1) 5) ∧
  (nv (q 0) = 8 ∨ nv (q 0) = 9 ∨ nv (q 0) = 12 → isN (q 1) 2) ∧
  (1 ≤ nv (q 0) ∧ nv (q 0) ≤ 5 → isN (q 2) 5 ∧ isN (q 3) 5) ∧
  (nv (q 0) = 6 ∨ nv (q 0) = 7 → isN (q 2) 48) ∧
  (8 ≤ nv (q 0) ∧ nv (q 0) ≤ 12 → isN (q 2) 2) ∧
  (nv (q 0) = 8 ∨ nv (q 0) = 9 ∨ nv (q 0) = 12 → isN (q 3) 5) ∧
  (nv (q 0) = 9 ∨ nv (q 0) = 10 ∨ nv (q 0) = 13 → isN (q 4) 5) ∧
  (nv (q 0) = 10 ∨ nv (q 0) = 13 → isN (q 3) 2) ∧
  (nv (q 0) = 13 → isN (q 2) 7) ∧
  (nv (q 0) = 15 → q 2 = 8 ∨ q 2 = 9)
/-- the METHODS are as told -/
def IP (y : st) : Prop := ∀ m, m < 8 → (isN (y 21 m 2) 48 ∧ isN (y 22 m 2) 6 ∧ isN (y 23 m 2) 6) ∧ (y 24 m 0 = y 21 m 2 ∧ y 25 m 0 = y 22 m 2 ∧ y 26 m 0 = y 23 m 2) ∧
  (∀ j, j < nv (y 21 m 2) → actOK (y 18 (48 * m + j))) ∧ (∀ j, j < nv (y 22 m 2) → isN (y 19 (6 * m + j) 3) 48) ∧ (∀ j, j < nv (y 23 m 2) → isN (y 20 (6 * m + j) 1) 48 ∧ isN (y 20 (6 * m + j) 2) 7)
/-- the reference has the same METHODS -/
def SP (y z : st) : Prop := ∀ m, m < 8 → (z 40 0 m = y 21 m 2 ∧ z 46 0 m = y 22 m 2 ∧ z 51 0 m = y 23 m 2) ∧
  (∀ j, j < nv (y 21 m 2) → ∀ s, s < 5 → z (41 + s) 0 (48 * m + j) = y 18 (48 * m + j) s) ∧
  (∀ j, j < nv (y 22 m 2) → ∀ s, s < 4 → z (47 + s) 0 (6 * m + j) = y 19 (6 * m + j) s) ∧
  (∀ j, j < nv (y 23 m 2) → ∀ s, s < 3 → z (52 + s) 0 (6 * m + j) = y 20 (6 * m + j) s)
/-- the meter and the rows -/
def IM (y : st) : Prop := (isN (y 4 0 0) 500 ∧ isN (y 4 0 1) 100 ∧ isN (y 4 0 3) 500 ∧ isN (y 4 0 4) 100 ∧ isN (y 4 0 5) 24 ∧ (y 4 0 6 = 0 ∨ y 4 0 6 = 1)) ∧
  (nv (y 4 0 0) ≤ nv (y 4 0 3) ∧ nv (y 4 0 1) ≤ nv (y 4 0 4)) ∧ (isN (y 5 0 4) 600 ∧ isN (y 5 0 5) 4800) ∧
  (nv (y 5 0 4) ≤ nv (y 4 0 0) + nv (y 4 0 1) ∧ nv (y 5 0 5) ≤ 8 * (nv (y 4 0 0) + nv (y 4 0 1))) ∧
  ∀ r, r < nv (y 5 0 4) → isN (y 7 0 r) 4800 ∧ isN (y 8 0 r) 64 ∧ nv (y 7 0 r) + nv (y 8 0 r) ≤ nv (y 5 0 5) ∧ ∀ q, q < r → nv (y 7 0 q) + nv (y 8 0 q) ≤ nv (y 7 0 r)
/-- the FRAMES -/
def IF (d : Nat) (y : st) : Prop := ∀ f, f < d → isN (y 12 f 2) 7 ∧ isN (y 12 f 3) 48 ∧ ∀ j, j < 3 → y 14 f j = -3 ∨ (isN (y 14 f j) 600 ∧ nv (y 14 f j) < nv (y 5 0 4))
def SG (y z : st) : Prop :=
  (z 80 0 2 = y 4 0 0 ∧ z 80 0 3 = y 4 0 1 ∧ z 80 0 7 = y 4 0 2 ∧ z 30 0 34 = y 4 0 3 ∧ z 30 0 15 = y 4 0 4 ∧ z 30 0 39 = y 4 0 5 ∧ z 30 0 37 = y 4 0 6) ∧
  (z 80 0 4 = y 2 0 2 ∧ z 80 0 5 = y 2 0 3 ∧ z 80 0 6 = y 2 0 4 ∧ z 80 0 8 = y 2 0 5) ∧
  (z 30 0 28 = y 5 0 4 ∧ z 30 0 29 = y 5 0 5) ∧
  (∀ j, j < 600 → z 72 0 j = y 7 0 j ∧ z 71 0 j = y 8 0 j ∧ z 70 0 j = y 9 0 j) ∧ (∀ j, j < 4800 → z 73 0 j = y 6 0 j) ∧
  ∀ j, j < 100 → z 81 0 j = y 3 0 (3 * j) ∧ z 82 0 j = y 3 0 (3 * j + 1) ∧ z 83 0 j = y 3 0 (3 * j + 2)
def SF (d : Nat) (y z : st) : Prop := ∀ f, f < d → z 57 0 f = y 12 f 2 ∧ z 58 0 f = y 12 f 3 ∧ (∀ j, j < 6 → z 59 0 (6 * f + j) = y 13 f j) ∧ ∀ j, j < 3 → z 60 0 (3 * f + j) = y 14 f j
/-- what the class keeps: METHODS, the reference's cells, the FRAMES below d -/
def KC (d : Nat) (y y' : st) : Prop := (∀ k, 15 ≤ k → y' k = y k) ∧ y' 0 = y 0 ∧ (y' 4 0 3 = y 4 0 3 ∧ y' 4 0 4 = y 4 0 4 ∧ y' 2 0 0 = y 2 0 0 ∧ y' 2 0 1 = y 2 0 1 ∧ (y' 4 0 2 = y 4 0 2 ∨ y' 4 0 2 = 1)) ∧ ∀ f, f < d → y' 12 f = y 12 f ∧ y' 13 f = y 13 f ∧ y' 14 f = y 14 f
def K0 (z z' : st) : Prop := (∀ k, k < 30 → z' k = z k) ∧ (∀ k, 40 ≤ k → k ≤ 54 → z' k = z k) ∧ z' 30 0 15 = z 30 0 15 ∧ z' 30 0 34 = z 30 0 34 ∧ z' 80 0 0 = z 80 0 0 ∧ z' 80 0 1 = z 80 0 1
/-- FRAMES below d: what no callee changes, STOPPED or not -/
def KA (d : Nat) (z z' : st) : Prop := (∀ i, i < d → z' 57 0 i = z 57 0 i ∧ z' 58 0 i = z 58 0 i ∧ z' 61 0 i = z 61 0 i ∧ z' 62 0 i = z 62 0 i ∧ z' 63 0 i = z 63 0 i ∧ z' 64 0 i = z 64 0 i ∧ z' 65 0 i = z 65 0 i) ∧ (∀ j, j < 6 * d → z' 59 0 j = z 59 0 j) ∧ ∀ j, j < 3 * d → z' 60 0 j = z 60 0 j
def KR (d : Nat) (z z' : st) : Prop := K0 z z' ∧ KA d z z' ∧ (z' 30 0 37 = z 30 0 37 ∧ z' 30 0 38 = z 30 0 38) ∧ ∀ i, i < d → z' 66 0 i = z 66 0 i ∧ z' 67 0 i = z 67 0 i
/-- STOPPED in between -/
def KS (d : Nat) (z z' : st) : Prop := K0 z z' ∧ KA d z z' ∧ z' 30 0 37 = 1 ∧ ∀ i, i < d → z' 66 0 i = (if z 62 0 i = 0 then 0 else z 66 0 i) ∧ z' 67 0 i = z 51 0 (nv (z 57 0 i)) - 1
def rem (y : st) : Nat := (if y 4 0 6 = 0 then nv (y 4 0 3) - nv (y 4 0 0) else 0) + (nv (y 4 0 4) - nv (y 4 0 1))
theorem KC.rf {d : Nat} {y : st} : KC d y y := ⟨fun _ _ => rfl, rfl, ⟨rfl, rfl, rfl, rfl, Or.inl rfl⟩, fun _ _ => ⟨rfl, rfl, rfl⟩⟩
theorem KC.tr {d : Nat} {a b c : st} (h1 : KC d a b) (h2 : KC d b c) : KC d a c := ⟨fun k hk => (h2.1 k hk).trans (h1.1 k hk), h2.2.1.trans h1.2.1, ⟨h2.2.2.1.1.trans h1.2.2.1.1, h2.2.2.1.2.1.trans h1.2.2.1.2.1, h2.2.2.1.2.2.1.trans h1.2.2.1.2.2.1, h2.2.2.1.2.2.2.1.trans h1.2.2.1.2.2.2.1, h2.2.2.1.2.2.2.2.elim (fun c => h1.2.2.1.2.2.2.2.imp (fun d => c.trans d) (fun d => c.trans d)) Or.inr⟩, fun f hf => ⟨(h2.2.2.2 f hf).1.trans (h1.2.2.2 f hf).1, (h2.2.2.2 f hf).2.1.trans (h1.2.2.2 f hf).2.1, (h2.2.2.2 f hf).2.2.trans (h1.2.2.2 f hf).2.2⟩⟩
theorem KC.lo {d e : Nat} {a b : st} (h : KC d a b) (he : e ≤ d) : KC e a b := ⟨h.1, h.2.1, h.2.2.1, fun f hf => h.2.2.2 f (by omega)⟩
theorem K0.rf {z : st} : K0 z z := ⟨fun _ _ => rfl, fun _ _ _ => rfl, rfl, rfl, rfl, rfl⟩
theorem K0.tr {a b c : st} (h1 : K0 a b) (h2 : K0 b c) : K0 a c := ⟨fun k hk => (h2.1 k hk).trans (h1.1 k hk), fun k h h' => (h2.2.1 k h h').trans (h1.2.1 k h h'), h2.2.2.1.trans h1.2.2.1, h2.2.2.2.1.trans h1.2.2.2.1, h2.2.2.2.2.1.trans h1.2.2.2.2.1, h2.2.2.2.2.2.trans h1.2.2.2.2.2⟩
theorem KA.rf {d : Nat} {z : st} : KA d z z := ⟨fun _ _ => ⟨rfl, rfl, rfl, rfl, rfl, rfl, rfl⟩, fun _ _ => rfl, fun _ _ => rfl⟩
theorem KA.tr {d : Nat} {a b c : st} (h1 : KA d a b) (h2 : KA d b c) : KA d a c := by
  refine ⟨fun i hi => ?_, fun j hj => (h2.2.1 j hj).trans (h1.2.1 j hj), fun j hj => (h2.2.2 j hj).trans (h1.2.2 j hj)⟩
  obtain ⟨a1, a2, a3, a4, a5, a6, a7⟩ := h1.1 i hi
  obtain ⟨b1, b2, b3, b4, b5, b6, b7⟩ := h2.1 i hi
  exact ⟨b1.trans a1, b2.trans a2, b3.trans a3, b4.trans a4, b5.trans a5, b6.trans a6, b7.trans a7⟩
theorem KA.lo {d e : Nat} {a b : st} (h : KA d a b) (he : e ≤ d) : KA e a b := ⟨fun i hi => h.1 i (by omega), fun j hj => h.2.1 j (by omega), fun j hj => h.2.2 j (by omega)⟩
theorem KR.rf {d : Nat} {z : st} : KR d z z := ⟨K0.rf, KA.rf, ⟨rfl, rfl⟩, fun _ _ => ⟨rfl, rfl⟩⟩
theorem KR.tr {d : Nat} {a b c : st} (h1 : KR d a b) (h2 : KR d b c) : KR d a c := ⟨h1.1.tr h2.1, h1.2.1.tr h2.2.1, ⟨h2.2.2.1.1.trans h1.2.2.1.1, h2.2.2.1.2.trans h1.2.2.1.2⟩, fun i hi => ⟨(h2.2.2.2 i hi).1.trans (h1.2.2.2 i hi).1, (h2.2.2.2 i hi).2.trans (h1.2.2.2 i hi).2⟩⟩
theorem KR.lo {d e : Nat} {a b : st} (h : KR d a b) (he : e ≤ d) : KR e a b := ⟨h.1, h.2.1.lo he, h.2.2.1, fun i hi => h.2.2.2 i (by omega)⟩
theorem KS.lo {d e : Nat} {a b : st} (h : KS d a b) (he : e ≤ d) : KS e a b := ⟨h.1, h.2.1.lo he, h.2.2.1, fun i hi => h.2.2.2 i (by omega)⟩
/-- first nothing is STOPPED, then it is -/
theorem KR.S {d : Nat} {a b c : st} (h1 : KR d a b) (h2 : KS d b c) : KS d a c := by
  refine ⟨h1.1.tr h2.1, h1.2.1.tr h2.2.1, h2.2.2.1, fun i hi => ?_⟩
  obtain ⟨a1, a2⟩ := h2.2.2.2 i hi
  have e1 := (h1.2.1.1 i hi).1
  have e2 := (h1.2.1.1 i hi).2.2.2.1
  have e3 := (h1.2.2.2 i hi).1
  rw [a1, a2, e1, e2, e3, h1.1.2.1 51 (by decide) (by decide)]
  exact ⟨rfl, rfl⟩
/-- behind the stop, what runs keeps the FRAMES below -/
theorem KS.R {d : Nat} {a b c : st} (h1 : KS d a b) (h2 : KR d b c) : KS d a c := by
  refine ⟨h1.1.tr h2.1, h1.2.1.tr h2.2.1, h2.2.2.1.1.trans h1.2.2.1, fun i hi => ?_⟩
  rw [(h2.2.2.2 i hi).1, (h2.2.2.2 i hi).2]
  exact h1.2.2.2 i hi
theorem IP.kc {d : Nat} {y y' : st} (h : IP y) (k : KC d y y') : IP y' := by
  intro m hm
  rw [k.1 21 (by decide), k.1 22 (by decide), k.1 23 (by decide), k.1 24 (by decide), k.1 25 (by decide), k.1 26 (by decide), k.1 18 (by decide), k.1 19 (by decide), k.1 20 (by decide)]
  exact h m hm
theorem SP.kc {d : Nat} {y y' z z' : st} (h : SP y z) (k : KC d y y') (q : K0 z z') : SP y' z' := by
  intro m hm
  rw [k.1 21 (by decide), k.1 22 (by decide), k.1 23 (by decide), k.1 18 (by decide), k.1 19 (by decide), k.1 20 (by decide), q.2.1 40 (by decide) (by decide), q.2.1 46 (by decide) (by decide), q.2.1 51 (by decide) (by decide)]
  obtain ⟨h1, h2, h3, h4⟩ := h m hm
  refine ⟨h1, fun j hj s hs => ?_, fun j hj s hs => ?_, fun j hj s hs => ?_⟩
  · rw [q.2.1 (41 + s) (by omega) (by omega)]; exact h2 j hj s hs
  · rw [q.2.1 (47 + s) (by omega) (by omega)]; exact h3 j hj s hs
  · rw [q.2.1 (52 + s) (by omega) (by omega)]; exact h4 j hj s hs
theorem IF.kc {d e : Nat} {y y' : st} (h : IF d y) (k : KC e y y') (he : d ≤ e) (hc : nv (y 5 0 4) ≤ nv (y' 5 0 4)) : IF d y' := by
  intro f hf
  obtain ⟨a1, a2, a3⟩ := k.2.2.2 f (by omega)
  rw [a1, a3]
  obtain ⟨b1, b2, b3⟩ := h f hf
  refine ⟨b1, b2, fun j hj => ?_⟩
  rcases b3 j hj with q | ⟨q1, q2⟩
  · exact Or.inl q
  · exact Or.inr ⟨q1, by omega⟩
theorem SF.kc {d e : Nat} {y y' z z' : st} (h : SF d y z) (k : KC e y y') (q : KA e z z') (he : d ≤ e) : SF d y' z' := by
  intro f hf
  obtain ⟨a1, a2, a3⟩ := k.2.2.2 f (by omega)
  obtain ⟨q1, q2, -⟩ := q.1 f (by omega)
  rw [a1, a2, a3, q1, q2]
  obtain ⟨b1, b2, b3, b4⟩ := h f hf
  refine ⟨b1, b2, fun j hj => ?_, fun j hj => ?_⟩
  · rw [q.2.1 _ (by omega)]; exact b3 j hj
  · rw [q.2.2 _ (by omega)]; exact b4 j hj
/-- one turn of the reference's loop -/
def itR (z : st) : Option st := if ¬ z 30 0 37 = 0 ∧ z 30 0 16 - 1 = z 30 0 38 then f_X11_cleanOn z else if inb (z 30 0 16 - 1) 13 = true then (if z 62 0 (z 30 0 16 - 1).toNatClampNeg = 0 then f_X11_step z else f_X11_leaveOn (z 30 0 16 - 1) z) else none
def Rn : Nat → st → st → Prop
  | 0, z, w => z = w
  | n + 1, z, w => z 30 0 36 = 0 ∧ ∃ z1, itR z = some z1 ∧ Rn n z1 w
def Rch (z w : st) : Prop := ∃ n, Rn n z w
theorem Rch.rf {z : st} : Rch z z := ⟨0, rfl⟩
theorem Rch.hd {z z1 w : st} (h0 : z 30 0 36 = 0) (h : itR z = some z1) (r : Rch z1 w) : Rch z w := by
  obtain ⟨n, hn⟩ := r
  exact ⟨n + 1, h0, z1, h, hn⟩
theorem Rn.tr : ∀ {n m : Nat} {a b c : st}, Rn n a b → Rn m b c → Rn (n + m) a c
  | 0, m, a, b, c, h, h2 => by rw [Nat.zero_add, show a = b from h]; exact h2
  | n + 1, m, a, b, c, h, h2 => by
    obtain ⟨h0, z1, h1, hn⟩ := h
    rw [show n + 1 + m = (n + m) + 1 by omega]
    exact ⟨h0, z1, h1, Rn.tr hn h2⟩
theorem Rch.tr {a b c : st} (h1 : Rch a b) (h2 : Rch b c) : Rch a c := by
  obtain ⟨n, hn⟩ := h1
  obtain ⟨m, hm⟩ := h2
  exact ⟨n + m, hn.tr hm⟩
/-- the cleaning, if there is one, goes on below FRAME f -/
def clOK (f : Nat) (z : st) : Prop := z 30 0 37 = 0 ∨ (z 30 0 37 = 1 ∧ ∃ c, c < f ∧ z 30 0 38 = nI c)
/-- FRAME f is on top, not LEAVING -/
def TR (f : Nat) (z : st) : Prop := z 30 0 16 = nI (f + 1) ∧ z 30 0 36 = 0 ∧ z 62 0 f = 0 ∧ clOK f z
/-- FRAME f is on top and is LEAVING -/
def TL (f : Nat) (z : st) : Prop := z 30 0 16 = nI (f + 1) ∧ z 30 0 36 = 0 ∧ z 62 0 f = 1 ∧ clOK f z
theorem clOK.ne {f : Nat} {z : st} (h : clOK f z) (hf : f < 13) : ¬ (¬ z 30 0 37 = 0 ∧ nI f = z 30 0 38) := by
  rintro ⟨h1, h2⟩
  rcases h with h | ⟨-, c, hc, h⟩
  · exact h1 h
  · rw [h, nI_eq (by omega) (by omega)] at h2; omega
theorem itR_step {f : Nat} {z : st} (h : TR f z) (hf : f < 13) : itR z = f_X11_step z := by
  obtain ⟨h1, h2, h3, h4⟩ := h
  unfold itR
  rw [h1, nI_pred, if_neg (h4.ne hf), inb_nI hf (by decide), if_pos rfl, nI_clamp (by omega), if_pos h3]
theorem itR_leave {f : Nat} {z : st} (h : TL f z) (hf : f < 13) : itR z = f_X11_leaveOn (nI f) z := by
  obtain ⟨h1, h2, h3, h4⟩ := h
  unfold itR
  rw [h1, nI_pred, if_neg (h4.ne hf), inb_nI hf (by decide), if_pos rfl, nI_clamp (by omega), if_neg (by rw [h3]; decide)]
theorem itR_clean {f : Nat} {z : st} (h1 : z 30 0 16 = nI (f + 1)) (h2 : z 30 0 37 = 1) (h3 : z 30 0 38 = nI f) : itR z = f_X11_cleanOn z := by
  unfold itR
  rw [h1, nI_pred, if_pos ⟨by rw [h2]; decide, h3.symm⟩]
