/-! the families' cells, small words of the functions, and rows for them -/
theorem fcE_0 (g : gT) (i : Nat) (f : Nat → Int32) : fc g 0 i f = .inr (10, [.ref (ga g 1 0), .int (f 1)]) := rfl
theorem fcE_1 (g : gT) (i : Nat) (f : Nat → Int32) : fc g 1 i f = .inr (5, [.ref (ga g 2 0), .ref (ga g 4 0), .ref (ga g 10 0), .ref (ga g 5 0), .ref (ga g 11 0), .int (f 5), .int (f 6)]) := rfl
theorem fcE_2 (g : gT) (i : Nat) (f : Nat → Int32) : fc g 2 i f = .inr (8, [.int (f 0), .int (f 1), .int (f 2), .int (f 3), .int (f 4), .int (f 5), .ref (ga g 3 0)]) := rfl
theorem fcE_4 (g : gT) (i : Nat) (f : Nat → Int32) : fc g 4 i f = .inr (6, [.int (f 0), .int (f 1), .int (f 2), .int (f 3), .int (f 4), .int (f 5), .int (f 6)]) := rfl
theorem fcE_5 (g : gT) (i : Nat) (f : Nat → Int32) : fc g 5 i f = .inr (9, [.ref (ga g 6 0), .ref (ga g 7 0), .ref (ga g 8 0), .ref (ga g 9 0), .int (f 4), .int (f 5)]) := rfl
theorem fcE_12 (g : gT) (i : Nat) (f : Nat → Int32) : fc g 12 i f = .inr (3, [.ref (ga g 13 i), .ref (ga g 14 i), .int (f 2), .int (f 3), .int (f 4), .int (f 5)]) := rfl
theorem fcE_15 (g : gT) (i : Nat) (f : Nat → Int32) : fc g 15 i f = .inr (7, [.ref (ga g 21 i), .ref (ga g 22 i), .ref (ga g 23 i)]) := rfl
theorem fcE_18 (g : gT) (i : Nat) (f : Nat → Int32) : fc g 18 i f = .inr (1, [.int (f 0), .int (f 1), .int (f 2), .int (f 3), .int (f 4)]) := rfl
theorem fcE_19 (g : gT) (i : Nat) (f : Nat → Int32) : fc g 19 i f = .inr (4, [.int (f 0), .int (f 1), .int (f 2), .int (f 3)]) := rfl
theorem fcE_20 (g : gT) (i : Nat) (f : Nat → Int32) : fc g 20 i f = .inr (2, [.int (f 0), .int (f 1), .int (f 2)]) := rfl
theorem fcE_21 (g : gT) (i : Nat) (f : Nat → Int32) : fc g 21 i f = .inr (0, [.int (f 0), .ref (ga g 24 i), .int (f 2)]) := rfl
theorem fcE_22 (g : gT) (i : Nat) (f : Nat → Int32) : fc g 22 i f = .inr (0, [.int (f 0), .ref (ga g 25 i), .int (f 2)]) := rfl
theorem fcE_23 (g : gT) (i : Nat) (f : Nat → Int32) : fc g 23 i f = .inr (0, [.int (f 0), .ref (ga g 26 i), .int (f 2)]) := rfl
def m44 (g : gT) (f : Nat → Int32) : List Value := [.ref (ga g 40 0), .ref (ga g 41 0), .ref (ga g 42 0), .ref (ga g 43 0), .ref (ga g 44 0), .ref (ga g 45 0), .ref (ga g 46 0), .ref (ga g 47 0), .ref (ga g 48 0), .ref (ga g 49 0), .ref (ga g 50 0), .ref (ga g 51 0), .ref (ga g 52 0), .ref (ga g 53 0), .ref (ga g 54 0), .int (f 15), .int (f 16), .ref (ga g 57 0), .ref (ga g 58 0), .ref (ga g 59 0), .ref (ga g 60 0), .ref (ga g 61 0), .ref (ga g 62 0), .ref (ga g 63 0), .ref (ga g 64 0), .ref (ga g 65 0), .ref (ga g 66 0), .ref (ga g 67 0), .int (f 28), .int (f 29), .ref (ga g 70 0), .ref (ga g 71 0), .ref (ga g 72 0), .ref (ga g 73 0), .int (f 34), .int (f 35), .int (f 36), .int (f 37), .int (f 38), .int (f 39), .ref (ga g 80 0), .ref (ga g 81 0), .ref (ga g 82 0), .ref (ga g 83 0)]
theorem fcE_30 (g : gT) (i : Nat) (f : Nat → Int32) : fc g 30 i f = .inr (11, m44 g f) := rfl
theorem m44_len (g : gT) (f : Nat → Int32) : (m44 g f).length = 44 := rfl
theorem fcA_3 (g : gT) (i : Nat) (f : Nat → Int32) : fc g 3 i f = .inl (gy g 0, 300, .inl f) := rfl
theorem fcA_6 (g : gT) (i : Nat) (f : Nat → Int32) : fc g 6 i f = .inl (gy g 0, 4800, .inl f) := rfl
theorem fcA_7 (g : gT) (i : Nat) (f : Nat → Int32) : fc g 7 i f = .inl (gy g 0, 600, .inl f) := rfl
theorem fcA_8 (g : gT) (i : Nat) (f : Nat → Int32) : fc g 8 i f = .inl (gy g 0, 600, .inl f) := rfl
theorem fcA_9 (g : gT) (i : Nat) (f : Nat → Int32) : fc g 9 i f = .inl (gy g 0, 600, .inl f) := rfl
theorem fcA_13 (g : gT) (i : Nat) (f : Nat → Int32) : fc g 13 i f = .inl (gy g 0, 6, .inl f) := rfl
theorem fcA_14 (g : gT) (i : Nat) (f : Nat → Int32) : fc g 14 i f = .inl (gy g 0, 3, .inl f) := rfl
theorem fcA_40 (g : gT) (i : Nat) (f : Nat → Int32) : fc g 40 i f = .inl (gy g 0, 8, .inl f) := rfl
theorem fcA_41 (g : gT) (i : Nat) (f : Nat → Int32) : fc g 41 i f = .inl (gy g 0, 384, .inl f) := rfl
theorem fcA_42 (g : gT) (i : Nat) (f : Nat → Int32) : fc g 42 i f = .inl (gy g 0, 384, .inl f) := rfl
theorem fcA_43 (g : gT) (i : Nat) (f : Nat → Int32) : fc g 43 i f = .inl (gy g 0, 384, .inl f) := rfl
theorem fcA_44 (g : gT) (i : Nat) (f : Nat → Int32) : fc g 44 i f = .inl (gy g 0, 384, .inl f) := rfl
theorem fcA_45 (g : gT) (i : Nat) (f : Nat → Int32) : fc g 45 i f = .inl (gy g 0, 384, .inl f) := rfl
theorem fcA_46 (g : gT) (i : Nat) (f : Nat → Int32) : fc g 46 i f = .inl (gy g 0, 8, .inl f) := rfl
theorem fcA_47 (g : gT) (i : Nat) (f : Nat → Int32) : fc g 47 i f = .inl (gy g 0, 48, .inl f) := rfl
theorem fcA_48 (g : gT) (i : Nat) (f : Nat → Int32) : fc g 48 i f = .inl (gy g 0, 48, .inl f) := rfl
theorem fcA_49 (g : gT) (i : Nat) (f : Nat → Int32) : fc g 49 i f = .inl (gy g 0, 48, .inl f) := rfl
theorem fcA_50 (g : gT) (i : Nat) (f : Nat → Int32) : fc g 50 i f = .inl (gy g 0, 48, .inl f) := rfl
theorem fcA_51 (g : gT) (i : Nat) (f : Nat → Int32) : fc g 51 i f = .inl (gy g 0, 8, .inl f) := rfl
theorem fcA_52 (g : gT) (i : Nat) (f : Nat → Int32) : fc g 52 i f = .inl (gy g 0, 48, .inl f) := rfl
theorem fcA_53 (g : gT) (i : Nat) (f : Nat → Int32) : fc g 53 i f = .inl (gy g 0, 48, .inl f) := rfl
theorem fcA_54 (g : gT) (i : Nat) (f : Nat → Int32) : fc g 54 i f = .inl (gy g 0, 48, .inl f) := rfl
theorem fcA_57 (g : gT) (i : Nat) (f : Nat → Int32) : fc g 57 i f = .inl (gy g 0, 13, .inl f) := rfl
theorem fcA_58 (g : gT) (i : Nat) (f : Nat → Int32) : fc g 58 i f = .inl (gy g 0, 13, .inl f) := rfl
theorem fcA_59 (g : gT) (i : Nat) (f : Nat → Int32) : fc g 59 i f = .inl (gy g 0, 78, .inl f) := rfl
theorem fcA_60 (g : gT) (i : Nat) (f : Nat → Int32) : fc g 60 i f = .inl (gy g 0, 39, .inl f) := rfl
theorem fcA_63 (g : gT) (i : Nat) (f : Nat → Int32) : fc g 63 i f = .inl (gy g 0, 13, .inl f) := rfl
theorem fcA_64 (g : gT) (i : Nat) (f : Nat → Int32) : fc g 64 i f = .inl (gy g 0, 13, .inl f) := rfl
theorem fcA_65 (g : gT) (i : Nat) (f : Nat → Int32) : fc g 65 i f = .inl (gy g 0, 13, .inl f) := rfl
theorem fcA_66 (g : gT) (i : Nat) (f : Nat → Int32) : fc g 66 i f = .inl (gy g 0, 13, .inl f) := rfl
theorem fcA_67 (g : gT) (i : Nat) (f : Nat → Int32) : fc g 67 i f = .inl (gy g 0, 13, .inl f) := rfl
theorem fcA_70 (g : gT) (i : Nat) (f : Nat → Int32) : fc g 70 i f = .inl (gy g 0, 4200, .inl f) := rfl
theorem fcA_71 (g : gT) (i : Nat) (f : Nat → Int32) : fc g 71 i f = .inl (gy g 0, 4200, .inl f) := rfl
theorem fcA_72 (g : gT) (i : Nat) (f : Nat → Int32) : fc g 72 i f = .inl (gy g 0, 4200, .inl f) := rfl
theorem fcA_80 (g : gT) (i : Nat) (f : Nat → Int32) : fc g 80 i f = .inl (gy g 0, 9, .inl f) := rfl
theorem fcA_81 (g : gT) (i : Nat) (f : Nat → Int32) : fc g 81 i f = .inl (gy g 0, 100, .inl f) := rfl
theorem fcA_82 (g : gT) (i : Nat) (f : Nat → Int32) : fc g 82 i f = .inl (gy g 0, 100, .inl f) := rfl
theorem fcA_83 (g : gT) (i : Nat) (f : Nat → Int32) : fc g 83 i f = .inl (gy g 0, 100, .inl f) := rfl
theorem fcA_61 (g : gT) (i : Nat) (f : Nat → Int32) : fc g 61 i f = .inl (gy g 1, 13, .inl f) := rfl
theorem fcA_62 (g : gT) (i : Nat) (f : Nat → Int32) : fc g 62 i f = .inl (gy g 1, 13, .inl f) := rfl
theorem fcA_73 (g : gT) (i : Nat) (f : Nat → Int32) : fc g 73 i f = .inl (gy g 2, 34000, .inr (.inl (fun j => (f j).toInt64))) := rfl
theorem fcA_10 (g : gT) (i : Nat) (f : Nat → Int32) : fc g 10 i f = .inl (gy g 4, 8, qa (fun j => some (ga g 15 j))) := rfl
theorem fcA_11 (g : gT) (i : Nat) (f : Nat → Int32) : fc g 11 i f = .inl (gy g 5, 12, qa (fun j => some (ga g 12 j))) := rfl
theorem m44_set_15 (g : gT) (f : Nat → Int32) (y : Int32) : fc g 30 0 (upd f 15 y) = .inr (11, (m44 g f).set 15 (.int y)) := rfl
theorem m44_set_16 (g : gT) (f : Nat → Int32) (y : Int32) : fc g 30 0 (upd f 16 y) = .inr (11, (m44 g f).set 16 (.int y)) := rfl
theorem m44_set_28 (g : gT) (f : Nat → Int32) (y : Int32) : fc g 30 0 (upd f 28 y) = .inr (11, (m44 g f).set 28 (.int y)) := rfl
theorem m44_set_29 (g : gT) (f : Nat → Int32) (y : Int32) : fc g 30 0 (upd f 29 y) = .inr (11, (m44 g f).set 29 (.int y)) := rfl
theorem m44_set_34 (g : gT) (f : Nat → Int32) (y : Int32) : fc g 30 0 (upd f 34 y) = .inr (11, (m44 g f).set 34 (.int y)) := rfl
theorem m44_set_35 (g : gT) (f : Nat → Int32) (y : Int32) : fc g 30 0 (upd f 35 y) = .inr (11, (m44 g f).set 35 (.int y)) := rfl
theorem m44_set_36 (g : gT) (f : Nat → Int32) (y : Int32) : fc g 30 0 (upd f 36 y) = .inr (11, (m44 g f).set 36 (.int y)) := rfl
theorem m44_set_37 (g : gT) (f : Nat → Int32) (y : Int32) : fc g 30 0 (upd f 37 y) = .inr (11, (m44 g f).set 37 (.int y)) := rfl
theorem m44_set_38 (g : gT) (f : Nat → Int32) (y : Int32) : fc g 30 0 (upd f 38 y) = .inr (11, (m44 g f).set 38 (.int y)) := rfl
theorem m44_set_39 (g : gT) (f : Nat → Int32) (y : Int32) : fc g 30 0 (upd f 39 y) = .inr (11, (m44 g f).set 39 (.int y)) := rfl
def inb (j : Int32) (n : Nat) : Bool := !(decide (j < 0) || decide (n ≤ j.toNatClampNeg))
theorem inb_in {j : Int32} {n : Nat} (h : inb j n = true) : vp_in j n := by
  intro q
  simp only [inb, Bool.not_eq_true', Bool.or_eq_false_iff, decide_eq_false_iff_not] at h
  rcases q with q | q
  · exact h.1 q
  · exact h.2 q
theorem inb_lt {j : Int32} {n : Nat} (h : inb j n = true) : j.toNatClampNeg < n := Nat.not_le.mp fun q => inb_in h (Or.inr q)
def isz (r : Int32) : Bool := r == 0 || r == 1
theorem isz_or {r : Int32} (h : isz r = true) : r = 0 ∨ r = 1 := by simpa [isz] using h
theorem need_t {α : Type} {b : Bool} {t : Option α} {r : α} (h : (if b = true then t else none) = some r) : b = true ∧ t = some r := by
  cases b with
  | true => exact ⟨rfl, by simpa using h⟩
  | false => simp at h
theorem need_p {α : Type} {c : Prop} [Decidable c] {t : Option α} {r : α} (h : (if c then t else none) = some r) : c ∧ t = some r := by
  by_cases hc : c
  · rw [if_pos hc] at h; exact ⟨hc, h⟩
  · rw [if_neg hc] at h; cases h
theorem ite_y {α : Type} {c : Prop} [Decidable c] {t e : α} {r : α} (hc : c) (h : (if c then t else e) = r) : t = r := by rw [if_pos hc] at h; exact h
theorem ite_n {α : Type} {c : Prop} [Decidable c] {t e : α} {r : α} (hc : ¬ c) (h : (if c then t else e) = r) : e = r := by rw [if_neg hc] at h; exact h
def lets {α : Type} (y : st) (f : st → Option α) : Option α := f y
theorem lets_some {α : Type} {y : st} {f : st → Option α} {r : α} (h : lets y f = some r) : ∃ z, z = y ∧ f z = some r := ⟨y, rfl, h⟩
def bnd {α β : Type} (o : Option (α × st)) (f : α → st → Option β) : Option β := o.bind fun q => f q.1 q.2
theorem bnd_some {α β : Type} {o : Option (α × st)} {f : α → st → Option β} {r : β} (h : bnd o f = some r) : ∃ a y, o = some (a, y) ∧ f a y = some r := by
  obtain ⟨⟨a, y⟩, h1, h2⟩ := Option.bind_eq_some_iff.mp h
  exact ⟨a, y, h1, h2⟩
def bnv {β : Type} (o : Option st) (f : st → Option β) : Option β := o.bind f
theorem bnv_some {β : Type} {o : Option st} {f : st → Option β} {r : β} (h : bnv o f = some r) : ∃ y, o = some y ∧ f y = some r := Option.bind_eq_some_iff.mp h
theorem sw_out {x : Int32} (n : Nat) (h : ∀ k, k < n → ¬ x = nI k) (hn : n < 2 ^ 31) : x.toInt < 0 ∨ (n : Int) - 1 < x.toInt := by
  by_cases h0 : x < 0
  · left; rw [Int32.lt_iff_toInt_lt, Int32.toInt_zero] at h0; exact h0
  · right
    obtain ⟨j, hj, rfl⟩ := nI_of h0
    rw [nI_toInt hj]
    have : ¬ j < n := fun q => h j q rfl
    omega
theorem wst.at1 {g : gT} {x : st} {H : Heap} (h : wst g x H) {k : Nat} (hk : famN.getD k 0 = 1) : gd g k 0 := h.2.1 k 0 (by rw [hk]; exact Nat.one_pos)
theorem wst.at8 {g : gT} {x : st} {H : Heap} (h : wst g x H) {k i : Nat} (hk : famN.getD k 0 = 8) (hi : i < 8) : gd g k i := h.2.1 k i (by rw [hk]; exact hi)
theorem wst.at12 {g : gT} {x : st} {H : Heap} (h : wst g x H) {k i : Nat} (hk : famN.getD k 0 = 12) (hi : i < 12) : gd g k i := h.2.1 k i (by rw [hk]; exact hi)
section LF
variable {p : Program} {l : Launch} {e : Env} {R : Room} {s : State} {m : MethodId} {args : Array Value} {below : List Frame} {meth : Method} {c : Code} {H : Heap} {locs : List Loc} {cells slots : Nat} {Q : State → Prop}
variable {cc : ByteArray} {nL : Nat} {own : String} {ret : Option FieldType} {pc : Nat} {ls : Array Slot} {rest : List Value} {g : gT} {x : st}
theorem w_acmp_eq (C : cxt p s m meth c args cc nL own ret) (G : gst g s) {a b : Nat} (ha : a < 5) (hb : b < 5) {off : Int} {tgt : Nat} (hdg : decode cc pc = .ok (.if_acmp .eq off, 3)) (ht : (pc : Int) + off = (tgt : Int))
    (kt : a = b → W p l e R s m args below meth c H locs cells slots Q (F0 m tgt ls rest)) (kf : ¬ a = b → W p l e R s m args below meth c H locs cells slots Q (F0 m (pc + 3) ls rest)) : W p l e R s m args below meth c H locs cells slots Q (F0 m pc ls (.ref (ge g b) :: .ref (ge g a) :: rest)) :=
  lv_acmp_eq (rx := some (ge g a)) (ry := some (ge g b)) C.1 C.2.1 hdg ht (fun h => kt (ge_inj G ha hb (Option.some.inj h))) (fun h => kf (fun q => h (by rw [q])))
theorem w_acmp_ne (C : cxt p s m meth c args cc nL own ret) (G : gst g s) {a b : Nat} (ha : a < 5) (hb : b < 5) {off : Int} {tgt : Nat} (hdg : decode cc pc = .ok (.if_acmp .ne off, 3)) (ht : (pc : Int) + off = (tgt : Int))
    (kt : ¬ a = b → W p l e R s m args below meth c H locs cells slots Q (F0 m tgt ls rest)) (kf : a = b → W p l e R s m args below meth c H locs cells slots Q (F0 m (pc + 3) ls rest)) : W p l e R s m args below meth c H locs cells slots Q (F0 m pc ls (.ref (ge g b) :: .ref (ge g a) :: rest)) :=
  lv_acmp_ne (rx := some (ge g a)) (ry := some (ge g b)) C.1 C.2.1 hdg ht (fun h => kt (fun q => h (by rw [q]))) (fun h => kf (ge_inj G ha hb (Option.some.inj h)))
/-- a cast of an object to its own class -/
theorem w_cast (C : cxt p s m meth c args cc nL own ret) (G : gst g s) (hI : wst g x H) (k i : Nat) (hd : gd g k i) {ci : Nat} {fs : List Value} (he : fc g k i (x k i) = .inr (ci, fs)) {Cn : String} {T : u_T} {N : Nat} (hc : vwCl[ci]? = some (Cn, T, N)) {index : Nat} (hl : Cond.classLink own index Cn ∈ Tg) (hdg : decode cc pc = .ok (.checkcast index, 3))
    (kk : W p l e R s m args below meth c H locs cells slots Q (F0 m (pc + 3) ls (.ref (ga g k i) :: rest))) : W p l e R s m args below meth c H locs cells slots Q (F0 m pc ls (.ref (ga g k i) :: rest)) :=
  va_castS C.1 C.2.1 C.2.2.2.1 (C.2.2.2.2.1 _ hl) (G.2.1.1 ci _ hc).2 (w_recv G hI k i hd he hc) hdg kk
/-- a static table of ints -/
theorem w_ends (C : cxt p s m meth c args cc nL own ret) (G : gst g s) (hS : va_S (zA (gz g)) s.heap H locs) (q : Nat) (hq : q < 4) {index : Nat} {nm : String} (hnm : endsN q = nm) (hl : Cond.fieldLink own index "StepBudgets$Act" nm "[I" ∈ Tg) (hdg : decode cc pc = .ok (.getstatic index, 3))
    (kk : W p l e R s m args below meth c H locs cells slots Q (F0 m (pc + 3) ls (.ref (ge g (10 + q)) :: rest))) : W p l e R s m args below meth c H locs cells slots Q (F0 m pc ls rest) := by
  subst hnm
  exact va_gets C.1 C.2.1 (G.2.2.2.2.1 q hq).1 hS C.2.2.2.1 (C.2.2.2.2.1 _ hl) (fun _ h => h) hdg kk
theorem w_endsAt (C : cxt p s m meth c args cc nL own ret) (G : gst g s) (hS : va_S (zA (gz g)) s.heap H locs) (q : Nat) (hq : q < 4) {j : Int32} (hin : vp_in j 16) (hdg : decode cc pc = .ok (.iaload, 1))
    (kk : W p l e R s m args below meth c H locs cells slots Q (F0 m (pc + 1) ls (.int ((endsV q).getD j.toNatClampNeg 0) :: rest))) : W p l e R s m args below meth c H locs cells slots Q (F0 m pc ls (.int j :: .ref (ge g (10 + q)) :: rest)) :=
  va_ti C.1 C.2.1 (G.2.2.2.2.1 q hq).2 hS hin rfl hdg kk
end LF
