/-! more rows: lengths, copies, a list's array -/
def cpok (sp dp n : Int32) (N : Nat) : Bool := !decide (sp < 0) && !decide (dp < 0) && !decide (n < 0) && decide (sp.toNatClampNeg + n.toNatClampNeg ≤ N) && decide (dp.toNatClampNeg + n.toNatClampNeg ≤ N)
theorem cpok_of {sp dp n : Int32} {N : Nat} (h : cpok sp dp n N = true) : ¬ sp < 0 ∧ ¬ dp < 0 ∧ ¬ n < 0 ∧ sp.toNatClampNeg + n.toNatClampNeg ≤ N ∧ dp.toNatClampNeg + n.toNatClampNeg ≤ N := by
  simp only [cpok, Bool.and_eq_true, Bool.not_eq_true', decide_eq_false_iff_not, decide_eq_true_eq] at h
  exact ⟨h.1.1.1.1, h.1.1.1.2, h.1.1.2, h.1.2, h.2⟩
section LR2
variable {p : Program} {l : Launch} {e : Env} {R : Room} {s : State} {m : MethodId} {args : Array Value} {below : List Frame} {meth : Method} {c : Code} {H : Heap} {locs : List Loc} {cells slots : Nat} {Q : State → Prop}
variable {cc : ByteArray} {nL : Nat} {own : String} {ret : Option FieldType} {pc : Nat} {ls : Array Slot} {rest : List Value} {g : gT} {x : st}
theorem w_alen (C : cxt p s m meth c args cc nL own ret) (G : gst g s) (hI : wst g x H) (k i : Nat) (hd : gd g k i) (t0 : Nat) {cA : ClassId} {y : vp_A} {ty : FieldType} (he : fc g k i (x k i) = .inl (cA, y)) (ht : (tyl g)[t0]? = some (cA, ty)) {v : Int32} (hv : Int32.ofNat y.1 = v) (hdg : decode cc pc = .ok (.arraylength, 1))
    (kk : W p l e R s m args below meth c H locs cells slots Q (F0 m (pc + 1) ls (.int v :: rest))) : W p l e R s m args below meth c H locs cells slots Q (F0 m pc ls (.ref (ga g k i) :: rest)) :=
  va_alen C.1 C.2.1 G.2.1 (hI.at k i hd he) 0 t0 rfl ht hv hdg kk
/-- System.arraycopy within one array of ints -/
theorem w_acopy (C : cxt p s m meth c args cc nL own ret) (G : gst g s) (hI : wst g x H) (hS : va_S (zA (gz g)) s.heap H locs) (k i : Nat) (hd : gd g k i) (hk : lsF k = false) {N : Nat} (he : ∀ f, fc g k i f = .inl (gy g 0, N, .inl f)) {index : Nat} (hl : Cond.methodLink own index arraycopyName ∈ Tg) (hml : nL = ls.size) {sp dp n : Int32} (hn : cpok sp dp n N = true)
    (hframes : 1 ≤ R.frames) (hlocals : (rest.map fun v => v.category).sum + (nativeFrameWords "java/lang/System" "arraycopy" 5 + 11) ≤ R.locals) (hdg : decode cc pc = .ok (.invokestatic index, 3))
    (kk : ∀ (H1 : Heap) (locs1 : List Loc), wst g (sxA x k i (va_cpy (x k i) (x k i) sp.toNatClampNeg dp.toNatClampNeg n.toNatClampNeg)) H1 → va_S (zA (gz g)) s.heap H1 locs1 → W p l e R s m args below meth c H1 locs1 cells slots Q (F0 m (pc + 3) ls rest)) : W p l e R s m args below meth c H locs cells slots Q (F0 m pc ls (.int n :: .int dp :: .ref (ga g k i) :: .int sp :: .ref (ga g k i) :: rest)) := by
  obtain ⟨h1, h2, h3, h4, h5⟩ := cpok_of hn
  have hts := C.2.2.2.2.1
  have nn : ∀ z : Int32, ¬ z < 0 → z.toInt = (z.toNatClampNeg : Int) := by
    intro z hz
    have hz0 : (0 : Int) ≤ z.toInt := by
      have := Int32.not_lt.mp hz
      simpa using Int32.le_iff_toInt_le.mp this
    show z.toInt = ((z.toInt.toNat : Nat) : Int)
    omega
  intro T hT X
  have hc0 : H[ga g k i]? = some (vp_cell (gy g 0) (N, .inl (x k i))) := hI.at k i hd (he _) 0 _ rfl
  obtain ⟨-, k0, hk0, cm0, hkk0⟩ := (G.2.1.2 0 (gy g 0, .int) rfl).1 N (fun j => .int (x k i j))
  obtain ⟨vm', X', step⟩ := X.arraycopy C.1 C.2.2.2.1 (hts _ hl) (hts _ kn_arraycopy) (hts _ ks_arraycopy) (hts _ kI_J10) (src := ga g k i) (dst := ga g k i) (cs := vp_cell (gy g 0) (N, .inl (x k i))) (cd := vp_cell (gy g 0) (N, .inl (x k i))) (srcPos := sp) (destPos := dp) (n := n) (by rw [hT]; exact hc0) (by rw [hT]; exact hc0)
    (fun _ h => by cases h) (fun _ h => by cases h) (fun h => by cases h) (fun h => by cases h) hk0 hk0 hkk0 hkk0 (by simp [refKind]) h1 h2 h3
    (by rw [nn sp h1, nn n h3]; show ¬ _ > ((arrV (gy g 0) N (fun j => .int (x k i j))).slots.size : Int); rw [arrV_size]; omega)
    (by rw [nn dp h2, nn n h3]; show ¬ _ > ((arrV (gy g 0) N (fun j => .int (x k i j))).slots.size : Int); rw [arrV_size]; omega)
    (fun vm₁ _ q hq => by
      have e : (vp_cell (gy g 0) (N, .inl (x k i))).slots.getD (sp.toNatClampNeg + q) .null = .int (x k i (sp.toNatClampNeg + q)) := by
        show (arrV (gy g 0) N (fun j => .int (x k i j))).slots.getD _ _ = _
        rw [Array.getD_eq_getD_getElem?, arrV_read _ _ (by omega)]
        rfl
      refine ⟨?_, ?_⟩
      · rw [e]; rfl
      · rw [e]
        exact trivial)
    (g := F0 m pc ls (.int n :: .int dp :: .ref (ga g k i) :: .int sp :: .ref (ga g k i) :: rest)) rfl (by rw [C.2.2.1]; exact hml.symm) (rest := rest) rfl (by rw [C.2.1]; exact hdg) hframes (by show 2 * 0 + _ + _ ≤ _; omega)
  have e1 : copied (vp_cell (gy g 0) (N, .inl (x k i))) (vp_cell (gy g 0) (N, .inl (x k i))) sp dp n = vp_cell (gy g 0) (N, .inl (va_cpy (x k i) (x k i) sp.toNatClampNeg dp.toNatClampNeg n.toNatClampNeg)) := va_copied (fun z => .int z) (gy g 0) (gy g 0) (x k i) (x k i) h4
  rw [e1] at X' step
  have hl : ga g k i < H.size := (Array.getElem?_eq_some_iff.mp hc0).1
  have hheap : ((T.setVm vm').setCell (ga g k i) (vp_cell (gy g 0) (N, .inl (va_cpy (x k i) (x k i) sp.toNatClampNeg dp.toNatClampNeg n.toNatClampNeg)))).heap = H.setIfInBounds (ga g k i) (vp_cell (gy g 0) (N, .inl (va_cpy (x k i) (x k i) sp.toNatClampNeg dp.toNatClampNeg n.toNatClampNeg))) := by rw [← hT]; rfl
  have oq : ∀ q : Nat, q ≠ ga g k i → (H.setIfInBounds (ga g k i) (vp_cell (gy g 0) (N, .inl (va_cpy (x k i) (x k i) sp.toNatClampNeg dp.toNatClampNeg n.toNatClampNeg))))[q]? = H[q]? := fun q hq => by simp [Array.getElem?_setIfInBounds, Ne.symm hq]
  obtain ⟨t, a1, b1⟩ := kk _ _ (hI.set hd hk (by rw [he]; show (H.setIfInBounds (ga g k i) _)[ga g k i]? = some _; simp [Array.getElem?_setIfInBounds, hl]) oq) ⟨by simp; exact hS.1, fun q g1 g2 => by
      rw [oq q (fun e => g2 (by rw [e]; exact hI.1.2.2 k i hd))]
      exact hS.2.1 q g1 g2, fun q hq => by
      rcases List.mem_append.mp hq with h | h
      · exact hS.2.2 q h
      · obtain ⟨z, -, hz⟩ := List.mem_map.mp h
        rw [← hz]
        exact hI.1.2.2 k i hd⟩ _ hheap X'
  exact ⟨t, step t a1, b1⟩
/-- an element of a list -/
theorem w_aaldL (C : cxt p s m meth c args cc nL own ret) (G : gst g s) (hI : wst g x H) (k i ek mul : Nat) (he : ∀ f, fc g k i f = .inl (gy g 3, (f 1).toNatClampNeg, qa (fun q => if q < (f 0).toNatClampNeg then some (ga g ek (mul * i + q)) else none))) {j : Int32} (hin : inb j (x k i 0).toNatClampNeg = true) (hok : gd g k i ∧ gd g ek (mul * i + j.toNatClampNeg) ∧ j.toNatClampNeg < (x k i 1).toNatClampNeg) (hdg : decode cc pc = .ok (.aaload, 1))
    (kk : W p l e R s m args below meth c H locs cells slots Q (F0 m (pc + 1) ls (.ref (ga g ek (mul * i + j.toNatClampNeg)) :: rest))) : W p l e R s m args below meth c H locs cells slots Q (F0 m pc ls (.int j :: .ref (ga g k i) :: rest)) :=
  w_aald C G hI k i hok.1 3 (he _) rfl (fun q => by
    rcases q with q | q
    · exact inb_in hin (Or.inl q)
    · omega) (by rw [if_pos (inb_lt hin)]) hdg kk
end LR2
theorem fcA_24 (g : gT) (i : Nat) (f : Nat → Int32) : fc g 24 i f = .inl (gy g 3, (f 1).toNatClampNeg, qa (fun j => if j < (f 0).toNatClampNeg then some (ga g 18 (48 * i + j)) else none)) := rfl
theorem fcA_25 (g : gT) (i : Nat) (f : Nat → Int32) : fc g 25 i f = .inl (gy g 3, (f 1).toNatClampNeg, qa (fun j => if j < (f 0).toNatClampNeg then some (ga g 19 (6 * i + j)) else none)) := rfl
theorem fcA_26 (g : gT) (i : Nat) (f : Nat → Int32) : fc g 26 i f = .inl (gy g 3, (f 1).toNatClampNeg, qa (fun j => if j < (f 0).toNatClampNeg then some (ga g 20 (6 * i + j)) else none)) := rfl
section LR3
variable {p : Program} {l : Launch} {e : Env} {R : Room} {s : State} {m : MethodId} {args : Array Value} {below : List Frame} {meth : Method} {c : Code} {H : Heap} {locs : List Loc} {cells slots : Nat} {Q : State → Prop}
variable {cc : ByteArray} {nL : Nat} {own : String} {ret : Option FieldType} {pc : Nat} {ls : Array Slot} {rest : List Value} {g : gT} {x : st}
theorem w_max (C : cxt p s m meth c args cc nL own ret) {index : Nat} (hl : Cond.methodLink own index yJ9_max_7cf53 ∈ Tg) (hml : nL = ls.size) (hframes : 1 ≤ R.frames) (hlocals : (rest.map fun v => v.category).sum + 13 ≤ R.locals) (hc : cells ≤ R.cells) (hs : slots ≤ R.slots) {a b : Int32} (hdg : decode cc pc = .ok (.invokestatic index, 3))
    (kk : W p l e R s m args below meth c H locs cells slots Q (F0 m (pc + 3) ls (.int (if a < b then b else a) :: rest))) : W p l e R s m args below meth c H locs cells slots Q (F0 m pc ls (.int b :: .int a :: rest)) :=
  va_mmax C.1 C.2.1 (C.2.2.1.trans hml) C.2.2.2.1 (C.2.2.2.2.1 _ hl) (C.2.2.2.2.1 _ ks_J9_max_7cf53) (C.2.2.2.2.1 _ kI_J9) (C.2.2.2.2.1 _ kc_J9_max_7cf53) hframes hlocals hc hs hdg kk
theorem w_min (C : cxt p s m meth c args cc nL own ret) {index : Nat} (hl : Cond.methodLink own index yJ9_min_7cf53 ∈ Tg) (hml : nL = ls.size) (hframes : 1 ≤ R.frames) (hlocals : (rest.map fun v => v.category).sum + 13 ≤ R.locals) (hc : cells ≤ R.cells) (hs : slots ≤ R.slots) {a b : Int32} (hdg : decode cc pc = .ok (.invokestatic index, 3))
    (kk : W p l e R s m args below meth c H locs cells slots Q (F0 m (pc + 3) ls (.int (if b < a then b else a) :: rest))) : W p l e R s m args below meth c H locs cells slots Q (F0 m pc ls (.int b :: .int a :: rest)) :=
  va_mmin C.1 C.2.1 (C.2.2.1.trans hml) C.2.2.2.1 (C.2.2.2.2.1 _ hl) (C.2.2.2.2.1 _ ks_J9_min_7cf53) (C.2.2.2.2.1 _ kI_J9) (C.2.2.2.2.1 _ kc_J9_min_7cf53) hframes hlocals hc hs hdg kk
end LR3
