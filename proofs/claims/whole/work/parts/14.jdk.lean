/-! J3_checkIndex_8e157 -/
def f_J3_checkIndex_8e157 (a1 : Int32) (a2 : Int32) (x : st) : Option (Int32 × st) := if a1 < 0 then (none) else (if a1 < a2 then (some (a1, x)) else (none))
set_option maxHeartbeats 4000000 in
set_option maxRecDepth 100000 in
theorem w_J3_checkIndex_8e157 {p : Program} {l : Launch} {e : Env} {s : State} {m : MethodId} {args : Array Value} {below : List Frame} {meth : Method} {c : Code} {g : gT} {r : Int32} {x' : st} (C : cxt p s m meth c args cJ3_checkIndex_8e157 3 RJ3 (some .int)) (G : gst g s) (a1 : Int32) (a2 : Int32) (x : st) (H : Heap) (locs : List Loc) (ls : Array Slot)  (h : f_J3_checkIndex_8e157 a1 a2 x = some (r, x')) (hI : wst g x H) (hS : va_S (zA (gz g)) s.heap H locs) (hl : lv_has ls 3 [(0, .int a1), (1, .int a2), (2, .null)]) : W p l e (rmC 0 0) s m args below meth c H locs 0 0 (MQ below (Qx g (some (.int r)) x') args s 0 0 (zA (gz g))) (F0 m 0 ls []) := by
  obtain ⟨hx, hb, hml, hown, hts, hlk, hrt⟩ := id C
  unfold f_J3_checkIndex_8e157 at h
  refine lv_iload_n hx hb dJ3_checkIndex_8e157_0 rfl (lv_at hl 0 rfl) ?_
  refine lv_if_lt (tgt := 9) hx hb dJ3_checkIndex_8e157_1 (by decide) (fun hc => ?_) (fun hc => ?_)
  · replace h := ite_y hc h
    cases h
  replace h := ite_n hc h
  refine lv_iload_n hx hb dJ3_checkIndex_8e157_4 rfl (lv_at hl 0 rfl) ?_
  refine lv_iload_n hx hb dJ3_checkIndex_8e157_5 rfl (lv_at hl 1 rfl) ?_
  refine lv_icmp_lt (tgt := 16) hx hb dJ3_checkIndex_8e157_6 (by decide) (fun hc => ?_) (fun hc => ?_)
  · replace h := ite_y hc h
    refine lv_iload_n hx hb dJ3_checkIndex_8e157_16 rfl (lv_at hl 0 rfl) ?_
    cases h
    exact w_ireti C hI hS dJ3_checkIndex_8e157_17
  replace h := ite_n hc h
  cases h
theorem k_J3_checkIndex_8e157 (l : Launch) (g : gT) (a1 : Int32) (a2 : Int32) (x : st) (r : Int32) (x' : st)  (h : f_J3_checkIndex_8e157 a1 a2 x = some (r, x')) : Kt l yJ3_checkIndex_8e157 cJ3_checkIndex_8e157 3 (some .int) 0 0 g [.int a1, .int a2, .null] x (some (.int r)) x' := by
  refine Kt.of (by decide) (fun p e s m below meth c C G hI => ?_)
  have hl := lv_entry ([.int a1, .int a2, .null]) (n := 3) (Nat.le_of_ble_eq_true rfl)
  rw [lg_entry_eq]
  generalize (lg_sl ([.int a1, .int a2, .null]) ++ List.replicate (3 - (lg_sl ([.int a1, .int a2, .null])).length) Slot.unset).toArray = ls at hl ⊢
  have hl : lv_has ls 3 [(0, .int a1), (1, .int a2), (2, .null)] := hl
  exact w_J3_checkIndex_8e157 C G a1 a2 x _ _ ls  h hI va_S.rf hl
theorem ms_J3_checkIndex_8e157 : mtS yJ3_checkIndex_8e157 RJ3 cJ3_checkIndex_8e157 3 (some .int) 3 := ⟨ks_J3_checkIndex_8e157, kI_J3, kc_J3_checkIndex_8e157, by decide +kernel⟩

/-! J15_checkIndex_7cf53 -/
def f_J15_checkIndex_7cf53 (a1 : Int32) (a2 : Int32) (x : st) : Option (Int32 × st) := bnd (f_J3_checkIndex_8e157 a1 a2 x) fun r2 x1 => some (r2, x1)
set_option maxHeartbeats 4000000 in
set_option maxRecDepth 100000 in
theorem w_J15_checkIndex_7cf53 {p : Program} {l : Launch} {e : Env} {s : State} {m : MethodId} {args : Array Value} {below : List Frame} {meth : Method} {c : Code} {g : gT} {r : Int32} {x' : st} (C : cxt p s m meth c args cJ15_checkIndex_7cf53 2 RJ15 (some .int)) (G : gst g s) (a1 : Int32) (a2 : Int32) (x : st) (H : Heap) (locs : List Loc) (ls : Array Slot)  (h : f_J15_checkIndex_7cf53 a1 a2 x = some (r, x')) (hI : wst g x H) (hS : va_S (zA (gz g)) s.heap H locs) (hl : lv_has ls 2 [(0, .int a1), (1, .int a2)]) : W p l e (rmC 1 22) s m args below meth c H locs 0 0 (MQ below (Qx g (some (.int r)) x') args s 0 0 (zA (gz g))) (F0 m 0 ls []) := by
  obtain ⟨hx, hb, hml, hown, hts, hlk, hrt⟩ := id C
  unfold f_J15_checkIndex_7cf53 at h
  refine lv_iload_n hx hb dJ15_checkIndex_7cf53_0 rfl (lv_at hl 0 rfl) ?_
  refine lv_iload_n hx hb dJ15_checkIndex_7cf53_1 rfl (lv_at hl 1 rfl) ?_
  refine lv_null hx hb dJ15_checkIndex_7cf53_2 ?_
  obtain ⟨r2, x1, hq3, h⟩ := bnd_some h
  refine w_callS (fr := 0) (lo := 0) C G hI hS ms_J3_checkIndex_8e157 km_J15_105 [.int a1, .int a2, .null] (k_J3_checkIndex_8e157 l g a1 a2 x _ _  hq3) rfl (by first | exact ⟨by decide, by decide⟩ | exact ⟨by show _ ≤ _ + _; omega, by show _ ≤ _ + _; omega⟩) ⟨Nat.zero_le _, Nat.zero_le _⟩ hl.1 rfl (Nat.le_of_ble_eq_true rfl) dJ15_checkIndex_7cf53_3 (fun H locs hI hS => ?_)
  cases h
  exact w_ireti C hI hS dJ15_checkIndex_7cf53_6
theorem k_J15_checkIndex_7cf53 (l : Launch) (g : gT) (a1 : Int32) (a2 : Int32) (x : st) (r : Int32) (x' : st)  (h : f_J15_checkIndex_7cf53 a1 a2 x = some (r, x')) : Kt l yJ15_checkIndex_7cf53 cJ15_checkIndex_7cf53 2 (some .int) 1 22 g [.int a1, .int a2] x (some (.int r)) x' := by
  refine Kt.of (by decide) (fun p e s m below meth c C G hI => ?_)
  have hl := lv_entry ([.int a1, .int a2]) (n := 2) (Nat.le_of_ble_eq_true rfl)
  rw [lg_entry_eq]
  generalize (lg_sl ([.int a1, .int a2]) ++ List.replicate (2 - (lg_sl ([.int a1, .int a2])).length) Slot.unset).toArray = ls at hl ⊢
  have hl : lv_has ls 2 [(0, .int a1), (1, .int a2)] := hl
  exact w_J15_checkIndex_7cf53 C G a1 a2 x _ _ ls  h hI va_S.rf hl
theorem ms_J15_checkIndex_7cf53 : mtS yJ15_checkIndex_7cf53 RJ15 cJ15_checkIndex_7cf53 2 (some .int) 2 := ⟨ks_J15_checkIndex_7cf53, kI_J15, kc_J15_checkIndex_7cf53, by decide +kernel⟩

/-! J7_rangeCheck_23922 -/
def f_J7_rangeCheck_23922 (a1 : Int32) (a2 : Int32) (a3 : Int32) (x : st) : Option (st) := if a2 ≤ a3 then (if 0 ≤ a2 then (if a3 ≤ a1 then (some x) else (none)) else (none)) else (none)
set_option maxHeartbeats 4000000 in
set_option maxRecDepth 100000 in
theorem w_J7_rangeCheck_23922 {p : Program} {l : Launch} {e : Env} {s : State} {m : MethodId} {args : Array Value} {below : List Frame} {meth : Method} {c : Code} {g : gT} {x' : st} (C : cxt p s m meth c args cJ7_rangeCheck_23922 3 RJ7 none) (G : gst g s) (a1 : Int32) (a2 : Int32) (a3 : Int32) (x : st) (H : Heap) (locs : List Loc) (ls : Array Slot)  (h : f_J7_rangeCheck_23922 a1 a2 a3 x = some x') (hI : wst g x H) (hS : va_S (zA (gz g)) s.heap H locs) (hl : lv_has ls 3 [(0, .int a1), (1, .int a2), (2, .int a3)]) : W p l e (rmC 0 0) s m args below meth c H locs 0 0 (MQ below (Qx g none x') args s 0 0 (zA (gz g))) (F0 m 0 ls []) := by
  obtain ⟨hx, hb, hml, hown, hts, hlk, hrt⟩ := id C
  unfold f_J7_rangeCheck_23922 at h
  refine lv_iload_n hx hb dJ7_rangeCheck_23922_0 rfl (lv_at hl 1 rfl) ?_
  refine lv_iload_n hx hb dJ7_rangeCheck_23922_1 rfl (lv_at hl 2 rfl) ?_
  refine lv_icmp_le (tgt := 46) hx hb dJ7_rangeCheck_23922_2 (by decide) (fun hc => ?_) (fun hc => ?_)
  · replace h := ite_y hc h
    refine lv_iload_n hx hb dJ7_rangeCheck_23922_46 rfl (lv_at hl 1 rfl) ?_
    refine lv_if_ge (tgt := 59) hx hb dJ7_rangeCheck_23922_47 (by decide) (fun hc => ?_) (fun hc => ?_)
    · replace h := ite_y hc h
      refine lv_iload_n hx hb dJ7_rangeCheck_23922_59 rfl (lv_at hl 2 rfl) ?_
      refine lv_iload_n hx hb dJ7_rangeCheck_23922_60 rfl (lv_at hl 0 rfl) ?_
      refine lv_icmp_le (tgt := 73) hx hb dJ7_rangeCheck_23922_61 (by decide) (fun hc => ?_) (fun hc => ?_)
      · replace h := ite_y hc h
        cases h
        exact w_vret C hI hS dJ7_rangeCheck_23922_73
      replace h := ite_n hc h
      cases h
    replace h := ite_n hc h
    cases h
  replace h := ite_n hc h
  cases h
theorem k_J7_rangeCheck_23922 (l : Launch) (g : gT) (a1 : Int32) (a2 : Int32) (a3 : Int32) (x : st) (x' : st)  (h : f_J7_rangeCheck_23922 a1 a2 a3 x = some x') : Kt l yJ7_rangeCheck_23922 cJ7_rangeCheck_23922 3 none 0 0 g [.int a1, .int a2, .int a3] x none x' := by
  refine Kt.of (by decide) (fun p e s m below meth c C G hI => ?_)
  have hl := lv_entry ([.int a1, .int a2, .int a3]) (n := 3) (Nat.le_of_ble_eq_true rfl)
  rw [lg_entry_eq]
  generalize (lg_sl ([.int a1, .int a2, .int a3]) ++ List.replicate (3 - (lg_sl ([.int a1, .int a2, .int a3])).length) Slot.unset).toArray = ls at hl ⊢
  have hl : lv_has ls 3 [(0, .int a1), (1, .int a2), (2, .int a3)] := hl
  exact w_J7_rangeCheck_23922 C G a1 a2 a3 x _ _ ls  h hI va_S.rf hl
theorem ms_J7_rangeCheck_23922 : mtS yJ7_rangeCheck_23922 RJ7 cJ7_rangeCheck_23922 3 none 3 := ⟨ks_J7_rangeCheck_23922, kI_J7, kc_J7_rangeCheck_23922, by decide +kernel⟩

/-! J7_fill_53178@13 -/
def f_J7_fill_53178_13_b5 : Nat → Nat → Int32 → Int32 → Int32 → st → Option (st)
  | 0, _, _, _, _, _ => none
  | n + 1, v0, v1, v2, v3, x => if v3 ≤ v2 then (some x) else (if inb v2 6 = true then lets (sx x 13 v0 v2.toNatClampNeg v1) fun x2 => f_J7_fill_53178_13_b5 n v0 v1 (v2 + 1) v3 x2 else none)
set_option maxHeartbeats 4000000 in
set_option maxRecDepth 100000 in
theorem w_J7_fill_53178_13_b5 {p : Program} {l : Launch} {e : Env} {s : State} {m : MethodId} {args : Array Value} {below : List Frame} {meth : Method} {c : Code} {g : gT} {x' : st} (C : cxt p s m meth c args cJ7_fill_53178 4 RJ7 none) (G : gst g s) : ∀ (n : Nat) (v0 : Nat) (v1 : Int32) (v2 : Int32) (v3 : Int32) (x : st) (H : Heap) (locs : List Loc) (ls : Array Slot), v0 < 12 → f_J7_fill_53178_13_b5 n v0 v1 v2 v3 x = some x' → wst g x H → va_S (zA (gz g)) s.heap H locs → lv_has ls 4 [(0, .ref (ga g 13 v0)), (1, .int v1), (2, .int v2), (3, .int v3)] → W p l e (rmC 0 0) s m args below meth c H locs 0 0 (MQ below (Qx g none x') args s 0 0 (zA (gz g))) (F0 m 5 ls []) := by
  obtain ⟨hx, hb, hml, hown, hts, hlk, hrt⟩ := id C
  intro n
  induction n with
  | zero =>
    intro v0 v1 v2 v3 x H locs ls h_v0 h hI hS hl
    simp [f_J7_fill_53178_13_b5] at h
  | succ n ih =>
    intro v0 v1 v2 v3 x H locs ls h_v0 h hI hS hl
    unfold f_J7_fill_53178_13_b5 at h
    refine lv_iload_n hx hb dJ7_fill_53178_5 rfl (lv_at hl 2 rfl) ?_
    refine lv_iload_n hx hb dJ7_fill_53178_6 rfl (lv_at hl 3 rfl) ?_
    refine lv_icmp_ge (tgt := 20) hx hb dJ7_fill_53178_7 (by decide) (fun hc => ?_) (fun hc => ?_)
    · replace h := ite_y hc h
      cases h
      exact w_vret C hI hS dJ7_fill_53178_20
    replace h := ite_n hc h
    refine lv_aload_n hx hb dJ7_fill_53178_10 rfl (lv_at hl 0 rfl) ?_
    refine lv_iload_n hx hb dJ7_fill_53178_11 rfl (lv_at hl 2 rfl) ?_
    refine lv_iload_n hx hb dJ7_fill_53178_12 rfl (lv_at hl 1 rfl) ?_
    obtain ⟨hn1, h⟩ := need_t h
    refine w_iast C G hI hS 13 v0 (hI.at12 rfl h_v0) rfl (fcA_13 g _) (y := v1) (inb_in hn1) dJ7_fill_53178_13 (fun H locs hI hS => ?_)
    obtain ⟨x2, e_x2, h⟩ := lets_some h
    rw [← e_x2] at hI
    refine lv_iinc (v := (v2 + 1)) (lv' := [(2, .int (v2 + 1)), (0, .ref (ga g 13 v0)), (1, .int v1), (3, .int v3)]) hx hb dJ7_fill_53178_14 hl (k := 2) rfl rfl (by decide) rfl (fun ls hl => ?_)
    refine lv_goto (tgt := 5) hx hb dJ7_fill_53178_17 (by decide) ?_
    exact ih v0 v1 (v2 + 1) v3 x2 _ _ _ h_v0 h hI hS (lv_sub hl [1, 2, 0, 3] rfl)
def f_J7_fill_53178_13 (i1 : Nat) (a2 : Int32) (x : st) : Option (st) := f_J7_fill_53178_13_b5 100 i1 a2 0 6 x
set_option maxHeartbeats 4000000 in
set_option maxRecDepth 100000 in
theorem w_J7_fill_53178_13 {p : Program} {l : Launch} {e : Env} {s : State} {m : MethodId} {args : Array Value} {below : List Frame} {meth : Method} {c : Code} {g : gT} {x' : st} (C : cxt p s m meth c args cJ7_fill_53178 4 RJ7 none) (G : gst g s) (i1 : Nat) (a2 : Int32) (x : st) (H : Heap) (locs : List Loc) (ls : Array Slot) (h_i1 : i1 < 12) (h : f_J7_fill_53178_13 i1 a2 x = some x') (hI : wst g x H) (hS : va_S (zA (gz g)) s.heap H locs) (hl : lv_has ls 4 [(0, .ref (ga g 13 i1)), (1, .int a2)]) : W p l e (rmC 0 0) s m args below meth c H locs 0 0 (MQ below (Qx g none x') args s 0 0 (zA (gz g))) (F0 m 0 ls []) := by
  obtain ⟨hx, hb, hml, hown, hts, hlk, hrt⟩ := id C
  unfold f_J7_fill_53178_13 at h
  refine lv_iconst (v := 0) hx hb dJ7_fill_53178_0 (by decide) ?_
  refine lv_istore_n (lv' := [(2, .int 0), (0, .ref (ga g 13 i1)), (1, .int a2)]) hx hb dJ7_fill_53178_1 rfl hl (by decide) rfl (fun ls hl => ?_)
  refine lv_aload_n hx hb dJ7_fill_53178_2 rfl (lv_at hl 1 rfl) ?_
  refine w_alen C G hI 13 i1 (hI.at12 rfl h_i1) 0 (fcA_13 g _ _) rfl (v := 6) rfl dJ7_fill_53178_3 ?_
  refine lv_istore_n (lv' := [(3, .int 6), (2, .int 0), (0, .ref (ga g 13 i1)), (1, .int a2)]) hx hb dJ7_fill_53178_4 rfl hl (by decide) rfl (fun ls hl => ?_)
  exact w_J7_fill_53178_13_b5 C G 100 i1 a2 0 6 x _ _ _ h_i1 h hI hS (lv_sub hl [2, 3, 1, 0] rfl)
theorem k_J7_fill_53178_13 (l : Launch) (g : gT) (i1 : Nat) (a2 : Int32) (x : st) (x' : st) (h_i1 : i1 < 12) (h : f_J7_fill_53178_13 i1 a2 x = some x') : Kt l yJ7_fill_53178 cJ7_fill_53178 4 none 0 0 g [.ref (ga g 13 i1), .int a2] x none x' := by
  refine Kt.of (by decide) (fun p e s m below meth c C G hI => ?_)
  have hl := lv_entry ([.ref (ga g 13 i1), .int a2]) (n := 4) (Nat.le_of_ble_eq_true rfl)
  rw [lg_entry_eq]
  generalize (lg_sl ([.ref (ga g 13 i1), .int a2]) ++ List.replicate (4 - (lg_sl ([.ref (ga g 13 i1), .int a2])).length) Slot.unset).toArray = ls at hl ⊢
  have hl : lv_has ls 4 [(0, .ref (ga g 13 i1)), (1, .int a2)] := hl
  exact w_J7_fill_53178_13 C G i1 a2 x _ _ ls h_i1 h hI va_S.rf hl
theorem ms_J7_fill_53178 : mtS yJ7_fill_53178 RJ7 cJ7_fill_53178 4 none 2 := ⟨ks_J7_fill_53178, kI_J7, kc_J7_fill_53178, by decide +kernel⟩

/-! J7_fill_53178@14 -/
def f_J7_fill_53178_14_b5 : Nat → Nat → Int32 → Int32 → Int32 → st → Option (st)
  | 0, _, _, _, _, _ => none
  | n + 1, v0, v1, v2, v3, x => if v3 ≤ v2 then (some x) else (if inb v2 3 = true then lets (sx x 14 v0 v2.toNatClampNeg v1) fun x2 => f_J7_fill_53178_14_b5 n v0 v1 (v2 + 1) v3 x2 else none)
set_option maxHeartbeats 4000000 in
set_option maxRecDepth 100000 in
theorem w_J7_fill_53178_14_b5 {p : Program} {l : Launch} {e : Env} {s : State} {m : MethodId} {args : Array Value} {below : List Frame} {meth : Method} {c : Code} {g : gT} {x' : st} (C : cxt p s m meth c args cJ7_fill_53178 4 RJ7 none) (G : gst g s) : ∀ (n : Nat) (v0 : Nat) (v1 : Int32) (v2 : Int32) (v3 : Int32) (x : st) (H : Heap) (locs : List Loc) (ls : Array Slot), v0 < 12 → f_J7_fill_53178_14_b5 n v0 v1 v2 v3 x = some x' → wst g x H → va_S (zA (gz g)) s.heap H locs → lv_has ls 4 [(0, .ref (ga g 14 v0)), (1, .int v1), (2, .int v2), (3, .int v3)] → W p l e (rmC 0 0) s m args below meth c H locs 0 0 (MQ below (Qx g none x') args s 0 0 (zA (gz g))) (F0 m 5 ls []) := by
  obtain ⟨hx, hb, hml, hown, hts, hlk, hrt⟩ := id C
  intro n
  induction n with
  | zero =>
    intro v0 v1 v2 v3 x H locs ls h_v0 h hI hS hl
    simp [f_J7_fill_53178_14_b5] at h
  | succ n ih =>
    intro v0 v1 v2 v3 x H locs ls h_v0 h hI hS hl
    unfold f_J7_fill_53178_14_b5 at h
    refine lv_iload_n hx hb dJ7_fill_53178_5 rfl (lv_at hl 2 rfl) ?_
    refine lv_iload_n hx hb dJ7_fill_53178_6 rfl (lv_at hl 3 rfl) ?_
    refine lv_icmp_ge (tgt := 20) hx hb dJ7_fill_53178_7 (by decide) (fun hc => ?_) (fun hc => ?_)
    · replace h := ite_y hc h
      cases h
      exact w_vret C hI hS dJ7_fill_53178_20
    replace h := ite_n hc h
    refine lv_aload_n hx hb dJ7_fill_53178_10 rfl (lv_at hl 0 rfl) ?_
    refine lv_iload_n hx hb dJ7_fill_53178_11 rfl (lv_at hl 2 rfl) ?_
    refine lv_iload_n hx hb dJ7_fill_53178_12 rfl (lv_at hl 1 rfl) ?_
    obtain ⟨hn1, h⟩ := need_t h
    refine w_iast C G hI hS 14 v0 (hI.at12 rfl h_v0) rfl (fcA_14 g _) (y := v1) (inb_in hn1) dJ7_fill_53178_13 (fun H locs hI hS => ?_)
    obtain ⟨x2, e_x2, h⟩ := lets_some h
    rw [← e_x2] at hI
    refine lv_iinc (v := (v2 + 1)) (lv' := [(2, .int (v2 + 1)), (0, .ref (ga g 14 v0)), (1, .int v1), (3, .int v3)]) hx hb dJ7_fill_53178_14 hl (k := 2) rfl rfl (by decide) rfl (fun ls hl => ?_)
    refine lv_goto (tgt := 5) hx hb dJ7_fill_53178_17 (by decide) ?_
    exact ih v0 v1 (v2 + 1) v3 x2 _ _ _ h_v0 h hI hS (lv_sub hl [1, 2, 0, 3] rfl)
def f_J7_fill_53178_14 (i1 : Nat) (a2 : Int32) (x : st) : Option (st) := f_J7_fill_53178_14_b5 100 i1 a2 0 3 x
set_option maxHeartbeats 4000000 in
set_option maxRecDepth 100000 in
theorem w_J7_fill_53178_14 {p : Program} {l : Launch} {e : Env} {s : State} {m : MethodId} {args : Array Value} {below : List Frame} {meth : Method} {c : Code} {g : gT} {x' : st} (C : cxt p s m meth c args cJ7_fill_53178 4 RJ7 none) (G : gst g s) (i1 : Nat) (a2 : Int32) (x : st) (H : Heap) (locs : List Loc) (ls : Array Slot) (h_i1 : i1 < 12) (h : f_J7_fill_53178_14 i1 a2 x = some x') (hI : wst g x H) (hS : va_S (zA (gz g)) s.heap H locs) (hl : lv_has ls 4 [(0, .ref (ga g 14 i1)), (1, .int a2)]) : W p l e (rmC 0 0) s m args below meth c H locs 0 0 (MQ below (Qx g none x') args s 0 0 (zA (gz g))) (F0 m 0 ls []) := by
  obtain ⟨hx, hb, hml, hown, hts, hlk, hrt⟩ := id C
  unfold f_J7_fill_53178_14 at h
  refine lv_iconst (v := 0) hx hb dJ7_fill_53178_0 (by decide) ?_
  refine lv_istore_n (lv' := [(2, .int 0), (0, .ref (ga g 14 i1)), (1, .int a2)]) hx hb dJ7_fill_53178_1 rfl hl (by decide) rfl (fun ls hl => ?_)
  refine lv_aload_n hx hb dJ7_fill_53178_2 rfl (lv_at hl 1 rfl) ?_
  refine w_alen C G hI 14 i1 (hI.at12 rfl h_i1) 0 (fcA_14 g _ _) rfl (v := 3) rfl dJ7_fill_53178_3 ?_
  refine lv_istore_n (lv' := [(3, .int 3), (2, .int 0), (0, .ref (ga g 14 i1)), (1, .int a2)]) hx hb dJ7_fill_53178_4 rfl hl (by decide) rfl (fun ls hl => ?_)
  exact w_J7_fill_53178_14_b5 C G 100 i1 a2 0 3 x _ _ _ h_i1 h hI hS (lv_sub hl [2, 3, 1, 0] rfl)
theorem k_J7_fill_53178_14 (l : Launch) (g : gT) (i1 : Nat) (a2 : Int32) (x : st) (x' : st) (h_i1 : i1 < 12) (h : f_J7_fill_53178_14 i1 a2 x = some x') : Kt l yJ7_fill_53178 cJ7_fill_53178 4 none 0 0 g [.ref (ga g 14 i1), .int a2] x none x' := by
  refine Kt.of (by decide) (fun p e s m below meth c C G hI => ?_)
  have hl := lv_entry ([.ref (ga g 14 i1), .int a2]) (n := 4) (Nat.le_of_ble_eq_true rfl)
  rw [lg_entry_eq]
  generalize (lg_sl ([.ref (ga g 14 i1), .int a2]) ++ List.replicate (4 - (lg_sl ([.ref (ga g 14 i1), .int a2])).length) Slot.unset).toArray = ls at hl ⊢
  have hl : lv_has ls 4 [(0, .ref (ga g 14 i1)), (1, .int a2)] := hl
  exact w_J7_fill_53178_14 C G i1 a2 x _ _ ls h_i1 h hI va_S.rf hl


/-! J7_fill_fda19@6 -/
def f_J7_fill_fda19_6_b10 : Nat → Int32 → Int32 → Int32 → st → Option (st)
  | 0, _, _, _, _ => none
  | n + 1, v2, v3, v4, x => if v2 ≤ v4 then (some x) else (if inb v4 4800 = true then lets (sx x 6 0 v4.toNatClampNeg v3) fun x5 => f_J7_fill_fda19_6_b10 n v2 v3 (v4 + 1) x5 else none)
set_option maxHeartbeats 4000000 in
set_option maxRecDepth 100000 in
theorem w_J7_fill_fda19_6_b10 {p : Program} {l : Launch} {e : Env} {s : State} {m : MethodId} {args : Array Value} {below : List Frame} {meth : Method} {c : Code} {g : gT} {x' : st} (C : cxt p s m meth c args cJ7_fill_fda19 5 RJ7 none) (G : gst g s) : ∀ (n : Nat) (v2 : Int32) (v3 : Int32) (v4 : Int32) (x : st) (H : Heap) (locs : List Loc) (ls : Array Slot), f_J7_fill_fda19_6_b10 n v2 v3 v4 x = some x' → wst g x H → va_S (zA (gz g)) s.heap H locs → lv_has ls 5 [(0, .ref (ga g 6 0)), (2, .int v2), (3, .int v3), (4, .int v4)] → W p l e (rmC 1 22) s m args below meth c H locs 0 0 (MQ below (Qx g none x') args s 0 0 (zA (gz g))) (F0 m 10 ls []) := by
  obtain ⟨hx, hb, hml, hown, hts, hlk, hrt⟩ := id C
  intro n
  induction n with
  | zero =>
    intro v2 v3 v4 x H locs ls h hI hS hl
    simp [f_J7_fill_fda19_6_b10] at h
  | succ n ih =>
    intro v2 v3 v4 x H locs ls h hI hS hl
    unfold f_J7_fill_fda19_6_b10 at h
    refine lv_iload hx hb dJ7_fill_fda19_10 (lv_at hl 3 rfl) ?_
    refine lv_iload_n hx hb dJ7_fill_fda19_12 rfl (lv_at hl 1 rfl) ?_
    refine lv_icmp_ge (tgt := 27) hx hb dJ7_fill_fda19_13 (by decide) (fun hc => ?_) (fun hc => ?_)
    · replace h := ite_y hc h
      cases h
      exact w_vret C hI hS dJ7_fill_fda19_27
    replace h := ite_n hc h
    refine lv_aload_n hx hb dJ7_fill_fda19_16 rfl (lv_at hl 0 rfl) ?_
    refine lv_iload hx hb dJ7_fill_fda19_17 (lv_at hl 3 rfl) ?_
    refine lv_iload_n hx hb dJ7_fill_fda19_19 rfl (lv_at hl 2 rfl) ?_
    obtain ⟨hn4, h⟩ := need_t h
    refine w_iast C G hI hS 6 0 (hI.at1 rfl) rfl (fcA_6 g _) (y := v3) (inb_in hn4) dJ7_fill_fda19_20 (fun H locs hI hS => ?_)
    obtain ⟨x5, e_x5, h⟩ := lets_some h
    rw [← e_x5] at hI
    refine lv_iinc (v := (v4 + 1)) (lv' := [(4, .int (v4 + 1)), (0, .ref (ga g 6 0)), (2, .int v2), (3, .int v3)]) hx hb dJ7_fill_fda19_21 hl (k := 3) rfl rfl (by decide) rfl (fun ls hl => ?_)
    refine lv_goto (tgt := 10) hx hb dJ7_fill_fda19_24 (by decide) ?_
    exact ih v2 v3 (v4 + 1) x5 _ _ _  h hI hS (lv_sub hl [1, 2, 3, 0] rfl)
def f_J7_fill_fda19_6 (a2 : Int32) (a3 : Int32) (a4 : Int32) (x : st) : Option (st) := bnv (f_J7_rangeCheck_23922 4800 a2 a3 x) fun x1 => f_J7_fill_fda19_6_b10 5000 a3 a4 a2 x1
set_option maxHeartbeats 4000000 in
set_option maxRecDepth 100000 in
theorem w_J7_fill_fda19_6 {p : Program} {l : Launch} {e : Env} {s : State} {m : MethodId} {args : Array Value} {below : List Frame} {meth : Method} {c : Code} {g : gT} {x' : st} (C : cxt p s m meth c args cJ7_fill_fda19 5 RJ7 none) (G : gst g s) (a2 : Int32) (a3 : Int32) (a4 : Int32) (x : st) (H : Heap) (locs : List Loc) (ls : Array Slot)  (h : f_J7_fill_fda19_6 a2 a3 a4 x = some x') (hI : wst g x H) (hS : va_S (zA (gz g)) s.heap H locs) (hl : lv_has ls 5 [(0, .ref (ga g 6 0)), (1, .int a2), (2, .int a3), (3, .int a4)]) : W p l e (rmC 1 22) s m args below meth c H locs 0 0 (MQ below (Qx g none x') args s 0 0 (zA (gz g))) (F0 m 0 ls []) := by
  obtain ⟨hx, hb, hml, hown, hts, hlk, hrt⟩ := id C
  unfold f_J7_fill_fda19_6 at h
  refine lv_aload_n hx hb dJ7_fill_fda19_0 rfl (lv_at hl 0 rfl) ?_
  refine w_alen C G hI 6 0 (hI.at1 rfl) 0 (fcA_6 g _ _) rfl (v := 4800) rfl dJ7_fill_fda19_1 ?_
  refine lv_iload_n hx hb dJ7_fill_fda19_2 rfl (lv_at hl 1 rfl) ?_
  refine lv_iload_n hx hb dJ7_fill_fda19_3 rfl (lv_at hl 2 rfl) ?_
  obtain ⟨x1, hq3, h⟩ := bnv_some h
  refine w_callS (fr := 0) (lo := 0) C G hI hS ms_J7_rangeCheck_23922 km_J7_13 [.int 4800, .int a2, .int a3] (k_J7_rangeCheck_23922 l g 4800 a2 a3 x _  hq3) rfl (by first | exact ⟨by decide, by decide⟩ | exact ⟨by show _ ≤ _ + _; omega, by show _ ≤ _ + _; omega⟩) ⟨Nat.zero_le _, Nat.zero_le _⟩ hl.1 rfl (Nat.le_of_ble_eq_true rfl) dJ7_fill_fda19_4 (fun H locs hI hS => ?_)
  refine lv_iload_n hx hb dJ7_fill_fda19_7 rfl (lv_at hl 1 rfl) ?_
  refine lv_istore (lv' := [(4, .int a2), (0, .ref (ga g 6 0)), (1, .int a2), (2, .int a3), (3, .int a4)]) hx hb dJ7_fill_fda19_8 hl (by decide) rfl (fun ls hl => ?_)
  exact w_J7_fill_fda19_6_b10 C G 5000 a3 a4 a2 x1 _ _ _  h hI hS (lv_sub hl [1, 3, 4, 0] rfl)
theorem k_J7_fill_fda19_6 (l : Launch) (g : gT) (a2 : Int32) (a3 : Int32) (a4 : Int32) (x : st) (x' : st)  (h : f_J7_fill_fda19_6 a2 a3 a4 x = some x') : Kt l yJ7_fill_fda19 cJ7_fill_fda19 5 none 1 22 g [.ref (ga g 6 0), .int a2, .int a3, .int a4] x none x' := by
  refine Kt.of (by decide) (fun p e s m below meth c C G hI => ?_)
  have hl := lv_entry ([.ref (ga g 6 0), .int a2, .int a3, .int a4]) (n := 5) (Nat.le_of_ble_eq_true rfl)
  rw [lg_entry_eq]
  generalize (lg_sl ([.ref (ga g 6 0), .int a2, .int a3, .int a4]) ++ List.replicate (5 - (lg_sl ([.ref (ga g 6 0), .int a2, .int a3, .int a4])).length) Slot.unset).toArray = ls at hl ⊢
  have hl : lv_has ls 5 [(0, .ref (ga g 6 0)), (1, .int a2), (2, .int a3), (3, .int a4)] := hl
  exact w_J7_fill_fda19_6 C G a2 a3 a4 x _ _ ls  h hI va_S.rf hl
theorem ms_J7_fill_fda19 : mtS yJ7_fill_fda19 RJ7 cJ7_fill_fda19 5 none 4 := ⟨ks_J7_fill_fda19, kI_J7, kc_J7_fill_fda19, by decide +kernel⟩

/-! Jx4a65c_size_8abf5@21 -/
def f_Jx4a65c_size_8abf5_21 (i0 : Nat) (x : st) : Option (Int32 × st) := some ((x 21 i0 2), x)
set_option maxHeartbeats 4000000 in
set_option maxRecDepth 100000 in
theorem w_Jx4a65c_size_8abf5_21 {p : Program} {l : Launch} {e : Env} {s : State} {m : MethodId} {args : Array Value} {below : List Frame} {meth : Method} {c : Code} {g : gT} {r : Int32} {x' : st} (C : cxt p s m meth c args cJx4a65c_size_8abf5 1 RJx4a65c (some .int)) (G : gst g s) (i0 : Nat) (x : st) (H : Heap) (locs : List Loc) (ls : Array Slot) (h_i0 : i0 < 8) (h : f_Jx4a65c_size_8abf5_21 i0 x = some (r, x')) (hI : wst g x H) (hS : va_S (zA (gz g)) s.heap H locs) (hl : lv_has ls 1 [(0, .ref (ga g 21 i0))]) : W p l e (rmC 0 0) s m args below meth c H locs 0 0 (MQ below (Qx g (some (.int r)) x') args s 0 0 (zA (gz g))) (F0 m 0 ls []) := by
  obtain ⟨hx, hb, hml, hown, hts, hlk, hrt⟩ := id C
  unfold f_Jx4a65c_size_8abf5_21 at h
  refine lv_aload_n hx hb dJx4a65c_size_8abf5_0 rfl (lv_at hl 0 rfl) ?_
  refine w_get C G hI 21 i0 (hI.at8 rfl h_i0) (fcE_21 g _ _) rfl in_Jx4a65c 2 (by decide) kf_Jx4a65c_48 (fun _ h => h) (v := .int (x 21 i0 2)) rfl dJx4a65c_size_8abf5_1 ?_
  cases h
  exact w_ireti C hI hS dJx4a65c_size_8abf5_4
theorem k_Jx4a65c_size_8abf5_21 (l : Launch) (g : gT) (i0 : Nat) (x : st) (r : Int32) (x' : st) (h_i0 : i0 < 8) (h : f_Jx4a65c_size_8abf5_21 i0 x = some (r, x')) : Kt l yJx4a65c_size_8abf5 cJx4a65c_size_8abf5 1 (some .int) 0 0 g [.ref (ga g 21 i0)] x (some (.int r)) x' := by
  refine Kt.of (by decide) (fun p e s m below meth c C G hI => ?_)
  have hl := lv_entry ([.ref (ga g 21 i0)]) (n := 1) (Nat.le_of_ble_eq_true rfl)
  rw [lg_entry_eq]
  generalize (lg_sl ([.ref (ga g 21 i0)]) ++ List.replicate (1 - (lg_sl ([.ref (ga g 21 i0)])).length) Slot.unset).toArray = ls at hl ⊢
  have hl : lv_has ls 1 [(0, .ref (ga g 21 i0))] := hl
  exact w_Jx4a65c_size_8abf5_21 C G i0 x _ _ ls h_i0 h hI va_S.rf hl
theorem mv_Jx4a65c_size_8abf5 : mtV yJx4a65c_size_8abf5 RJx4a65c cJx4a65c_size_8abf5 1 (some .int) 0 := ⟨ki_Jx4a65c_size_8abf5, kl_Jx4a65c_size_8abf5, kI_Jx4a65c, kc_Jx4a65c_size_8abf5, by decide +kernel⟩

/-! Jx4a65c_size_8abf5@22 -/
def f_Jx4a65c_size_8abf5_22 (i0 : Nat) (x : st) : Option (Int32 × st) := some ((x 22 i0 2), x)
set_option maxHeartbeats 4000000 in
set_option maxRecDepth 100000 in
theorem w_Jx4a65c_size_8abf5_22 {p : Program} {l : Launch} {e : Env} {s : State} {m : MethodId} {args : Array Value} {below : List Frame} {meth : Method} {c : Code} {g : gT} {r : Int32} {x' : st} (C : cxt p s m meth c args cJx4a65c_size_8abf5 1 RJx4a65c (some .int)) (G : gst g s) (i0 : Nat) (x : st) (H : Heap) (locs : List Loc) (ls : Array Slot) (h_i0 : i0 < 8) (h : f_Jx4a65c_size_8abf5_22 i0 x = some (r, x')) (hI : wst g x H) (hS : va_S (zA (gz g)) s.heap H locs) (hl : lv_has ls 1 [(0, .ref (ga g 22 i0))]) : W p l e (rmC 0 0) s m args below meth c H locs 0 0 (MQ below (Qx g (some (.int r)) x') args s 0 0 (zA (gz g))) (F0 m 0 ls []) := by
  obtain ⟨hx, hb, hml, hown, hts, hlk, hrt⟩ := id C
  unfold f_Jx4a65c_size_8abf5_22 at h
  refine lv_aload_n hx hb dJx4a65c_size_8abf5_0 rfl (lv_at hl 0 rfl) ?_
  refine w_get C G hI 22 i0 (hI.at8 rfl h_i0) (fcE_22 g _ _) rfl in_Jx4a65c 2 (by decide) kf_Jx4a65c_48 (fun _ h => h) (v := .int (x 22 i0 2)) rfl dJx4a65c_size_8abf5_1 ?_
  cases h
  exact w_ireti C hI hS dJx4a65c_size_8abf5_4
theorem k_Jx4a65c_size_8abf5_22 (l : Launch) (g : gT) (i0 : Nat) (x : st) (r : Int32) (x' : st) (h_i0 : i0 < 8) (h : f_Jx4a65c_size_8abf5_22 i0 x = some (r, x')) : Kt l yJx4a65c_size_8abf5 cJx4a65c_size_8abf5 1 (some .int) 0 0 g [.ref (ga g 22 i0)] x (some (.int r)) x' := by
  refine Kt.of (by decide) (fun p e s m below meth c C G hI => ?_)
  have hl := lv_entry ([.ref (ga g 22 i0)]) (n := 1) (Nat.le_of_ble_eq_true rfl)
  rw [lg_entry_eq]
  generalize (lg_sl ([.ref (ga g 22 i0)]) ++ List.replicate (1 - (lg_sl ([.ref (ga g 22 i0)])).length) Slot.unset).toArray = ls at hl ⊢
  have hl : lv_has ls 1 [(0, .ref (ga g 22 i0))] := hl
  exact w_Jx4a65c_size_8abf5_22 C G i0 x _ _ ls h_i0 h hI va_S.rf hl


/-! Jx4a65c_size_8abf5@23 -/
def f_Jx4a65c_size_8abf5_23 (i0 : Nat) (x : st) : Option (Int32 × st) := some ((x 23 i0 2), x)
set_option maxHeartbeats 4000000 in
set_option maxRecDepth 100000 in
theorem w_Jx4a65c_size_8abf5_23 {p : Program} {l : Launch} {e : Env} {s : State} {m : MethodId} {args : Array Value} {below : List Frame} {meth : Method} {c : Code} {g : gT} {r : Int32} {x' : st} (C : cxt p s m meth c args cJx4a65c_size_8abf5 1 RJx4a65c (some .int)) (G : gst g s) (i0 : Nat) (x : st) (H : Heap) (locs : List Loc) (ls : Array Slot) (h_i0 : i0 < 8) (h : f_Jx4a65c_size_8abf5_23 i0 x = some (r, x')) (hI : wst g x H) (hS : va_S (zA (gz g)) s.heap H locs) (hl : lv_has ls 1 [(0, .ref (ga g 23 i0))]) : W p l e (rmC 0 0) s m args below meth c H locs 0 0 (MQ below (Qx g (some (.int r)) x') args s 0 0 (zA (gz g))) (F0 m 0 ls []) := by
  obtain ⟨hx, hb, hml, hown, hts, hlk, hrt⟩ := id C
  unfold f_Jx4a65c_size_8abf5_23 at h
  refine lv_aload_n hx hb dJx4a65c_size_8abf5_0 rfl (lv_at hl 0 rfl) ?_
  refine w_get C G hI 23 i0 (hI.at8 rfl h_i0) (fcE_23 g _ _) rfl in_Jx4a65c 2 (by decide) kf_Jx4a65c_48 (fun _ h => h) (v := .int (x 23 i0 2)) rfl dJx4a65c_size_8abf5_1 ?_
  cases h
  exact w_ireti C hI hS dJx4a65c_size_8abf5_4
theorem k_Jx4a65c_size_8abf5_23 (l : Launch) (g : gT) (i0 : Nat) (x : st) (r : Int32) (x' : st) (h_i0 : i0 < 8) (h : f_Jx4a65c_size_8abf5_23 i0 x = some (r, x')) : Kt l yJx4a65c_size_8abf5 cJx4a65c_size_8abf5 1 (some .int) 0 0 g [.ref (ga g 23 i0)] x (some (.int r)) x' := by
  refine Kt.of (by decide) (fun p e s m below meth c C G hI => ?_)
  have hl := lv_entry ([.ref (ga g 23 i0)]) (n := 1) (Nat.le_of_ble_eq_true rfl)
  rw [lg_entry_eq]
  generalize (lg_sl ([.ref (ga g 23 i0)]) ++ List.replicate (1 - (lg_sl ([.ref (ga g 23 i0)])).length) Slot.unset).toArray = ls at hl ⊢
  have hl : lv_has ls 1 [(0, .ref (ga g 23 i0))] := hl
  exact w_Jx4a65c_size_8abf5_23 C G i0 x _ _ ls h_i0 h hI va_S.rf hl


/-! Jx4a65c_elementData_915e3@21 -/
def f_Jx4a65c_elementData_915e3_21 (i0 : Nat) (a1 : Int32) (x : st) : Option (Nat × st) := if inb a1 (x 24 i0 0).toNatClampNeg = true then some ((48 * i0 + a1.toNatClampNeg), x) else none
set_option maxHeartbeats 4000000 in
set_option maxRecDepth 100000 in
theorem w_Jx4a65c_elementData_915e3_21 {p : Program} {l : Launch} {e : Env} {s : State} {m : MethodId} {args : Array Value} {below : List Frame} {meth : Method} {c : Code} {g : gT} {r : Nat} {x' : st} (C : cxt p s m meth c args cJx4a65c_elementData_915e3 2 RJx4a65c (some (.object "java/lang/Object"))) (G : gst g s) (i0 : Nat) (a1 : Int32) (x : st) (H : Heap) (locs : List Loc) (ls : Array Slot) (h_i0 : i0 < 8) (h : f_Jx4a65c_elementData_915e3_21 i0 a1 x = some (r, x')) (hI : wst g x H) (hS : va_S (zA (gz g)) s.heap H locs) (hl : lv_has ls 2 [(0, .ref (ga g 21 i0)), (1, .int a1)]) : W p l e (rmC 0 0) s m args below meth c H locs 0 0 (MQ below (Qx g (some (.ref (ga g 18 r))) x') args s 0 0 (zA (gz g))) (F0 m 0 ls []) := by
  obtain ⟨hx, hb, hml, hown, hts, hlk, hrt⟩ := id C
  unfold f_Jx4a65c_elementData_915e3_21 at h
  refine lv_aload_n hx hb dJx4a65c_elementData_915e3_0 rfl (lv_at hl 0 rfl) ?_
  refine w_get C G hI 21 i0 (hI.at8 rfl h_i0) (fcE_21 g _ _) rfl in_Jx4a65c 1 (by decide) kf_Jx4a65c_9 (fun _ h => h) (v := .ref (ga g 24 i0)) rfl dJx4a65c_elementData_915e3_1 ?_
  refine lv_iload_n hx hb dJx4a65c_elementData_915e3_4 rfl (lv_at hl 1 rfl) ?_
  obtain ⟨hn1, h⟩ := need_t h
  refine w_aaldL C G hI 24 i0 18 48 (fcA_24 g _) hn1 (hI.2.2.2.1 _ _ h_i0 (inb_lt hn1)) dJx4a65c_elementData_915e3_5 ?_
  cases h
  exact w_aret C hI hS dJx4a65c_elementData_915e3_6
theorem k_Jx4a65c_elementData_915e3_21 (l : Launch) (g : gT) (i0 : Nat) (a1 : Int32) (x : st) (r : Nat) (x' : st) (h_i0 : i0 < 8) (h : f_Jx4a65c_elementData_915e3_21 i0 a1 x = some (r, x')) : Kt l yJx4a65c_elementData_915e3 cJx4a65c_elementData_915e3 2 (some (.object "java/lang/Object")) 0 0 g [.ref (ga g 21 i0), .int a1] x (some (.ref (ga g 18 r))) x' := by
  refine Kt.of (by decide) (fun p e s m below meth c C G hI => ?_)
  have hl := lv_entry ([.ref (ga g 21 i0), .int a1]) (n := 2) (Nat.le_of_ble_eq_true rfl)
  rw [lg_entry_eq]
  generalize (lg_sl ([.ref (ga g 21 i0), .int a1]) ++ List.replicate (2 - (lg_sl ([.ref (ga g 21 i0), .int a1])).length) Slot.unset).toArray = ls at hl ⊢
  have hl : lv_has ls 2 [(0, .ref (ga g 21 i0)), (1, .int a1)] := hl
  exact w_Jx4a65c_elementData_915e3_21 C G i0 a1 x _ _ ls h_i0 h hI va_S.rf hl
theorem mv_Jx4a65c_elementData_915e3 : mtV yJx4a65c_elementData_915e3 RJx4a65c cJx4a65c_elementData_915e3 2 (some (.object "java/lang/Object")) 1 := ⟨ki_Jx4a65c_elementData_915e3, kl_Jx4a65c_elementData_915e3, kI_Jx4a65c, kc_Jx4a65c_elementData_915e3, by decide +kernel⟩

/-! Jx4a65c_elementData_915e3@22 -/
def f_Jx4a65c_elementData_915e3_22 (i0 : Nat) (a1 : Int32) (x : st) : Option (Nat × st) := if inb a1 (x 25 i0 0).toNatClampNeg = true then some ((6 * i0 + a1.toNatClampNeg), x) else none
set_option maxHeartbeats 4000000 in
set_option maxRecDepth 100000 in
theorem w_Jx4a65c_elementData_915e3_22 {p : Program} {l : Launch} {e : Env} {s : State} {m : MethodId} {args : Array Value} {below : List Frame} {meth : Method} {c : Code} {g : gT} {r : Nat} {x' : st} (C : cxt p s m meth c args cJx4a65c_elementData_915e3 2 RJx4a65c (some (.object "java/lang/Object"))) (G : gst g s) (i0 : Nat) (a1 : Int32) (x : st) (H : Heap) (locs : List Loc) (ls : Array Slot) (h_i0 : i0 < 8) (h : f_Jx4a65c_elementData_915e3_22 i0 a1 x = some (r, x')) (hI : wst g x H) (hS : va_S (zA (gz g)) s.heap H locs) (hl : lv_has ls 2 [(0, .ref (ga g 22 i0)), (1, .int a1)]) : W p l e (rmC 0 0) s m args below meth c H locs 0 0 (MQ below (Qx g (some (.ref (ga g 19 r))) x') args s 0 0 (zA (gz g))) (F0 m 0 ls []) := by
  obtain ⟨hx, hb, hml, hown, hts, hlk, hrt⟩ := id C
  unfold f_Jx4a65c_elementData_915e3_22 at h
  refine lv_aload_n hx hb dJx4a65c_elementData_915e3_0 rfl (lv_at hl 0 rfl) ?_
  refine w_get C G hI 22 i0 (hI.at8 rfl h_i0) (fcE_22 g _ _) rfl in_Jx4a65c 1 (by decide) kf_Jx4a65c_9 (fun _ h => h) (v := .ref (ga g 25 i0)) rfl dJx4a65c_elementData_915e3_1 ?_
  refine lv_iload_n hx hb dJx4a65c_elementData_915e3_4 rfl (lv_at hl 1 rfl) ?_
  obtain ⟨hn1, h⟩ := need_t h
  refine w_aaldL C G hI 25 i0 19 6 (fcA_25 g _) hn1 (hI.2.2.2.2.1 _ _ h_i0 (inb_lt hn1)) dJx4a65c_elementData_915e3_5 ?_
  cases h
  exact w_aret C hI hS dJx4a65c_elementData_915e3_6
theorem k_Jx4a65c_elementData_915e3_22 (l : Launch) (g : gT) (i0 : Nat) (a1 : Int32) (x : st) (r : Nat) (x' : st) (h_i0 : i0 < 8) (h : f_Jx4a65c_elementData_915e3_22 i0 a1 x = some (r, x')) : Kt l yJx4a65c_elementData_915e3 cJx4a65c_elementData_915e3 2 (some (.object "java/lang/Object")) 0 0 g [.ref (ga g 22 i0), .int a1] x (some (.ref (ga g 19 r))) x' := by
  refine Kt.of (by decide) (fun p e s m below meth c C G hI => ?_)
  have hl := lv_entry ([.ref (ga g 22 i0), .int a1]) (n := 2) (Nat.le_of_ble_eq_true rfl)
  rw [lg_entry_eq]
  generalize (lg_sl ([.ref (ga g 22 i0), .int a1]) ++ List.replicate (2 - (lg_sl ([.ref (ga g 22 i0), .int a1])).length) Slot.unset).toArray = ls at hl ⊢
  have hl : lv_has ls 2 [(0, .ref (ga g 22 i0)), (1, .int a1)] := hl
  exact w_Jx4a65c_elementData_915e3_22 C G i0 a1 x _ _ ls h_i0 h hI va_S.rf hl


/-! Jx4a65c_elementData_915e3@23 -/
def f_Jx4a65c_elementData_915e3_23 (i0 : Nat) (a1 : Int32) (x : st) : Option (Nat × st) := if inb a1 (x 26 i0 0).toNatClampNeg = true then some ((6 * i0 + a1.toNatClampNeg), x) else none
set_option maxHeartbeats 4000000 in
set_option maxRecDepth 100000 in
theorem w_Jx4a65c_elementData_915e3_23 {p : Program} {l : Launch} {e : Env} {s : State} {m : MethodId} {args : Array Value} {below : List Frame} {meth : Method} {c : Code} {g : gT} {r : Nat} {x' : st} (C : cxt p s m meth c args cJx4a65c_elementData_915e3 2 RJx4a65c (some (.object "java/lang/Object"))) (G : gst g s) (i0 : Nat) (a1 : Int32) (x : st) (H : Heap) (locs : List Loc) (ls : Array Slot) (h_i0 : i0 < 8) (h : f_Jx4a65c_elementData_915e3_23 i0 a1 x = some (r, x')) (hI : wst g x H) (hS : va_S (zA (gz g)) s.heap H locs) (hl : lv_has ls 2 [(0, .ref (ga g 23 i0)), (1, .int a1)]) : W p l e (rmC 0 0) s m args below meth c H locs 0 0 (MQ below (Qx g (some (.ref (ga g 20 r))) x') args s 0 0 (zA (gz g))) (F0 m 0 ls []) := by
  obtain ⟨hx, hb, hml, hown, hts, hlk, hrt⟩ := id C
  unfold f_Jx4a65c_elementData_915e3_23 at h
  refine lv_aload_n hx hb dJx4a65c_elementData_915e3_0 rfl (lv_at hl 0 rfl) ?_
  refine w_get C G hI 23 i0 (hI.at8 rfl h_i0) (fcE_23 g _ _) rfl in_Jx4a65c 1 (by decide) kf_Jx4a65c_9 (fun _ h => h) (v := .ref (ga g 26 i0)) rfl dJx4a65c_elementData_915e3_1 ?_
  refine lv_iload_n hx hb dJx4a65c_elementData_915e3_4 rfl (lv_at hl 1 rfl) ?_
  obtain ⟨hn1, h⟩ := need_t h
  refine w_aaldL C G hI 26 i0 20 6 (fcA_26 g _) hn1 (hI.2.2.2.2.2 _ _ h_i0 (inb_lt hn1)) dJx4a65c_elementData_915e3_5 ?_
  cases h
  exact w_aret C hI hS dJx4a65c_elementData_915e3_6
theorem k_Jx4a65c_elementData_915e3_23 (l : Launch) (g : gT) (i0 : Nat) (a1 : Int32) (x : st) (r : Nat) (x' : st) (h_i0 : i0 < 8) (h : f_Jx4a65c_elementData_915e3_23 i0 a1 x = some (r, x')) : Kt l yJx4a65c_elementData_915e3 cJx4a65c_elementData_915e3 2 (some (.object "java/lang/Object")) 0 0 g [.ref (ga g 23 i0), .int a1] x (some (.ref (ga g 20 r))) x' := by
  refine Kt.of (by decide) (fun p e s m below meth c C G hI => ?_)
  have hl := lv_entry ([.ref (ga g 23 i0), .int a1]) (n := 2) (Nat.le_of_ble_eq_true rfl)
  rw [lg_entry_eq]
  generalize (lg_sl ([.ref (ga g 23 i0), .int a1]) ++ List.replicate (2 - (lg_sl ([.ref (ga g 23 i0), .int a1])).length) Slot.unset).toArray = ls at hl ⊢
  have hl : lv_has ls 2 [(0, .ref (ga g 23 i0)), (1, .int a1)] := hl
  exact w_Jx4a65c_elementData_915e3_23 C G i0 a1 x _ _ ls h_i0 h hI va_S.rf hl


/-! Jx4a65c_get_915e3@21 -/
def f_Jx4a65c_get_915e3_21 (i0 : Nat) (a1 : Int32) (x : st) : Option (Nat × st) := bnd (f_J15_checkIndex_7cf53 a1 (x 21 i0 2) x) fun r2 x1 => bnd (f_Jx4a65c_elementData_915e3_21 i0 a1 x1) fun r5 x4 => some (r5, x4)
set_option maxHeartbeats 4000000 in
set_option maxRecDepth 100000 in
theorem w_Jx4a65c_get_915e3_21 {p : Program} {l : Launch} {e : Env} {s : State} {m : MethodId} {args : Array Value} {below : List Frame} {meth : Method} {c : Code} {g : gT} {r : Nat} {x' : st} (C : cxt p s m meth c args cJx4a65c_get_915e3 2 RJx4a65c (some (.object "java/lang/Object"))) (G : gst g s) (i0 : Nat) (a1 : Int32) (x : st) (H : Heap) (locs : List Loc) (ls : Array Slot) (h_i0 : i0 < 8) (h : f_Jx4a65c_get_915e3_21 i0 a1 x = some (r, x')) (hI : wst g x H) (hS : va_S (zA (gz g)) s.heap H locs) (hl : lv_has ls 2 [(0, .ref (ga g 21 i0)), (1, .int a1)]) : W p l e (rmC 2 43) s m args below meth c H locs 0 0 (MQ below (Qx g (some (.ref (ga g 18 r))) x') args s 0 0 (zA (gz g))) (F0 m 0 ls []) := by
  obtain ⟨hx, hb, hml, hown, hts, hlk, hrt⟩ := id C
  unfold f_Jx4a65c_get_915e3_21 at h
  refine lv_iload_n hx hb dJx4a65c_get_915e3_0 rfl (lv_at hl 1 rfl) ?_
  refine lv_aload_n hx hb dJx4a65c_get_915e3_1 rfl (lv_at hl 0 rfl) ?_
  refine w_get C G hI 21 i0 (hI.at8 rfl h_i0) (fcE_21 g _ _) rfl in_Jx4a65c 2 (by decide) kf_Jx4a65c_48 (fun _ h => h) (v := .int (x 21 i0 2)) rfl dJx4a65c_get_915e3_2 ?_
  obtain ⟨r2, x1, hq3, h⟩ := bnd_some h
  refine w_callS (fr := 1) (lo := 22) C G hI hS ms_J15_checkIndex_7cf53 km_Jx4a65c_118 [.int a1, .int (x 21 i0 2)] (k_J15_checkIndex_7cf53 l g a1 (x 21 i0 2) x _ _  hq3) rfl (by first | exact ⟨by decide, by decide⟩ | exact ⟨by show _ ≤ _ + _; omega, by show _ ≤ _ + _; omega⟩) ⟨Nat.zero_le _, Nat.zero_le _⟩ hl.1 rfl (Nat.le_of_ble_eq_true rfl) dJx4a65c_get_915e3_5 (fun H locs hI hS => ?_)
  refine lv_pop hx hb dJx4a65c_get_915e3_8 rfl ?_
  refine lv_aload_n hx hb dJx4a65c_get_915e3_9 rfl (lv_at hl 0 rfl) ?_
  refine lv_iload_n hx hb dJx4a65c_get_915e3_10 rfl (lv_at hl 1 rfl) ?_
  obtain ⟨r5, x4, hq6, h⟩ := bnd_some h
  refine w_callV (fr := 0) (lo := 0) C G hI hS 21 i0 (hI.at8 rfl h_i0) (fcE_21 g _ _) rfl mv_Jx4a65c_elementData_915e3 km_Jx4a65c_123 [.int a1] (k_Jx4a65c_elementData_915e3_21 l g i0 a1 x1 _ _ h_i0 hq6) rfl (by first | exact ⟨by decide, by decide⟩ | exact ⟨by show _ ≤ _ + _; omega, by show _ ≤ _ + _; omega⟩) ⟨Nat.zero_le _, Nat.zero_le _⟩ hl.1 rfl (Nat.le_of_ble_eq_true rfl) dJx4a65c_get_915e3_11 (fun H locs hI hS => ?_)
  cases h
  exact w_aret C hI hS dJx4a65c_get_915e3_14
theorem k_Jx4a65c_get_915e3_21 (l : Launch) (g : gT) (i0 : Nat) (a1 : Int32) (x : st) (r : Nat) (x' : st) (h_i0 : i0 < 8) (h : f_Jx4a65c_get_915e3_21 i0 a1 x = some (r, x')) : Kt l yJx4a65c_get_915e3 cJx4a65c_get_915e3 2 (some (.object "java/lang/Object")) 2 43 g [.ref (ga g 21 i0), .int a1] x (some (.ref (ga g 18 r))) x' := by
  refine Kt.of (by decide) (fun p e s m below meth c C G hI => ?_)
  have hl := lv_entry ([.ref (ga g 21 i0), .int a1]) (n := 2) (Nat.le_of_ble_eq_true rfl)
  rw [lg_entry_eq]
  generalize (lg_sl ([.ref (ga g 21 i0), .int a1]) ++ List.replicate (2 - (lg_sl ([.ref (ga g 21 i0), .int a1])).length) Slot.unset).toArray = ls at hl ⊢
  have hl : lv_has ls 2 [(0, .ref (ga g 21 i0)), (1, .int a1)] := hl
  exact w_Jx4a65c_get_915e3_21 C G i0 a1 x _ _ ls h_i0 h hI va_S.rf hl
theorem mv_Jx4a65c_get_915e3 : mtV yJx4a65c_get_915e3 RJx4a65c cJx4a65c_get_915e3 2 (some (.object "java/lang/Object")) 1 := ⟨ki_Jx4a65c_get_915e3, kl_Jx4a65c_get_915e3, kI_Jx4a65c, kc_Jx4a65c_get_915e3, by decide +kernel⟩

/-! Jx4a65c_get_915e3@22 -/
def f_Jx4a65c_get_915e3_22 (i0 : Nat) (a1 : Int32) (x : st) : Option (Nat × st) := bnd (f_J15_checkIndex_7cf53 a1 (x 22 i0 2) x) fun r2 x1 => bnd (f_Jx4a65c_elementData_915e3_22 i0 a1 x1) fun r5 x4 => some (r5, x4)
set_option maxHeartbeats 4000000 in
set_option maxRecDepth 100000 in
theorem w_Jx4a65c_get_915e3_22 {p : Program} {l : Launch} {e : Env} {s : State} {m : MethodId} {args : Array Value} {below : List Frame} {meth : Method} {c : Code} {g : gT} {r : Nat} {x' : st} (C : cxt p s m meth c args cJx4a65c_get_915e3 2 RJx4a65c (some (.object "java/lang/Object"))) (G : gst g s) (i0 : Nat) (a1 : Int32) (x : st) (H : Heap) (locs : List Loc) (ls : Array Slot) (h_i0 : i0 < 8) (h : f_Jx4a65c_get_915e3_22 i0 a1 x = some (r, x')) (hI : wst g x H) (hS : va_S (zA (gz g)) s.heap H locs) (hl : lv_has ls 2 [(0, .ref (ga g 22 i0)), (1, .int a1)]) : W p l e (rmC 2 43) s m args below meth c H locs 0 0 (MQ below (Qx g (some (.ref (ga g 19 r))) x') args s 0 0 (zA (gz g))) (F0 m 0 ls []) := by
  obtain ⟨hx, hb, hml, hown, hts, hlk, hrt⟩ := id C
  unfold f_Jx4a65c_get_915e3_22 at h
  refine lv_iload_n hx hb dJx4a65c_get_915e3_0 rfl (lv_at hl 1 rfl) ?_
  refine lv_aload_n hx hb dJx4a65c_get_915e3_1 rfl (lv_at hl 0 rfl) ?_
  refine w_get C G hI 22 i0 (hI.at8 rfl h_i0) (fcE_22 g _ _) rfl in_Jx4a65c 2 (by decide) kf_Jx4a65c_48 (fun _ h => h) (v := .int (x 22 i0 2)) rfl dJx4a65c_get_915e3_2 ?_
  obtain ⟨r2, x1, hq3, h⟩ := bnd_some h
  refine w_callS (fr := 1) (lo := 22) C G hI hS ms_J15_checkIndex_7cf53 km_Jx4a65c_118 [.int a1, .int (x 22 i0 2)] (k_J15_checkIndex_7cf53 l g a1 (x 22 i0 2) x _ _  hq3) rfl (by first | exact ⟨by decide, by decide⟩ | exact ⟨by show _ ≤ _ + _; omega, by show _ ≤ _ + _; omega⟩) ⟨Nat.zero_le _, Nat.zero_le _⟩ hl.1 rfl (Nat.le_of_ble_eq_true rfl) dJx4a65c_get_915e3_5 (fun H locs hI hS => ?_)
  refine lv_pop hx hb dJx4a65c_get_915e3_8 rfl ?_
  refine lv_aload_n hx hb dJx4a65c_get_915e3_9 rfl (lv_at hl 0 rfl) ?_
  refine lv_iload_n hx hb dJx4a65c_get_915e3_10 rfl (lv_at hl 1 rfl) ?_
  obtain ⟨r5, x4, hq6, h⟩ := bnd_some h
  refine w_callV (fr := 0) (lo := 0) C G hI hS 22 i0 (hI.at8 rfl h_i0) (fcE_22 g _ _) rfl mv_Jx4a65c_elementData_915e3 km_Jx4a65c_123 [.int a1] (k_Jx4a65c_elementData_915e3_22 l g i0 a1 x1 _ _ h_i0 hq6) rfl (by first | exact ⟨by decide, by decide⟩ | exact ⟨by show _ ≤ _ + _; omega, by show _ ≤ _ + _; omega⟩) ⟨Nat.zero_le _, Nat.zero_le _⟩ hl.1 rfl (Nat.le_of_ble_eq_true rfl) dJx4a65c_get_915e3_11 (fun H locs hI hS => ?_)
  cases h
  exact w_aret C hI hS dJx4a65c_get_915e3_14
theorem k_Jx4a65c_get_915e3_22 (l : Launch) (g : gT) (i0 : Nat) (a1 : Int32) (x : st) (r : Nat) (x' : st) (h_i0 : i0 < 8) (h : f_Jx4a65c_get_915e3_22 i0 a1 x = some (r, x')) : Kt l yJx4a65c_get_915e3 cJx4a65c_get_915e3 2 (some (.object "java/lang/Object")) 2 43 g [.ref (ga g 22 i0), .int a1] x (some (.ref (ga g 19 r))) x' := by
  refine Kt.of (by decide) (fun p e s m below meth c C G hI => ?_)
  have hl := lv_entry ([.ref (ga g 22 i0), .int a1]) (n := 2) (Nat.le_of_ble_eq_true rfl)
  rw [lg_entry_eq]
  generalize (lg_sl ([.ref (ga g 22 i0), .int a1]) ++ List.replicate (2 - (lg_sl ([.ref (ga g 22 i0), .int a1])).length) Slot.unset).toArray = ls at hl ⊢
  have hl : lv_has ls 2 [(0, .ref (ga g 22 i0)), (1, .int a1)] := hl
  exact w_Jx4a65c_get_915e3_22 C G i0 a1 x _ _ ls h_i0 h hI va_S.rf hl


/-! Jx4a65c_get_915e3@23 -/
def f_Jx4a65c_get_915e3_23 (i0 : Nat) (a1 : Int32) (x : st) : Option (Nat × st) := bnd (f_J15_checkIndex_7cf53 a1 (x 23 i0 2) x) fun r2 x1 => bnd (f_Jx4a65c_elementData_915e3_23 i0 a1 x1) fun r5 x4 => some (r5, x4)
set_option maxHeartbeats 4000000 in
set_option maxRecDepth 100000 in
theorem w_Jx4a65c_get_915e3_23 {p : Program} {l : Launch} {e : Env} {s : State} {m : MethodId} {args : Array Value} {below : List Frame} {meth : Method} {c : Code} {g : gT} {r : Nat} {x' : st} (C : cxt p s m meth c args cJx4a65c_get_915e3 2 RJx4a65c (some (.object "java/lang/Object"))) (G : gst g s) (i0 : Nat) (a1 : Int32) (x : st) (H : Heap) (locs : List Loc) (ls : Array Slot) (h_i0 : i0 < 8) (h : f_Jx4a65c_get_915e3_23 i0 a1 x = some (r, x')) (hI : wst g x H) (hS : va_S (zA (gz g)) s.heap H locs) (hl : lv_has ls 2 [(0, .ref (ga g 23 i0)), (1, .int a1)]) : W p l e (rmC 2 43) s m args below meth c H locs 0 0 (MQ below (Qx g (some (.ref (ga g 20 r))) x') args s 0 0 (zA (gz g))) (F0 m 0 ls []) := by
  obtain ⟨hx, hb, hml, hown, hts, hlk, hrt⟩ := id C
  unfold f_Jx4a65c_get_915e3_23 at h
  refine lv_iload_n hx hb dJx4a65c_get_915e3_0 rfl (lv_at hl 1 rfl) ?_
  refine lv_aload_n hx hb dJx4a65c_get_915e3_1 rfl (lv_at hl 0 rfl) ?_
  refine w_get C G hI 23 i0 (hI.at8 rfl h_i0) (fcE_23 g _ _) rfl in_Jx4a65c 2 (by decide) kf_Jx4a65c_48 (fun _ h => h) (v := .int (x 23 i0 2)) rfl dJx4a65c_get_915e3_2 ?_
  obtain ⟨r2, x1, hq3, h⟩ := bnd_some h
  refine w_callS (fr := 1) (lo := 22) C G hI hS ms_J15_checkIndex_7cf53 km_Jx4a65c_118 [.int a1, .int (x 23 i0 2)] (k_J15_checkIndex_7cf53 l g a1 (x 23 i0 2) x _ _  hq3) rfl (by first | exact ⟨by decide, by decide⟩ | exact ⟨by show _ ≤ _ + _; omega, by show _ ≤ _ + _; omega⟩) ⟨Nat.zero_le _, Nat.zero_le _⟩ hl.1 rfl (Nat.le_of_ble_eq_true rfl) dJx4a65c_get_915e3_5 (fun H locs hI hS => ?_)
  refine lv_pop hx hb dJx4a65c_get_915e3_8 rfl ?_
  refine lv_aload_n hx hb dJx4a65c_get_915e3_9 rfl (lv_at hl 0 rfl) ?_
  refine lv_iload_n hx hb dJx4a65c_get_915e3_10 rfl (lv_at hl 1 rfl) ?_
  obtain ⟨r5, x4, hq6, h⟩ := bnd_some h
  refine w_callV (fr := 0) (lo := 0) C G hI hS 23 i0 (hI.at8 rfl h_i0) (fcE_23 g _ _) rfl mv_Jx4a65c_elementData_915e3 km_Jx4a65c_123 [.int a1] (k_Jx4a65c_elementData_915e3_23 l g i0 a1 x1 _ _ h_i0 hq6) rfl (by first | exact ⟨by decide, by decide⟩ | exact ⟨by show _ ≤ _ + _; omega, by show _ ≤ _ + _; omega⟩) ⟨Nat.zero_le _, Nat.zero_le _⟩ hl.1 rfl (Nat.le_of_ble_eq_true rfl) dJx4a65c_get_915e3_11 (fun H locs hI hS => ?_)
  cases h
  exact w_aret C hI hS dJx4a65c_get_915e3_14
theorem k_Jx4a65c_get_915e3_23 (l : Launch) (g : gT) (i0 : Nat) (a1 : Int32) (x : st) (r : Nat) (x' : st) (h_i0 : i0 < 8) (h : f_Jx4a65c_get_915e3_23 i0 a1 x = some (r, x')) : Kt l yJx4a65c_get_915e3 cJx4a65c_get_915e3 2 (some (.object "java/lang/Object")) 2 43 g [.ref (ga g 23 i0), .int a1] x (some (.ref (ga g 20 r))) x' := by
  refine Kt.of (by decide) (fun p e s m below meth c C G hI => ?_)
  have hl := lv_entry ([.ref (ga g 23 i0), .int a1]) (n := 2) (Nat.le_of_ble_eq_true rfl)
  rw [lg_entry_eq]
  generalize (lg_sl ([.ref (ga g 23 i0), .int a1]) ++ List.replicate (2 - (lg_sl ([.ref (ga g 23 i0), .int a1])).length) Slot.unset).toArray = ls at hl ⊢
  have hl : lv_has ls 2 [(0, .ref (ga g 23 i0)), (1, .int a1)] := hl
  exact w_Jx4a65c_get_915e3_23 C G i0 a1 x _ _ ls h_i0 h hI va_S.rf hl

