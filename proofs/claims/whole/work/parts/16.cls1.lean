/-! X10_within -/
def f_X10_within_b13  (x : st) : Option (Int32 × st) := some (0, x)
set_option maxHeartbeats 4000000 in
set_option maxRecDepth 100000 in
theorem w_X10_within_b13 {p : Program} {l : Launch} {e : Env} {s : State} {m : MethodId} {args : Array Value} {below : List Frame} {meth : Method} {c : Code} {g : gT} {r : Int32} {x' : st} (C : cxt p s m meth c args cX10_within 2 RX10 (some .boolean)) (G : gst g s)  (x : st) (H : Heap) (locs : List Loc) (ls : Array Slot)  (h : f_X10_within_b13  x = some (r, x')) (hI : wst g x H) (hS : va_S (zA (gz g)) s.heap H locs) (hl : lv_has ls 2 []) : W p l e (rmC 0 0) s m args below meth c H locs 0 0 (MQ below (Qx g (some (.int r)) x') args s 0 0 (zA (gz g))) (F0 m 13 ls []) := by
  obtain ⟨hx, hb, hml, hown, hts, hlk, hrt⟩ := id C
  unfold f_X10_within_b13 at h
  refine lv_iconst (v := 0) hx hb dX10_within_13 (by decide) ?_
  cases h
  exact w_iretz C hI hS (by decide) dX10_within_14
def f_X10_within (a1 : Int32) (a2 : Int32) (x : st) : Option (Int32 × st) := if a1 < 0 then (f_X10_within_b13  x) else (if a2 ≤ a1 then (f_X10_within_b13  x) else (some (1, x)))
set_option maxHeartbeats 4000000 in
set_option maxRecDepth 100000 in
theorem w_X10_within {p : Program} {l : Launch} {e : Env} {s : State} {m : MethodId} {args : Array Value} {below : List Frame} {meth : Method} {c : Code} {g : gT} {r : Int32} {x' : st} (C : cxt p s m meth c args cX10_within 2 RX10 (some .boolean)) (G : gst g s) (a1 : Int32) (a2 : Int32) (x : st) (H : Heap) (locs : List Loc) (ls : Array Slot)  (h : f_X10_within a1 a2 x = some (r, x')) (hI : wst g x H) (hS : va_S (zA (gz g)) s.heap H locs) (hl : lv_has ls 2 [(0, .int a1), (1, .int a2)]) : W p l e (rmC 0 0) s m args below meth c H locs 0 0 (MQ below (Qx g (some (.int r)) x') args s 0 0 (zA (gz g))) (F0 m 0 ls []) := by
  obtain ⟨hx, hb, hml, hown, hts, hlk, hrt⟩ := id C
  unfold f_X10_within at h
  refine lv_iload_n hx hb dX10_within_0 rfl (lv_at hl 0 rfl) ?_
  refine lv_if_lt (tgt := 13) hx hb dX10_within_1 (by decide) (fun hc => ?_) (fun hc => ?_)
  · replace h := ite_y hc h
    exact w_X10_within_b13 C G  x _ _ _  h hI hS (lv_sub hl [] rfl)
  replace h := ite_n hc h
  refine lv_iload_n hx hb dX10_within_4 rfl (lv_at hl 0 rfl) ?_
  refine lv_iload_n hx hb dX10_within_5 rfl (lv_at hl 1 rfl) ?_
  refine lv_icmp_ge (tgt := 13) hx hb dX10_within_6 (by decide) (fun hc => ?_) (fun hc => ?_)
  · replace h := ite_y hc h
    exact w_X10_within_b13 C G  x _ _ _  h hI hS (lv_sub hl [] rfl)
  replace h := ite_n hc h
  refine lv_iconst (v := 1) hx hb dX10_within_9 (by decide) ?_
  refine lv_goto (tgt := 14) hx hb dX10_within_10 (by decide) ?_
  cases h
  exact w_iretz C hI hS (by decide) dX10_within_14
theorem k_X10_within (l : Launch) (g : gT) (a1 : Int32) (a2 : Int32) (x : st) (r : Int32) (x' : st)  (h : f_X10_within a1 a2 x = some (r, x')) : Kt l yX10_within cX10_within 2 (some .boolean) 0 0 g [.int a1, .int a2] x (some (.int r)) x' := by
  refine Kt.of (by decide) (fun p e s m below meth c C G hI => ?_)
  have hl := lv_entry ([.int a1, .int a2]) (n := 2) (Nat.le_of_ble_eq_true rfl)
  rw [lg_entry_eq]
  generalize (lg_sl ([.int a1, .int a2]) ++ List.replicate (2 - (lg_sl ([.int a1, .int a2])).length) Slot.unset).toArray = ls at hl ⊢
  have hl : lv_has ls 2 [(0, .int a1), (1, .int a2)] := hl
  exact w_X10_within C G a1 a2 x _ _ ls  h hI va_S.rf hl
theorem ms_X10_within : mtS yX10_within RX10 cX10_within 2 (some .boolean) 2 := ⟨ks_X10_within, kI_X10, kc_X10_within, by decide +kernel⟩

/-! X10_isSpan -/
def f_X10_isSpan_b27  (x : st) : Option (Int32 × st) := some (0, x)
set_option maxHeartbeats 4000000 in
set_option maxRecDepth 100000 in
theorem w_X10_isSpan_b27 {p : Program} {l : Launch} {e : Env} {s : State} {m : MethodId} {args : Array Value} {below : List Frame} {meth : Method} {c : Code} {g : gT} {r : Int32} {x' : st} (C : cxt p s m meth c args cX10_isSpan 2 RX10 (some .boolean)) (G : gst g s)  (x : st) (H : Heap) (locs : List Loc) (ls : Array Slot)  (h : f_X10_isSpan_b27  x = some (r, x')) (hI : wst g x H) (hS : va_S (zA (gz g)) s.heap H locs) (hl : lv_has ls 2 []) : W p l e (rmC 1 21) s m args below meth c H locs 0 0 (MQ below (Qx g (some (.int r)) x') args s 0 0 (zA (gz g))) (F0 m 27 ls []) := by
  obtain ⟨hx, hb, hml, hown, hts, hlk, hrt⟩ := id C
  unfold f_X10_isSpan_b27 at h
  refine lv_iconst (v := 0) hx hb dX10_isSpan_27 (by decide) ?_
  cases h
  exact w_iretz C hI hS (by decide) dX10_isSpan_28
def f_X10_isSpan (a1 : Int32) (a2 : Int32) (x : st) : Option (Int32 × st) := bnd (f_X10_within a1 49 x) fun r2 x1 => if r2 = 0 then (f_X10_isSpan_b27  x1) else (bnd (f_X10_within a2 49 x1) fun r5 x4 => if r5 = 0 then (f_X10_isSpan_b27  x4) else (if a2 ≤ a1 then (f_X10_isSpan_b27  x4) else (some (1, x4))))
set_option maxHeartbeats 4000000 in
set_option maxRecDepth 100000 in
theorem w_X10_isSpan {p : Program} {l : Launch} {e : Env} {s : State} {m : MethodId} {args : Array Value} {below : List Frame} {meth : Method} {c : Code} {g : gT} {r : Int32} {x' : st} (C : cxt p s m meth c args cX10_isSpan 2 RX10 (some .boolean)) (G : gst g s) (a1 : Int32) (a2 : Int32) (x : st) (H : Heap) (locs : List Loc) (ls : Array Slot)  (h : f_X10_isSpan a1 a2 x = some (r, x')) (hI : wst g x H) (hS : va_S (zA (gz g)) s.heap H locs) (hl : lv_has ls 2 [(0, .int a1), (1, .int a2)]) : W p l e (rmC 1 21) s m args below meth c H locs 0 0 (MQ below (Qx g (some (.int r)) x') args s 0 0 (zA (gz g))) (F0 m 0 ls []) := by
  obtain ⟨hx, hb, hml, hown, hts, hlk, hrt⟩ := id C
  unfold f_X10_isSpan at h
  refine lv_iload_n hx hb dX10_isSpan_0 rfl (lv_at hl 0 rfl) ?_
  refine lv_bipush (v := 49) hx hb dX10_isSpan_1 (by decide) ?_
  obtain ⟨r2, x1, hq3, h⟩ := bnd_some h
  refine w_callS (fr := 0) (lo := 0) C G hI hS ms_X10_within km_X10_20 [.int a1, .int 49] (k_X10_within l g a1 49 x _ _  hq3) rfl (by first | exact ⟨by decide, by decide⟩ | exact ⟨by show _ ≤ _ + _; omega, by show _ ≤ _ + _; omega⟩) ⟨Nat.zero_le _, Nat.zero_le _⟩ hl.1 rfl (Nat.le_of_ble_eq_true rfl) dX10_isSpan_3 (fun H locs hI hS => ?_)
  refine lv_if_eq (tgt := 27) hx hb dX10_isSpan_6 (by decide) (fun hc => ?_) (fun hc => ?_)
  · replace h := ite_y hc h
    exact w_X10_isSpan_b27 C G  x1 _ _ _  h hI hS (lv_sub hl [] rfl)
  replace h := ite_n hc h
  refine lv_iload_n hx hb dX10_isSpan_9 rfl (lv_at hl 1 rfl) ?_
  refine lv_bipush (v := 49) hx hb dX10_isSpan_10 (by decide) ?_
  obtain ⟨r5, x4, hq6, h⟩ := bnd_some h
  refine w_callS (fr := 0) (lo := 0) C G hI hS ms_X10_within km_X10_20 [.int a2, .int 49] (k_X10_within l g a2 49 x1 _ _  hq6) rfl (by first | exact ⟨by decide, by decide⟩ | exact ⟨by show _ ≤ _ + _; omega, by show _ ≤ _ + _; omega⟩) ⟨Nat.zero_le _, Nat.zero_le _⟩ hl.1 rfl (Nat.le_of_ble_eq_true rfl) dX10_isSpan_12 (fun H locs hI hS => ?_)
  refine lv_if_eq (tgt := 27) hx hb dX10_isSpan_15 (by decide) (fun hc => ?_) (fun hc => ?_)
  · replace h := ite_y hc h
    exact w_X10_isSpan_b27 C G  x4 _ _ _  h hI hS (lv_sub hl [] rfl)
  replace h := ite_n hc h
  refine lv_iload_n hx hb dX10_isSpan_18 rfl (lv_at hl 0 rfl) ?_
  refine lv_iload_n hx hb dX10_isSpan_19 rfl (lv_at hl 1 rfl) ?_
  refine lv_icmp_ge (tgt := 27) hx hb dX10_isSpan_20 (by decide) (fun hc => ?_) (fun hc => ?_)
  · replace h := ite_y hc h
    exact w_X10_isSpan_b27 C G  x4 _ _ _  h hI hS (lv_sub hl [] rfl)
  replace h := ite_n hc h
  refine lv_iconst (v := 1) hx hb dX10_isSpan_23 (by decide) ?_
  refine lv_goto (tgt := 28) hx hb dX10_isSpan_24 (by decide) ?_
  cases h
  exact w_iretz C hI hS (by decide) dX10_isSpan_28
theorem k_X10_isSpan (l : Launch) (g : gT) (a1 : Int32) (a2 : Int32) (x : st) (r : Int32) (x' : st)  (h : f_X10_isSpan a1 a2 x = some (r, x')) : Kt l yX10_isSpan cX10_isSpan 2 (some .boolean) 1 21 g [.int a1, .int a2] x (some (.int r)) x' := by
  refine Kt.of (by decide) (fun p e s m below meth c C G hI => ?_)
  have hl := lv_entry ([.int a1, .int a2]) (n := 2) (Nat.le_of_ble_eq_true rfl)
  rw [lg_entry_eq]
  generalize (lg_sl ([.int a1, .int a2]) ++ List.replicate (2 - (lg_sl ([.int a1, .int a2])).length) Slot.unset).toArray = ls at hl ⊢
  have hl : lv_has ls 2 [(0, .int a1), (1, .int a2)] := hl
  exact w_X10_isSpan C G a1 a2 x _ _ ls  h hI va_S.rf hl
theorem ms_X10_isSpan : mtS yX10_isSpan RX10 cX10_isSpan 2 (some .boolean) 2 := ⟨ks_X10_isSpan, kI_X10, kc_X10_isSpan, by decide +kernel⟩

/-! X0_kind -/
def f_X0_kind (i0 : Nat) (x : st) : Option (Int32 × st) := some ((x 18 i0 0), x)
set_option maxHeartbeats 4000000 in
set_option maxRecDepth 100000 in
theorem w_X0_kind {p : Program} {l : Launch} {e : Env} {s : State} {m : MethodId} {args : Array Value} {below : List Frame} {meth : Method} {c : Code} {g : gT} {r : Int32} {x' : st} (C : cxt p s m meth c args cX0_kind 1 RX0 (some .int)) (G : gst g s) (i0 : Nat) (x : st) (H : Heap) (locs : List Loc) (ls : Array Slot) (h_i0 : gd g 18 i0) (h : f_X0_kind i0 x = some (r, x')) (hI : wst g x H) (hS : va_S (zA (gz g)) s.heap H locs) (hl : lv_has ls 1 [(0, .ref (ga g 18 i0))]) : W p l e (rmC 0 0) s m args below meth c H locs 0 0 (MQ below (Qx g (some (.int r)) x') args s 0 0 (zA (gz g))) (F0 m 0 ls []) := by
  obtain ⟨hx, hb, hml, hown, hts, hlk, hrt⟩ := id C
  unfold f_X0_kind at h
  refine lv_aload_n hx hb dX0_kind_0 rfl (lv_at hl 0 rfl) ?_
  refine w_get C G hI 18 i0 h_i0 (fcE_18 g _ _) rfl in_X0 0 (by decide) kf_X0_9 (fun _ h => h) (v := .int (x 18 i0 0)) rfl dX0_kind_1 ?_
  cases h
  exact w_ireti C hI hS dX0_kind_4
theorem k_X0_kind (l : Launch) (g : gT) (i0 : Nat) (x : st) (r : Int32) (x' : st) (h_i0 : gd g 18 i0) (h : f_X0_kind i0 x = some (r, x')) : Kt l yX0_kind cX0_kind 1 (some .int) 0 0 g [.ref (ga g 18 i0)] x (some (.int r)) x' := by
  refine Kt.of (by decide) (fun p e s m below meth c C G hI => ?_)
  have hl := lv_entry ([.ref (ga g 18 i0)]) (n := 1) (Nat.le_of_ble_eq_true rfl)
  rw [lg_entry_eq]
  generalize (lg_sl ([.ref (ga g 18 i0)]) ++ List.replicate (1 - (lg_sl ([.ref (ga g 18 i0)])).length) Slot.unset).toArray = ls at hl ⊢
  have hl : lv_has ls 1 [(0, .ref (ga g 18 i0))] := hl
  exact w_X0_kind C G i0 x _ _ ls h_i0 h hI va_S.rf hl
theorem mv_X0_kind : mtV yX0_kind RX0 cX0_kind 1 (some .int) 0 := ⟨ki_X0_kind, kl_X0_kind, kI_X0, kc_X0_kind, by decide +kernel⟩

/-! X0_a -/
def f_X0_a (i0 : Nat) (x : st) : Option (Int32 × st) := some ((x 18 i0 1), x)
set_option maxHeartbeats 4000000 in
set_option maxRecDepth 100000 in
theorem w_X0_a {p : Program} {l : Launch} {e : Env} {s : State} {m : MethodId} {args : Array Value} {below : List Frame} {meth : Method} {c : Code} {g : gT} {r : Int32} {x' : st} (C : cxt p s m meth c args cX0_a 1 RX0 (some .int)) (G : gst g s) (i0 : Nat) (x : st) (H : Heap) (locs : List Loc) (ls : Array Slot) (h_i0 : gd g 18 i0) (h : f_X0_a i0 x = some (r, x')) (hI : wst g x H) (hS : va_S (zA (gz g)) s.heap H locs) (hl : lv_has ls 1 [(0, .ref (ga g 18 i0))]) : W p l e (rmC 0 0) s m args below meth c H locs 0 0 (MQ below (Qx g (some (.int r)) x') args s 0 0 (zA (gz g))) (F0 m 0 ls []) := by
  obtain ⟨hx, hb, hml, hown, hts, hlk, hrt⟩ := id C
  unfold f_X0_a at h
  refine lv_aload_n hx hb dX0_a_0 rfl (lv_at hl 0 rfl) ?_
  refine w_get C G hI 18 i0 h_i0 (fcE_18 g _ _) rfl in_X0 1 (by decide) kf_X0_15 (fun _ h => h) (v := .int (x 18 i0 1)) rfl dX0_a_1 ?_
  cases h
  exact w_ireti C hI hS dX0_a_4
theorem k_X0_a (l : Launch) (g : gT) (i0 : Nat) (x : st) (r : Int32) (x' : st) (h_i0 : gd g 18 i0) (h : f_X0_a i0 x = some (r, x')) : Kt l yX0_a cX0_a 1 (some .int) 0 0 g [.ref (ga g 18 i0)] x (some (.int r)) x' := by
  refine Kt.of (by decide) (fun p e s m below meth c C G hI => ?_)
  have hl := lv_entry ([.ref (ga g 18 i0)]) (n := 1) (Nat.le_of_ble_eq_true rfl)
  rw [lg_entry_eq]
  generalize (lg_sl ([.ref (ga g 18 i0)]) ++ List.replicate (1 - (lg_sl ([.ref (ga g 18 i0)])).length) Slot.unset).toArray = ls at hl ⊢
  have hl : lv_has ls 1 [(0, .ref (ga g 18 i0))] := hl
  exact w_X0_a C G i0 x _ _ ls h_i0 h hI va_S.rf hl
theorem mv_X0_a : mtV yX0_a RX0 cX0_a 1 (some .int) 0 := ⟨ki_X0_a, kl_X0_a, kI_X0, kc_X0_a, by decide +kernel⟩

/-! X0_b -/
def f_X0_b (i0 : Nat) (x : st) : Option (Int32 × st) := some ((x 18 i0 2), x)
set_option maxHeartbeats 4000000 in
set_option maxRecDepth 100000 in
theorem w_X0_b {p : Program} {l : Launch} {e : Env} {s : State} {m : MethodId} {args : Array Value} {below : List Frame} {meth : Method} {c : Code} {g : gT} {r : Int32} {x' : st} (C : cxt p s m meth c args cX0_b 1 RX0 (some .int)) (G : gst g s) (i0 : Nat) (x : st) (H : Heap) (locs : List Loc) (ls : Array Slot) (h_i0 : gd g 18 i0) (h : f_X0_b i0 x = some (r, x')) (hI : wst g x H) (hS : va_S (zA (gz g)) s.heap H locs) (hl : lv_has ls 1 [(0, .ref (ga g 18 i0))]) : W p l e (rmC 0 0) s m args below meth c H locs 0 0 (MQ below (Qx g (some (.int r)) x') args s 0 0 (zA (gz g))) (F0 m 0 ls []) := by
  obtain ⟨hx, hb, hml, hown, hts, hlk, hrt⟩ := id C
  unfold f_X0_b at h
  refine lv_aload_n hx hb dX0_b_0 rfl (lv_at hl 0 rfl) ?_
  refine w_get C G hI 18 i0 h_i0 (fcE_18 g _ _) rfl in_X0 2 (by decide) kf_X0_18 (fun _ h => h) (v := .int (x 18 i0 2)) rfl dX0_b_1 ?_
  cases h
  exact w_ireti C hI hS dX0_b_4
theorem k_X0_b (l : Launch) (g : gT) (i0 : Nat) (x : st) (r : Int32) (x' : st) (h_i0 : gd g 18 i0) (h : f_X0_b i0 x = some (r, x')) : Kt l yX0_b cX0_b 1 (some .int) 0 0 g [.ref (ga g 18 i0)] x (some (.int r)) x' := by
  refine Kt.of (by decide) (fun p e s m below meth c C G hI => ?_)
  have hl := lv_entry ([.ref (ga g 18 i0)]) (n := 1) (Nat.le_of_ble_eq_true rfl)
  rw [lg_entry_eq]
  generalize (lg_sl ([.ref (ga g 18 i0)]) ++ List.replicate (1 - (lg_sl ([.ref (ga g 18 i0)])).length) Slot.unset).toArray = ls at hl ⊢
  have hl : lv_has ls 1 [(0, .ref (ga g 18 i0))] := hl
  exact w_X0_b C G i0 x _ _ ls h_i0 h hI va_S.rf hl
theorem mv_X0_b : mtV yX0_b RX0 cX0_b 1 (some .int) 0 := ⟨ki_X0_b, kl_X0_b, kI_X0, kc_X0_b, by decide +kernel⟩

/-! X0_c -/
def f_X0_c (i0 : Nat) (x : st) : Option (Int32 × st) := some ((x 18 i0 3), x)
set_option maxHeartbeats 4000000 in
set_option maxRecDepth 100000 in
theorem w_X0_c {p : Program} {l : Launch} {e : Env} {s : State} {m : MethodId} {args : Array Value} {below : List Frame} {meth : Method} {c : Code} {g : gT} {r : Int32} {x' : st} (C : cxt p s m meth c args cX0_c 1 RX0 (some .int)) (G : gst g s) (i0 : Nat) (x : st) (H : Heap) (locs : List Loc) (ls : Array Slot) (h_i0 : gd g 18 i0) (h : f_X0_c i0 x = some (r, x')) (hI : wst g x H) (hS : va_S (zA (gz g)) s.heap H locs) (hl : lv_has ls 1 [(0, .ref (ga g 18 i0))]) : W p l e (rmC 0 0) s m args below meth c H locs 0 0 (MQ below (Qx g (some (.int r)) x') args s 0 0 (zA (gz g))) (F0 m 0 ls []) := by
  obtain ⟨hx, hb, hml, hown, hts, hlk, hrt⟩ := id C
  unfold f_X0_c at h
  refine lv_aload_n hx hb dX0_c_0 rfl (lv_at hl 0 rfl) ?_
  refine w_get C G hI 18 i0 h_i0 (fcE_18 g _ _) rfl in_X0 3 (by decide) kf_X0_21 (fun _ h => h) (v := .int (x 18 i0 3)) rfl dX0_c_1 ?_
  cases h
  exact w_ireti C hI hS dX0_c_4
theorem k_X0_c (l : Launch) (g : gT) (i0 : Nat) (x : st) (r : Int32) (x' : st) (h_i0 : gd g 18 i0) (h : f_X0_c i0 x = some (r, x')) : Kt l yX0_c cX0_c 1 (some .int) 0 0 g [.ref (ga g 18 i0)] x (some (.int r)) x' := by
  refine Kt.of (by decide) (fun p e s m below meth c C G hI => ?_)
  have hl := lv_entry ([.ref (ga g 18 i0)]) (n := 1) (Nat.le_of_ble_eq_true rfl)
  rw [lg_entry_eq]
  generalize (lg_sl ([.ref (ga g 18 i0)]) ++ List.replicate (1 - (lg_sl ([.ref (ga g 18 i0)])).length) Slot.unset).toArray = ls at hl ⊢
  have hl : lv_has ls 1 [(0, .ref (ga g 18 i0))] := hl
  exact w_X0_c C G i0 x _ _ ls h_i0 h hI va_S.rf hl
theorem mv_X0_c : mtV yX0_c RX0 cX0_c 1 (some .int) 0 := ⟨ki_X0_c, kl_X0_c, kI_X0, kc_X0_c, by decide +kernel⟩

/-! X0_d -/
def f_X0_d (i0 : Nat) (x : st) : Option (Int32 × st) := some ((x 18 i0 4), x)
set_option maxHeartbeats 4000000 in
set_option maxRecDepth 100000 in
theorem w_X0_d {p : Program} {l : Launch} {e : Env} {s : State} {m : MethodId} {args : Array Value} {below : List Frame} {meth : Method} {c : Code} {g : gT} {r : Int32} {x' : st} (C : cxt p s m meth c args cX0_d 1 RX0 (some .int)) (G : gst g s) (i0 : Nat) (x : st) (H : Heap) (locs : List Loc) (ls : Array Slot) (h_i0 : gd g 18 i0) (h : f_X0_d i0 x = some (r, x')) (hI : wst g x H) (hS : va_S (zA (gz g)) s.heap H locs) (hl : lv_has ls 1 [(0, .ref (ga g 18 i0))]) : W p l e (rmC 0 0) s m args below meth c H locs 0 0 (MQ below (Qx g (some (.int r)) x') args s 0 0 (zA (gz g))) (F0 m 0 ls []) := by
  obtain ⟨hx, hb, hml, hown, hts, hlk, hrt⟩ := id C
  unfold f_X0_d at h
  refine lv_aload_n hx hb dX0_d_0 rfl (lv_at hl 0 rfl) ?_
  refine w_get C G hI 18 i0 h_i0 (fcE_18 g _ _) rfl in_X0 4 (by decide) kf_X0_24 (fun _ h => h) (v := .int (x 18 i0 4)) rfl dX0_d_1 ?_
  cases h
  exact w_ireti C hI hS dX0_d_4
theorem k_X0_d (l : Launch) (g : gT) (i0 : Nat) (x : st) (r : Int32) (x' : st) (h_i0 : gd g 18 i0) (h : f_X0_d i0 x = some (r, x')) : Kt l yX0_d cX0_d 1 (some .int) 0 0 g [.ref (ga g 18 i0)] x (some (.int r)) x' := by
  refine Kt.of (by decide) (fun p e s m below meth c C G hI => ?_)
  have hl := lv_entry ([.ref (ga g 18 i0)]) (n := 1) (Nat.le_of_ble_eq_true rfl)
  rw [lg_entry_eq]
  generalize (lg_sl ([.ref (ga g 18 i0)]) ++ List.replicate (1 - (lg_sl ([.ref (ga g 18 i0)])).length) Slot.unset).toArray = ls at hl ⊢
  have hl : lv_has ls 1 [(0, .ref (ga g 18 i0))] := hl
  exact w_X0_d C G i0 x _ _ ls h_i0 h hI va_S.rf hl
theorem mv_X0_d : mtV yX0_d RX0 cX0_d 1 (some .int) 0 := ⟨ki_X0_d, kl_X0_d, kI_X0, kc_X0_d, by decide +kernel⟩

/-! X0_fits -/
def f_X0_fits_b12  (x : st) : Option (Int32 × st) := some (1, x)
set_option maxHeartbeats 4000000 in
set_option maxRecDepth 100000 in
theorem w_X0_fits_b12 {p : Program} {l : Launch} {e : Env} {s : State} {m : MethodId} {args : Array Value} {below : List Frame} {meth : Method} {c : Code} {g : gT} {r : Int32} {x' : st} (C : cxt p s m meth c args cX0_fits 2 RX0 (some .boolean)) (G : gst g s)  (x : st) (H : Heap) (locs : List Loc) (ls : Array Slot)  (h : f_X0_fits_b12  x = some (r, x')) (hI : wst g x H) (hS : va_S (zA (gz g)) s.heap H locs) (hl : lv_has ls 2 []) : W p l e (rmC 1 21) s m args below meth c H locs 0 0 (MQ below (Qx g (some (.int r)) x') args s 0 0 (zA (gz g))) (F0 m 12 ls []) := by
  obtain ⟨hx, hb, hml, hown, hts, hlk, hrt⟩ := id C
  unfold f_X0_fits_b12 at h
  refine lv_iconst (v := 1) hx hb dX0_fits_12 (by decide) ?_
  refine lv_goto (tgt := 17) hx hb dX0_fits_13 (by decide) ?_
  cases h
  exact w_iretz C hI hS (by decide) dX0_fits_17
def f_X0_fits (a1 : Int32) (a2 : Int32) (x : st) : Option (Int32 × st) := if a2 = 0 then (f_X0_fits_b12  x) else (bnd (f_X10_within a1 a2 x) fun r2 x1 => if r2 = 0 then (some (0, x1)) else (f_X0_fits_b12  x1))
set_option maxHeartbeats 4000000 in
set_option maxRecDepth 100000 in
theorem w_X0_fits {p : Program} {l : Launch} {e : Env} {s : State} {m : MethodId} {args : Array Value} {below : List Frame} {meth : Method} {c : Code} {g : gT} {r : Int32} {x' : st} (C : cxt p s m meth c args cX0_fits 2 RX0 (some .boolean)) (G : gst g s) (a1 : Int32) (a2 : Int32) (x : st) (H : Heap) (locs : List Loc) (ls : Array Slot)  (h : f_X0_fits a1 a2 x = some (r, x')) (hI : wst g x H) (hS : va_S (zA (gz g)) s.heap H locs) (hl : lv_has ls 2 [(0, .int a1), (1, .int a2)]) : W p l e (rmC 1 21) s m args below meth c H locs 0 0 (MQ below (Qx g (some (.int r)) x') args s 0 0 (zA (gz g))) (F0 m 0 ls []) := by
  obtain ⟨hx, hb, hml, hown, hts, hlk, hrt⟩ := id C
  unfold f_X0_fits at h
  refine lv_iload_n hx hb dX0_fits_0 rfl (lv_at hl 1 rfl) ?_
  refine lv_if_eq (tgt := 12) hx hb dX0_fits_1 (by decide) (fun hc => ?_) (fun hc => ?_)
  · replace h := ite_y hc h
    exact w_X0_fits_b12 C G  x _ _ _  h hI hS (lv_sub hl [] rfl)
  replace h := ite_n hc h
  refine lv_iload_n hx hb dX0_fits_4 rfl (lv_at hl 0 rfl) ?_
  refine lv_iload_n hx hb dX0_fits_5 rfl (lv_at hl 1 rfl) ?_
  obtain ⟨r2, x1, hq3, h⟩ := bnd_some h
  refine w_callN (fr := 0) (lo := 0) C G hI hS ms_X10_within (host := "StepBudgets") (by decide +kernel) [.int a1, .int a2] (k_X10_within l g a1 a2 x _ _  hq3) rfl (by first | exact ⟨by decide, by decide⟩ | exact ⟨by show _ ≤ _ + _; omega, by show _ ≤ _ + _; omega⟩) ⟨Nat.zero_le _, Nat.zero_le _⟩ hl.1 rfl (Nat.le_of_ble_eq_true rfl) dX0_fits_6 (fun H locs hI hS => ?_)
  refine lv_if_eq (tgt := 16) hx hb dX0_fits_9 (by decide) (fun hc => ?_) (fun hc => ?_)
  · replace h := ite_y hc h
    refine lv_iconst (v := 0) hx hb dX0_fits_16 (by decide) ?_
    cases h
    exact w_iretz C hI hS (by decide) dX0_fits_17
  replace h := ite_n hc h
  exact w_X0_fits_b12 C G  x1 _ _ _  h hI hS (lv_sub hl [] rfl)
theorem k_X0_fits (l : Launch) (g : gT) (a1 : Int32) (a2 : Int32) (x : st) (r : Int32) (x' : st)  (h : f_X0_fits a1 a2 x = some (r, x')) : Kt l yX0_fits cX0_fits 2 (some .boolean) 1 21 g [.int a1, .int a2] x (some (.int r)) x' := by
  refine Kt.of (by decide) (fun p e s m below meth c C G hI => ?_)
  have hl := lv_entry ([.int a1, .int a2]) (n := 2) (Nat.le_of_ble_eq_true rfl)
  rw [lg_entry_eq]
  generalize (lg_sl ([.int a1, .int a2]) ++ List.replicate (2 - (lg_sl ([.int a1, .int a2])).length) Slot.unset).toArray = ls at hl ⊢
  have hl : lv_has ls 2 [(0, .int a1), (1, .int a2)] := hl
  exact w_X0_fits C G a1 a2 x _ _ ls  h hI va_S.rf hl
theorem ms_X0_fits : mtS yX0_fits RX0 cX0_fits 2 (some .boolean) 2 := ⟨ks_X0_fits, kI_X0, kc_X0_fits, by decide +kernel⟩

/-! X0_isAsTold -/
def f_X0_isAsTold_b21  (x : st) : Option (Int32 × st) := some (0, x)
set_option maxHeartbeats 4000000 in
set_option maxRecDepth 100000 in
theorem w_X0_isAsTold_b21 {p : Program} {l : Launch} {e : Env} {s : State} {m : MethodId} {args : Array Value} {below : List Frame} {meth : Method} {c : Code} {g : gT} {r : Int32} {x' : st} (C : cxt p s m meth c args cX0_isAsTold 5 RX0 (some .boolean)) (G : gst g s)  (x : st) (H : Heap) (locs : List Loc) (ls : Array Slot)  (h : f_X0_isAsTold_b21  x = some (r, x')) (hI : wst g x H) (hS : va_S (zA (gz g)) s.heap H locs) (hl : lv_has ls 5 []) : W p l e (rmC 2 42) s m args below meth c H locs 0 0 (MQ below (Qx g (some (.int r)) x') args s 0 0 (zA (gz g))) (F0 m 21 ls []) := by
  obtain ⟨hx, hb, hml, hown, hts, hlk, hrt⟩ := id C
  unfold f_X0_isAsTold_b21 at h
  refine lv_iconst (v := 0) hx hb dX0_isAsTold_21 (by decide) ?_
  cases h
  exact w_iretz C hI hS (by decide) dX0_isAsTold_22
def f_X0_isAsTold_b76  (x : st) : Option (Int32 × st) := some (0, x)
set_option maxHeartbeats 4000000 in
set_option maxRecDepth 100000 in
theorem w_X0_isAsTold_b76 {p : Program} {l : Launch} {e : Env} {s : State} {m : MethodId} {args : Array Value} {below : List Frame} {meth : Method} {c : Code} {g : gT} {r : Int32} {x' : st} (C : cxt p s m meth c args cX0_isAsTold 5 RX0 (some .boolean)) (G : gst g s)  (x : st) (H : Heap) (locs : List Loc) (ls : Array Slot)  (h : f_X0_isAsTold_b76  x = some (r, x')) (hI : wst g x H) (hS : va_S (zA (gz g)) s.heap H locs) (hl : lv_has ls 5 []) : W p l e (rmC 2 42) s m args below meth c H locs 0 0 (MQ below (Qx g (some (.int r)) x') args s 0 0 (zA (gz g))) (F0 m 76 ls []) := by
  obtain ⟨hx, hb, hml, hown, hts, hlk, hrt⟩ := id C
  unfold f_X0_isAsTold_b76 at h
  refine lv_iconst (v := 0) hx hb dX0_isAsTold_76 (by decide) ?_
  cases h
  exact w_iretz C hI hS (by decide) dX0_isAsTold_77
def f_X0_isAsTold_b23 (v0 : Int32) (v1 : Int32) (v2 : Int32) (v3 : Int32) (v4 : Int32) (x : st) : Option (Int32 × st) := if inb v0 16 = true then bnd (f_X0_fits v1 ((endsV 0).getD v0.toNatClampNeg 0) x) fun r6 x5 => if r6 = 0 then (f_X0_isAsTold_b76  x5) else (if inb v0 16 = true then bnd (f_X0_fits v2 ((endsV 1).getD v0.toNatClampNeg 0) x5) fun r10 x9 => if r10 = 0 then (f_X0_isAsTold_b76  x9) else (if inb v0 16 = true then bnd (f_X0_fits v3 ((endsV 2).getD v0.toNatClampNeg 0) x9) fun r14 x13 => if r14 = 0 then (f_X0_isAsTold_b76  x13) else (if inb v0 16 = true then bnd (f_X0_fits v4 ((endsV 3).getD v0.toNatClampNeg 0) x13) fun r18 x17 => if r18 = 0 then (f_X0_isAsTold_b76  x17) else (some (1, x17)) else none) else none) else none) else none
set_option maxHeartbeats 4000000 in
set_option maxRecDepth 100000 in
theorem w_X0_isAsTold_b23 {p : Program} {l : Launch} {e : Env} {s : State} {m : MethodId} {args : Array Value} {below : List Frame} {meth : Method} {c : Code} {g : gT} {r : Int32} {x' : st} (C : cxt p s m meth c args cX0_isAsTold 5 RX0 (some .boolean)) (G : gst g s) (v0 : Int32) (v1 : Int32) (v2 : Int32) (v3 : Int32) (v4 : Int32) (x : st) (H : Heap) (locs : List Loc) (ls : Array Slot)  (h : f_X0_isAsTold_b23 v0 v1 v2 v3 v4 x = some (r, x')) (hI : wst g x H) (hS : va_S (zA (gz g)) s.heap H locs) (hl : lv_has ls 5 [(0, .int v0), (1, .int v1), (2, .int v2), (3, .int v3), (4, .int v4)]) : W p l e (rmC 2 42) s m args below meth c H locs 0 0 (MQ below (Qx g (some (.int r)) x') args s 0 0 (zA (gz g))) (F0 m 23 ls []) := by
  obtain ⟨hx, hb, hml, hown, hts, hlk, hrt⟩ := id C
  unfold f_X0_isAsTold_b23 at h
  refine lv_iload_n hx hb dX0_isAsTold_23 rfl (lv_at hl 1 rfl) ?_
  refine w_ends C G hS 0 (by decide) rfl kf_X0_31 dX0_isAsTold_24 ?_
  refine lv_iload_n hx hb dX0_isAsTold_27 rfl (lv_at hl 0 rfl) ?_
  obtain ⟨hn4, h⟩ := need_t h
  refine w_endsAt C G hS 0 (by decide) (inb_in hn4) dX0_isAsTold_28 ?_
  obtain ⟨r6, x5, hq7, h⟩ := bnd_some h
  refine w_callS (fr := 1) (lo := 21) C G hI hS ms_X0_fits km_X0_35 [.int v1, .int ((endsV 0).getD v0.toNatClampNeg 0)] (k_X0_fits l g v1 ((endsV 0).getD v0.toNatClampNeg 0) x _ _  hq7) rfl (by first | exact ⟨by decide, by decide⟩ | exact ⟨by show _ ≤ _ + _; omega, by show _ ≤ _ + _; omega⟩) ⟨Nat.zero_le _, Nat.zero_le _⟩ hl.1 rfl (Nat.le_of_ble_eq_true rfl) dX0_isAsTold_29 (fun H locs hI hS => ?_)
  refine lv_if_eq (tgt := 76) hx hb dX0_isAsTold_32 (by decide) (fun hc => ?_) (fun hc => ?_)
  · replace h := ite_y hc h
    exact w_X0_isAsTold_b76 C G  x5 _ _ _  h hI hS (lv_sub hl [] rfl)
  replace h := ite_n hc h
  refine lv_iload_n hx hb dX0_isAsTold_35 rfl (lv_at hl 2 rfl) ?_
  refine w_ends C G hS 1 (by decide) rfl kf_X0_38 dX0_isAsTold_36 ?_
  refine lv_iload_n hx hb dX0_isAsTold_39 rfl (lv_at hl 0 rfl) ?_
  obtain ⟨hn8, h⟩ := need_t h
  refine w_endsAt C G hS 1 (by decide) (inb_in hn8) dX0_isAsTold_40 ?_
  obtain ⟨r10, x9, hq11, h⟩ := bnd_some h
  refine w_callS (fr := 1) (lo := 21) C G hI hS ms_X0_fits km_X0_35 [.int v2, .int ((endsV 1).getD v0.toNatClampNeg 0)] (k_X0_fits l g v2 ((endsV 1).getD v0.toNatClampNeg 0) x5 _ _  hq11) rfl (by first | exact ⟨by decide, by decide⟩ | exact ⟨by show _ ≤ _ + _; omega, by show _ ≤ _ + _; omega⟩) ⟨Nat.zero_le _, Nat.zero_le _⟩ hl.1 rfl (Nat.le_of_ble_eq_true rfl) dX0_isAsTold_41 (fun H locs hI hS => ?_)
  refine lv_if_eq (tgt := 76) hx hb dX0_isAsTold_44 (by decide) (fun hc => ?_) (fun hc => ?_)
  · replace h := ite_y hc h
    exact w_X0_isAsTold_b76 C G  x9 _ _ _  h hI hS (lv_sub hl [] rfl)
  replace h := ite_n hc h
  refine lv_iload_n hx hb dX0_isAsTold_47 rfl (lv_at hl 3 rfl) ?_
  refine w_ends C G hS 2 (by decide) rfl kf_X0_41 dX0_isAsTold_48 ?_
  refine lv_iload_n hx hb dX0_isAsTold_51 rfl (lv_at hl 0 rfl) ?_
  obtain ⟨hn12, h⟩ := need_t h
  refine w_endsAt C G hS 2 (by decide) (inb_in hn12) dX0_isAsTold_52 ?_
  obtain ⟨r14, x13, hq15, h⟩ := bnd_some h
  refine w_callS (fr := 1) (lo := 21) C G hI hS ms_X0_fits km_X0_35 [.int v3, .int ((endsV 2).getD v0.toNatClampNeg 0)] (k_X0_fits l g v3 ((endsV 2).getD v0.toNatClampNeg 0) x9 _ _  hq15) rfl (by first | exact ⟨by decide, by decide⟩ | exact ⟨by show _ ≤ _ + _; omega, by show _ ≤ _ + _; omega⟩) ⟨Nat.zero_le _, Nat.zero_le _⟩ hl.1 rfl (Nat.le_of_ble_eq_true rfl) dX0_isAsTold_53 (fun H locs hI hS => ?_)
  refine lv_if_eq (tgt := 76) hx hb dX0_isAsTold_56 (by decide) (fun hc => ?_) (fun hc => ?_)
  · replace h := ite_y hc h
    exact w_X0_isAsTold_b76 C G  x13 _ _ _  h hI hS (lv_sub hl [] rfl)
  replace h := ite_n hc h
  refine lv_iload hx hb dX0_isAsTold_59 (lv_at hl 4 rfl) ?_
  refine w_ends C G hS 3 (by decide) rfl kf_X0_44 dX0_isAsTold_61 ?_
  refine lv_iload_n hx hb dX0_isAsTold_64 rfl (lv_at hl 0 rfl) ?_
  obtain ⟨hn16, h⟩ := need_t h
  refine w_endsAt C G hS 3 (by decide) (inb_in hn16) dX0_isAsTold_65 ?_
  obtain ⟨r18, x17, hq19, h⟩ := bnd_some h
  refine w_callS (fr := 1) (lo := 21) C G hI hS ms_X0_fits km_X0_35 [.int v4, .int ((endsV 3).getD v0.toNatClampNeg 0)] (k_X0_fits l g v4 ((endsV 3).getD v0.toNatClampNeg 0) x13 _ _  hq19) rfl (by first | exact ⟨by decide, by decide⟩ | exact ⟨by show _ ≤ _ + _; omega, by show _ ≤ _ + _; omega⟩) ⟨Nat.zero_le _, Nat.zero_le _⟩ hl.1 rfl (Nat.le_of_ble_eq_true rfl) dX0_isAsTold_66 (fun H locs hI hS => ?_)
  refine lv_if_eq (tgt := 76) hx hb dX0_isAsTold_69 (by decide) (fun hc => ?_) (fun hc => ?_)
  · replace h := ite_y hc h
    exact w_X0_isAsTold_b76 C G  x17 _ _ _  h hI hS (lv_sub hl [] rfl)
  replace h := ite_n hc h
  refine lv_iconst (v := 1) hx hb dX0_isAsTold_72 (by decide) ?_
  refine lv_goto (tgt := 77) hx hb dX0_isAsTold_73 (by decide) ?_
  cases h
  exact w_iretz C hI hS (by decide) dX0_isAsTold_77
def f_X0_isAsTold (a1 : Int32) (a2 : Int32) (a3 : Int32) (a4 : Int32) (a5 : Int32) (x : st) : Option (Int32 × st) := bnd (f_X10_within a1 16 x) fun r2 x1 => if r2 = 0 then (f_X0_isAsTold_b21  x1) else (if a1 = 15 then (if 8 ≤ a3 then (f_X0_isAsTold_b23 a1 a2 a3 a4 a5 x1) else (f_X0_isAsTold_b21  x1)) else (f_X0_isAsTold_b23 a1 a2 a3 a4 a5 x1))
set_option maxHeartbeats 4000000 in
set_option maxRecDepth 100000 in
theorem w_X0_isAsTold {p : Program} {l : Launch} {e : Env} {s : State} {m : MethodId} {args : Array Value} {below : List Frame} {meth : Method} {c : Code} {g : gT} {r : Int32} {x' : st} (C : cxt p s m meth c args cX0_isAsTold 5 RX0 (some .boolean)) (G : gst g s) (a1 : Int32) (a2 : Int32) (a3 : Int32) (a4 : Int32) (a5 : Int32) (x : st) (H : Heap) (locs : List Loc) (ls : Array Slot)  (h : f_X0_isAsTold a1 a2 a3 a4 a5 x = some (r, x')) (hI : wst g x H) (hS : va_S (zA (gz g)) s.heap H locs) (hl : lv_has ls 5 [(0, .int a1), (1, .int a2), (2, .int a3), (3, .int a4), (4, .int a5)]) : W p l e (rmC 2 42) s m args below meth c H locs 0 0 (MQ below (Qx g (some (.int r)) x') args s 0 0 (zA (gz g))) (F0 m 0 ls []) := by
  obtain ⟨hx, hb, hml, hown, hts, hlk, hrt⟩ := id C
  unfold f_X0_isAsTold at h
  refine lv_iload_n hx hb dX0_isAsTold_0 rfl (lv_at hl 0 rfl) ?_
  refine lv_bipush (v := 16) hx hb dX0_isAsTold_1 (by decide) ?_
  obtain ⟨r2, x1, hq3, h⟩ := bnd_some h
  refine w_callN (fr := 0) (lo := 0) C G hI hS ms_X10_within (host := "StepBudgets") (by decide +kernel) [.int a1, .int 16] (k_X10_within l g a1 16 x _ _  hq3) rfl (by first | exact ⟨by decide, by decide⟩ | exact ⟨by show _ ≤ _ + _; omega, by show _ ≤ _ + _; omega⟩) ⟨Nat.zero_le _, Nat.zero_le _⟩ hl.1 rfl (Nat.le_of_ble_eq_true rfl) dX0_isAsTold_3 (fun H locs hI hS => ?_)
  refine lv_if_eq (tgt := 21) hx hb dX0_isAsTold_6 (by decide) (fun hc => ?_) (fun hc => ?_)
  · replace h := ite_y hc h
    exact w_X0_isAsTold_b21 C G  x1 _ _ _  h hI hS (lv_sub hl [] rfl)
  replace h := ite_n hc h
  refine lv_iload_n hx hb dX0_isAsTold_9 rfl (lv_at hl 0 rfl) ?_
  refine lv_bipush (v := 15) hx hb dX0_isAsTold_10 (by decide) ?_
  refine lv_icmp_ne (tgt := 23) hx hb dX0_isAsTold_12 (by decide) (fun hc => ?_) (fun hc => ?_)
  · replace h := ite_n hc h
    exact w_X0_isAsTold_b23 C G a1 a2 a3 a4 a5 x1 _ _ _  h hI hS (lv_sub hl [0, 1, 2, 3, 4] rfl)
  replace h := ite_y hc h
  refine lv_iload_n hx hb dX0_isAsTold_15 rfl (lv_at hl 2 rfl) ?_
  refine lv_bipush (v := 8) hx hb dX0_isAsTold_16 (by decide) ?_
  refine lv_icmp_ge (tgt := 23) hx hb dX0_isAsTold_18 (by decide) (fun hc => ?_) (fun hc => ?_)
  · replace h := ite_y hc h
    exact w_X0_isAsTold_b23 C G a1 a2 a3 a4 a5 x1 _ _ _  h hI hS (lv_sub hl [0, 1, 2, 3, 4] rfl)
  replace h := ite_n hc h
  exact w_X0_isAsTold_b21 C G  x1 _ _ _  h hI hS (lv_sub hl [] rfl)
theorem k_X0_isAsTold (l : Launch) (g : gT) (a1 : Int32) (a2 : Int32) (a3 : Int32) (a4 : Int32) (a5 : Int32) (x : st) (r : Int32) (x' : st)  (h : f_X0_isAsTold a1 a2 a3 a4 a5 x = some (r, x')) : Kt l yX0_isAsTold cX0_isAsTold 5 (some .boolean) 2 42 g [.int a1, .int a2, .int a3, .int a4, .int a5] x (some (.int r)) x' := by
  refine Kt.of (by decide) (fun p e s m below meth c C G hI => ?_)
  have hl := lv_entry ([.int a1, .int a2, .int a3, .int a4, .int a5]) (n := 5) (Nat.le_of_ble_eq_true rfl)
  rw [lg_entry_eq]
  generalize (lg_sl ([.int a1, .int a2, .int a3, .int a4, .int a5]) ++ List.replicate (5 - (lg_sl ([.int a1, .int a2, .int a3, .int a4, .int a5])).length) Slot.unset).toArray = ls at hl ⊢
  have hl : lv_has ls 5 [(0, .int a1), (1, .int a2), (2, .int a3), (3, .int a4), (4, .int a5)] := hl
  exact w_X0_isAsTold C G a1 a2 a3 a4 a5 x _ _ ls  h hI va_S.rf hl
theorem ms_X0_isAsTold : mtS yX0_isAsTold RX0 cX0_isAsTold 5 (some .boolean) 5 := ⟨ks_X0_isAsTold, kI_X0, kc_X0_isAsTold, by decide +kernel⟩

/-! X1_holds -/
def f_X1_holds_b20  (x : st) : Option (Int32 × st) := some (0, x)
set_option maxHeartbeats 4000000 in
set_option maxRecDepth 100000 in
theorem w_X1_holds_b20 {p : Program} {l : Launch} {e : Env} {s : State} {m : MethodId} {args : Array Value} {below : List Frame} {meth : Method} {c : Code} {g : gT} {r : Int32} {x' : st} (C : cxt p s m meth c args cX1_holds 2 RX1 (some .boolean)) (G : gst g s)  (x : st) (H : Heap) (locs : List Loc) (ls : Array Slot)  (h : f_X1_holds_b20  x = some (r, x')) (hI : wst g x H) (hS : va_S (zA (gz g)) s.heap H locs) (hl : lv_has ls 2 []) : W p l e (rmC 0 0) s m args below meth c H locs 0 0 (MQ below (Qx g (some (.int r)) x') args s 0 0 (zA (gz g))) (F0 m 20 ls []) := by
  obtain ⟨hx, hb, hml, hown, hts, hlk, hrt⟩ := id C
  unfold f_X1_holds_b20 at h
  refine lv_iconst (v := 0) hx hb dX1_holds_20 (by decide) ?_
  cases h
  exact w_iretz C hI hS (by decide) dX1_holds_21
def f_X1_holds (i0 : Nat) (a1 : Int32) (x : st) : Option (Int32 × st) := if a1 < (x 20 i0 0) then (f_X1_holds_b20  x) else (if (x 20 i0 1) ≤ a1 then (f_X1_holds_b20  x) else (some (1, x)))
set_option maxHeartbeats 4000000 in
set_option maxRecDepth 100000 in
theorem w_X1_holds {p : Program} {l : Launch} {e : Env} {s : State} {m : MethodId} {args : Array Value} {below : List Frame} {meth : Method} {c : Code} {g : gT} {r : Int32} {x' : st} (C : cxt p s m meth c args cX1_holds 2 RX1 (some .boolean)) (G : gst g s) (i0 : Nat) (a1 : Int32) (x : st) (H : Heap) (locs : List Loc) (ls : Array Slot) (h_i0 : gd g 20 i0) (h : f_X1_holds i0 a1 x = some (r, x')) (hI : wst g x H) (hS : va_S (zA (gz g)) s.heap H locs) (hl : lv_has ls 2 [(0, .ref (ga g 20 i0)), (1, .int a1)]) : W p l e (rmC 0 0) s m args below meth c H locs 0 0 (MQ below (Qx g (some (.int r)) x') args s 0 0 (zA (gz g))) (F0 m 0 ls []) := by
  obtain ⟨hx, hb, hml, hown, hts, hlk, hrt⟩ := id C
  unfold f_X1_holds at h
  refine lv_aload_n hx hb dX1_holds_0 rfl (lv_at hl 0 rfl) ?_
  refine w_get C G hI 20 i0 h_i0 (fcE_20 g _ _) rfl in_X1 0 (by decide) kf_X1_7 (fun _ h => h) (v := .int (x 20 i0 0)) rfl dX1_holds_1 ?_
  refine lv_iload_n hx hb dX1_holds_4 rfl (lv_at hl 1 rfl) ?_
  refine lv_icmp_gt (tgt := 20) hx hb dX1_holds_5 (by decide) (fun hc => ?_) (fun hc => ?_)
  · replace h := ite_y hc h
    exact w_X1_holds_b20 C G  x _ _ _  h hI hS (lv_sub hl [] rfl)
  replace h := ite_n hc h
  refine lv_iload_n hx hb dX1_holds_8 rfl (lv_at hl 1 rfl) ?_
  refine lv_aload_n hx hb dX1_holds_9 rfl (lv_at hl 0 rfl) ?_
  refine w_get C G hI 20 i0 h_i0 (fcE_20 g _ _) rfl in_X1 1 (by decide) kf_X1_13 (fun _ h => h) (v := .int (x 20 i0 1)) rfl dX1_holds_10 ?_
  refine lv_icmp_ge (tgt := 20) hx hb dX1_holds_13 (by decide) (fun hc => ?_) (fun hc => ?_)
  · replace h := ite_y hc h
    exact w_X1_holds_b20 C G  x _ _ _  h hI hS (lv_sub hl [] rfl)
  replace h := ite_n hc h
  refine lv_iconst (v := 1) hx hb dX1_holds_16 (by decide) ?_
  refine lv_goto (tgt := 21) hx hb dX1_holds_17 (by decide) ?_
  cases h
  exact w_iretz C hI hS (by decide) dX1_holds_21
theorem k_X1_holds (l : Launch) (g : gT) (i0 : Nat) (a1 : Int32) (x : st) (r : Int32) (x' : st) (h_i0 : gd g 20 i0) (h : f_X1_holds i0 a1 x = some (r, x')) : Kt l yX1_holds cX1_holds 2 (some .boolean) 0 0 g [.ref (ga g 20 i0), .int a1] x (some (.int r)) x' := by
  refine Kt.of (by decide) (fun p e s m below meth c C G hI => ?_)
  have hl := lv_entry ([.ref (ga g 20 i0), .int a1]) (n := 2) (Nat.le_of_ble_eq_true rfl)
  rw [lg_entry_eq]
  generalize (lg_sl ([.ref (ga g 20 i0), .int a1]) ++ List.replicate (2 - (lg_sl ([.ref (ga g 20 i0), .int a1])).length) Slot.unset).toArray = ls at hl ⊢
  have hl : lv_has ls 2 [(0, .ref (ga g 20 i0)), (1, .int a1)] := hl
  exact w_X1_holds C G i0 a1 x _ _ ls h_i0 h hI va_S.rf hl
theorem mv_X1_holds : mtV yX1_holds RX1 cX1_holds 2 (some .boolean) 1 := ⟨ki_X1_holds, kl_X1_holds, kI_X1, kc_X1_holds, by decide +kernel⟩

/-! X1_by -/
def f_X1_by (i0 : Nat) (x : st) : Option (Int32 × st) := some ((x 20 i0 2), x)
set_option maxHeartbeats 4000000 in
set_option maxRecDepth 100000 in
theorem w_X1_by {p : Program} {l : Launch} {e : Env} {s : State} {m : MethodId} {args : Array Value} {below : List Frame} {meth : Method} {c : Code} {g : gT} {r : Int32} {x' : st} (C : cxt p s m meth c args cX1_by 1 RX1 (some .int)) (G : gst g s) (i0 : Nat) (x : st) (H : Heap) (locs : List Loc) (ls : Array Slot) (h_i0 : gd g 20 i0) (h : f_X1_by i0 x = some (r, x')) (hI : wst g x H) (hS : va_S (zA (gz g)) s.heap H locs) (hl : lv_has ls 1 [(0, .ref (ga g 20 i0))]) : W p l e (rmC 0 0) s m args below meth c H locs 0 0 (MQ below (Qx g (some (.int r)) x') args s 0 0 (zA (gz g))) (F0 m 0 ls []) := by
  obtain ⟨hx, hb, hml, hown, hts, hlk, hrt⟩ := id C
  unfold f_X1_by at h
  refine lv_aload_n hx hb dX1_by_0 rfl (lv_at hl 0 rfl) ?_
  refine w_get C G hI 20 i0 h_i0 (fcE_20 g _ _) rfl in_X1 2 (by decide) kf_X1_16 (fun _ h => h) (v := .int (x 20 i0 2)) rfl dX1_by_1 ?_
  cases h
  exact w_ireti C hI hS dX1_by_4
theorem k_X1_by (l : Launch) (g : gT) (i0 : Nat) (x : st) (r : Int32) (x' : st) (h_i0 : gd g 20 i0) (h : f_X1_by i0 x = some (r, x')) : Kt l yX1_by cX1_by 1 (some .int) 0 0 g [.ref (ga g 20 i0)] x (some (.int r)) x' := by
  refine Kt.of (by decide) (fun p e s m below meth c C G hI => ?_)
  have hl := lv_entry ([.ref (ga g 20 i0)]) (n := 1) (Nat.le_of_ble_eq_true rfl)
  rw [lg_entry_eq]
  generalize (lg_sl ([.ref (ga g 20 i0)]) ++ List.replicate (1 - (lg_sl ([.ref (ga g 20 i0)])).length) Slot.unset).toArray = ls at hl ⊢
  have hl : lv_has ls 1 [(0, .ref (ga g 20 i0))] := hl
  exact w_X1_by C G i0 x _ _ ls h_i0 h hI va_S.rf hl
theorem mv_X1_by : mtV yX1_by RX1 cX1_by 1 (some .int) 0 := ⟨ki_X1_by, kl_X1_by, kI_X1, kc_X1_by, by decide +kernel⟩

/-! X3_catches -/
def f_X3_catches_b35  (x : st) : Option (Int32 × st) := some (0, x)
set_option maxHeartbeats 4000000 in
set_option maxRecDepth 100000 in
theorem w_X3_catches_b35 {p : Program} {l : Launch} {e : Env} {s : State} {m : MethodId} {args : Array Value} {below : List Frame} {meth : Method} {c : Code} {g : gT} {r : Int32} {x' : st} (C : cxt p s m meth c args cX3_catches 3 RX3 (some .boolean)) (G : gst g s)  (x : st) (H : Heap) (locs : List Loc) (ls : Array Slot)  (h : f_X3_catches_b35  x = some (r, x')) (hI : wst g x H) (hS : va_S (zA (gz g)) s.heap H locs) (hl : lv_has ls 3 []) : W p l e (rmC 0 0) s m args below meth c H locs 0 0 (MQ below (Qx g (some (.int r)) x') args s 0 0 (zA (gz g))) (F0 m 35 ls []) := by
  obtain ⟨hx, hb, hml, hown, hts, hlk, hrt⟩ := id C
  unfold f_X3_catches_b35 at h
  refine lv_iconst (v := 0) hx hb dX3_catches_35 (by decide) ?_
  cases h
  exact w_iretz C hI hS (by decide) dX3_catches_36
def f_X3_catches_b31  (x : st) : Option (Int32 × st) := some (1, x)
set_option maxHeartbeats 4000000 in
set_option maxRecDepth 100000 in
theorem w_X3_catches_b31 {p : Program} {l : Launch} {e : Env} {s : State} {m : MethodId} {args : Array Value} {below : List Frame} {meth : Method} {c : Code} {g : gT} {r : Int32} {x' : st} (C : cxt p s m meth c args cX3_catches 3 RX3 (some .boolean)) (G : gst g s)  (x : st) (H : Heap) (locs : List Loc) (ls : Array Slot)  (h : f_X3_catches_b31  x = some (r, x')) (hI : wst g x H) (hS : va_S (zA (gz g)) s.heap H locs) (hl : lv_has ls 3 []) : W p l e (rmC 0 0) s m args below meth c H locs 0 0 (MQ below (Qx g (some (.int r)) x') args s 0 0 (zA (gz g))) (F0 m 31 ls []) := by
  obtain ⟨hx, hb, hml, hown, hts, hlk, hrt⟩ := id C
  unfold f_X3_catches_b31 at h
  refine lv_iconst (v := 1) hx hb dX3_catches_31 (by decide) ?_
  refine lv_goto (tgt := 36) hx hb dX3_catches_32 (by decide) ?_
  cases h
  exact w_iretz C hI hS (by decide) dX3_catches_36
def f_X3_catches (i0 : Nat) (a1 : Int32) (a2 : Int32) (x : st) : Option (Int32 × st) := if a1 < (x 19 i0 0) then (f_X3_catches_b35  x) else (if (x 19 i0 1) ≤ a1 then (f_X3_catches_b35  x) else (if (x 19 i0 2) = 0 then (f_X3_catches_b31  x) else (if (x 19 i0 2) = a2 then (f_X3_catches_b31  x) else (f_X3_catches_b35  x))))
set_option maxHeartbeats 4000000 in
set_option maxRecDepth 100000 in
theorem w_X3_catches {p : Program} {l : Launch} {e : Env} {s : State} {m : MethodId} {args : Array Value} {below : List Frame} {meth : Method} {c : Code} {g : gT} {r : Int32} {x' : st} (C : cxt p s m meth c args cX3_catches 3 RX3 (some .boolean)) (G : gst g s) (i0 : Nat) (a1 : Int32) (a2 : Int32) (x : st) (H : Heap) (locs : List Loc) (ls : Array Slot) (h_i0 : gd g 19 i0) (h : f_X3_catches i0 a1 a2 x = some (r, x')) (hI : wst g x H) (hS : va_S (zA (gz g)) s.heap H locs) (hl : lv_has ls 3 [(0, .ref (ga g 19 i0)), (1, .int a1), (2, .int a2)]) : W p l e (rmC 0 0) s m args below meth c H locs 0 0 (MQ below (Qx g (some (.int r)) x') args s 0 0 (zA (gz g))) (F0 m 0 ls []) := by
  obtain ⟨hx, hb, hml, hown, hts, hlk, hrt⟩ := id C
  unfold f_X3_catches at h
  refine lv_aload_n hx hb dX3_catches_0 rfl (lv_at hl 0 rfl) ?_
  refine w_get C G hI 19 i0 h_i0 (fcE_19 g _ _) rfl in_X3 0 (by decide) kf_X3_7 (fun _ h => h) (v := .int (x 19 i0 0)) rfl dX3_catches_1 ?_
  refine lv_iload_n hx hb dX3_catches_4 rfl (lv_at hl 1 rfl) ?_
  refine lv_icmp_gt (tgt := 35) hx hb dX3_catches_5 (by decide) (fun hc => ?_) (fun hc => ?_)
  · replace h := ite_y hc h
    exact w_X3_catches_b35 C G  x _ _ _  h hI hS (lv_sub hl [] rfl)
  replace h := ite_n hc h
  refine lv_iload_n hx hb dX3_catches_8 rfl (lv_at hl 1 rfl) ?_
  refine lv_aload_n hx hb dX3_catches_9 rfl (lv_at hl 0 rfl) ?_
  refine w_get C G hI 19 i0 h_i0 (fcE_19 g _ _) rfl in_X3 1 (by decide) kf_X3_13 (fun _ h => h) (v := .int (x 19 i0 1)) rfl dX3_catches_10 ?_
  refine lv_icmp_ge (tgt := 35) hx hb dX3_catches_13 (by decide) (fun hc => ?_) (fun hc => ?_)
  · replace h := ite_y hc h
    exact w_X3_catches_b35 C G  x _ _ _  h hI hS (lv_sub hl [] rfl)
  replace h := ite_n hc h
  refine lv_aload_n hx hb dX3_catches_16 rfl (lv_at hl 0 rfl) ?_
  refine w_get C G hI 19 i0 h_i0 (fcE_19 g _ _) rfl in_X3 2 (by decide) kf_X3_16 (fun _ h => h) (v := .int (x 19 i0 2)) rfl dX3_catches_17 ?_
  refine lv_if_eq (tgt := 31) hx hb dX3_catches_20 (by decide) (fun hc => ?_) (fun hc => ?_)
  · replace h := ite_y hc h
    exact w_X3_catches_b31 C G  x _ _ _  h hI hS (lv_sub hl [] rfl)
  replace h := ite_n hc h
  refine lv_aload_n hx hb dX3_catches_23 rfl (lv_at hl 0 rfl) ?_
  refine w_get C G hI 19 i0 h_i0 (fcE_19 g _ _) rfl in_X3 2 (by decide) kf_X3_16 (fun _ h => h) (v := .int (x 19 i0 2)) rfl dX3_catches_24 ?_
  refine lv_iload_n hx hb dX3_catches_27 rfl (lv_at hl 2 rfl) ?_
  refine lv_icmp_ne (tgt := 35) hx hb dX3_catches_28 (by decide) (fun hc => ?_) (fun hc => ?_)
  · replace h := ite_n hc h
    exact w_X3_catches_b35 C G  x _ _ _  h hI hS (lv_sub hl [] rfl)
  replace h := ite_y hc h
  exact w_X3_catches_b31 C G  x _ _ _  h hI hS (lv_sub hl [] rfl)
theorem k_X3_catches (l : Launch) (g : gT) (i0 : Nat) (a1 : Int32) (a2 : Int32) (x : st) (r : Int32) (x' : st) (h_i0 : gd g 19 i0) (h : f_X3_catches i0 a1 a2 x = some (r, x')) : Kt l yX3_catches cX3_catches 3 (some .boolean) 0 0 g [.ref (ga g 19 i0), .int a1, .int a2] x (some (.int r)) x' := by
  refine Kt.of (by decide) (fun p e s m below meth c C G hI => ?_)
  have hl := lv_entry ([.ref (ga g 19 i0), .int a1, .int a2]) (n := 3) (Nat.le_of_ble_eq_true rfl)
  rw [lg_entry_eq]
  generalize (lg_sl ([.ref (ga g 19 i0), .int a1, .int a2]) ++ List.replicate (3 - (lg_sl ([.ref (ga g 19 i0), .int a1, .int a2])).length) Slot.unset).toArray = ls at hl ⊢
  have hl : lv_has ls 3 [(0, .ref (ga g 19 i0)), (1, .int a1), (2, .int a2)] := hl
  exact w_X3_catches C G i0 a1 a2 x _ _ ls h_i0 h hI va_S.rf hl
theorem mv_X3_catches : mtV yX3_catches RX3 cX3_catches 3 (some .boolean) 2 := ⟨ki_X3_catches, kl_X3_catches, kI_X3, kc_X3_catches, by decide +kernel⟩

/-! X3_at -/
def f_X3_at (i0 : Nat) (x : st) : Option (Int32 × st) := some ((x 19 i0 3), x)
set_option maxHeartbeats 4000000 in
set_option maxRecDepth 100000 in
theorem w_X3_at {p : Program} {l : Launch} {e : Env} {s : State} {m : MethodId} {args : Array Value} {below : List Frame} {meth : Method} {c : Code} {g : gT} {r : Int32} {x' : st} (C : cxt p s m meth c args cX3_at 1 RX3 (some .int)) (G : gst g s) (i0 : Nat) (x : st) (H : Heap) (locs : List Loc) (ls : Array Slot) (h_i0 : gd g 19 i0) (h : f_X3_at i0 x = some (r, x')) (hI : wst g x H) (hS : va_S (zA (gz g)) s.heap H locs) (hl : lv_has ls 1 [(0, .ref (ga g 19 i0))]) : W p l e (rmC 0 0) s m args below meth c H locs 0 0 (MQ below (Qx g (some (.int r)) x') args s 0 0 (zA (gz g))) (F0 m 0 ls []) := by
  obtain ⟨hx, hb, hml, hown, hts, hlk, hrt⟩ := id C
  unfold f_X3_at at h
  refine lv_aload_n hx hb dX3_at_0 rfl (lv_at hl 0 rfl) ?_
  refine w_get C G hI 19 i0 h_i0 (fcE_19 g _ _) rfl in_X3 3 (by decide) kf_X3_19 (fun _ h => h) (v := .int (x 19 i0 3)) rfl dX3_at_1 ?_
  cases h
  exact w_ireti C hI hS dX3_at_4
theorem k_X3_at (l : Launch) (g : gT) (i0 : Nat) (x : st) (r : Int32) (x' : st) (h_i0 : gd g 19 i0) (h : f_X3_at i0 x = some (r, x')) : Kt l yX3_at cX3_at 1 (some .int) 0 0 g [.ref (ga g 19 i0)] x (some (.int r)) x' := by
  refine Kt.of (by decide) (fun p e s m below meth c C G hI => ?_)
  have hl := lv_entry ([.ref (ga g 19 i0)]) (n := 1) (Nat.le_of_ble_eq_true rfl)
  rw [lg_entry_eq]
  generalize (lg_sl ([.ref (ga g 19 i0)]) ++ List.replicate (1 - (lg_sl ([.ref (ga g 19 i0)])).length) Slot.unset).toArray = ls at hl ⊢
  have hl : lv_has ls 1 [(0, .ref (ga g 19 i0))] := hl
  exact w_X3_at C G i0 x _ _ ls h_i0 h hI va_S.rf hl
theorem mv_X3_at : mtV yX3_at RX3 cX3_at 1 (some .int) 0 := ⟨ki_X3_at, kl_X3_at, kI_X3, kc_X3_at, by decide +kernel⟩

/-! X5_refuse -/
def f_X5_refuse  (x : st) : Option (Nat × st) := if (x 4 0 6) = 0 then (lets (sx x 4 0 6 1) fun x1 => some (3, x1)) else (lets (sx x 4 0 2 1) fun x2 => some (4, x2))
set_option maxHeartbeats 4000000 in
set_option maxRecDepth 100000 in
theorem w_X5_refuse {p : Program} {l : Launch} {e : Env} {s : State} {m : MethodId} {args : Array Value} {below : List Frame} {meth : Method} {c : Code} {g : gT} {r : Nat} {x' : st} (C : cxt p s m meth c args cX5_refuse 1 RX5 (some (.object "StepBudgets$Outcome"))) (G : gst g s)  (x : st) (H : Heap) (locs : List Loc) (ls : Array Slot)  (h : f_X5_refuse  x = some (r, x')) (hI : wst g x H) (hS : va_S (zA (gz g)) s.heap H locs) (hl : lv_has ls 1 [(0, .ref (ga g 4 0))]) : W p l e (rmC 0 0) s m args below meth c H locs 0 0 (MQ below (Qx g (some (.ref (ge g r))) x') args s 0 0 (zA (gz g))) (F0 m 0 ls []) := by
  obtain ⟨hx, hb, hml, hown, hts, hlk, hrt⟩ := id C
  unfold f_X5_refuse at h
  refine lv_aload_n hx hb dX5_refuse_0 rfl (lv_at hl 0 rfl) ?_
  refine w_get C G hI 4 0 (hI.at1 rfl) (fcE_4 g _ _) rfl in_X5 6 (by decide) kf_X5_25 (fun _ h => h) (v := .int (x 4 0 6)) rfl dX5_refuse_1 ?_
  refine lv_if_eq (tgt := 16) hx hb dX5_refuse_4 (by decide) (fun hc => ?_) (fun hc => ?_)
  · replace h := ite_y hc h
    refine lv_aload_n hx hb dX5_refuse_16 rfl (lv_at hl 0 rfl) ?_
    refine lv_iconst (v := 1) hx hb dX5_refuse_17 (by decide) ?_
    refine w_put C G hI hS 4 0 (hI.at1 rfl) rfl (fcE_4 g _ _) rfl in_X5 tyX5 tyX5_ok nmX5 6 (by decide) kf_X5_25 (fun _ h => h) rfl (ty := .boolean) (y := 1) (by decide +kernel) rfl rfl (Nat.le_of_ble_eq_true rfl) rfl dX5_refuse_18 (fun H locs hI hS => ?_)
    obtain ⟨x1, e_x1, h⟩ := lets_some h
    rw [← e_x1] at hI
    refine w_out C G hS 3 (by decide) rfl kf_X5_45 dX5_refuse_21 ?_
    cases h
    exact w_aret C hI hS dX5_refuse_24
  replace h := ite_n hc h
  refine lv_aload_n hx hb dX5_refuse_7 rfl (lv_at hl 0 rfl) ?_
  refine lv_iconst (v := 1) hx hb dX5_refuse_8 (by decide) ?_
  refine w_put C G hI hS 4 0 (hI.at1 rfl) rfl (fcE_4 g _ _) rfl in_X5 tyX5 tyX5_ok nmX5 2 (by decide) kf_X5_29 (fun _ h => h) rfl (ty := .boolean) (y := 1) (by decide +kernel) rfl rfl (Nat.le_of_ble_eq_true rfl) rfl dX5_refuse_9 (fun H locs hI hS => ?_)
  obtain ⟨x2, e_x2, h⟩ := lets_some h
  rw [← e_x2] at hI
  refine w_out C G hS 4 (by decide) rfl kf_X5_42 dX5_refuse_12 ?_
  cases h
  exact w_aret C hI hS dX5_refuse_15
theorem k_X5_refuse (l : Launch) (g : gT)  (x : st) (r : Nat) (x' : st)  (h : f_X5_refuse  x = some (r, x')) : Kt l yX5_refuse cX5_refuse 1 (some (.object "StepBudgets$Outcome")) 0 0 g [.ref (ga g 4 0)] x (some (.ref (ge g r))) x' := by
  refine Kt.of (by decide) (fun p e s m below meth c C G hI => ?_)
  have hl := lv_entry ([.ref (ga g 4 0)]) (n := 1) (Nat.le_of_ble_eq_true rfl)
  rw [lg_entry_eq]
  generalize (lg_sl ([.ref (ga g 4 0)]) ++ List.replicate (1 - (lg_sl ([.ref (ga g 4 0)])).length) Slot.unset).toArray = ls at hl ⊢
  have hl : lv_has ls 1 [(0, .ref (ga g 4 0))] := hl
  exact w_X5_refuse C G  x _ _ ls  h hI va_S.rf hl
theorem mv_X5_refuse : mtV yX5_refuse RX5 cX5_refuse 1 (some (.object "StepBudgets$Outcome")) 0 := ⟨ki_X5_refuse, kl_X5_refuse, kI_X5, kc_X5_refuse, by decide +kernel⟩

/-! X5_count -/
def f_X5_count_b78  (x : st) : Option (Nat × st) := some (0, x)
set_option maxHeartbeats 4000000 in
set_option maxRecDepth 100000 in
theorem w_X5_count_b78 {p : Program} {l : Launch} {e : Env} {s : State} {m : MethodId} {args : Array Value} {below : List Frame} {meth : Method} {c : Code} {g : gT} {r : Nat} {x' : st} (C : cxt p s m meth c args cX5_count 3 RX5 (some (.object "StepBudgets$Outcome"))) (G : gst g s)  (x : st) (H : Heap) (locs : List Loc) (ls : Array Slot)  (h : f_X5_count_b78  x = some (r, x')) (hI : wst g x H) (hS : va_S (zA (gz g)) s.heap H locs) (hl : lv_has ls 3 []) : W p l e (rmC 1 20) s m args below meth c H locs 0 0 (MQ below (Qx g (some (.ref (ge g r))) x') args s 0 0 (zA (gz g))) (F0 m 78 ls []) := by
  obtain ⟨hx, hb, hml, hown, hts, hlk, hrt⟩ := id C
  unfold f_X5_count_b78 at h
  refine w_out C G hS 0 (by decide) rfl kf_X5_36 dX5_count_78 ?_
  cases h
  exact w_aret C hI hS dX5_count_81
def f_X5_count_b40 (v1 : Int32) (s0 : Int32) (s1 : Int32) (x : st) : Option (Nat × st) := if s1 ≤ s0 then (if (x 4 0 6) = 0 then (lets (sx x 4 0 0 ((x 4 0 0) + v1)) fun x1 => f_X5_count_b78  x1) else (lets (sx x 4 0 1 ((x 4 0 1) + v1)) fun x2 => f_X5_count_b78  x2)) else (bnd (f_X5_refuse  x) fun r4 x3 => some (r4, x3))
set_option maxHeartbeats 4000000 in
set_option maxRecDepth 100000 in
theorem w_X5_count_b40 {p : Program} {l : Launch} {e : Env} {s : State} {m : MethodId} {args : Array Value} {below : List Frame} {meth : Method} {c : Code} {g : gT} {r : Nat} {x' : st} (C : cxt p s m meth c args cX5_count 3 RX5 (some (.object "StepBudgets$Outcome"))) (G : gst g s) (v1 : Int32) (s0 : Int32) (s1 : Int32) (x : st) (H : Heap) (locs : List Loc) (ls : Array Slot)  (h : f_X5_count_b40 v1 s0 s1 x = some (r, x')) (hI : wst g x H) (hS : va_S (zA (gz g)) s.heap H locs) (hl : lv_has ls 3 [(0, .ref (ga g 4 0)), (1, .int v1)]) : W p l e (rmC 1 20) s m args below meth c H locs 0 0 (MQ below (Qx g (some (.ref (ge g r))) x') args s 0 0 (zA (gz g))) (F0 m 40 ls [.int s0, .int s1]) := by
  obtain ⟨hx, hb, hml, hown, hts, hlk, hrt⟩ := id C
  unfold f_X5_count_b40 at h
  refine lv_icmp_le (tgt := 48) hx hb dX5_count_40 (by decide) (fun hc => ?_) (fun hc => ?_)
  · replace h := ite_y hc h
    refine lv_aload_n hx hb dX5_count_48 rfl (lv_at hl 0 rfl) ?_
    refine w_get C G hI 4 0 (hI.at1 rfl) (fcE_4 g _ _) rfl in_X5 6 (by decide) kf_X5_25 (fun _ h => h) (v := .int (x 4 0 6)) rfl dX5_count_49 ?_
    refine lv_if_eq (tgt := 68) hx hb dX5_count_52 (by decide) (fun hc => ?_) (fun hc => ?_)
    · replace h := ite_y hc h
      refine lv_aload_n hx hb dX5_count_68 rfl (lv_at hl 0 rfl) ?_
      refine lv_dup hx hb dX5_count_69 rfl ?_
      refine w_get C G hI 4 0 (hI.at1 rfl) (fcE_4 g _ _) rfl in_X5 0 (by decide) kf_X5_16 (fun _ h => h) (v := .int (x 4 0 0)) rfl dX5_count_70 ?_
      refine lv_iload_n hx hb dX5_count_73 rfl (lv_at hl 1 rfl) ?_
      refine lv_iadd hx hb dX5_count_74 ?_
      refine w_put C G hI hS 4 0 (hI.at1 rfl) rfl (fcE_4 g _ _) rfl in_X5 tyX5 tyX5_ok nmX5 0 (by decide) kf_X5_16 (fun _ h => h) rfl (ty := .int) (y := ((x 4 0 0) + v1)) (by decide +kernel) rfl rfl (Nat.le_of_ble_eq_true rfl) rfl dX5_count_75 (fun H locs hI hS => ?_)
      obtain ⟨x1, e_x1, h⟩ := lets_some h
      rw [← e_x1] at hI
      exact w_X5_count_b78 C G  x1 _ _ _  h hI hS (lv_sub hl [] rfl)
    replace h := ite_n hc h
    refine lv_aload_n hx hb dX5_count_55 rfl (lv_at hl 0 rfl) ?_
    refine lv_dup hx hb dX5_count_56 rfl ?_
    refine w_get C G hI 4 0 (hI.at1 rfl) (fcE_4 g _ _) rfl in_X5 1 (by decide) kf_X5_19 (fun _ h => h) (v := .int (x 4 0 1)) rfl dX5_count_57 ?_
    refine lv_iload_n hx hb dX5_count_60 rfl (lv_at hl 1 rfl) ?_
    refine lv_iadd hx hb dX5_count_61 ?_
    refine w_put C G hI hS 4 0 (hI.at1 rfl) rfl (fcE_4 g _ _) rfl in_X5 tyX5 tyX5_ok nmX5 1 (by decide) kf_X5_19 (fun _ h => h) rfl (ty := .int) (y := ((x 4 0 1) + v1)) (by decide +kernel) rfl rfl (Nat.le_of_ble_eq_true rfl) rfl dX5_count_62 (fun H locs hI hS => ?_)
    obtain ⟨x2, e_x2, h⟩ := lets_some h
    rw [← e_x2] at hI
    refine lv_goto (tgt := 78) hx hb dX5_count_65 (by decide) ?_
    exact w_X5_count_b78 C G  x2 _ _ _  h hI hS (lv_sub hl [] rfl)
  replace h := ite_n hc h
  refine lv_aload_n hx hb dX5_count_43 rfl (lv_at hl 0 rfl) ?_
  obtain ⟨r4, x3, hq5, h⟩ := bnd_some h
  refine w_callV (fr := 0) (lo := 0) C G hI hS 4 0 (hI.at1 rfl) (fcE_4 g _ _) rfl mv_X5_refuse km_X5_32 [] (k_X5_refuse l g  x _ _  hq5) rfl (by first | exact ⟨by decide, by decide⟩ | exact ⟨by show _ ≤ _ + _; omega, by show _ ≤ _ + _; omega⟩) ⟨Nat.zero_le _, Nat.zero_le _⟩ hl.1 rfl (Nat.le_of_ble_eq_true rfl) dX5_count_44 (fun H locs hI hS => ?_)
  cases h
  exact w_aret C hI hS dX5_count_47
def f_X5_count_b18 (v1 : Int32) (s0 : Int32) (x : st) : Option (Nat × st) := if (x 4 0 6) = 0 then (f_X5_count_b40 v1 (x 4 0 3) (s0 + v1) x) else (f_X5_count_b40 v1 (x 4 0 4) (s0 + v1) x)
set_option maxHeartbeats 4000000 in
set_option maxRecDepth 100000 in
theorem w_X5_count_b18 {p : Program} {l : Launch} {e : Env} {s : State} {m : MethodId} {args : Array Value} {below : List Frame} {meth : Method} {c : Code} {g : gT} {r : Nat} {x' : st} (C : cxt p s m meth c args cX5_count 3 RX5 (some (.object "StepBudgets$Outcome"))) (G : gst g s) (v1 : Int32) (s0 : Int32) (x : st) (H : Heap) (locs : List Loc) (ls : Array Slot)  (h : f_X5_count_b18 v1 s0 x = some (r, x')) (hI : wst g x H) (hS : va_S (zA (gz g)) s.heap H locs) (hl : lv_has ls 3 [(0, .ref (ga g 4 0)), (1, .int v1)]) : W p l e (rmC 1 20) s m args below meth c H locs 0 0 (MQ below (Qx g (some (.ref (ge g r))) x') args s 0 0 (zA (gz g))) (F0 m 18 ls [.int s0]) := by
  obtain ⟨hx, hb, hml, hown, hts, hlk, hrt⟩ := id C
  unfold f_X5_count_b18 at h
  refine lv_istore_n (lv' := [(2, .int s0), (0, .ref (ga g 4 0)), (1, .int v1)]) hx hb dX5_count_18 rfl hl (by decide) rfl (fun ls hl => ?_)
  refine lv_iload_n hx hb dX5_count_19 rfl (lv_at hl 0 rfl) ?_
  refine lv_iload_n hx hb dX5_count_20 rfl (lv_at hl 2 rfl) ?_
  refine lv_iadd hx hb dX5_count_21 ?_
  refine lv_aload_n hx hb dX5_count_22 rfl (lv_at hl 1 rfl) ?_
  refine w_get C G hI 4 0 (hI.at1 rfl) (fcE_4 g _ _) rfl in_X5 6 (by decide) kf_X5_25 (fun _ h => h) (v := .int (x 4 0 6)) rfl dX5_count_23 ?_
  refine lv_if_eq (tgt := 36) hx hb dX5_count_26 (by decide) (fun hc => ?_) (fun hc => ?_)
  · replace h := ite_y hc h
    refine lv_aload_n hx hb dX5_count_36 rfl (lv_at hl 1 rfl) ?_
    refine w_get C G hI 4 0 (hI.at1 rfl) (fcE_4 g _ _) rfl in_X5 3 (by decide) kf_X5_7 (fun _ h => h) (v := .int (x 4 0 3)) rfl dX5_count_37 ?_
    exact w_X5_count_b40 C G v1 (x 4 0 3) (s0 + v1) x _ _ _  h hI hS (lv_sub hl [1, 2] rfl)
  replace h := ite_n hc h
  refine lv_aload_n hx hb dX5_count_29 rfl (lv_at hl 1 rfl) ?_
  refine w_get C G hI 4 0 (hI.at1 rfl) (fcE_4 g _ _) rfl in_X5 4 (by decide) kf_X5_13 (fun _ h => h) (v := .int (x 4 0 4)) rfl dX5_count_30 ?_
  refine lv_goto (tgt := 40) hx hb dX5_count_33 (by decide) ?_
  exact w_X5_count_b40 C G v1 (x 4 0 4) (s0 + v1) x _ _ _  h hI hS (lv_sub hl [1, 2] rfl)
def f_X5_count (a1 : Int32) (x : st) : Option (Nat × st) := if (x 4 0 6) = 0 then (f_X5_count_b18 a1 (x 4 0 0) x) else (f_X5_count_b18 a1 (x 4 0 1) x)
set_option maxHeartbeats 4000000 in
set_option maxRecDepth 100000 in
theorem w_X5_count {p : Program} {l : Launch} {e : Env} {s : State} {m : MethodId} {args : Array Value} {below : List Frame} {meth : Method} {c : Code} {g : gT} {r : Nat} {x' : st} (C : cxt p s m meth c args cX5_count 3 RX5 (some (.object "StepBudgets$Outcome"))) (G : gst g s) (a1 : Int32) (x : st) (H : Heap) (locs : List Loc) (ls : Array Slot)  (h : f_X5_count a1 x = some (r, x')) (hI : wst g x H) (hS : va_S (zA (gz g)) s.heap H locs) (hl : lv_has ls 3 [(0, .ref (ga g 4 0)), (1, .int a1)]) : W p l e (rmC 1 20) s m args below meth c H locs 0 0 (MQ below (Qx g (some (.ref (ge g r))) x') args s 0 0 (zA (gz g))) (F0 m 0 ls []) := by
  obtain ⟨hx, hb, hml, hown, hts, hlk, hrt⟩ := id C
  unfold f_X5_count at h
  refine lv_aload_n hx hb dX5_count_0 rfl (lv_at hl 0 rfl) ?_
  refine w_get C G hI 4 0 (hI.at1 rfl) (fcE_4 g _ _) rfl in_X5 6 (by decide) kf_X5_25 (fun _ h => h) (v := .int (x 4 0 6)) rfl dX5_count_1 ?_
  refine lv_if_eq (tgt := 14) hx hb dX5_count_4 (by decide) (fun hc => ?_) (fun hc => ?_)
  · replace h := ite_y hc h
    refine lv_aload_n hx hb dX5_count_14 rfl (lv_at hl 0 rfl) ?_
    refine w_get C G hI 4 0 (hI.at1 rfl) (fcE_4 g _ _) rfl in_X5 0 (by decide) kf_X5_16 (fun _ h => h) (v := .int (x 4 0 0)) rfl dX5_count_15 ?_
    exact w_X5_count_b18 C G a1 (x 4 0 0) x _ _ _  h hI hS (lv_sub hl [0, 1] rfl)
  replace h := ite_n hc h
  refine lv_aload_n hx hb dX5_count_7 rfl (lv_at hl 0 rfl) ?_
  refine w_get C G hI 4 0 (hI.at1 rfl) (fcE_4 g _ _) rfl in_X5 1 (by decide) kf_X5_19 (fun _ h => h) (v := .int (x 4 0 1)) rfl dX5_count_8 ?_
  refine lv_goto (tgt := 18) hx hb dX5_count_11 (by decide) ?_
  exact w_X5_count_b18 C G a1 (x 4 0 1) x _ _ _  h hI hS (lv_sub hl [0, 1] rfl)
theorem k_X5_count (l : Launch) (g : gT) (a1 : Int32) (x : st) (r : Nat) (x' : st)  (h : f_X5_count a1 x = some (r, x')) : Kt l yX5_count cX5_count 3 (some (.object "StepBudgets$Outcome")) 1 20 g [.ref (ga g 4 0), .int a1] x (some (.ref (ge g r))) x' := by
  refine Kt.of (by decide) (fun p e s m below meth c C G hI => ?_)
  have hl := lv_entry ([.ref (ga g 4 0), .int a1]) (n := 3) (Nat.le_of_ble_eq_true rfl)
  rw [lg_entry_eq]
  generalize (lg_sl ([.ref (ga g 4 0), .int a1]) ++ List.replicate (3 - (lg_sl ([.ref (ga g 4 0), .int a1])).length) Slot.unset).toArray = ls at hl ⊢
  have hl : lv_has ls 3 [(0, .ref (ga g 4 0)), (1, .int a1)] := hl
  exact w_X5_count C G a1 x _ _ ls  h hI va_S.rf hl
theorem mv_X5_count : mtV yX5_count RX5 cX5_count 3 (some (.object "StepBudgets$Outcome")) 1 := ⟨ki_X5_count, kl_X5_count, kI_X5, kc_X5_count, by decide +kernel⟩

/-! X5_countThrow -/
def f_X5_countThrow  (x : st) : Option (Nat × st) := if (x 4 0 5) < 24 then (lets (sx x 4 0 5 ((x 4 0 5) + 1)) fun x1 => some (0, x1)) else (bnd (f_X5_refuse  x) fun r3 x2 => some (r3, x2))
set_option maxHeartbeats 4000000 in
set_option maxRecDepth 100000 in
theorem w_X5_countThrow {p : Program} {l : Launch} {e : Env} {s : State} {m : MethodId} {args : Array Value} {below : List Frame} {meth : Method} {c : Code} {g : gT} {r : Nat} {x' : st} (C : cxt p s m meth c args cX5_countThrow 1 RX5 (some (.object "StepBudgets$Outcome"))) (G : gst g s)  (x : st) (H : Heap) (locs : List Loc) (ls : Array Slot)  (h : f_X5_countThrow  x = some (r, x')) (hI : wst g x H) (hS : va_S (zA (gz g)) s.heap H locs) (hl : lv_has ls 1 [(0, .ref (ga g 4 0))]) : W p l e (rmC 1 20) s m args below meth c H locs 0 0 (MQ below (Qx g (some (.ref (ge g r))) x') args s 0 0 (zA (gz g))) (F0 m 0 ls []) := by
  obtain ⟨hx, hb, hml, hown, hts, hlk, hrt⟩ := id C
  unfold f_X5_countThrow at h
  refine lv_aload_n hx hb dX5_countThrow_0 rfl (lv_at hl 0 rfl) ?_
  refine w_get C G hI 4 0 (hI.at1 rfl) (fcE_4 g _ _) rfl in_X5 5 (by decide) kf_X5_22 (fun _ h => h) (v := .int (x 4 0 5)) rfl dX5_countThrow_1 ?_
  refine lv_bipush (v := 24) hx hb dX5_countThrow_4 (by decide) ?_
  refine lv_icmp_lt (tgt := 14) hx hb dX5_countThrow_6 (by decide) (fun hc => ?_) (fun hc => ?_)
  · replace h := ite_y hc h
    refine lv_aload_n hx hb dX5_countThrow_14 rfl (lv_at hl 0 rfl) ?_
    refine lv_dup hx hb dX5_countThrow_15 rfl ?_
    refine w_get C G hI 4 0 (hI.at1 rfl) (fcE_4 g _ _) rfl in_X5 5 (by decide) kf_X5_22 (fun _ h => h) (v := .int (x 4 0 5)) rfl dX5_countThrow_16 ?_
    refine lv_iconst (v := 1) hx hb dX5_countThrow_19 (by decide) ?_
    refine lv_iadd hx hb dX5_countThrow_20 ?_
    refine w_put C G hI hS 4 0 (hI.at1 rfl) rfl (fcE_4 g _ _) rfl in_X5 tyX5 tyX5_ok nmX5 5 (by decide) kf_X5_22 (fun _ h => h) rfl (ty := .int) (y := ((x 4 0 5) + 1)) (by decide +kernel) rfl rfl (Nat.le_of_ble_eq_true rfl) rfl dX5_countThrow_21 (fun H locs hI hS => ?_)
    obtain ⟨x1, e_x1, h⟩ := lets_some h
    rw [← e_x1] at hI
    refine w_out C G hS 0 (by decide) rfl kf_X5_36 dX5_countThrow_24 ?_
    cases h
    exact w_aret C hI hS dX5_countThrow_27
  replace h := ite_n hc h
  refine lv_aload_n hx hb dX5_countThrow_9 rfl (lv_at hl 0 rfl) ?_
  obtain ⟨r3, x2, hq4, h⟩ := bnd_some h
  refine w_callV (fr := 0) (lo := 0) C G hI hS 4 0 (hI.at1 rfl) (fcE_4 g _ _) rfl mv_X5_refuse km_X5_32 [] (k_X5_refuse l g  x _ _  hq4) rfl (by first | exact ⟨by decide, by decide⟩ | exact ⟨by show _ ≤ _ + _; omega, by show _ ≤ _ + _; omega⟩) ⟨Nat.zero_le _, Nat.zero_le _⟩ hl.1 rfl (Nat.le_of_ble_eq_true rfl) dX5_countThrow_10 (fun H locs hI hS => ?_)
  cases h
  exact w_aret C hI hS dX5_countThrow_13
theorem k_X5_countThrow (l : Launch) (g : gT)  (x : st) (r : Nat) (x' : st)  (h : f_X5_countThrow  x = some (r, x')) : Kt l yX5_countThrow cX5_countThrow 1 (some (.object "StepBudgets$Outcome")) 1 20 g [.ref (ga g 4 0)] x (some (.ref (ge g r))) x' := by
  refine Kt.of (by decide) (fun p e s m below meth c C G hI => ?_)
  have hl := lv_entry ([.ref (ga g 4 0)]) (n := 1) (Nat.le_of_ble_eq_true rfl)
  rw [lg_entry_eq]
  generalize (lg_sl ([.ref (ga g 4 0)]) ++ List.replicate (1 - (lg_sl ([.ref (ga g 4 0)])).length) Slot.unset).toArray = ls at hl ⊢
  have hl : lv_has ls 1 [(0, .ref (ga g 4 0))] := hl
  exact w_X5_countThrow C G  x _ _ ls  h hI va_S.rf hl
theorem mv_X5_countThrow : mtV yX5_countThrow RX5 cX5_countThrow 1 (some (.object "StepBudgets$Outcome")) 0 := ⟨ki_X5_countThrow, kl_X5_countThrow, kI_X5, kc_X5_countThrow, by decide +kernel⟩

/-! X5_begin -/
def f_X5_begin (a1 : Int32) (a2 : Int32) (x : st) : Option (st) := lets (sx x 4 0 3 a1) fun x1 => lets (sx x1 4 0 4 a2) fun x2 => lets (sx x2 4 0 0 0) fun x3 => lets (sx x3 4 0 1 0) fun x4 => lets (sx x4 4 0 5 0) fun x5 => lets (sx x5 4 0 6 0) fun x6 => lets (sx x6 4 0 2 0) fun x7 => some x7
set_option maxHeartbeats 4000000 in
set_option maxRecDepth 100000 in
theorem w_X5_begin {p : Program} {l : Launch} {e : Env} {s : State} {m : MethodId} {args : Array Value} {below : List Frame} {meth : Method} {c : Code} {g : gT} {x' : st} (C : cxt p s m meth c args cX5_begin 3 RX5 none) (G : gst g s) (a1 : Int32) (a2 : Int32) (x : st) (H : Heap) (locs : List Loc) (ls : Array Slot)  (h : f_X5_begin a1 a2 x = some x') (hI : wst g x H) (hS : va_S (zA (gz g)) s.heap H locs) (hl : lv_has ls 3 [(0, .ref (ga g 4 0)), (1, .int a1), (2, .int a2)]) : W p l e (rmC 0 0) s m args below meth c H locs 0 0 (MQ below (Qx g none x') args s 0 0 (zA (gz g))) (F0 m 0 ls []) := by
  obtain ⟨hx, hb, hml, hown, hts, hlk, hrt⟩ := id C
  unfold f_X5_begin at h
  refine lv_aload_n hx hb dX5_begin_0 rfl (lv_at hl 0 rfl) ?_
  refine lv_iload_n hx hb dX5_begin_1 rfl (lv_at hl 1 rfl) ?_
  refine w_put C G hI hS 4 0 (hI.at1 rfl) rfl (fcE_4 g _ _) rfl in_X5 tyX5 tyX5_ok nmX5 3 (by decide) kf_X5_7 (fun _ h => h) rfl (ty := .int) (y := a1) (by decide +kernel) rfl rfl (Nat.le_of_ble_eq_true rfl) rfl dX5_begin_2 (fun H locs hI hS => ?_)
  obtain ⟨x1, e_x1, h⟩ := lets_some h
  rw [← e_x1] at hI
  refine lv_aload_n hx hb dX5_begin_5 rfl (lv_at hl 0 rfl) ?_
  refine lv_iload_n hx hb dX5_begin_6 rfl (lv_at hl 2 rfl) ?_
  refine w_put C G hI hS 4 0 (hI.at1 rfl) rfl (fcE_4 g _ _) rfl in_X5 tyX5 tyX5_ok nmX5 4 (by decide) kf_X5_13 (fun _ h => h) rfl (ty := .int) (y := a2) (by decide +kernel) rfl rfl (Nat.le_of_ble_eq_true rfl) rfl dX5_begin_7 (fun H locs hI hS => ?_)
  obtain ⟨x2, e_x2, h⟩ := lets_some h
  rw [← e_x2] at hI
  refine lv_aload_n hx hb dX5_begin_10 rfl (lv_at hl 0 rfl) ?_
  refine lv_iconst (v := 0) hx hb dX5_begin_11 (by decide) ?_
  refine w_put C G hI hS 4 0 (hI.at1 rfl) rfl (fcE_4 g _ _) rfl in_X5 tyX5 tyX5_ok nmX5 0 (by decide) kf_X5_16 (fun _ h => h) rfl (ty := .int) (y := 0) (by decide +kernel) rfl rfl (Nat.le_of_ble_eq_true rfl) rfl dX5_begin_12 (fun H locs hI hS => ?_)
  obtain ⟨x3, e_x3, h⟩ := lets_some h
  rw [← e_x3] at hI
  refine lv_aload_n hx hb dX5_begin_15 rfl (lv_at hl 0 rfl) ?_
  refine lv_iconst (v := 0) hx hb dX5_begin_16 (by decide) ?_
  refine w_put C G hI hS 4 0 (hI.at1 rfl) rfl (fcE_4 g _ _) rfl in_X5 tyX5 tyX5_ok nmX5 1 (by decide) kf_X5_19 (fun _ h => h) rfl (ty := .int) (y := 0) (by decide +kernel) rfl rfl (Nat.le_of_ble_eq_true rfl) rfl dX5_begin_17 (fun H locs hI hS => ?_)
  obtain ⟨x4, e_x4, h⟩ := lets_some h
  rw [← e_x4] at hI
  refine lv_aload_n hx hb dX5_begin_20 rfl (lv_at hl 0 rfl) ?_
  refine lv_iconst (v := 0) hx hb dX5_begin_21 (by decide) ?_
  refine w_put C G hI hS 4 0 (hI.at1 rfl) rfl (fcE_4 g _ _) rfl in_X5 tyX5 tyX5_ok nmX5 5 (by decide) kf_X5_22 (fun _ h => h) rfl (ty := .int) (y := 0) (by decide +kernel) rfl rfl (Nat.le_of_ble_eq_true rfl) rfl dX5_begin_22 (fun H locs hI hS => ?_)
  obtain ⟨x5, e_x5, h⟩ := lets_some h
  rw [← e_x5] at hI
  refine lv_aload_n hx hb dX5_begin_25 rfl (lv_at hl 0 rfl) ?_
  refine lv_iconst (v := 0) hx hb dX5_begin_26 (by decide) ?_
  refine w_put C G hI hS 4 0 (hI.at1 rfl) rfl (fcE_4 g _ _) rfl in_X5 tyX5 tyX5_ok nmX5 6 (by decide) kf_X5_25 (fun _ h => h) rfl (ty := .boolean) (y := 0) (by decide +kernel) rfl rfl (Nat.le_of_ble_eq_true rfl) rfl dX5_begin_27 (fun H locs hI hS => ?_)
  obtain ⟨x6, e_x6, h⟩ := lets_some h
  rw [← e_x6] at hI
  refine lv_aload_n hx hb dX5_begin_30 rfl (lv_at hl 0 rfl) ?_
  refine lv_iconst (v := 0) hx hb dX5_begin_31 (by decide) ?_
  refine w_put C G hI hS 4 0 (hI.at1 rfl) rfl (fcE_4 g _ _) rfl in_X5 tyX5 tyX5_ok nmX5 2 (by decide) kf_X5_29 (fun _ h => h) rfl (ty := .boolean) (y := 0) (by decide +kernel) rfl rfl (Nat.le_of_ble_eq_true rfl) rfl dX5_begin_32 (fun H locs hI hS => ?_)
  obtain ⟨x7, e_x7, h⟩ := lets_some h
  rw [← e_x7] at hI
  cases h
  exact w_vret C hI hS dX5_begin_35
theorem k_X5_begin (l : Launch) (g : gT) (a1 : Int32) (a2 : Int32) (x : st) (x' : st)  (h : f_X5_begin a1 a2 x = some x') : Kt l yX5_begin cX5_begin 3 none 0 0 g [.ref (ga g 4 0), .int a1, .int a2] x none x' := by
  refine Kt.of (by decide) (fun p e s m below meth c C G hI => ?_)
  have hl := lv_entry ([.ref (ga g 4 0), .int a1, .int a2]) (n := 3) (Nat.le_of_ble_eq_true rfl)
  rw [lg_entry_eq]
  generalize (lg_sl ([.ref (ga g 4 0), .int a1, .int a2]) ++ List.replicate (3 - (lg_sl ([.ref (ga g 4 0), .int a1, .int a2])).length) Slot.unset).toArray = ls at hl ⊢
  have hl : lv_has ls 3 [(0, .ref (ga g 4 0)), (1, .int a1), (2, .int a2)] := hl
  exact w_X5_begin C G a1 a2 x _ _ ls  h hI va_S.rf hl
theorem mv_X5_begin : mtV yX5_begin RX5 cX5_begin 3 none 2 := ⟨ki_X5_begin, kl_X5_begin, kI_X5, kc_X5_begin, by decide +kernel⟩

/-! X8_begin -/
def f_X8_begin  (x : st) : Option (st) := lets (sx x 2 0 0 0) fun x1 => lets (sx x1 2 0 1 0) fun x2 => lets (sx x2 2 0 2 0) fun x3 => lets (sx x3 2 0 3 0) fun x4 => lets (sx x4 2 0 4 0) fun x5 => lets (sx x5 2 0 5 0) fun x6 => some x6
set_option maxHeartbeats 4000000 in
set_option maxRecDepth 100000 in
theorem w_X8_begin {p : Program} {l : Launch} {e : Env} {s : State} {m : MethodId} {args : Array Value} {below : List Frame} {meth : Method} {c : Code} {g : gT} {x' : st} (C : cxt p s m meth c args cX8_begin 1 RX8 none) (G : gst g s)  (x : st) (H : Heap) (locs : List Loc) (ls : Array Slot)  (h : f_X8_begin  x = some x') (hI : wst g x H) (hS : va_S (zA (gz g)) s.heap H locs) (hl : lv_has ls 1 [(0, .ref (ga g 2 0))]) : W p l e (rmC 0 0) s m args below meth c H locs 0 0 (MQ below (Qx g none x') args s 0 0 (zA (gz g))) (F0 m 0 ls []) := by
  obtain ⟨hx, hb, hml, hown, hts, hlk, hrt⟩ := id C
  unfold f_X8_begin at h
  refine lv_aload_n hx hb dX8_begin_0 rfl (lv_at hl 0 rfl) ?_
  refine lv_iconst (v := 0) hx hb dX8_begin_1 (by decide) ?_
  refine w_put C G hI hS 2 0 (hI.at1 rfl) rfl (fcE_2 g _ _) rfl in_X8 tyX8 tyX8_ok nmX8 0 (by decide) kf_X8_15 (fun _ h => h) rfl (ty := .int) (y := 0) (by decide +kernel) rfl rfl (Nat.le_of_ble_eq_true rfl) rfl dX8_begin_2 (fun H locs hI hS => ?_)
  obtain ⟨x1, e_x1, h⟩ := lets_some h
  rw [← e_x1] at hI
  refine lv_aload_n hx hb dX8_begin_5 rfl (lv_at hl 0 rfl) ?_
  refine lv_iconst (v := 0) hx hb dX8_begin_6 (by decide) ?_
  refine w_put C G hI hS 2 0 (hI.at1 rfl) rfl (fcE_2 g _ _) rfl in_X8 tyX8 tyX8_ok nmX8 1 (by decide) kf_X8_19 (fun _ h => h) rfl (ty := .int) (y := 0) (by decide +kernel) rfl rfl (Nat.le_of_ble_eq_true rfl) rfl dX8_begin_7 (fun H locs hI hS => ?_)
  obtain ⟨x2, e_x2, h⟩ := lets_some h
  rw [← e_x2] at hI
  refine lv_aload_n hx hb dX8_begin_10 rfl (lv_at hl 0 rfl) ?_
  refine lv_iconst (v := 0) hx hb dX8_begin_11 (by decide) ?_
  refine w_put C G hI hS 2 0 (hI.at1 rfl) rfl (fcE_2 g _ _) rfl in_X8 tyX8 tyX8_ok nmX8 2 (by decide) kf_X8_22 (fun _ h => h) rfl (ty := .int) (y := 0) (by decide +kernel) rfl rfl (Nat.le_of_ble_eq_true rfl) rfl dX8_begin_12 (fun H locs hI hS => ?_)
  obtain ⟨x3, e_x3, h⟩ := lets_some h
  rw [← e_x3] at hI
  refine lv_aload_n hx hb dX8_begin_15 rfl (lv_at hl 0 rfl) ?_
  refine lv_iconst (v := 0) hx hb dX8_begin_16 (by decide) ?_
  refine w_put C G hI hS 2 0 (hI.at1 rfl) rfl (fcE_2 g _ _) rfl in_X8 tyX8 tyX8_ok nmX8 3 (by decide) kf_X8_25 (fun _ h => h) rfl (ty := .int) (y := 0) (by decide +kernel) rfl rfl (Nat.le_of_ble_eq_true rfl) rfl dX8_begin_17 (fun H locs hI hS => ?_)
  obtain ⟨x4, e_x4, h⟩ := lets_some h
  rw [← e_x4] at hI
  refine lv_aload_n hx hb dX8_begin_20 rfl (lv_at hl 0 rfl) ?_
  refine lv_iconst (v := 0) hx hb dX8_begin_21 (by decide) ?_
  refine w_put C G hI hS 2 0 (hI.at1 rfl) rfl (fcE_2 g _ _) rfl in_X8 tyX8 tyX8_ok nmX8 4 (by decide) kf_X8_28 (fun _ h => h) rfl (ty := .int) (y := 0) (by decide +kernel) rfl rfl (Nat.le_of_ble_eq_true rfl) rfl dX8_begin_22 (fun H locs hI hS => ?_)
  obtain ⟨x5, e_x5, h⟩ := lets_some h
  rw [← e_x5] at hI
  refine lv_aload_n hx hb dX8_begin_25 rfl (lv_at hl 0 rfl) ?_
  refine lv_iconst (v := 0) hx hb dX8_begin_26 (by decide) ?_
  refine w_put C G hI hS 2 0 (hI.at1 rfl) rfl (fcE_2 g _ _) rfl in_X8 tyX8 tyX8_ok nmX8 5 (by decide) kf_X8_31 (fun _ h => h) rfl (ty := .int) (y := 0) (by decide +kernel) rfl rfl (Nat.le_of_ble_eq_true rfl) rfl dX8_begin_27 (fun H locs hI hS => ?_)
  obtain ⟨x6, e_x6, h⟩ := lets_some h
  rw [← e_x6] at hI
  cases h
  exact w_vret C hI hS dX8_begin_30
theorem k_X8_begin (l : Launch) (g : gT)  (x : st) (x' : st)  (h : f_X8_begin  x = some x') : Kt l yX8_begin cX8_begin 1 none 0 0 g [.ref (ga g 2 0)] x none x' := by
  refine Kt.of (by decide) (fun p e s m below meth c C G hI => ?_)
  have hl := lv_entry ([.ref (ga g 2 0)]) (n := 1) (Nat.le_of_ble_eq_true rfl)
  rw [lg_entry_eq]
  generalize (lg_sl ([.ref (ga g 2 0)]) ++ List.replicate (1 - (lg_sl ([.ref (ga g 2 0)])).length) Slot.unset).toArray = ls at hl ⊢
  have hl : lv_has ls 1 [(0, .ref (ga g 2 0))] := hl
  exact w_X8_begin C G  x _ _ ls  h hI va_S.rf hl
theorem mv_X8_begin : mtV yX8_begin RX8 cX8_begin 1 none 0 := ⟨ki_X8_begin, kl_X8_begin, kI_X8, kc_X8_begin, by decide +kernel⟩

/-! X8_noteFrame -/
def f_X8_noteFrame (a1 : Int32) (x : st) : Option (st) := lets (sx x 2 0 2 ((x 2 0 2) + 1)) fun x1 => lets (sx x1 2 0 5 (if (x1 2 0 5) < a1 then a1 else (x1 2 0 5))) fun x2 => some x2
set_option maxHeartbeats 4000000 in
set_option maxRecDepth 100000 in
theorem w_X8_noteFrame {p : Program} {l : Launch} {e : Env} {s : State} {m : MethodId} {args : Array Value} {below : List Frame} {meth : Method} {c : Code} {g : gT} {x' : st} (C : cxt p s m meth c args cX8_noteFrame 2 RX8 none) (G : gst g s) (a1 : Int32) (x : st) (H : Heap) (locs : List Loc) (ls : Array Slot)  (h : f_X8_noteFrame a1 x = some x') (hI : wst g x H) (hS : va_S (zA (gz g)) s.heap H locs) (hl : lv_has ls 2 [(0, .ref (ga g 2 0)), (1, .int a1)]) : W p l e (rmC 1 40) s m args below meth c H locs 0 0 (MQ below (Qx g none x') args s 0 0 (zA (gz g))) (F0 m 0 ls []) := by
  obtain ⟨hx, hb, hml, hown, hts, hlk, hrt⟩ := id C
  unfold f_X8_noteFrame at h
  refine lv_aload_n hx hb dX8_noteFrame_0 rfl (lv_at hl 0 rfl) ?_
  refine lv_dup hx hb dX8_noteFrame_1 rfl ?_
  refine w_get C G hI 2 0 (hI.at1 rfl) (fcE_2 g _ _) rfl in_X8 2 (by decide) kf_X8_22 (fun _ h => h) (v := .int (x 2 0 2)) rfl dX8_noteFrame_2 ?_
  refine lv_iconst (v := 1) hx hb dX8_noteFrame_5 (by decide) ?_
  refine lv_iadd hx hb dX8_noteFrame_6 ?_
  refine w_put C G hI hS 2 0 (hI.at1 rfl) rfl (fcE_2 g _ _) rfl in_X8 tyX8 tyX8_ok nmX8 2 (by decide) kf_X8_22 (fun _ h => h) rfl (ty := .int) (y := ((x 2 0 2) + 1)) (by decide +kernel) rfl rfl (Nat.le_of_ble_eq_true rfl) rfl dX8_noteFrame_7 (fun H locs hI hS => ?_)
  obtain ⟨x1, e_x1, h⟩ := lets_some h
  rw [← e_x1] at hI
  refine lv_aload_n hx hb dX8_noteFrame_10 rfl (lv_at hl 0 rfl) ?_
  refine lv_aload_n hx hb dX8_noteFrame_11 rfl (lv_at hl 0 rfl) ?_
  refine w_get C G hI 2 0 (hI.at1 rfl) (fcE_2 g _ _) rfl in_X8 5 (by decide) kf_X8_31 (fun _ h => h) (v := .int (x1 2 0 5)) rfl dX8_noteFrame_12 ?_
  refine lv_iload_n hx hb dX8_noteFrame_15 rfl (lv_at hl 1 rfl) ?_
  refine w_max C km_X8_34 hl.1.symm (by decide) (Nat.le_of_ble_eq_true rfl) (Nat.zero_le _) (Nat.zero_le _) dX8_noteFrame_16 ?_
  refine w_put C G hI hS 2 0 (hI.at1 rfl) rfl (fcE_2 g _ _) rfl in_X8 tyX8 tyX8_ok nmX8 5 (by decide) kf_X8_31 (fun _ h => h) rfl (ty := .int) (y := (if (x1 2 0 5) < a1 then a1 else (x1 2 0 5))) (by decide +kernel) rfl rfl (Nat.le_of_ble_eq_true rfl) rfl dX8_noteFrame_19 (fun H locs hI hS => ?_)
  obtain ⟨x2, e_x2, h⟩ := lets_some h
  rw [← e_x2] at hI
  cases h
  exact w_vret C hI hS dX8_noteFrame_22
theorem k_X8_noteFrame (l : Launch) (g : gT) (a1 : Int32) (x : st) (x' : st)  (h : f_X8_noteFrame a1 x = some x') : Kt l yX8_noteFrame cX8_noteFrame 2 none 1 40 g [.ref (ga g 2 0), .int a1] x none x' := by
  refine Kt.of (by decide) (fun p e s m below meth c C G hI => ?_)
  have hl := lv_entry ([.ref (ga g 2 0), .int a1]) (n := 2) (Nat.le_of_ble_eq_true rfl)
  rw [lg_entry_eq]
  generalize (lg_sl ([.ref (ga g 2 0), .int a1]) ++ List.replicate (2 - (lg_sl ([.ref (ga g 2 0), .int a1])).length) Slot.unset).toArray = ls at hl ⊢
  have hl : lv_has ls 2 [(0, .ref (ga g 2 0)), (1, .int a1)] := hl
  exact w_X8_noteFrame C G a1 x _ _ ls  h hI va_S.rf hl
theorem mv_X8_noteFrame : mtV yX8_noteFrame RX8 cX8_noteFrame 2 none 1 := ⟨ki_X8_noteFrame, kl_X8_noteFrame, kI_X8, kc_X8_noteFrame, by decide +kernel⟩

/-! X8_noteClean -/
def f_X8_noteClean_b49  (x : st) : Option (st) := lets (sx x 2 0 3 ((x 2 0 3) + 1)) fun x1 => some x1
set_option maxHeartbeats 4000000 in
set_option maxRecDepth 100000 in
theorem w_X8_noteClean_b49 {p : Program} {l : Launch} {e : Env} {s : State} {m : MethodId} {args : Array Value} {below : List Frame} {meth : Method} {c : Code} {g : gT} {x' : st} (C : cxt p s m meth c args cX8_noteClean 4 RX8 none) (G : gst g s)  (x : st) (H : Heap) (locs : List Loc) (ls : Array Slot)  (h : f_X8_noteClean_b49  x = some x') (hI : wst g x H) (hS : va_S (zA (gz g)) s.heap H locs) (hl : lv_has ls 4 [(0, .ref (ga g 2 0))]) : W p l e (rmC 0 0) s m args below meth c H locs 0 0 (MQ below (Qx g none x') args s 0 0 (zA (gz g))) (F0 m 49 ls []) := by
  obtain ⟨hx, hb, hml, hown, hts, hlk, hrt⟩ := id C
  unfold f_X8_noteClean_b49 at h
  refine lv_aload_n hx hb dX8_noteClean_49 rfl (lv_at hl 0 rfl) ?_
  refine lv_dup hx hb dX8_noteClean_50 rfl ?_
  refine w_get C G hI 2 0 (hI.at1 rfl) (fcE_2 g _ _) rfl in_X8 3 (by decide) kf_X8_25 (fun _ h => h) (v := .int (x 2 0 3)) rfl dX8_noteClean_51 ?_
  refine lv_iconst (v := 1) hx hb dX8_noteClean_54 (by decide) ?_
  refine lv_iadd hx hb dX8_noteClean_55 ?_
  refine w_put C G hI hS 2 0 (hI.at1 rfl) rfl (fcE_2 g _ _) rfl in_X8 tyX8 tyX8_ok nmX8 3 (by decide) kf_X8_25 (fun _ h => h) rfl (ty := .int) (y := ((x 2 0 3) + 1)) (by decide +kernel) rfl rfl (Nat.le_of_ble_eq_true rfl) rfl dX8_noteClean_56 (fun H locs hI hS => ?_)
  obtain ⟨x1, e_x1, h⟩ := lets_some h
  rw [← e_x1] at hI
  cases h
  exact w_vret C hI hS dX8_noteClean_59
def f_X8_noteClean (a1 : Int32) (a2 : Int32) (a3 : Int32) (x : st) : Option (st) := if 100 ≤ (x 2 0 3) then (f_X8_noteClean_b49  x) else (if inb ((x 2 0 3) * 3) 300 = true then lets (sx x 3 0 ((x 2 0 3) * 3).toNatClampNeg a1) fun x2 => if inb (((x2 2 0 3) * 3) + 1) 300 = true then lets (sx x2 3 0 (((x2 2 0 3) * 3) + 1).toNatClampNeg a2) fun x4 => if inb (((x4 2 0 3) * 3) + 2) 300 = true then lets (sx x4 3 0 (((x4 2 0 3) * 3) + 2).toNatClampNeg a3) fun x6 => f_X8_noteClean_b49  x6 else none else none else none)
set_option maxHeartbeats 4000000 in
set_option maxRecDepth 100000 in
theorem w_X8_noteClean {p : Program} {l : Launch} {e : Env} {s : State} {m : MethodId} {args : Array Value} {below : List Frame} {meth : Method} {c : Code} {g : gT} {x' : st} (C : cxt p s m meth c args cX8_noteClean 4 RX8 none) (G : gst g s) (a1 : Int32) (a2 : Int32) (a3 : Int32) (x : st) (H : Heap) (locs : List Loc) (ls : Array Slot)  (h : f_X8_noteClean a1 a2 a3 x = some x') (hI : wst g x H) (hS : va_S (zA (gz g)) s.heap H locs) (hl : lv_has ls 4 [(0, .ref (ga g 2 0)), (1, .int a1), (2, .int a2), (3, .int a3)]) : W p l e (rmC 0 0) s m args below meth c H locs 0 0 (MQ below (Qx g none x') args s 0 0 (zA (gz g))) (F0 m 0 ls []) := by
  obtain ⟨hx, hb, hml, hown, hts, hlk, hrt⟩ := id C
  unfold f_X8_noteClean at h
  refine lv_aload_n hx hb dX8_noteClean_0 rfl (lv_at hl 0 rfl) ?_
  refine w_get C G hI 2 0 (hI.at1 rfl) (fcE_2 g _ _) rfl in_X8 3 (by decide) kf_X8_25 (fun _ h => h) (v := .int (x 2 0 3)) rfl dX8_noteClean_1 ?_
  refine lv_bipush (v := 100) hx hb dX8_noteClean_4 (by decide) ?_
  refine lv_icmp_ge (tgt := 49) hx hb dX8_noteClean_6 (by decide) (fun hc => ?_) (fun hc => ?_)
  · replace h := ite_y hc h
    exact w_X8_noteClean_b49 C G  x _ _ _  h hI hS (lv_sub hl [0] rfl)
  replace h := ite_n hc h
  refine lv_aload_n hx hb dX8_noteClean_9 rfl (lv_at hl 0 rfl) ?_
  refine w_get C G hI 2 0 (hI.at1 rfl) (fcE_2 g _ _) rfl in_X8 6 (by decide) kf_X8_11 (fun _ h => h) (v := .ref (ga g 3 0)) rfl dX8_noteClean_10 ?_
  refine lv_aload_n hx hb dX8_noteClean_13 rfl (lv_at hl 0 rfl) ?_
  refine w_get C G hI 2 0 (hI.at1 rfl) (fcE_2 g _ _) rfl in_X8 3 (by decide) kf_X8_25 (fun _ h => h) (v := .int (x 2 0 3)) rfl dX8_noteClean_14 ?_
  refine lv_iconst (v := 3) hx hb dX8_noteClean_17 (by decide) ?_
  refine lv_imul hx hb dX8_noteClean_18 ?_
  refine lv_iload_n hx hb dX8_noteClean_19 rfl (lv_at hl 1 rfl) ?_
  obtain ⟨hn1, h⟩ := need_t h
  refine w_iast C G hI hS 3 0 (hI.at1 rfl) rfl (fcA_3 g _) (y := a1) (inb_in hn1) dX8_noteClean_20 (fun H locs hI hS => ?_)
  obtain ⟨x2, e_x2, h⟩ := lets_some h
  rw [← e_x2] at hI
  refine lv_aload_n hx hb dX8_noteClean_21 rfl (lv_at hl 0 rfl) ?_
  refine w_get C G hI 2 0 (hI.at1 rfl) (fcE_2 g _ _) rfl in_X8 6 (by decide) kf_X8_11 (fun _ h => h) (v := .ref (ga g 3 0)) rfl dX8_noteClean_22 ?_
  refine lv_aload_n hx hb dX8_noteClean_25 rfl (lv_at hl 0 rfl) ?_
  refine w_get C G hI 2 0 (hI.at1 rfl) (fcE_2 g _ _) rfl in_X8 3 (by decide) kf_X8_25 (fun _ h => h) (v := .int (x2 2 0 3)) rfl dX8_noteClean_26 ?_
  refine lv_iconst (v := 3) hx hb dX8_noteClean_29 (by decide) ?_
  refine lv_imul hx hb dX8_noteClean_30 ?_
  refine lv_iconst (v := 1) hx hb dX8_noteClean_31 (by decide) ?_
  refine lv_iadd hx hb dX8_noteClean_32 ?_
  refine lv_iload_n hx hb dX8_noteClean_33 rfl (lv_at hl 2 rfl) ?_
  obtain ⟨hn3, h⟩ := need_t h
  refine w_iast C G hI hS 3 0 (hI.at1 rfl) rfl (fcA_3 g _) (y := a2) (inb_in hn3) dX8_noteClean_34 (fun H locs hI hS => ?_)
  obtain ⟨x4, e_x4, h⟩ := lets_some h
  rw [← e_x4] at hI
  refine lv_aload_n hx hb dX8_noteClean_35 rfl (lv_at hl 0 rfl) ?_
  refine w_get C G hI 2 0 (hI.at1 rfl) (fcE_2 g _ _) rfl in_X8 6 (by decide) kf_X8_11 (fun _ h => h) (v := .ref (ga g 3 0)) rfl dX8_noteClean_36 ?_
  refine lv_aload_n hx hb dX8_noteClean_39 rfl (lv_at hl 0 rfl) ?_
  refine w_get C G hI 2 0 (hI.at1 rfl) (fcE_2 g _ _) rfl in_X8 3 (by decide) kf_X8_25 (fun _ h => h) (v := .int (x4 2 0 3)) rfl dX8_noteClean_40 ?_
  refine lv_iconst (v := 3) hx hb dX8_noteClean_43 (by decide) ?_
  refine lv_imul hx hb dX8_noteClean_44 ?_
  refine lv_iconst (v := 2) hx hb dX8_noteClean_45 (by decide) ?_
  refine lv_iadd hx hb dX8_noteClean_46 ?_
  refine lv_iload_n hx hb dX8_noteClean_47 rfl (lv_at hl 3 rfl) ?_
  obtain ⟨hn5, h⟩ := need_t h
  refine w_iast C G hI hS 3 0 (hI.at1 rfl) rfl (fcA_3 g _) (y := a3) (inb_in hn5) dX8_noteClean_48 (fun H locs hI hS => ?_)
  obtain ⟨x6, e_x6, h⟩ := lets_some h
  rw [← e_x6] at hI
  exact w_X8_noteClean_b49 C G  x6 _ _ _  h hI hS (lv_sub hl [0] rfl)
theorem k_X8_noteClean (l : Launch) (g : gT) (a1 : Int32) (a2 : Int32) (a3 : Int32) (x : st) (x' : st)  (h : f_X8_noteClean a1 a2 a3 x = some x') : Kt l yX8_noteClean cX8_noteClean 4 none 0 0 g [.ref (ga g 2 0), .int a1, .int a2, .int a3] x none x' := by
  refine Kt.of (by decide) (fun p e s m below meth c C G hI => ?_)
  have hl := lv_entry ([.ref (ga g 2 0), .int a1, .int a2, .int a3]) (n := 4) (Nat.le_of_ble_eq_true rfl)
  rw [lg_entry_eq]
  generalize (lg_sl ([.ref (ga g 2 0), .int a1, .int a2, .int a3]) ++ List.replicate (4 - (lg_sl ([.ref (ga g 2 0), .int a1, .int a2, .int a3])).length) Slot.unset).toArray = ls at hl ⊢
  have hl : lv_has ls 4 [(0, .ref (ga g 2 0)), (1, .int a1), (2, .int a2), (3, .int a3)] := hl
  exact w_X8_noteClean C G a1 a2 a3 x _ _ ls  h hI va_S.rf hl
theorem mv_X8_noteClean : mtV yX8_noteClean RX8 cX8_noteClean 4 none 3 := ⟨ki_X8_noteClean, kl_X8_noteClean, kI_X8, kc_X8_noteClean, by decide +kernel⟩

/-! X8_cleanPart -/
def f_X8_cleanPart_b24  (x : st) : Option (Int32 × st) := some ((-3), x)
set_option maxHeartbeats 4000000 in
set_option maxRecDepth 100000 in
theorem w_X8_cleanPart_b24 {p : Program} {l : Launch} {e : Env} {s : State} {m : MethodId} {args : Array Value} {below : List Frame} {meth : Method} {c : Code} {g : gT} {r : Int32} {x' : st} (C : cxt p s m meth c args cX8_cleanPart 3 RX8 (some .int)) (G : gst g s)  (x : st) (H : Heap) (locs : List Loc) (ls : Array Slot)  (h : f_X8_cleanPart_b24  x = some (r, x')) (hI : wst g x H) (hS : va_S (zA (gz g)) s.heap H locs) (hl : lv_has ls 3 []) : W p l e (rmC 1 40) s m args below meth c H locs 0 0 (MQ below (Qx g (some (.int r)) x') args s 0 0 (zA (gz g))) (F0 m 24 ls []) := by
  obtain ⟨hx, hb, hml, hown, hts, hlk, hrt⟩ := id C
  unfold f_X8_cleanPart_b24 at h
  refine lv_bipush (v := (-3)) hx hb dX8_cleanPart_24 (by decide) ?_
  cases h
  exact w_ireti C hI hS dX8_cleanPart_26
def f_X8_cleanPart (a1 : Int32) (a2 : Int32) (x : st) : Option (Int32 × st) := bnd (f_X10_within a1 (if 100 < (x 2 0 3) then 100 else (x 2 0 3)) x) fun r2 x1 => if r2 = 0 then (f_X8_cleanPart_b24  x1) else (bnd (f_X10_within a2 3 x1) fun r5 x4 => if r5 = 0 then (f_X8_cleanPart_b24  x4) else (if inb ((a1 * 3) + a2) 300 = true then some ((x4 3 0 ((a1 * 3) + a2).toNatClampNeg), x4) else none))
set_option maxHeartbeats 4000000 in
set_option maxRecDepth 100000 in
theorem w_X8_cleanPart {p : Program} {l : Launch} {e : Env} {s : State} {m : MethodId} {args : Array Value} {below : List Frame} {meth : Method} {c : Code} {g : gT} {r : Int32} {x' : st} (C : cxt p s m meth c args cX8_cleanPart 3 RX8 (some .int)) (G : gst g s) (a1 : Int32) (a2 : Int32) (x : st) (H : Heap) (locs : List Loc) (ls : Array Slot)  (h : f_X8_cleanPart a1 a2 x = some (r, x')) (hI : wst g x H) (hS : va_S (zA (gz g)) s.heap H locs) (hl : lv_has ls 3 [(0, .ref (ga g 2 0)), (1, .int a1), (2, .int a2)]) : W p l e (rmC 1 40) s m args below meth c H locs 0 0 (MQ below (Qx g (some (.int r)) x') args s 0 0 (zA (gz g))) (F0 m 0 ls []) := by
  obtain ⟨hx, hb, hml, hown, hts, hlk, hrt⟩ := id C
  unfold f_X8_cleanPart at h
  refine lv_iload_n hx hb dX8_cleanPart_0 rfl (lv_at hl 1 rfl) ?_
  refine lv_aload_n hx hb dX8_cleanPart_1 rfl (lv_at hl 0 rfl) ?_
  refine w_get C G hI 2 0 (hI.at1 rfl) (fcE_2 g _ _) rfl in_X8 3 (by decide) kf_X8_25 (fun _ h => h) (v := .int (x 2 0 3)) rfl dX8_cleanPart_2 ?_
  refine lv_bipush (v := 100) hx hb dX8_cleanPart_5 (by decide) ?_
  refine w_min C km_X8_40 hl.1.symm (by decide) (Nat.le_of_ble_eq_true rfl) (Nat.zero_le _) (Nat.zero_le _) dX8_cleanPart_7 ?_
  obtain ⟨r2, x1, hq3, h⟩ := bnd_some h
  refine w_callN (fr := 0) (lo := 0) C G hI hS ms_X10_within (host := "StepBudgets") (by decide +kernel) [.int a1, .int (if 100 < (x 2 0 3) then 100 else (x 2 0 3))] (k_X10_within l g a1 (if 100 < (x 2 0 3) then 100 else (x 2 0 3)) x _ _  hq3) rfl (by first | exact ⟨by decide, by decide⟩ | exact ⟨by show _ ≤ _ + _; omega, by show _ ≤ _ + _; omega⟩) ⟨Nat.zero_le _, Nat.zero_le _⟩ hl.1 rfl (Nat.le_of_ble_eq_true rfl) dX8_cleanPart_10 (fun H locs hI hS => ?_)
  refine lv_if_eq (tgt := 24) hx hb dX8_cleanPart_13 (by decide) (fun hc => ?_) (fun hc => ?_)
  · replace h := ite_y hc h
    exact w_X8_cleanPart_b24 C G  x1 _ _ _  h hI hS (lv_sub hl [] rfl)
  replace h := ite_n hc h
  refine lv_iload_n hx hb dX8_cleanPart_16 rfl (lv_at hl 2 rfl) ?_
  refine lv_iconst (v := 3) hx hb dX8_cleanPart_17 (by decide) ?_
  obtain ⟨r5, x4, hq6, h⟩ := bnd_some h
  refine w_callN (fr := 0) (lo := 0) C G hI hS ms_X10_within (host := "StepBudgets") (by decide +kernel) [.int a2, .int 3] (k_X10_within l g a2 3 x1 _ _  hq6) rfl (by first | exact ⟨by decide, by decide⟩ | exact ⟨by show _ ≤ _ + _; omega, by show _ ≤ _ + _; omega⟩) ⟨Nat.zero_le _, Nat.zero_le _⟩ hl.1 rfl (Nat.le_of_ble_eq_true rfl) dX8_cleanPart_18 (fun H locs hI hS => ?_)
  refine lv_if_ne (tgt := 27) hx hb dX8_cleanPart_21 (by decide) (fun hc => ?_) (fun hc => ?_)
  · replace h := ite_n hc h
    refine lv_aload_n hx hb dX8_cleanPart_27 rfl (lv_at hl 0 rfl) ?_
    refine w_get C G hI 2 0 (hI.at1 rfl) (fcE_2 g _ _) rfl in_X8 6 (by decide) kf_X8_11 (fun _ h => h) (v := .ref (ga g 3 0)) rfl dX8_cleanPart_28 ?_
    refine lv_iload_n hx hb dX8_cleanPart_31 rfl (lv_at hl 1 rfl) ?_
    refine lv_iconst (v := 3) hx hb dX8_cleanPart_32 (by decide) ?_
    refine lv_imul hx hb dX8_cleanPart_33 ?_
    refine lv_iload_n hx hb dX8_cleanPart_34 rfl (lv_at hl 2 rfl) ?_
    refine lv_iadd hx hb dX8_cleanPart_35 ?_
    obtain ⟨hn7, h⟩ := need_t h
    refine w_iald C G hI 3 0 (hI.at1 rfl) (fcA_3 g _ _) (inb_in hn7) dX8_cleanPart_36 ?_
    cases h
    exact w_ireti C hI hS dX8_cleanPart_37
  replace h := ite_y hc h
  exact w_X8_cleanPart_b24 C G  x4 _ _ _  h hI hS (lv_sub hl [] rfl)
theorem k_X8_cleanPart (l : Launch) (g : gT) (a1 : Int32) (a2 : Int32) (x : st) (r : Int32) (x' : st)  (h : f_X8_cleanPart a1 a2 x = some (r, x')) : Kt l yX8_cleanPart cX8_cleanPart 3 (some .int) 1 40 g [.ref (ga g 2 0), .int a1, .int a2] x (some (.int r)) x' := by
  refine Kt.of (by decide) (fun p e s m below meth c C G hI => ?_)
  have hl := lv_entry ([.ref (ga g 2 0), .int a1, .int a2]) (n := 3) (Nat.le_of_ble_eq_true rfl)
  rw [lg_entry_eq]
  generalize (lg_sl ([.ref (ga g 2 0), .int a1, .int a2]) ++ List.replicate (3 - (lg_sl ([.ref (ga g 2 0), .int a1, .int a2])).length) Slot.unset).toArray = ls at hl ⊢
  have hl : lv_has ls 3 [(0, .ref (ga g 2 0)), (1, .int a1), (2, .int a2)] := hl
  exact w_X8_cleanPart C G a1 a2 x _ _ ls  h hI va_S.rf hl
theorem mv_X8_cleanPart : mtV yX8_cleanPart RX8 cX8_cleanPart 3 (some .int) 2 := ⟨ki_X8_cleanPart, kl_X8_cleanPart, kI_X8, kc_X8_cleanPart, by decide +kernel⟩

/-! X9_forget -/
def f_X9_forget  (x : st) : Option (st) := lets (sx x 5 0 4 0) fun x1 => lets (sx x1 5 0 5 0) fun x2 => some x2
set_option maxHeartbeats 4000000 in
set_option maxRecDepth 100000 in
theorem w_X9_forget {p : Program} {l : Launch} {e : Env} {s : State} {m : MethodId} {args : Array Value} {below : List Frame} {meth : Method} {c : Code} {g : gT} {x' : st} (C : cxt p s m meth c args cX9_forget 1 RX9 none) (G : gst g s)  (x : st) (H : Heap) (locs : List Loc) (ls : Array Slot)  (h : f_X9_forget  x = some x') (hI : wst g x H) (hS : va_S (zA (gz g)) s.heap H locs) (hl : lv_has ls 1 [(0, .ref (ga g 5 0))]) : W p l e (rmC 0 0) s m args below meth c H locs 0 0 (MQ below (Qx g none x') args s 0 0 (zA (gz g))) (F0 m 0 ls []) := by
  obtain ⟨hx, hb, hml, hown, hts, hlk, hrt⟩ := id C
  unfold f_X9_forget at h
  refine lv_aload_n hx hb dX9_forget_0 rfl (lv_at hl 0 rfl) ?_
  refine lv_iconst (v := 0) hx hb dX9_forget_1 (by decide) ?_
  refine w_put C G hI hS 5 0 (hI.at1 rfl) rfl (fcE_5 g _ _) rfl in_X9 tyX9 tyX9_ok nmX9 4 (by decide) kf_X9_24 (fun _ h => h) rfl (ty := .int) (y := 0) (by decide +kernel) rfl rfl (Nat.le_of_ble_eq_true rfl) rfl dX9_forget_2 (fun H locs hI hS => ?_)
  obtain ⟨x1, e_x1, h⟩ := lets_some h
  rw [← e_x1] at hI
  refine lv_aload_n hx hb dX9_forget_5 rfl (lv_at hl 0 rfl) ?_
  refine lv_iconst (v := 0) hx hb dX9_forget_6 (by decide) ?_
  refine w_put C G hI hS 5 0 (hI.at1 rfl) rfl (fcE_5 g _ _) rfl in_X9 tyX9 tyX9_ok nmX9 5 (by decide) kf_X9_28 (fun _ h => h) rfl (ty := .int) (y := 0) (by decide +kernel) rfl rfl (Nat.le_of_ble_eq_true rfl) rfl dX9_forget_7 (fun H locs hI hS => ?_)
  obtain ⟨x2, e_x2, h⟩ := lets_some h
  rw [← e_x2] at hI
  cases h
  exact w_vret C hI hS dX9_forget_10
theorem k_X9_forget (l : Launch) (g : gT)  (x : st) (x' : st)  (h : f_X9_forget  x = some x') : Kt l yX9_forget cX9_forget 1 none 0 0 g [.ref (ga g 5 0)] x none x' := by
  refine Kt.of (by decide) (fun p e s m below meth c C G hI => ?_)
  have hl := lv_entry ([.ref (ga g 5 0)]) (n := 1) (Nat.le_of_ble_eq_true rfl)
  rw [lg_entry_eq]
  generalize (lg_sl ([.ref (ga g 5 0)]) ++ List.replicate (1 - (lg_sl ([.ref (ga g 5 0)])).length) Slot.unset).toArray = ls at hl ⊢
  have hl : lv_has ls 1 [(0, .ref (ga g 5 0))] := hl
  exact w_X9_forget C G  x _ _ ls  h hI va_S.rf hl
theorem mv_X9_forget : mtV yX9_forget RX9 cX9_forget 1 none 0 := ⟨ki_X9_forget, kl_X9_forget, kI_X9, kc_X9_forget, by decide +kernel⟩

/-! X9_add -/
def f_X9_add_b26  (x : st) : Option (Int32 × st) := some ((-3), x)
set_option maxHeartbeats 4000000 in
set_option maxRecDepth 100000 in
theorem w_X9_add_b26 {p : Program} {l : Launch} {e : Env} {s : State} {m : MethodId} {args : Array Value} {below : List Frame} {meth : Method} {c : Code} {g : gT} {r : Int32} {x' : st} (C : cxt p s m meth c args cX9_add 3 RX9 (some .int)) (G : gst g s)  (x : st) (H : Heap) (locs : List Loc) (ls : Array Slot)  (h : f_X9_add_b26  x = some (r, x')) (hI : wst g x H) (hS : va_S (zA (gz g)) s.heap H locs) (hl : lv_has ls 3 []) : W p l e (rmC 2 46) s m args below meth c H locs 0 0 (MQ below (Qx g (some (.int r)) x') args s 0 0 (zA (gz g))) (F0 m 26 ls []) := by
  obtain ⟨hx, hb, hml, hown, hts, hlk, hrt⟩ := id C
  unfold f_X9_add_b26 at h
  refine lv_bipush (v := (-3)) hx hb dX9_add_26 (by decide) ?_
  cases h
  exact w_ireti C hI hS dX9_add_28
def f_X9_add (a1 : Int32) (a2 : Int32) (x : st) : Option (Int32 × st) := if 600 ≤ (x 5 0 4) then (f_X9_add_b26  x) else (if a2 < 0 then (f_X9_add_b26  x) else (if a2 ≤ (4800 - (x 5 0 5)) then (bnv (f_J7_fill_fda19_6 (x 5 0 5) ((x 5 0 5) + a2) 0 x) fun x1 => if inb (x1 5 0 4) 600 = true then lets (sx x1 7 0 (x1 5 0 4).toNatClampNeg (x1 5 0 5)) fun x5 => if inb (x5 5 0 4) 600 = true then lets (sx x5 8 0 (x5 5 0 4).toNatClampNeg a2) fun x7 => if inb (x7 5 0 4) 600 = true then lets (sx x7 9 0 (x7 5 0 4).toNatClampNeg a1) fun x9 => lets (sx x9 5 0 5 ((x9 5 0 5) + a2)) fun x10 => lets (sx x10 5 0 4 ((x10 5 0 4) + 1)) fun x11 => some (((x11 5 0 4) - 1), x11) else none else none else none) else (f_X9_add_b26  x)))
set_option maxHeartbeats 4000000 in
set_option maxRecDepth 100000 in
theorem w_X9_add {p : Program} {l : Launch} {e : Env} {s : State} {m : MethodId} {args : Array Value} {below : List Frame} {meth : Method} {c : Code} {g : gT} {r : Int32} {x' : st} (C : cxt p s m meth c args cX9_add 3 RX9 (some .int)) (G : gst g s) (a1 : Int32) (a2 : Int32) (x : st) (H : Heap) (locs : List Loc) (ls : Array Slot)  (h : f_X9_add a1 a2 x = some (r, x')) (hI : wst g x H) (hS : va_S (zA (gz g)) s.heap H locs) (hl : lv_has ls 3 [(0, .ref (ga g 5 0)), (1, .int a1), (2, .int a2)]) : W p l e (rmC 2 46) s m args below meth c H locs 0 0 (MQ below (Qx g (some (.int r)) x') args s 0 0 (zA (gz g))) (F0 m 0 ls []) := by
  obtain ⟨hx, hb, hml, hown, hts, hlk, hrt⟩ := id C
  unfold f_X9_add at h
  refine lv_aload_n hx hb dX9_add_0 rfl (lv_at hl 0 rfl) ?_
  refine w_get C G hI 5 0 (hI.at1 rfl) (fcE_5 g _ _) rfl in_X9 4 (by decide) kf_X9_24 (fun _ h => h) (v := .int (x 5 0 4)) rfl dX9_add_1 ?_
  refine lv_sipush (v := 600) hx hb dX9_add_4 (by decide) ?_
  refine lv_icmp_ge (tgt := 26) hx hb dX9_add_7 (by decide) (fun hc => ?_) (fun hc => ?_)
  · replace h := ite_y hc h
    exact w_X9_add_b26 C G  x _ _ _  h hI hS (lv_sub hl [] rfl)
  replace h := ite_n hc h
  refine lv_iload_n hx hb dX9_add_10 rfl (lv_at hl 2 rfl) ?_
  refine lv_if_lt (tgt := 26) hx hb dX9_add_11 (by decide) (fun hc => ?_) (fun hc => ?_)
  · replace h := ite_y hc h
    exact w_X9_add_b26 C G  x _ _ _  h hI hS (lv_sub hl [] rfl)
  replace h := ite_n hc h
  refine lv_iload_n hx hb dX9_add_14 rfl (lv_at hl 2 rfl) ?_
  refine lv_sipush (v := 4800) hx hb dX9_add_15 (by decide) ?_
  refine lv_aload_n hx hb dX9_add_18 rfl (lv_at hl 0 rfl) ?_
  refine w_get C G hI 5 0 (hI.at1 rfl) (fcE_5 g _ _) rfl in_X9 5 (by decide) kf_X9_28 (fun _ h => h) (v := .int (x 5 0 5)) rfl dX9_add_19 ?_
  refine lv_isub hx hb dX9_add_22 ?_
  refine lv_icmp_le (tgt := 29) hx hb dX9_add_23 (by decide) (fun hc => ?_) (fun hc => ?_)
  · replace h := ite_y hc h
    refine lv_aload_n hx hb dX9_add_29 rfl (lv_at hl 0 rfl) ?_
    refine w_get C G hI 5 0 (hI.at1 rfl) (fcE_5 g _ _) rfl in_X9 0 (by decide) kf_X9_11 (fun _ h => h) (v := .ref (ga g 6 0)) rfl dX9_add_30 ?_
    refine lv_aload_n hx hb dX9_add_33 rfl (lv_at hl 0 rfl) ?_
    refine w_get C G hI 5 0 (hI.at1 rfl) (fcE_5 g _ _) rfl in_X9 5 (by decide) kf_X9_28 (fun _ h => h) (v := .int (x 5 0 5)) rfl dX9_add_34 ?_
    refine lv_aload_n hx hb dX9_add_37 rfl (lv_at hl 0 rfl) ?_
    refine w_get C G hI 5 0 (hI.at1 rfl) (fcE_5 g _ _) rfl in_X9 5 (by decide) kf_X9_28 (fun _ h => h) (v := .int (x 5 0 5)) rfl dX9_add_38 ?_
    refine lv_iload_n hx hb dX9_add_41 rfl (lv_at hl 2 rfl) ?_
    refine lv_iadd hx hb dX9_add_42 ?_
    refine lv_iconst (v := 0) hx hb dX9_add_43 (by decide) ?_
    obtain ⟨x1, hq3, h⟩ := bnv_some h
    refine w_callS (fr := 1) (lo := 22) C G hI hS ms_J7_fill_fda19 km_X9_31 [.ref (ga g 6 0), .int (x 5 0 5), .int ((x 5 0 5) + a2), .int 0] (k_J7_fill_fda19_6 l g (x 5 0 5) ((x 5 0 5) + a2) 0 x _  hq3) rfl (by first | exact ⟨by decide, by decide⟩ | exact ⟨by show _ ≤ _ + _; omega, by show _ ≤ _ + _; omega⟩) ⟨Nat.zero_le _, Nat.zero_le _⟩ hl.1 rfl (Nat.le_of_ble_eq_true rfl) dX9_add_44 (fun H locs hI hS => ?_)
    refine lv_aload_n hx hb dX9_add_47 rfl (lv_at hl 0 rfl) ?_
    refine w_get C G hI 5 0 (hI.at1 rfl) (fcE_5 g _ _) rfl in_X9 1 (by decide) kf_X9_15 (fun _ h => h) (v := .ref (ga g 7 0)) rfl dX9_add_48 ?_
    refine lv_aload_n hx hb dX9_add_51 rfl (lv_at hl 0 rfl) ?_
    refine w_get C G hI 5 0 (hI.at1 rfl) (fcE_5 g _ _) rfl in_X9 4 (by decide) kf_X9_24 (fun _ h => h) (v := .int (x1 5 0 4)) rfl dX9_add_52 ?_
    refine lv_aload_n hx hb dX9_add_55 rfl (lv_at hl 0 rfl) ?_
    refine w_get C G hI 5 0 (hI.at1 rfl) (fcE_5 g _ _) rfl in_X9 5 (by decide) kf_X9_28 (fun _ h => h) (v := .int (x1 5 0 5)) rfl dX9_add_56 ?_
    obtain ⟨hn4, h⟩ := need_t h
    refine w_iast C G hI hS 7 0 (hI.at1 rfl) rfl (fcA_7 g _) (y := (x1 5 0 5)) (inb_in hn4) dX9_add_59 (fun H locs hI hS => ?_)
    obtain ⟨x5, e_x5, h⟩ := lets_some h
    rw [← e_x5] at hI
    refine lv_aload_n hx hb dX9_add_60 rfl (lv_at hl 0 rfl) ?_
    refine w_get C G hI 5 0 (hI.at1 rfl) (fcE_5 g _ _) rfl in_X9 2 (by decide) kf_X9_18 (fun _ h => h) (v := .ref (ga g 8 0)) rfl dX9_add_61 ?_
    refine lv_aload_n hx hb dX9_add_64 rfl (lv_at hl 0 rfl) ?_
    refine w_get C G hI 5 0 (hI.at1 rfl) (fcE_5 g _ _) rfl in_X9 4 (by decide) kf_X9_24 (fun _ h => h) (v := .int (x5 5 0 4)) rfl dX9_add_65 ?_
    refine lv_iload_n hx hb dX9_add_68 rfl (lv_at hl 2 rfl) ?_
    obtain ⟨hn6, h⟩ := need_t h
    refine w_iast C G hI hS 8 0 (hI.at1 rfl) rfl (fcA_8 g _) (y := a2) (inb_in hn6) dX9_add_69 (fun H locs hI hS => ?_)
    obtain ⟨x7, e_x7, h⟩ := lets_some h
    rw [← e_x7] at hI
    refine lv_aload_n hx hb dX9_add_70 rfl (lv_at hl 0 rfl) ?_
    refine w_get C G hI 5 0 (hI.at1 rfl) (fcE_5 g _ _) rfl in_X9 3 (by decide) kf_X9_21 (fun _ h => h) (v := .ref (ga g 9 0)) rfl dX9_add_71 ?_
    refine lv_aload_n hx hb dX9_add_74 rfl (lv_at hl 0 rfl) ?_
    refine w_get C G hI 5 0 (hI.at1 rfl) (fcE_5 g _ _) rfl in_X9 4 (by decide) kf_X9_24 (fun _ h => h) (v := .int (x7 5 0 4)) rfl dX9_add_75 ?_
    refine lv_iload_n hx hb dX9_add_78 rfl (lv_at hl 1 rfl) ?_
    obtain ⟨hn8, h⟩ := need_t h
    refine w_iast C G hI hS 9 0 (hI.at1 rfl) rfl (fcA_9 g _) (y := a1) (inb_in hn8) dX9_add_79 (fun H locs hI hS => ?_)
    obtain ⟨x9, e_x9, h⟩ := lets_some h
    rw [← e_x9] at hI
    refine lv_aload_n hx hb dX9_add_80 rfl (lv_at hl 0 rfl) ?_
    refine lv_dup hx hb dX9_add_81 rfl ?_
    refine w_get C G hI 5 0 (hI.at1 rfl) (fcE_5 g _ _) rfl in_X9 5 (by decide) kf_X9_28 (fun _ h => h) (v := .int (x9 5 0 5)) rfl dX9_add_82 ?_
    refine lv_iload_n hx hb dX9_add_85 rfl (lv_at hl 2 rfl) ?_
    refine lv_iadd hx hb dX9_add_86 ?_
    refine w_put C G hI hS 5 0 (hI.at1 rfl) rfl (fcE_5 g _ _) rfl in_X9 tyX9 tyX9_ok nmX9 5 (by decide) kf_X9_28 (fun _ h => h) rfl (ty := .int) (y := ((x9 5 0 5) + a2)) (by decide +kernel) rfl rfl (Nat.le_of_ble_eq_true rfl) rfl dX9_add_87 (fun H locs hI hS => ?_)
    obtain ⟨x10, e_x10, h⟩ := lets_some h
    rw [← e_x10] at hI
    refine lv_aload_n hx hb dX9_add_90 rfl (lv_at hl 0 rfl) ?_
    refine lv_dup hx hb dX9_add_91 rfl ?_
    refine w_get C G hI 5 0 (hI.at1 rfl) (fcE_5 g _ _) rfl in_X9 4 (by decide) kf_X9_24 (fun _ h => h) (v := .int (x10 5 0 4)) rfl dX9_add_92 ?_
    refine lv_iconst (v := 1) hx hb dX9_add_95 (by decide) ?_
    refine lv_iadd hx hb dX9_add_96 ?_
    refine w_put C G hI hS 5 0 (hI.at1 rfl) rfl (fcE_5 g _ _) rfl in_X9 tyX9 tyX9_ok nmX9 4 (by decide) kf_X9_24 (fun _ h => h) rfl (ty := .int) (y := ((x10 5 0 4) + 1)) (by decide +kernel) rfl rfl (Nat.le_of_ble_eq_true rfl) rfl dX9_add_97 (fun H locs hI hS => ?_)
    obtain ⟨x11, e_x11, h⟩ := lets_some h
    rw [← e_x11] at hI
    refine lv_aload_n hx hb dX9_add_100 rfl (lv_at hl 0 rfl) ?_
    refine w_get C G hI 5 0 (hI.at1 rfl) (fcE_5 g _ _) rfl in_X9 4 (by decide) kf_X9_24 (fun _ h => h) (v := .int (x11 5 0 4)) rfl dX9_add_101 ?_
    refine lv_iconst (v := 1) hx hb dX9_add_104 (by decide) ?_
    refine lv_isub hx hb dX9_add_105 ?_
    cases h
    exact w_ireti C hI hS dX9_add_106
  replace h := ite_n hc h
  exact w_X9_add_b26 C G  x _ _ _  h hI hS (lv_sub hl [] rfl)
theorem k_X9_add (l : Launch) (g : gT) (a1 : Int32) (a2 : Int32) (x : st) (r : Int32) (x' : st)  (h : f_X9_add a1 a2 x = some (r, x')) : Kt l yX9_add cX9_add 3 (some .int) 2 46 g [.ref (ga g 5 0), .int a1, .int a2] x (some (.int r)) x' := by
  refine Kt.of (by decide) (fun p e s m below meth c C G hI => ?_)
  have hl := lv_entry ([.ref (ga g 5 0), .int a1, .int a2]) (n := 3) (Nat.le_of_ble_eq_true rfl)
  rw [lg_entry_eq]
  generalize (lg_sl ([.ref (ga g 5 0), .int a1, .int a2]) ++ List.replicate (3 - (lg_sl ([.ref (ga g 5 0), .int a1, .int a2])).length) Slot.unset).toArray = ls at hl ⊢
  have hl : lv_has ls 3 [(0, .ref (ga g 5 0)), (1, .int a1), (2, .int a2)] := hl
  exact w_X9_add C G a1 a2 x _ _ ls  h hI va_S.rf hl
theorem mv_X9_add : mtV yX9_add RX9 cX9_add 3 (some .int) 2 := ⟨ki_X9_add, kl_X9_add, kI_X9, kc_X9_add, by decide +kernel⟩

/-! X9_has -/
def f_X9_has (a1 : Int32) (x : st) : Option (Int32 × st) := bnd (f_X10_within a1 (x 5 0 4) x) fun r2 x1 => if isz r2 = true then some (r2, x1) else none
set_option maxHeartbeats 4000000 in
set_option maxRecDepth 100000 in
theorem w_X9_has {p : Program} {l : Launch} {e : Env} {s : State} {m : MethodId} {args : Array Value} {below : List Frame} {meth : Method} {c : Code} {g : gT} {r : Int32} {x' : st} (C : cxt p s m meth c args cX9_has 2 RX9 (some .boolean)) (G : gst g s) (a1 : Int32) (x : st) (H : Heap) (locs : List Loc) (ls : Array Slot)  (h : f_X9_has a1 x = some (r, x')) (hI : wst g x H) (hS : va_S (zA (gz g)) s.heap H locs) (hl : lv_has ls 2 [(0, .ref (ga g 5 0)), (1, .int a1)]) : W p l e (rmC 1 21) s m args below meth c H locs 0 0 (MQ below (Qx g (some (.int r)) x') args s 0 0 (zA (gz g))) (F0 m 0 ls []) := by
  obtain ⟨hx, hb, hml, hown, hts, hlk, hrt⟩ := id C
  unfold f_X9_has at h
  refine lv_iload_n hx hb dX9_has_0 rfl (lv_at hl 1 rfl) ?_
  refine lv_aload_n hx hb dX9_has_1 rfl (lv_at hl 0 rfl) ?_
  refine w_get C G hI 5 0 (hI.at1 rfl) (fcE_5 g _ _) rfl in_X9 4 (by decide) kf_X9_24 (fun _ h => h) (v := .int (x 5 0 4)) rfl dX9_has_2 ?_
  obtain ⟨r2, x1, hq3, h⟩ := bnd_some h
  refine w_callN (fr := 0) (lo := 0) C G hI hS ms_X10_within (host := "StepBudgets") (by decide +kernel) [.int a1, .int (x 5 0 4)] (k_X10_within l g a1 (x 5 0 4) x _ _  hq3) rfl (by first | exact ⟨by decide, by decide⟩ | exact ⟨by show _ ≤ _ + _; omega, by show _ ≤ _ + _; omega⟩) ⟨Nat.zero_le _, Nat.zero_le _⟩ hl.1 rfl (Nat.le_of_ble_eq_true rfl) dX9_has_5 (fun H locs hI hS => ?_)
  obtain ⟨hn4, h⟩ := need_t h
  cases h
  exact w_iretz C hI hS (isz_or hn4) dX9_has_8
theorem k_X9_has (l : Launch) (g : gT) (a1 : Int32) (x : st) (r : Int32) (x' : st)  (h : f_X9_has a1 x = some (r, x')) : Kt l yX9_has cX9_has 2 (some .boolean) 1 21 g [.ref (ga g 5 0), .int a1] x (some (.int r)) x' := by
  refine Kt.of (by decide) (fun p e s m below meth c C G hI => ?_)
  have hl := lv_entry ([.ref (ga g 5 0), .int a1]) (n := 2) (Nat.le_of_ble_eq_true rfl)
  rw [lg_entry_eq]
  generalize (lg_sl ([.ref (ga g 5 0), .int a1]) ++ List.replicate (2 - (lg_sl ([.ref (ga g 5 0), .int a1])).length) Slot.unset).toArray = ls at hl ⊢
  have hl : lv_has ls 2 [(0, .ref (ga g 5 0)), (1, .int a1)] := hl
  exact w_X9_has C G a1 x _ _ ls  h hI va_S.rf hl
theorem mv_X9_has : mtV yX9_has RX9 cX9_has 2 (some .boolean) 1 := ⟨ki_X9_has, kl_X9_has, kI_X9, kc_X9_has, by decide +kernel⟩

/-! X9_size -/
def f_X9_size (a1 : Int32) (x : st) : Option (Int32 × st) := bnd (f_X9_has a1 x) fun r2 x1 => if r2 = 0 then (some ((-3), x1)) else (if inb a1 600 = true then some ((x1 8 0 a1.toNatClampNeg), x1) else none)
set_option maxHeartbeats 4000000 in
set_option maxRecDepth 100000 in
theorem w_X9_size {p : Program} {l : Launch} {e : Env} {s : State} {m : MethodId} {args : Array Value} {below : List Frame} {meth : Method} {c : Code} {g : gT} {r : Int32} {x' : st} (C : cxt p s m meth c args cX9_size 2 RX9 (some .int)) (G : gst g s) (a1 : Int32) (x : st) (H : Heap) (locs : List Loc) (ls : Array Slot)  (h : f_X9_size a1 x = some (r, x')) (hI : wst g x H) (hS : va_S (zA (gz g)) s.heap H locs) (hl : lv_has ls 2 [(0, .ref (ga g 5 0)), (1, .int a1)]) : W p l e (rmC 2 42) s m args below meth c H locs 0 0 (MQ below (Qx g (some (.int r)) x') args s 0 0 (zA (gz g))) (F0 m 0 ls []) := by
  obtain ⟨hx, hb, hml, hown, hts, hlk, hrt⟩ := id C
  unfold f_X9_size at h
  refine lv_aload_n hx hb dX9_size_0 rfl (lv_at hl 0 rfl) ?_
  refine lv_iload_n hx hb dX9_size_1 rfl (lv_at hl 1 rfl) ?_
  obtain ⟨r2, x1, hq3, h⟩ := bnd_some h
  refine w_callV (fr := 1) (lo := 21) C G hI hS 5 0 (hI.at1 rfl) (fcE_5 g _ _) rfl mv_X9_has km_X9_41 [.int a1] (k_X9_has l g a1 x _ _  hq3) rfl (by first | exact ⟨by decide, by decide⟩ | exact ⟨by show _ ≤ _ + _; omega, by show _ ≤ _ + _; omega⟩) ⟨Nat.zero_le _, Nat.zero_le _⟩ hl.1 rfl (Nat.le_of_ble_eq_true rfl) dX9_size_2 (fun H locs hI hS => ?_)
  refine lv_if_eq (tgt := 17) hx hb dX9_size_5 (by decide) (fun hc => ?_) (fun hc => ?_)
  · replace h := ite_y hc h
    refine lv_bipush (v := (-3)) hx hb dX9_size_17 (by decide) ?_
    cases h
    exact w_ireti C hI hS dX9_size_19
  replace h := ite_n hc h
  refine lv_aload_n hx hb dX9_size_8 rfl (lv_at hl 0 rfl) ?_
  refine w_get C G hI 5 0 (hI.at1 rfl) (fcE_5 g _ _) rfl in_X9 2 (by decide) kf_X9_18 (fun _ h => h) (v := .ref (ga g 8 0)) rfl dX9_size_9 ?_
  refine lv_iload_n hx hb dX9_size_12 rfl (lv_at hl 1 rfl) ?_
  obtain ⟨hn4, h⟩ := need_t h
  refine w_iald C G hI 8 0 (hI.at1 rfl) (fcA_8 g _ _) (inb_in hn4) dX9_size_13 ?_
  refine lv_goto (tgt := 19) hx hb dX9_size_14 (by decide) ?_
  cases h
  exact w_ireti C hI hS dX9_size_19
theorem k_X9_size (l : Launch) (g : gT) (a1 : Int32) (x : st) (r : Int32) (x' : st)  (h : f_X9_size a1 x = some (r, x')) : Kt l yX9_size cX9_size 2 (some .int) 2 42 g [.ref (ga g 5 0), .int a1] x (some (.int r)) x' := by
  refine Kt.of (by decide) (fun p e s m below meth c C G hI => ?_)
  have hl := lv_entry ([.ref (ga g 5 0), .int a1]) (n := 2) (Nat.le_of_ble_eq_true rfl)
  rw [lg_entry_eq]
  generalize (lg_sl ([.ref (ga g 5 0), .int a1]) ++ List.replicate (2 - (lg_sl ([.ref (ga g 5 0), .int a1])).length) Slot.unset).toArray = ls at hl ⊢
  have hl : lv_has ls 2 [(0, .ref (ga g 5 0)), (1, .int a1)] := hl
  exact w_X9_size C G a1 x _ _ ls  h hI va_S.rf hl
theorem mv_X9_size : mtV yX9_size RX9 cX9_size 2 (some .int) 1 := ⟨ki_X9_size, kl_X9_size, kI_X9, kc_X9_size, by decide +kernel⟩

/-! X9_placeFault -/
def f_X9_placeFault (a1 : Int32) (a2 : Int32) (a3 : Int32) (x : st) : Option (Int32 × st) := bnd (f_X9_has a1 x) fun r2 x1 => if r2 = 0 then (some (2, x1)) else (if inb a1 600 = true then if (x1 9 0 a1.toNatClampNeg) = a2 then (if inb a1 600 = true then bnd (f_X10_within a3 (x1 8 0 a1.toNatClampNeg) x1) fun r7 x6 => if r7 = 0 then (some (5, x6)) else (some (0, x6)) else none) else (some (3, x1)) else none)
set_option maxHeartbeats 4000000 in
set_option maxRecDepth 100000 in
theorem w_X9_placeFault {p : Program} {l : Launch} {e : Env} {s : State} {m : MethodId} {args : Array Value} {below : List Frame} {meth : Method} {c : Code} {g : gT} {r : Int32} {x' : st} (C : cxt p s m meth c args cX9_placeFault 4 RX9 (some .int)) (G : gst g s) (a1 : Int32) (a2 : Int32) (a3 : Int32) (x : st) (H : Heap) (locs : List Loc) (ls : Array Slot)  (h : f_X9_placeFault a1 a2 a3 x = some (r, x')) (hI : wst g x H) (hS : va_S (zA (gz g)) s.heap H locs) (hl : lv_has ls 4 [(0, .ref (ga g 5 0)), (1, .int a1), (2, .int a2), (3, .int a3)]) : W p l e (rmC 2 42) s m args below meth c H locs 0 0 (MQ below (Qx g (some (.int r)) x') args s 0 0 (zA (gz g))) (F0 m 0 ls []) := by
  obtain ⟨hx, hb, hml, hown, hts, hlk, hrt⟩ := id C
  unfold f_X9_placeFault at h
  refine lv_aload_n hx hb dX9_placeFault_0 rfl (lv_at hl 0 rfl) ?_
  refine lv_iload_n hx hb dX9_placeFault_1 rfl (lv_at hl 1 rfl) ?_
  obtain ⟨r2, x1, hq3, h⟩ := bnd_some h
  refine w_callV (fr := 1) (lo := 21) C G hI hS 5 0 (hI.at1 rfl) (fcE_5 g _ _) rfl mv_X9_has km_X9_41 [.int a1] (k_X9_has l g a1 x _ _  hq3) rfl (by first | exact ⟨by decide, by decide⟩ | exact ⟨by show _ ≤ _ + _; omega, by show _ ≤ _ + _; omega⟩) ⟨Nat.zero_le _, Nat.zero_le _⟩ hl.1 rfl (Nat.le_of_ble_eq_true rfl) dX9_placeFault_2 (fun H locs hI hS => ?_)
  refine lv_if_ne (tgt := 10) hx hb dX9_placeFault_5 (by decide) (fun hc => ?_) (fun hc => ?_)
  · replace h := ite_n hc h
    refine lv_aload_n hx hb dX9_placeFault_10 rfl (lv_at hl 0 rfl) ?_
    refine w_get C G hI 5 0 (hI.at1 rfl) (fcE_5 g _ _) rfl in_X9 3 (by decide) kf_X9_21 (fun _ h => h) (v := .ref (ga g 9 0)) rfl dX9_placeFault_11 ?_
    refine lv_iload_n hx hb dX9_placeFault_14 rfl (lv_at hl 1 rfl) ?_
    obtain ⟨hn4, h⟩ := need_t h
    refine w_iald C G hI 9 0 (hI.at1 rfl) (fcA_9 g _ _) (inb_in hn4) dX9_placeFault_15 ?_
    refine lv_iload_n hx hb dX9_placeFault_16 rfl (lv_at hl 2 rfl) ?_
    refine lv_icmp_eq (tgt := 22) hx hb dX9_placeFault_17 (by decide) (fun hc => ?_) (fun hc => ?_)
    · replace h := ite_y hc h
      refine lv_iload_n hx hb dX9_placeFault_22 rfl (lv_at hl 3 rfl) ?_
      refine lv_aload_n hx hb dX9_placeFault_23 rfl (lv_at hl 0 rfl) ?_
      refine w_get C G hI 5 0 (hI.at1 rfl) (fcE_5 g _ _) rfl in_X9 2 (by decide) kf_X9_18 (fun _ h => h) (v := .ref (ga g 8 0)) rfl dX9_placeFault_24 ?_
      refine lv_iload_n hx hb dX9_placeFault_27 rfl (lv_at hl 1 rfl) ?_
      obtain ⟨hn5, h⟩ := need_t h
      refine w_iald C G hI 8 0 (hI.at1 rfl) (fcA_8 g _ _) (inb_in hn5) dX9_placeFault_28 ?_
      obtain ⟨r7, x6, hq8, h⟩ := bnd_some h
      refine w_callN (fr := 0) (lo := 0) C G hI hS ms_X10_within (host := "StepBudgets") (by decide +kernel) [.int a3, .int (x1 8 0 a1.toNatClampNeg)] (k_X10_within l g a3 (x1 8 0 a1.toNatClampNeg) x1 _ _  hq8) rfl (by first | exact ⟨by decide, by decide⟩ | exact ⟨by show _ ≤ _ + _; omega, by show _ ≤ _ + _; omega⟩) ⟨Nat.zero_le _, Nat.zero_le _⟩ hl.1 rfl (Nat.le_of_ble_eq_true rfl) dX9_placeFault_29 (fun H locs hI hS => ?_)
      refine lv_if_eq (tgt := 39) hx hb dX9_placeFault_32 (by decide) (fun hc => ?_) (fun hc => ?_)
      · replace h := ite_y hc h
        refine lv_iconst (v := 5) hx hb dX9_placeFault_39 (by decide) ?_
        cases h
        exact w_ireti C hI hS dX9_placeFault_40
      replace h := ite_n hc h
      refine lv_iconst (v := 0) hx hb dX9_placeFault_35 (by decide) ?_
      refine lv_goto (tgt := 40) hx hb dX9_placeFault_36 (by decide) ?_
      cases h
      exact w_ireti C hI hS dX9_placeFault_40
    replace h := ite_n hc h
    refine lv_iconst (v := 3) hx hb dX9_placeFault_20 (by decide) ?_
    cases h
    exact w_ireti C hI hS dX9_placeFault_21
  replace h := ite_y hc h
  refine lv_iconst (v := 2) hx hb dX9_placeFault_8 (by decide) ?_
  cases h
  exact w_ireti C hI hS dX9_placeFault_9
theorem k_X9_placeFault (l : Launch) (g : gT) (a1 : Int32) (a2 : Int32) (a3 : Int32) (x : st) (r : Int32) (x' : st)  (h : f_X9_placeFault a1 a2 a3 x = some (r, x')) : Kt l yX9_placeFault cX9_placeFault 4 (some .int) 2 42 g [.ref (ga g 5 0), .int a1, .int a2, .int a3] x (some (.int r)) x' := by
  refine Kt.of (by decide) (fun p e s m below meth c C G hI => ?_)
  have hl := lv_entry ([.ref (ga g 5 0), .int a1, .int a2, .int a3]) (n := 4) (Nat.le_of_ble_eq_true rfl)
  rw [lg_entry_eq]
  generalize (lg_sl ([.ref (ga g 5 0), .int a1, .int a2, .int a3]) ++ List.replicate (4 - (lg_sl ([.ref (ga g 5 0), .int a1, .int a2, .int a3])).length) Slot.unset).toArray = ls at hl ⊢
  have hl : lv_has ls 4 [(0, .ref (ga g 5 0)), (1, .int a1), (2, .int a2), (3, .int a3)] := hl
  exact w_X9_placeFault C G a1 a2 a3 x _ _ ls  h hI va_S.rf hl
theorem mv_X9_placeFault : mtV yX9_placeFault RX9 cX9_placeFault 4 (some .int) 3 := ⟨ki_X9_placeFault, kl_X9_placeFault, kI_X9, kc_X9_placeFault, by decide +kernel⟩

/-! X9_put -/
def f_X9_put_b27 (s0 : Int32) (s1 : Int32) (x : st) : Option (st) := if inb s1 4800 = true then lets (sx x 6 0 s1.toNatClampNeg s0) fun x4 => some x4 else none
set_option maxHeartbeats 4000000 in
set_option maxRecDepth 100000 in
theorem w_X9_put_b27 {p : Program} {l : Launch} {e : Env} {s : State} {m : MethodId} {args : Array Value} {below : List Frame} {meth : Method} {c : Code} {g : gT} {x' : st} (C : cxt p s m meth c args cX9_put 4 RX9 none) (G : gst g s) (s0 : Int32) (s1 : Int32) (x : st) (H : Heap) (locs : List Loc) (ls : Array Slot)  (h : f_X9_put_b27 s0 s1 x = some x') (hI : wst g x H) (hS : va_S (zA (gz g)) s.heap H locs) (hl : lv_has ls 4 []) : W p l e (rmC 0 0) s m args below meth c H locs 0 0 (MQ below (Qx g none x') args s 0 0 (zA (gz g))) (F0 m 27 ls [.int s0, .int s1, .ref (ga g 6 0)]) := by
  obtain ⟨hx, hb, hml, hown, hts, hlk, hrt⟩ := id C
  unfold f_X9_put_b27 at h
  obtain ⟨hn3, h⟩ := need_t h
  refine w_iast C G hI hS 6 0 (hI.at1 rfl) rfl (fcA_6 g _) (y := s0) (inb_in hn3) dX9_put_27 (fun H locs hI hS => ?_)
  obtain ⟨x4, e_x4, h⟩ := lets_some h
  rw [← e_x4] at hI
  cases h
  exact w_vret C hI hS dX9_put_28
def f_X9_put (a1 : Int32) (a2 : Int32) (a3 : Int32) (x : st) : Option (st) := if inb a1 600 = true then if inb a1 600 = true then if (x 9 0 a1.toNatClampNeg) = 0 then (f_X9_put_b27 (a3.toInt8.toInt32) ((x 7 0 a1.toNatClampNeg) + a2) x) else (f_X9_put_b27 a3 ((x 7 0 a1.toNatClampNeg) + a2) x) else none else none
set_option maxHeartbeats 4000000 in
set_option maxRecDepth 100000 in
theorem w_X9_put {p : Program} {l : Launch} {e : Env} {s : State} {m : MethodId} {args : Array Value} {below : List Frame} {meth : Method} {c : Code} {g : gT} {x' : st} (C : cxt p s m meth c args cX9_put 4 RX9 none) (G : gst g s) (a1 : Int32) (a2 : Int32) (a3 : Int32) (x : st) (H : Heap) (locs : List Loc) (ls : Array Slot)  (h : f_X9_put a1 a2 a3 x = some x') (hI : wst g x H) (hS : va_S (zA (gz g)) s.heap H locs) (hl : lv_has ls 4 [(0, .ref (ga g 5 0)), (1, .int a1), (2, .int a2), (3, .int a3)]) : W p l e (rmC 0 0) s m args below meth c H locs 0 0 (MQ below (Qx g none x') args s 0 0 (zA (gz g))) (F0 m 0 ls []) := by
  obtain ⟨hx, hb, hml, hown, hts, hlk, hrt⟩ := id C
  unfold f_X9_put at h
  refine lv_aload_n hx hb dX9_put_0 rfl (lv_at hl 0 rfl) ?_
  refine w_get C G hI 5 0 (hI.at1 rfl) (fcE_5 g _ _) rfl in_X9 0 (by decide) kf_X9_11 (fun _ h => h) (v := .ref (ga g 6 0)) rfl dX9_put_1 ?_
  refine lv_aload_n hx hb dX9_put_4 rfl (lv_at hl 0 rfl) ?_
  refine w_get C G hI 5 0 (hI.at1 rfl) (fcE_5 g _ _) rfl in_X9 1 (by decide) kf_X9_15 (fun _ h => h) (v := .ref (ga g 7 0)) rfl dX9_put_5 ?_
  refine lv_iload_n hx hb dX9_put_8 rfl (lv_at hl 1 rfl) ?_
  obtain ⟨hn1, h⟩ := need_t h
  refine w_iald C G hI 7 0 (hI.at1 rfl) (fcA_7 g _ _) (inb_in hn1) dX9_put_9 ?_
  refine lv_iload_n hx hb dX9_put_10 rfl (lv_at hl 2 rfl) ?_
  refine lv_iadd hx hb dX9_put_11 ?_
  refine lv_aload_n hx hb dX9_put_12 rfl (lv_at hl 0 rfl) ?_
  refine w_get C G hI 5 0 (hI.at1 rfl) (fcE_5 g _ _) rfl in_X9 3 (by decide) kf_X9_21 (fun _ h => h) (v := .ref (ga g 9 0)) rfl dX9_put_13 ?_
  refine lv_iload_n hx hb dX9_put_16 rfl (lv_at hl 1 rfl) ?_
  obtain ⟨hn2, h⟩ := need_t h
  refine w_iald C G hI 9 0 (hI.at1 rfl) (fcA_9 g _ _) (inb_in hn2) dX9_put_17 ?_
  refine lv_if_ne (tgt := 26) hx hb dX9_put_18 (by decide) (fun hc => ?_) (fun hc => ?_)
  · replace h := ite_n hc h
    refine lv_iload_n hx hb dX9_put_26 rfl (lv_at hl 3 rfl) ?_
    exact w_X9_put_b27 C G a3 ((x 7 0 a1.toNatClampNeg) + a2) x _ _ _  h hI hS (lv_sub hl [] rfl)
  replace h := ite_y hc h
  refine lv_iload_n hx hb dX9_put_21 rfl (lv_at hl 3 rfl) ?_
  refine lv_i2b (v := (a3.toInt8.toInt32)) hx hb dX9_put_22 rfl ?_
  refine lv_goto (tgt := 27) hx hb dX9_put_23 (by decide) ?_
  exact w_X9_put_b27 C G (a3.toInt8.toInt32) ((x 7 0 a1.toNatClampNeg) + a2) x _ _ _  h hI hS (lv_sub hl [] rfl)
theorem k_X9_put (l : Launch) (g : gT) (a1 : Int32) (a2 : Int32) (a3 : Int32) (x : st) (x' : st)  (h : f_X9_put a1 a2 a3 x = some x') : Kt l yX9_put cX9_put 4 none 0 0 g [.ref (ga g 5 0), .int a1, .int a2, .int a3] x none x' := by
  refine Kt.of (by decide) (fun p e s m below meth c C G hI => ?_)
  have hl := lv_entry ([.ref (ga g 5 0), .int a1, .int a2, .int a3]) (n := 4) (Nat.le_of_ble_eq_true rfl)
  rw [lg_entry_eq]
  generalize (lg_sl ([.ref (ga g 5 0), .int a1, .int a2, .int a3]) ++ List.replicate (4 - (lg_sl ([.ref (ga g 5 0), .int a1, .int a2, .int a3])).length) Slot.unset).toArray = ls at hl ⊢
  have hl : lv_has ls 4 [(0, .ref (ga g 5 0)), (1, .int a1), (2, .int a2), (3, .int a3)] := hl
  exact w_X9_put C G a1 a2 a3 x _ _ ls  h hI va_S.rf hl
theorem mv_X9_put : mtV yX9_put RX9 cX9_put 4 none 3 := ⟨ki_X9_put, kl_X9_put, kI_X9, kc_X9_put, by decide +kernel⟩

/-! X9_get -/
def f_X9_get (a1 : Int32) (a2 : Int32) (x : st) : Option (Int32 × st) := if inb a1 600 = true then if inb ((x 7 0 a1.toNatClampNeg) + a2) 4800 = true then some ((x 6 0 ((x 7 0 a1.toNatClampNeg) + a2).toNatClampNeg), x) else none else none
set_option maxHeartbeats 4000000 in
set_option maxRecDepth 100000 in
theorem w_X9_get {p : Program} {l : Launch} {e : Env} {s : State} {m : MethodId} {args : Array Value} {below : List Frame} {meth : Method} {c : Code} {g : gT} {r : Int32} {x' : st} (C : cxt p s m meth c args cX9_get 3 RX9 (some .int)) (G : gst g s) (a1 : Int32) (a2 : Int32) (x : st) (H : Heap) (locs : List Loc) (ls : Array Slot)  (h : f_X9_get a1 a2 x = some (r, x')) (hI : wst g x H) (hS : va_S (zA (gz g)) s.heap H locs) (hl : lv_has ls 3 [(0, .ref (ga g 5 0)), (1, .int a1), (2, .int a2)]) : W p l e (rmC 0 0) s m args below meth c H locs 0 0 (MQ below (Qx g (some (.int r)) x') args s 0 0 (zA (gz g))) (F0 m 0 ls []) := by
  obtain ⟨hx, hb, hml, hown, hts, hlk, hrt⟩ := id C
  unfold f_X9_get at h
  refine lv_aload_n hx hb dX9_get_0 rfl (lv_at hl 0 rfl) ?_
  refine w_get C G hI 5 0 (hI.at1 rfl) (fcE_5 g _ _) rfl in_X9 0 (by decide) kf_X9_11 (fun _ h => h) (v := .ref (ga g 6 0)) rfl dX9_get_1 ?_
  refine lv_aload_n hx hb dX9_get_4 rfl (lv_at hl 0 rfl) ?_
  refine w_get C G hI 5 0 (hI.at1 rfl) (fcE_5 g _ _) rfl in_X9 1 (by decide) kf_X9_15 (fun _ h => h) (v := .ref (ga g 7 0)) rfl dX9_get_5 ?_
  refine lv_iload_n hx hb dX9_get_8 rfl (lv_at hl 1 rfl) ?_
  obtain ⟨hn1, h⟩ := need_t h
  refine w_iald C G hI 7 0 (hI.at1 rfl) (fcA_7 g _ _) (inb_in hn1) dX9_get_9 ?_
  refine lv_iload_n hx hb dX9_get_10 rfl (lv_at hl 2 rfl) ?_
  refine lv_iadd hx hb dX9_get_11 ?_
  obtain ⟨hn2, h⟩ := need_t h
  refine w_iald C G hI 6 0 (hI.at1 rfl) (fcA_6 g _ _) (inb_in hn2) dX9_get_12 ?_
  cases h
  exact w_ireti C hI hS dX9_get_13
theorem k_X9_get (l : Launch) (g : gT) (a1 : Int32) (a2 : Int32) (x : st) (r : Int32) (x' : st)  (h : f_X9_get a1 a2 x = some (r, x')) : Kt l yX9_get cX9_get 3 (some .int) 0 0 g [.ref (ga g 5 0), .int a1, .int a2] x (some (.int r)) x' := by
  refine Kt.of (by decide) (fun p e s m below meth c C G hI => ?_)
  have hl := lv_entry ([.ref (ga g 5 0), .int a1, .int a2]) (n := 3) (Nat.le_of_ble_eq_true rfl)
  rw [lg_entry_eq]
  generalize (lg_sl ([.ref (ga g 5 0), .int a1, .int a2]) ++ List.replicate (3 - (lg_sl ([.ref (ga g 5 0), .int a1, .int a2])).length) Slot.unset).toArray = ls at hl ⊢
  have hl : lv_has ls 3 [(0, .ref (ga g 5 0)), (1, .int a1), (2, .int a2)] := hl
  exact w_X9_get C G a1 a2 x _ _ ls  h hI va_S.rf hl
theorem mv_X9_get : mtV yX9_get RX9 cX9_get 3 (some .int) 2 := ⟨ki_X9_get, kl_X9_get, kI_X9, kc_X9_get, by decide +kernel⟩

/-! X9_copyFault -/
def f_X9_copyFault_b16  (x : st) : Option (Int32 × st) := some (2, x)
set_option maxHeartbeats 4000000 in
set_option maxRecDepth 100000 in
theorem w_X9_copyFault_b16 {p : Program} {l : Launch} {e : Env} {s : State} {m : MethodId} {args : Array Value} {below : List Frame} {meth : Method} {c : Code} {g : gT} {r : Int32} {x' : st} (C : cxt p s m meth c args cX9_copyFault 4 RX9 (some .int)) (G : gst g s)  (x : st) (H : Heap) (locs : List Loc) (ls : Array Slot)  (h : f_X9_copyFault_b16  x = some (r, x')) (hI : wst g x H) (hS : va_S (zA (gz g)) s.heap H locs) (hl : lv_has ls 4 []) : W p l e (rmC 2 42) s m args below meth c H locs 0 0 (MQ below (Qx g (some (.int r)) x') args s 0 0 (zA (gz g))) (F0 m 16 ls []) := by
  obtain ⟨hx, hb, hml, hown, hts, hlk, hrt⟩ := id C
  unfold f_X9_copyFault_b16 at h
  refine lv_iconst (v := 2) hx hb dX9_copyFault_16 (by decide) ?_
  cases h
  exact w_ireti C hI hS dX9_copyFault_17
def f_X9_copyFault_b59  (x : st) : Option (Int32 × st) := some (5, x)
set_option maxHeartbeats 4000000 in
set_option maxRecDepth 100000 in
theorem w_X9_copyFault_b59 {p : Program} {l : Launch} {e : Env} {s : State} {m : MethodId} {args : Array Value} {below : List Frame} {meth : Method} {c : Code} {g : gT} {r : Int32} {x' : st} (C : cxt p s m meth c args cX9_copyFault 4 RX9 (some .int)) (G : gst g s)  (x : st) (H : Heap) (locs : List Loc) (ls : Array Slot)  (h : f_X9_copyFault_b59  x = some (r, x')) (hI : wst g x H) (hS : va_S (zA (gz g)) s.heap H locs) (hl : lv_has ls 4 []) : W p l e (rmC 2 42) s m args below meth c H locs 0 0 (MQ below (Qx g (some (.int r)) x') args s 0 0 (zA (gz g))) (F0 m 59 ls []) := by
  obtain ⟨hx, hb, hml, hown, hts, hlk, hrt⟩ := id C
  unfold f_X9_copyFault_b59 at h
  refine lv_iconst (v := 5) hx hb dX9_copyFault_59 (by decide) ?_
  refine lv_goto (tgt := 64) hx hb dX9_copyFault_60 (by decide) ?_
  cases h
  exact w_ireti C hI hS dX9_copyFault_64
def f_X9_copyFault (a1 : Int32) (a2 : Int32) (a3 : Int32) (x : st) : Option (Int32 × st) := bnd (f_X9_has a1 x) fun r2 x1 => if r2 = 0 then (f_X9_copyFault_b16  x1) else (bnd (f_X9_has a2 x1) fun r5 x4 => if r5 = 0 then (f_X9_copyFault_b16  x4) else (if inb a1 600 = true then if inb a2 600 = true then if (x4 9 0 a1.toNatClampNeg) = (x4 9 0 a2.toNatClampNeg) then (if a3 < 0 then (f_X9_copyFault_b59  x4) else (if inb a1 600 = true then if (x4 8 0 a1.toNatClampNeg) < a3 then (f_X9_copyFault_b59  x4) else (if inb a2 600 = true then if a3 ≤ (x4 8 0 a2.toNatClampNeg) then (some (0, x4)) else (f_X9_copyFault_b59  x4) else none) else none)) else (some (4, x4)) else none else none))
set_option maxHeartbeats 4000000 in
set_option maxRecDepth 100000 in
theorem w_X9_copyFault {p : Program} {l : Launch} {e : Env} {s : State} {m : MethodId} {args : Array Value} {below : List Frame} {meth : Method} {c : Code} {g : gT} {r : Int32} {x' : st} (C : cxt p s m meth c args cX9_copyFault 4 RX9 (some .int)) (G : gst g s) (a1 : Int32) (a2 : Int32) (a3 : Int32) (x : st) (H : Heap) (locs : List Loc) (ls : Array Slot)  (h : f_X9_copyFault a1 a2 a3 x = some (r, x')) (hI : wst g x H) (hS : va_S (zA (gz g)) s.heap H locs) (hl : lv_has ls 4 [(0, .ref (ga g 5 0)), (1, .int a1), (2, .int a2), (3, .int a3)]) : W p l e (rmC 2 42) s m args below meth c H locs 0 0 (MQ below (Qx g (some (.int r)) x') args s 0 0 (zA (gz g))) (F0 m 0 ls []) := by
  obtain ⟨hx, hb, hml, hown, hts, hlk, hrt⟩ := id C
  unfold f_X9_copyFault at h
  refine lv_aload_n hx hb dX9_copyFault_0 rfl (lv_at hl 0 rfl) ?_
  refine lv_iload_n hx hb dX9_copyFault_1 rfl (lv_at hl 1 rfl) ?_
  obtain ⟨r2, x1, hq3, h⟩ := bnd_some h
  refine w_callV (fr := 1) (lo := 21) C G hI hS 5 0 (hI.at1 rfl) (fcE_5 g _ _) rfl mv_X9_has km_X9_41 [.int a1] (k_X9_has l g a1 x _ _  hq3) rfl (by first | exact ⟨by decide, by decide⟩ | exact ⟨by show _ ≤ _ + _; omega, by show _ ≤ _ + _; omega⟩) ⟨Nat.zero_le _, Nat.zero_le _⟩ hl.1 rfl (Nat.le_of_ble_eq_true rfl) dX9_copyFault_2 (fun H locs hI hS => ?_)
  refine lv_if_eq (tgt := 16) hx hb dX9_copyFault_5 (by decide) (fun hc => ?_) (fun hc => ?_)
  · replace h := ite_y hc h
    exact w_X9_copyFault_b16 C G  x1 _ _ _  h hI hS (lv_sub hl [] rfl)
  replace h := ite_n hc h
  refine lv_aload_n hx hb dX9_copyFault_8 rfl (lv_at hl 0 rfl) ?_
  refine lv_iload_n hx hb dX9_copyFault_9 rfl (lv_at hl 2 rfl) ?_
  obtain ⟨r5, x4, hq6, h⟩ := bnd_some h
  refine w_callV (fr := 1) (lo := 21) C G hI hS 5 0 (hI.at1 rfl) (fcE_5 g _ _) rfl mv_X9_has km_X9_41 [.int a2] (k_X9_has l g a2 x1 _ _  hq6) rfl (by first | exact ⟨by decide, by decide⟩ | exact ⟨by show _ ≤ _ + _; omega, by show _ ≤ _ + _; omega⟩) ⟨Nat.zero_le _, Nat.zero_le _⟩ hl.1 rfl (Nat.le_of_ble_eq_true rfl) dX9_copyFault_10 (fun H locs hI hS => ?_)
  refine lv_if_ne (tgt := 18) hx hb dX9_copyFault_13 (by decide) (fun hc => ?_) (fun hc => ?_)
  · replace h := ite_n hc h
    refine lv_aload_n hx hb dX9_copyFault_18 rfl (lv_at hl 0 rfl) ?_
    refine w_get C G hI 5 0 (hI.at1 rfl) (fcE_5 g _ _) rfl in_X9 3 (by decide) kf_X9_21 (fun _ h => h) (v := .ref (ga g 9 0)) rfl dX9_copyFault_19 ?_
    refine lv_iload_n hx hb dX9_copyFault_22 rfl (lv_at hl 1 rfl) ?_
    obtain ⟨hn7, h⟩ := need_t h
    refine w_iald C G hI 9 0 (hI.at1 rfl) (fcA_9 g _ _) (inb_in hn7) dX9_copyFault_23 ?_
    refine lv_aload_n hx hb dX9_copyFault_24 rfl (lv_at hl 0 rfl) ?_
    refine w_get C G hI 5 0 (hI.at1 rfl) (fcE_5 g _ _) rfl in_X9 3 (by decide) kf_X9_21 (fun _ h => h) (v := .ref (ga g 9 0)) rfl dX9_copyFault_25 ?_
    refine lv_iload_n hx hb dX9_copyFault_28 rfl (lv_at hl 2 rfl) ?_
    obtain ⟨hn8, h⟩ := need_t h
    refine w_iald C G hI 9 0 (hI.at1 rfl) (fcA_9 g _ _) (inb_in hn8) dX9_copyFault_29 ?_
    refine lv_icmp_eq (tgt := 35) hx hb dX9_copyFault_30 (by decide) (fun hc => ?_) (fun hc => ?_)
    · replace h := ite_y hc h
      refine lv_iload_n hx hb dX9_copyFault_35 rfl (lv_at hl 3 rfl) ?_
      refine lv_if_lt (tgt := 59) hx hb dX9_copyFault_36 (by decide) (fun hc => ?_) (fun hc => ?_)
      · replace h := ite_y hc h
        exact w_X9_copyFault_b59 C G  x4 _ _ _  h hI hS (lv_sub hl [] rfl)
      replace h := ite_n hc h
      refine lv_iload_n hx hb dX9_copyFault_39 rfl (lv_at hl 3 rfl) ?_
      refine lv_aload_n hx hb dX9_copyFault_40 rfl (lv_at hl 0 rfl) ?_
      refine w_get C G hI 5 0 (hI.at1 rfl) (fcE_5 g _ _) rfl in_X9 2 (by decide) kf_X9_18 (fun _ h => h) (v := .ref (ga g 8 0)) rfl dX9_copyFault_41 ?_
      refine lv_iload_n hx hb dX9_copyFault_44 rfl (lv_at hl 1 rfl) ?_
      obtain ⟨hn9, h⟩ := need_t h
      refine w_iald C G hI 8 0 (hI.at1 rfl) (fcA_8 g _ _) (inb_in hn9) dX9_copyFault_45 ?_
      refine lv_icmp_gt (tgt := 59) hx hb dX9_copyFault_46 (by decide) (fun hc => ?_) (fun hc => ?_)
      · replace h := ite_y hc h
        exact w_X9_copyFault_b59 C G  x4 _ _ _  h hI hS (lv_sub hl [] rfl)
      replace h := ite_n hc h
      refine lv_iload_n hx hb dX9_copyFault_49 rfl (lv_at hl 3 rfl) ?_
      refine lv_aload_n hx hb dX9_copyFault_50 rfl (lv_at hl 0 rfl) ?_
      refine w_get C G hI 5 0 (hI.at1 rfl) (fcE_5 g _ _) rfl in_X9 2 (by decide) kf_X9_18 (fun _ h => h) (v := .ref (ga g 8 0)) rfl dX9_copyFault_51 ?_
      refine lv_iload_n hx hb dX9_copyFault_54 rfl (lv_at hl 2 rfl) ?_
      obtain ⟨hn10, h⟩ := need_t h
      refine w_iald C G hI 8 0 (hI.at1 rfl) (fcA_8 g _ _) (inb_in hn10) dX9_copyFault_55 ?_
      refine lv_icmp_le (tgt := 63) hx hb dX9_copyFault_56 (by decide) (fun hc => ?_) (fun hc => ?_)
      · replace h := ite_y hc h
        refine lv_iconst (v := 0) hx hb dX9_copyFault_63 (by decide) ?_
        cases h
        exact w_ireti C hI hS dX9_copyFault_64
      replace h := ite_n hc h
      exact w_X9_copyFault_b59 C G  x4 _ _ _  h hI hS (lv_sub hl [] rfl)
    replace h := ite_n hc h
    refine lv_iconst (v := 4) hx hb dX9_copyFault_33 (by decide) ?_
    cases h
    exact w_ireti C hI hS dX9_copyFault_34
  replace h := ite_y hc h
  exact w_X9_copyFault_b16 C G  x4 _ _ _  h hI hS (lv_sub hl [] rfl)
theorem k_X9_copyFault (l : Launch) (g : gT) (a1 : Int32) (a2 : Int32) (a3 : Int32) (x : st) (r : Int32) (x' : st)  (h : f_X9_copyFault a1 a2 a3 x = some (r, x')) : Kt l yX9_copyFault cX9_copyFault 4 (some .int) 2 42 g [.ref (ga g 5 0), .int a1, .int a2, .int a3] x (some (.int r)) x' := by
  refine Kt.of (by decide) (fun p e s m below meth c C G hI => ?_)
  have hl := lv_entry ([.ref (ga g 5 0), .int a1, .int a2, .int a3]) (n := 4) (Nat.le_of_ble_eq_true rfl)
  rw [lg_entry_eq]
  generalize (lg_sl ([.ref (ga g 5 0), .int a1, .int a2, .int a3]) ++ List.replicate (4 - (lg_sl ([.ref (ga g 5 0), .int a1, .int a2, .int a3])).length) Slot.unset).toArray = ls at hl ⊢
  have hl : lv_has ls 4 [(0, .ref (ga g 5 0)), (1, .int a1), (2, .int a2), (3, .int a3)] := hl
  exact w_X9_copyFault C G a1 a2 a3 x _ _ ls  h hI va_S.rf hl
theorem mv_X9_copyFault : mtV yX9_copyFault RX9 cX9_copyFault 4 (some .int) 3 := ⟨ki_X9_copyFault, kl_X9_copyFault, kI_X9, kc_X9_copyFault, by decide +kernel⟩

/-! X9_copy -/
def f_X9_copy (a1 : Int32) (a2 : Int32) (a3 : Int32) (x : st) : Option (st) := if inb a1 600 = true then if inb a2 600 = true then if cpok (x 7 0 a1.toNatClampNeg) (x 7 0 a2.toNatClampNeg) a3 4800 = true then lets (sxA x 6 0 (va_cpy (x 6 0) (x 6 0) (x 7 0 a1.toNatClampNeg).toNatClampNeg (x 7 0 a2.toNatClampNeg).toNatClampNeg a3.toNatClampNeg)) fun x4 => some x4 else none else none else none
set_option maxHeartbeats 4000000 in
set_option maxRecDepth 100000 in
theorem w_X9_copy {p : Program} {l : Launch} {e : Env} {s : State} {m : MethodId} {args : Array Value} {below : List Frame} {meth : Method} {c : Code} {g : gT} {x' : st} (C : cxt p s m meth c args cX9_copy 4 RX9 none) (G : gst g s) (a1 : Int32) (a2 : Int32) (a3 : Int32) (x : st) (H : Heap) (locs : List Loc) (ls : Array Slot)  (h : f_X9_copy a1 a2 a3 x = some x') (hI : wst g x H) (hS : va_S (zA (gz g)) s.heap H locs) (hl : lv_has ls 4 [(0, .ref (ga g 5 0)), (1, .int a1), (2, .int a2), (3, .int a3)]) : W p l e (rmC 1 100) s m args below meth c H locs 0 0 (MQ below (Qx g none x') args s 0 0 (zA (gz g))) (F0 m 0 ls []) := by
  obtain ⟨hx, hb, hml, hown, hts, hlk, hrt⟩ := id C
  unfold f_X9_copy at h
  refine lv_aload_n hx hb dX9_copy_0 rfl (lv_at hl 0 rfl) ?_
  refine w_get C G hI 5 0 (hI.at1 rfl) (fcE_5 g _ _) rfl in_X9 0 (by decide) kf_X9_11 (fun _ h => h) (v := .ref (ga g 6 0)) rfl dX9_copy_1 ?_
  refine lv_aload_n hx hb dX9_copy_4 rfl (lv_at hl 0 rfl) ?_
  refine w_get C G hI 5 0 (hI.at1 rfl) (fcE_5 g _ _) rfl in_X9 1 (by decide) kf_X9_15 (fun _ h => h) (v := .ref (ga g 7 0)) rfl dX9_copy_5 ?_
  refine lv_iload_n hx hb dX9_copy_8 rfl (lv_at hl 1 rfl) ?_
  obtain ⟨hn1, h⟩ := need_t h
  refine w_iald C G hI 7 0 (hI.at1 rfl) (fcA_7 g _ _) (inb_in hn1) dX9_copy_9 ?_
  refine lv_aload_n hx hb dX9_copy_10 rfl (lv_at hl 0 rfl) ?_
  refine w_get C G hI 5 0 (hI.at1 rfl) (fcE_5 g _ _) rfl in_X9 0 (by decide) kf_X9_11 (fun _ h => h) (v := .ref (ga g 6 0)) rfl dX9_copy_11 ?_
  refine lv_aload_n hx hb dX9_copy_14 rfl (lv_at hl 0 rfl) ?_
  refine w_get C G hI 5 0 (hI.at1 rfl) (fcE_5 g _ _) rfl in_X9 1 (by decide) kf_X9_15 (fun _ h => h) (v := .ref (ga g 7 0)) rfl dX9_copy_15 ?_
  refine lv_iload_n hx hb dX9_copy_18 rfl (lv_at hl 2 rfl) ?_
  obtain ⟨hn2, h⟩ := need_t h
  refine w_iald C G hI 7 0 (hI.at1 rfl) (fcA_7 g _ _) (inb_in hn2) dX9_copy_19 ?_
  refine lv_iload_n hx hb dX9_copy_20 rfl (lv_at hl 3 rfl) ?_
  obtain ⟨hn3, h⟩ := need_t h
  refine w_acopy C G hI hS 6 0 (hI.at1 rfl) rfl (fcA_6 g _) km_X9_45 hl.1.symm hn3 (by decide) (by decide +kernel) dX9_copy_21 (fun H locs hI hS => ?_)
  obtain ⟨x4, e_x4, h⟩ := lets_some h
  rw [← e_x4] at hI
  cases h
  exact w_vret C hI hS dX9_copy_24
theorem k_X9_copy (l : Launch) (g : gT) (a1 : Int32) (a2 : Int32) (a3 : Int32) (x : st) (x' : st)  (h : f_X9_copy a1 a2 a3 x = some x') : Kt l yX9_copy cX9_copy 4 none 1 100 g [.ref (ga g 5 0), .int a1, .int a2, .int a3] x none x' := by
  refine Kt.of (by decide) (fun p e s m below meth c C G hI => ?_)
  have hl := lv_entry ([.ref (ga g 5 0), .int a1, .int a2, .int a3]) (n := 4) (Nat.le_of_ble_eq_true rfl)
  rw [lg_entry_eq]
  generalize (lg_sl ([.ref (ga g 5 0), .int a1, .int a2, .int a3]) ++ List.replicate (4 - (lg_sl ([.ref (ga g 5 0), .int a1, .int a2, .int a3])).length) Slot.unset).toArray = ls at hl ⊢
  have hl : lv_has ls 4 [(0, .ref (ga g 5 0)), (1, .int a1), (2, .int a2), (3, .int a3)] := hl
  exact w_X9_copy C G a1 a2 a3 x _ _ ls  h hI va_S.rf hl
theorem mv_X9_copy : mtV yX9_copy RX9 cX9_copy 4 none 3 := ⟨ki_X9_copy, kl_X9_copy, kI_X9, kc_X9_copy, by decide +kernel⟩

/-! X2_begin -/
def f_X2_begin (i0 : Nat) (a1 : Int32) (a2 : Int32) (a3 : Int32) (x : st) : Option (st) := bnv (f_J7_fill_53178_13 i0 0 x) fun x1 => bnv (f_J7_fill_53178_14 i0 (-3) x1) fun x4 => if inb 0 6 = true then lets (sx x4 13 i0 (0 : Int32).toNatClampNeg a2) fun x8 => if inb 0 3 = true then lets (sx x8 14 i0 (0 : Int32).toNatClampNeg a3) fun x10 => lets (sx x10 12 i0 2 a1) fun x11 => lets (sx x11 12 i0 3 0) fun x12 => lets (sx x12 12 i0 4 0) fun x13 => lets (sx x13 12 i0 5 0) fun x14 => some x14 else none else none
set_option maxHeartbeats 4000000 in
set_option maxRecDepth 100000 in
theorem w_X2_begin {p : Program} {l : Launch} {e : Env} {s : State} {m : MethodId} {args : Array Value} {below : List Frame} {meth : Method} {c : Code} {g : gT} {x' : st} (C : cxt p s m meth c args cX2_begin 4 RX2 none) (G : gst g s) (i0 : Nat) (a1 : Int32) (a2 : Int32) (a3 : Int32) (x : st) (H : Heap) (locs : List Loc) (ls : Array Slot) (h_i0 : i0 < 12) (h : f_X2_begin i0 a1 a2 a3 x = some x') (hI : wst g x H) (hS : va_S (zA (gz g)) s.heap H locs) (hl : lv_has ls 4 [(0, .ref (ga g 12 i0)), (1, .int a1), (2, .int a2), (3, .int a3)]) : W p l e (rmC 1 23) s m args below meth c H locs 0 0 (MQ below (Qx g none x') args s 0 0 (zA (gz g))) (F0 m 0 ls []) := by
  obtain ⟨hx, hb, hml, hown, hts, hlk, hrt⟩ := id C
  unfold f_X2_begin at h
  refine lv_aload_n hx hb dX2_begin_0 rfl (lv_at hl 0 rfl) ?_
  refine w_get C G hI 12 i0 (hI.at12 rfl h_i0) (fcE_12 g _ _) rfl in_X2 0 (by decide) kf_X2_9 (fun _ h => h) (v := .ref (ga g 13 i0)) rfl dX2_begin_1 ?_
  refine lv_iconst (v := 0) hx hb dX2_begin_4 (by decide) ?_
  obtain ⟨x1, hq3, h⟩ := bnv_some h
  refine w_callS (fr := 0) (lo := 0) C G hI hS ms_J7_fill_53178 km_X2_18 [.ref (ga g 13 i0), .int 0] (k_J7_fill_53178_13 l g i0 0 x _ h_i0 hq3) rfl (by first | exact ⟨by decide, by decide⟩ | exact ⟨by show _ ≤ _ + _; omega, by show _ ≤ _ + _; omega⟩) ⟨Nat.zero_le _, Nat.zero_le _⟩ hl.1 rfl (Nat.le_of_ble_eq_true rfl) dX2_begin_5 (fun H locs hI hS => ?_)
  refine lv_aload_n hx hb dX2_begin_8 rfl (lv_at hl 0 rfl) ?_
  refine w_get C G hI 12 i0 (hI.at12 rfl h_i0) (fcE_12 g _ _) rfl in_X2 1 (by decide) kf_X2_15 (fun _ h => h) (v := .ref (ga g 14 i0)) rfl dX2_begin_9 ?_
  refine lv_bipush (v := (-3)) hx hb dX2_begin_12 (by decide) ?_
  obtain ⟨x4, hq6, h⟩ := bnv_some h
  refine w_callS (fr := 0) (lo := 0) C G hI hS ms_J7_fill_53178 km_X2_18 [.ref (ga g 14 i0), .int (-3)] (k_J7_fill_53178_14 l g i0 (-3) x1 _ h_i0 hq6) rfl (by first | exact ⟨by decide, by decide⟩ | exact ⟨by show _ ≤ _ + _; omega, by show _ ≤ _ + _; omega⟩) ⟨Nat.zero_le _, Nat.zero_le _⟩ hl.1 rfl (Nat.le_of_ble_eq_true rfl) dX2_begin_14 (fun H locs hI hS => ?_)
  refine lv_aload_n hx hb dX2_begin_17 rfl (lv_at hl 0 rfl) ?_
  refine w_get C G hI 12 i0 (hI.at12 rfl h_i0) (fcE_12 g _ _) rfl in_X2 0 (by decide) kf_X2_9 (fun _ h => h) (v := .ref (ga g 13 i0)) rfl dX2_begin_18 ?_
  refine lv_iconst (v := 0) hx hb dX2_begin_21 (by decide) ?_
  refine lv_iload_n hx hb dX2_begin_22 rfl (lv_at hl 2 rfl) ?_
  obtain ⟨hn7, h⟩ := need_t h
  refine w_iast C G hI hS 13 i0 (hI.at12 rfl h_i0) rfl (fcA_13 g _) (y := a2) (inb_in hn7) dX2_begin_23 (fun H locs hI hS => ?_)
  obtain ⟨x8, e_x8, h⟩ := lets_some h
  rw [← e_x8] at hI
  refine lv_aload_n hx hb dX2_begin_24 rfl (lv_at hl 0 rfl) ?_
  refine w_get C G hI 12 i0 (hI.at12 rfl h_i0) (fcE_12 g _ _) rfl in_X2 1 (by decide) kf_X2_15 (fun _ h => h) (v := .ref (ga g 14 i0)) rfl dX2_begin_25 ?_
  refine lv_iconst (v := 0) hx hb dX2_begin_28 (by decide) ?_
  refine lv_iload_n hx hb dX2_begin_29 rfl (lv_at hl 3 rfl) ?_
  obtain ⟨hn9, h⟩ := need_t h
  refine w_iast C G hI hS 14 i0 (hI.at12 rfl h_i0) rfl (fcA_14 g _) (y := a3) (inb_in hn9) dX2_begin_30 (fun H locs hI hS => ?_)
  obtain ⟨x10, e_x10, h⟩ := lets_some h
  rw [← e_x10] at hI
  refine lv_aload_n hx hb dX2_begin_31 rfl (lv_at hl 0 rfl) ?_
  refine lv_iload_n hx hb dX2_begin_32 rfl (lv_at hl 1 rfl) ?_
  refine w_put C G hI hS 12 i0 (hI.at12 rfl h_i0) rfl (fcE_12 g _ _) rfl in_X2 tyX2 tyX2_ok nmX2 2 (by decide) kf_X2_24 (fun _ h => h) rfl (ty := .int) (y := a1) (by decide +kernel) rfl rfl (Nat.le_of_ble_eq_true rfl) rfl dX2_begin_33 (fun H locs hI hS => ?_)
  obtain ⟨x11, e_x11, h⟩ := lets_some h
  rw [← e_x11] at hI
  refine lv_aload_n hx hb dX2_begin_36 rfl (lv_at hl 0 rfl) ?_
  refine lv_iconst (v := 0) hx hb dX2_begin_37 (by decide) ?_
  refine w_put C G hI hS 12 i0 (hI.at12 rfl h_i0) rfl (fcE_12 g _ _) rfl in_X2 tyX2 tyX2_ok nmX2 3 (by decide) kf_X2_28 (fun _ h => h) rfl (ty := .int) (y := 0) (by decide +kernel) rfl rfl (Nat.le_of_ble_eq_true rfl) rfl dX2_begin_38 (fun H locs hI hS => ?_)
  obtain ⟨x12, e_x12, h⟩ := lets_some h
  rw [← e_x12] at hI
  refine lv_aload_n hx hb dX2_begin_41 rfl (lv_at hl 0 rfl) ?_
  refine lv_iconst (v := 0) hx hb dX2_begin_42 (by decide) ?_
  refine w_put C G hI hS 12 i0 (hI.at12 rfl h_i0) rfl (fcE_12 g _ _) rfl in_X2 tyX2 tyX2_ok nmX2 4 (by decide) kf_X2_31 (fun _ h => h) rfl (ty := .int) (y := 0) (by decide +kernel) rfl rfl (Nat.le_of_ble_eq_true rfl) rfl dX2_begin_43 (fun H locs hI hS => ?_)
  obtain ⟨x13, e_x13, h⟩ := lets_some h
  rw [← e_x13] at hI
  refine lv_aload_n hx hb dX2_begin_46 rfl (lv_at hl 0 rfl) ?_
  refine lv_iconst (v := 0) hx hb dX2_begin_47 (by decide) ?_
  refine w_put C G hI hS 12 i0 (hI.at12 rfl h_i0) rfl (fcE_12 g _ _) rfl in_X2 tyX2 tyX2_ok nmX2 5 (by decide) kf_X2_34 (fun _ h => h) rfl (ty := .int) (y := 0) (by decide +kernel) rfl rfl (Nat.le_of_ble_eq_true rfl) rfl dX2_begin_48 (fun H locs hI hS => ?_)
  obtain ⟨x14, e_x14, h⟩ := lets_some h
  rw [← e_x14] at hI
  cases h
  exact w_vret C hI hS dX2_begin_51
theorem k_X2_begin (l : Launch) (g : gT) (i0 : Nat) (a1 : Int32) (a2 : Int32) (a3 : Int32) (x : st) (x' : st) (h_i0 : i0 < 12) (h : f_X2_begin i0 a1 a2 a3 x = some x') : Kt l yX2_begin cX2_begin 4 none 1 23 g [.ref (ga g 12 i0), .int a1, .int a2, .int a3] x none x' := by
  refine Kt.of (by decide) (fun p e s m below meth c C G hI => ?_)
  have hl := lv_entry ([.ref (ga g 12 i0), .int a1, .int a2, .int a3]) (n := 4) (Nat.le_of_ble_eq_true rfl)
  rw [lg_entry_eq]
  generalize (lg_sl ([.ref (ga g 12 i0), .int a1, .int a2, .int a3]) ++ List.replicate (4 - (lg_sl ([.ref (ga g 12 i0), .int a1, .int a2, .int a3])).length) Slot.unset).toArray = ls at hl ⊢
  have hl : lv_has ls 4 [(0, .ref (ga g 12 i0)), (1, .int a1), (2, .int a2), (3, .int a3)] := hl
  exact w_X2_begin C G i0 a1 a2 a3 x _ _ ls h_i0 h hI va_S.rf hl
theorem mv_X2_begin : mtV yX2_begin RX2 cX2_begin 4 none 3 := ⟨ki_X2_begin, kl_X2_begin, kI_X2, kc_X2_begin, by decide +kernel⟩

/-! X6_guardFor -/
def f_X6_guardFor_b2 : Nat → Nat → Int32 → Int32 → Int32 → st → Option (Int32 × st)
  | 0, _, _, _, _, _ => none
  | n + 1, v0, v1, v2, v3, x => if (x 22 v0 2) ≤ v3 then (some ((-3), x)) else (if inb v3 (x 25 v0 0).toNatClampNeg = true then bnd (f_X3_catches (6 * v0 + v3.toNatClampNeg) v1 v2 x) fun r4 x3 => if r4 = 0 then (f_X6_guardFor_b2 n v0 v1 v2 (v3 + 1) x3) else (some (v3, x3)) else none)
set_option maxHeartbeats 4000000 in
set_option maxRecDepth 100000 in
theorem w_X6_guardFor_b2 {p : Program} {l : Launch} {e : Env} {s : State} {m : MethodId} {args : Array Value} {below : List Frame} {meth : Method} {c : Code} {g : gT} {r : Int32} {x' : st} (C : cxt p s m meth c args cX6_guardFor 4 RX6 (some .int)) (G : gst g s) : ∀ (n : Nat) (v0 : Nat) (v1 : Int32) (v2 : Int32) (v3 : Int32) (x : st) (H : Heap) (locs : List Loc) (ls : Array Slot), v0 < 8 → f_X6_guardFor_b2 n v0 v1 v2 v3 x = some (r, x') → wst g x H → va_S (zA (gz g)) s.heap H locs → lv_has ls 4 [(0, .ref (ga g 15 v0)), (1, .int v1), (2, .int v2), (3, .int v3)] → W p l e (rmC 3 64) s m args below meth c H locs 0 0 (MQ below (Qx g (some (.int r)) x') args s 0 0 (zA (gz g))) (F0 m 2 ls []) := by
  obtain ⟨hx, hb, hml, hown, hts, hlk, hrt⟩ := id C
  intro n
  induction n with
  | zero =>
    intro v0 v1 v2 v3 x H locs ls h_v0 h hI hS hl
    simp [f_X6_guardFor_b2] at h
  | succ n ih =>
    intro v0 v1 v2 v3 x H locs ls h_v0 h hI hS hl
    unfold f_X6_guardFor_b2 at h
    refine lv_iload_n hx hb dX6_guardFor_2 rfl (lv_at hl 3 rfl) ?_
    refine lv_aload_n hx hb dX6_guardFor_3 rfl (lv_at hl 0 rfl) ?_
    refine w_get C G hI 15 v0 (hI.at8 rfl h_v0) (fcE_15 g _ _) rfl in_X6 1 (by decide) kf_X6_18 (fun _ h => h) (v := .ref (ga g 22 v0)) rfl dX6_guardFor_4 ?_
    refine w_callV (fr := 0) (lo := 0) C G hI hS 22 v0 (hI.at8 rfl h_v0) (fcE_22 g _ _) rfl mv_Jx4a65c_size_8abf5 km_X6_27 [] (k_size_22 l g v0 h_v0 _) rfl (by first | exact ⟨by decide, by decide⟩ | exact ⟨by show _ ≤ _ + _; omega, by show _ ≤ _ + _; omega⟩) ⟨Nat.zero_le _, Nat.zero_le _⟩ hl.1 rfl (Nat.le_of_ble_eq_true rfl) dX6_guardFor_7 (fun H locs hI hS => ?_)
    refine lv_icmp_ge (tgt := 40) hx hb dX6_guardFor_10 (by decide) (fun hc => ?_) (fun hc => ?_)
    · replace h := ite_y hc h
      refine lv_bipush (v := (-3)) hx hb dX6_guardFor_40 (by decide) ?_
      cases h
      exact w_ireti C hI hS dX6_guardFor_42
    replace h := ite_n hc h
    refine lv_aload_n hx hb dX6_guardFor_13 rfl (lv_at hl 0 rfl) ?_
    refine w_get C G hI 15 v0 (hI.at8 rfl h_v0) (fcE_15 g _ _) rfl in_X6 1 (by decide) kf_X6_18 (fun _ h => h) (v := .ref (ga g 22 v0)) rfl dX6_guardFor_14 ?_
    refine lv_iload_n hx hb dX6_guardFor_17 rfl (lv_at hl 3 rfl) ?_
    obtain ⟨hn1, h⟩ := need_t h
    refine w_callV (fr := 2) (lo := 43) C G hI hS 22 v0 (hI.at8 rfl h_v0) (fcE_22 g _ _) rfl mv_Jx4a65c_get_915e3 km_X6_31 [.int v3] (k_get_22 l g v0 h_v0 hI.2 _ hn1) rfl (by first | exact ⟨by decide, by decide⟩ | exact ⟨by show _ ≤ _ + _; omega, by show _ ≤ _ + _; omega⟩) ⟨Nat.zero_le _, Nat.zero_le _⟩ hl.1 rfl (Nat.le_of_ble_eq_true rfl) dX6_guardFor_18 (fun H locs hI hS => ?_)
    have hg2 := (hI.2.2.2.2.1 v0 v3.toNatClampNeg h_v0 (inb_lt hn1)).2.1
    refine w_cast C G hI 19 (6 * v0 + v3.toNatClampNeg) hg2 (fcE_19 g _ _) rfl kC_X6_35 dX6_guardFor_21 ?_
    refine lv_iload_n hx hb dX6_guardFor_24 rfl (lv_at hl 1 rfl) ?_
    refine lv_iload_n hx hb dX6_guardFor_25 rfl (lv_at hl 2 rfl) ?_
    obtain ⟨r4, x3, hq5, h⟩ := bnd_some h
    refine w_callV (fr := 0) (lo := 0) C G hI hS 19 (6 * v0 + v3.toNatClampNeg) hg2 (fcE_19 g _ _) rfl mv_X3_catches km_X6_37 [.int v1, .int v2] (k_X3_catches l g (6 * v0 + v3.toNatClampNeg) v1 v2 x _ _ hg2 hq5) rfl (by first | exact ⟨by decide, by decide⟩ | exact ⟨by show _ ≤ _ + _; omega, by show _ ≤ _ + _; omega⟩) ⟨Nat.zero_le _, Nat.zero_le _⟩ hl.1 rfl (Nat.le_of_ble_eq_true rfl) dX6_guardFor_26 (fun H locs hI hS => ?_)
    refine lv_if_eq (tgt := 34) hx hb dX6_guardFor_29 (by decide) (fun hc => ?_) (fun hc => ?_)
    · replace h := ite_y hc h
      refine lv_iinc (v := (v3 + 1)) (lv' := [(3, .int (v3 + 1)), (0, .ref (ga g 15 v0)), (1, .int v1), (2, .int v2)]) hx hb dX6_guardFor_34 hl (k := 3) rfl rfl (by decide) rfl (fun ls hl => ?_)
      refine lv_goto (tgt := 2) hx hb dX6_guardFor_37 (by decide) ?_
      exact ih v0 v1 v2 (v3 + 1) x3 _ _ _ h_v0 h hI hS (lv_sub hl [1, 2, 3, 0] rfl)
    replace h := ite_n hc h
    refine lv_iload_n hx hb dX6_guardFor_32 rfl (lv_at hl 3 rfl) ?_
    cases h
    exact w_ireti C hI hS dX6_guardFor_33
def f_X6_guardFor (i0 : Nat) (a1 : Int32) (a2 : Int32) (x : st) : Option (Int32 × st) := f_X6_guardFor_b2 100 i0 a1 a2 0 x
set_option maxHeartbeats 4000000 in
set_option maxRecDepth 100000 in
theorem w_X6_guardFor {p : Program} {l : Launch} {e : Env} {s : State} {m : MethodId} {args : Array Value} {below : List Frame} {meth : Method} {c : Code} {g : gT} {r : Int32} {x' : st} (C : cxt p s m meth c args cX6_guardFor 4 RX6 (some .int)) (G : gst g s) (i0 : Nat) (a1 : Int32) (a2 : Int32) (x : st) (H : Heap) (locs : List Loc) (ls : Array Slot) (h_i0 : i0 < 8) (h : f_X6_guardFor i0 a1 a2 x = some (r, x')) (hI : wst g x H) (hS : va_S (zA (gz g)) s.heap H locs) (hl : lv_has ls 4 [(0, .ref (ga g 15 i0)), (1, .int a1), (2, .int a2)]) : W p l e (rmC 3 64) s m args below meth c H locs 0 0 (MQ below (Qx g (some (.int r)) x') args s 0 0 (zA (gz g))) (F0 m 0 ls []) := by
  obtain ⟨hx, hb, hml, hown, hts, hlk, hrt⟩ := id C
  unfold f_X6_guardFor at h
  refine lv_iconst (v := 0) hx hb dX6_guardFor_0 (by decide) ?_
  refine lv_istore_n (lv' := [(3, .int 0), (0, .ref (ga g 15 i0)), (1, .int a1), (2, .int a2)]) hx hb dX6_guardFor_1 rfl hl (by decide) rfl (fun ls hl => ?_)
  exact w_X6_guardFor_b2 C G 100 i0 a1 a2 0 x _ _ _ h_i0 h hI hS (lv_sub hl [1, 2, 3, 0] rfl)
theorem k_X6_guardFor (l : Launch) (g : gT) (i0 : Nat) (a1 : Int32) (a2 : Int32) (x : st) (r : Int32) (x' : st) (h_i0 : i0 < 8) (h : f_X6_guardFor i0 a1 a2 x = some (r, x')) : Kt l yX6_guardFor cX6_guardFor 4 (some .int) 3 64 g [.ref (ga g 15 i0), .int a1, .int a2] x (some (.int r)) x' := by
  refine Kt.of (by decide) (fun p e s m below meth c C G hI => ?_)
  have hl := lv_entry ([.ref (ga g 15 i0), .int a1, .int a2]) (n := 4) (Nat.le_of_ble_eq_true rfl)
  rw [lg_entry_eq]
  generalize (lg_sl ([.ref (ga g 15 i0), .int a1, .int a2]) ++ List.replicate (4 - (lg_sl ([.ref (ga g 15 i0), .int a1, .int a2])).length) Slot.unset).toArray = ls at hl ⊢
  have hl : lv_has ls 4 [(0, .ref (ga g 15 i0)), (1, .int a1), (2, .int a2)] := hl
  exact w_X6_guardFor C G i0 a1 a2 x _ _ ls h_i0 h hI va_S.rf hl
theorem mv_X6_guardFor : mtV yX6_guardFor RX6 cX6_guardFor 4 (some .int) 2 := ⟨ki_X6_guardFor, kl_X6_guardFor, kI_X6, kc_X6_guardFor, by decide +kernel⟩
