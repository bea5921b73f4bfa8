/-! X11_in -/
def f_X11_in_b14  (x : st) : Option (Int32 × st) := some (0, x)
set_option maxHeartbeats 4000000 in
set_option maxRecDepth 100000 in
theorem w_X11_in_b14 {p : Program} {l : Launch} {e : Env} {s : State} {m : MethodId} {args : Array Value} {below : List Frame} {meth : Method} {c : Code} {g : gT} {r : Int32} {x' : st} (C : cxt p s m meth c args cX11_in 3 RX11 (some .boolean)) (G : gst g s)  (x : st) (H : Heap) (locs : List Loc) (ls : Array Slot)  (h : f_X11_in_b14  x = some (r, x')) (hI : wst g x H) (hS : va_S (zA (gz g)) s.heap H locs) (hl : lv_has ls 3 []) : W p l e (rmC 0 0) s m args below meth c H locs 0 0 (MQ below (Qx g (some (.int r)) x') args s 0 0 (zA (gz g))) (F0 m 14 ls []) := by
  obtain ⟨hx, hb, hml, hown, hts, hlk, hrt⟩ := id C
  unfold f_X11_in_b14 at h
  refine lv_iconst (v := 0) hx hb dX11_in_14 (by decide) ?_
  cases h
  exact w_iretz C hI hS (by decide) dX11_in_15
def f_X11_in (a1 : Int32) (a2 : Int32) (a3 : Int32) (x : st) : Option (Int32 × st) := if a1 < a2 then (f_X11_in_b14  x) else (if a3 < a1 then (f_X11_in_b14  x) else (some (1, x)))
set_option maxHeartbeats 4000000 in
set_option maxRecDepth 100000 in
theorem w_X11_in {p : Program} {l : Launch} {e : Env} {s : State} {m : MethodId} {args : Array Value} {below : List Frame} {meth : Method} {c : Code} {g : gT} {r : Int32} {x' : st} (C : cxt p s m meth c args cX11_in 3 RX11 (some .boolean)) (G : gst g s) (a1 : Int32) (a2 : Int32) (a3 : Int32) (x : st) (H : Heap) (locs : List Loc) (ls : Array Slot)  (h : f_X11_in a1 a2 a3 x = some (r, x')) (hI : wst g x H) (hS : va_S (zA (gz g)) s.heap H locs) (hl : lv_has ls 3 [(0, .int a1), (1, .int a2), (2, .int a3)]) : W p l e (rmC 0 0) s m args below meth c H locs 0 0 (MQ below (Qx g (some (.int r)) x') args s 0 0 (zA (gz g))) (F0 m 0 ls []) := by
  obtain ⟨hx, hb, hml, hown, hts, hlk, hrt⟩ := id C
  unfold f_X11_in at h
  refine lv_iload_n hx hb dX11_in_0 rfl (lv_at hl 0 rfl) ?_
  refine lv_iload_n hx hb dX11_in_1 rfl (lv_at hl 1 rfl) ?_
  refine lv_icmp_lt (tgt := 14) hx hb dX11_in_2 (by decide) (fun hc => ?_) (fun hc => ?_)
  · replace h := ite_y hc h
    exact w_X11_in_b14 C G  x _ _ _  h hI hS (lv_sub hl [] rfl)
  replace h := ite_n hc h
  refine lv_iload_n hx hb dX11_in_5 rfl (lv_at hl 0 rfl) ?_
  refine lv_iload_n hx hb dX11_in_6 rfl (lv_at hl 2 rfl) ?_
  refine lv_icmp_gt (tgt := 14) hx hb dX11_in_7 (by decide) (fun hc => ?_) (fun hc => ?_)
  · replace h := ite_y hc h
    exact w_X11_in_b14 C G  x _ _ _  h hI hS (lv_sub hl [] rfl)
  replace h := ite_n hc h
  refine lv_iconst (v := 1) hx hb dX11_in_10 (by decide) ?_
  refine lv_goto (tgt := 15) hx hb dX11_in_11 (by decide) ?_
  cases h
  exact w_iretz C hI hS (by decide) dX11_in_15
theorem k_X11_in (l : Launch) (g : gT) (a1 : Int32) (a2 : Int32) (a3 : Int32) (x : st) (r : Int32) (x' : st)  (h : f_X11_in a1 a2 a3 x = some (r, x')) : Kt l yX11_in cX11_in 3 (some .boolean) 0 0 g [.int a1, .int a2, .int a3] x (some (.int r)) x' := by
  refine Kt.of (by decide) (fun p e s m below meth c C G hI => ?_)
  have hl := lv_entry ([.int a1, .int a2, .int a3]) (n := 3) (Nat.le_of_ble_eq_true rfl)
  rw [lg_entry_eq]
  generalize (lg_sl ([.int a1, .int a2, .int a3]) ++ List.replicate (3 - (lg_sl ([.int a1, .int a2, .int a3])).length) Slot.unset).toArray = ls at hl ⊢
  have hl : lv_has ls 3 [(0, .int a1), (1, .int a2), (2, .int a3)] := hl
  exact w_X11_in C G a1 a2 a3 x _ _ ls  h hI va_S.rf hl
theorem ms_X11_in : mtS yX11_in RX11 cX11_in 3 (some .boolean) 3 := ⟨ks_X11_in, kI_X11, kc_X11_in, by decide +kernel⟩

/-! X11_isMethod -/
def f_X11_isMethod (a1 : Int32) (x : st) : Option (Int32 × st) := bnd (f_X11_in a1 0 7 x) fun r2 x1 => if isz r2 = true then some (r2, x1) else none
set_option maxHeartbeats 4000000 in
set_option maxRecDepth 100000 in
theorem w_X11_isMethod {p : Program} {l : Launch} {e : Env} {s : State} {m : MethodId} {args : Array Value} {below : List Frame} {meth : Method} {c : Code} {g : gT} {r : Int32} {x' : st} (C : cxt p s m meth c args cX11_isMethod 1 RX11 (some .boolean)) (G : gst g s) (a1 : Int32) (x : st) (H : Heap) (locs : List Loc) (ls : Array Slot)  (h : f_X11_isMethod a1 x = some (r, x')) (hI : wst g x H) (hS : va_S (zA (gz g)) s.heap H locs) (hl : lv_has ls 1 [(0, .int a1)]) : W p l e (rmC 1 22) s m args below meth c H locs 0 0 (MQ below (Qx g (some (.int r)) x') args s 0 0 (zA (gz g))) (F0 m 0 ls []) := by
  obtain ⟨hx, hb, hml, hown, hts, hlk, hrt⟩ := id C
  unfold f_X11_isMethod at h
  refine lv_iload_n hx hb dX11_isMethod_0 rfl (lv_at hl 0 rfl) ?_
  refine lv_iconst (v := 0) hx hb dX11_isMethod_1 (by decide) ?_
  refine lv_bipush (v := 7) hx hb dX11_isMethod_2 (by decide) ?_
  obtain ⟨r2, x1, hq3, h⟩ := bnd_some h
  refine w_callS (fr := 0) (lo := 0) C G hI hS ms_X11_in km_X11_122 [.int a1, .int 0, .int 7] (k_X11_in l g a1 0 7 x _ _  hq3) rfl (by first | exact ⟨by decide, by decide⟩ | exact ⟨by show _ ≤ _ + _; omega, by show _ ≤ _ + _; omega⟩) ⟨Nat.zero_le _, Nat.zero_le _⟩ hl.1 rfl (Nat.le_of_ble_eq_true rfl) dX11_isMethod_4 (fun H locs hI hS => ?_)
  obtain ⟨hn4, h⟩ := need_t h
  cases h
  exact w_iretz C hI hS (isz_or hn4) dX11_isMethod_7
theorem k_X11_isMethod (l : Launch) (g : gT) (a1 : Int32) (x : st) (r : Int32) (x' : st)  (h : f_X11_isMethod a1 x = some (r, x')) : Kt l yX11_isMethod cX11_isMethod 1 (some .boolean) 1 22 g [.int a1] x (some (.int r)) x' := by
  refine Kt.of (by decide) (fun p e s m below meth c C G hI => ?_)
  have hl := lv_entry ([.int a1]) (n := 1) (Nat.le_of_ble_eq_true rfl)
  rw [lg_entry_eq]
  generalize (lg_sl ([.int a1]) ++ List.replicate (1 - (lg_sl ([.int a1])).length) Slot.unset).toArray = ls at hl ⊢
  have hl : lv_has ls 1 [(0, .int a1)] := hl
  exact w_X11_isMethod C G a1 x _ _ ls  h hI va_S.rf hl
theorem ms_X11_isMethod : mtS yX11_isMethod RX11 cX11_isMethod 1 (some .boolean) 1 := ⟨ks_X11_isMethod, kI_X11, kc_X11_isMethod, by decide +kernel⟩

/-! X11_isNumber -/
def f_X11_isNumber (a1 : Int32) (x : st) : Option (Int32 × st) := bnd (f_X11_in a1 0 5 x) fun r2 x1 => if isz r2 = true then some (r2, x1) else none
set_option maxHeartbeats 4000000 in
set_option maxRecDepth 100000 in
theorem w_X11_isNumber {p : Program} {l : Launch} {e : Env} {s : State} {m : MethodId} {args : Array Value} {below : List Frame} {meth : Method} {c : Code} {g : gT} {r : Int32} {x' : st} (C : cxt p s m meth c args cX11_isNumber 1 RX11 (some .boolean)) (G : gst g s) (a1 : Int32) (x : st) (H : Heap) (locs : List Loc) (ls : Array Slot)  (h : f_X11_isNumber a1 x = some (r, x')) (hI : wst g x H) (hS : va_S (zA (gz g)) s.heap H locs) (hl : lv_has ls 1 [(0, .int a1)]) : W p l e (rmC 1 22) s m args below meth c H locs 0 0 (MQ below (Qx g (some (.int r)) x') args s 0 0 (zA (gz g))) (F0 m 0 ls []) := by
  obtain ⟨hx, hb, hml, hown, hts, hlk, hrt⟩ := id C
  unfold f_X11_isNumber at h
  refine lv_iload_n hx hb dX11_isNumber_0 rfl (lv_at hl 0 rfl) ?_
  refine lv_iconst (v := 0) hx hb dX11_isNumber_1 (by decide) ?_
  refine lv_iconst (v := 5) hx hb dX11_isNumber_2 (by decide) ?_
  obtain ⟨r2, x1, hq3, h⟩ := bnd_some h
  refine w_callS (fr := 0) (lo := 0) C G hI hS ms_X11_in km_X11_122 [.int a1, .int 0, .int 5] (k_X11_in l g a1 0 5 x _ _  hq3) rfl (by first | exact ⟨by decide, by decide⟩ | exact ⟨by show _ ≤ _ + _; omega, by show _ ≤ _ + _; omega⟩) ⟨Nat.zero_le _, Nat.zero_le _⟩ hl.1 rfl (Nat.le_of_ble_eq_true rfl) dX11_isNumber_3 (fun H locs hI hS => ?_)
  obtain ⟨hn4, h⟩ := need_t h
  cases h
  exact w_iretz C hI hS (isz_or hn4) dX11_isNumber_6
theorem k_X11_isNumber (l : Launch) (g : gT) (a1 : Int32) (x : st) (r : Int32) (x' : st)  (h : f_X11_isNumber a1 x = some (r, x')) : Kt l yX11_isNumber cX11_isNumber 1 (some .boolean) 1 22 g [.int a1] x (some (.int r)) x' := by
  refine Kt.of (by decide) (fun p e s m below meth c C G hI => ?_)
  have hl := lv_entry ([.int a1]) (n := 1) (Nat.le_of_ble_eq_true rfl)
  rw [lg_entry_eq]
  generalize (lg_sl ([.int a1]) ++ List.replicate (1 - (lg_sl ([.int a1])).length) Slot.unset).toArray = ls at hl ⊢
  have hl : lv_has ls 1 [(0, .int a1)] := hl
  exact w_X11_isNumber C G a1 x _ _ ls  h hI va_S.rf hl
theorem ms_X11_isNumber : mtS yX11_isNumber RX11 cX11_isNumber 1 (some .boolean) 1 := ⟨ks_X11_isNumber, kI_X11, kc_X11_isNumber, by decide +kernel⟩

/-! X11_isRow -/
def f_X11_isRow (a1 : Int32) (x : st) : Option (Int32 × st) := bnd (f_X11_in a1 0 2 x) fun r2 x1 => if isz r2 = true then some (r2, x1) else none
set_option maxHeartbeats 4000000 in
set_option maxRecDepth 100000 in
theorem w_X11_isRow {p : Program} {l : Launch} {e : Env} {s : State} {m : MethodId} {args : Array Value} {below : List Frame} {meth : Method} {c : Code} {g : gT} {r : Int32} {x' : st} (C : cxt p s m meth c args cX11_isRow 1 RX11 (some .boolean)) (G : gst g s) (a1 : Int32) (x : st) (H : Heap) (locs : List Loc) (ls : Array Slot)  (h : f_X11_isRow a1 x = some (r, x')) (hI : wst g x H) (hS : va_S (zA (gz g)) s.heap H locs) (hl : lv_has ls 1 [(0, .int a1)]) : W p l e (rmC 1 22) s m args below meth c H locs 0 0 (MQ below (Qx g (some (.int r)) x') args s 0 0 (zA (gz g))) (F0 m 0 ls []) := by
  obtain ⟨hx, hb, hml, hown, hts, hlk, hrt⟩ := id C
  unfold f_X11_isRow at h
  refine lv_iload_n hx hb dX11_isRow_0 rfl (lv_at hl 0 rfl) ?_
  refine lv_iconst (v := 0) hx hb dX11_isRow_1 (by decide) ?_
  refine lv_iconst (v := 2) hx hb dX11_isRow_2 (by decide) ?_
  obtain ⟨r2, x1, hq3, h⟩ := bnd_some h
  refine w_callS (fr := 0) (lo := 0) C G hI hS ms_X11_in km_X11_122 [.int a1, .int 0, .int 2] (k_X11_in l g a1 0 2 x _ _  hq3) rfl (by first | exact ⟨by decide, by decide⟩ | exact ⟨by show _ ≤ _ + _; omega, by show _ ≤ _ + _; omega⟩) ⟨Nat.zero_le _, Nat.zero_le _⟩ hl.1 rfl (Nat.le_of_ble_eq_true rfl) dX11_isRow_3 (fun H locs hI hS => ?_)
  obtain ⟨hn4, h⟩ := need_t h
  cases h
  exact w_iretz C hI hS (isz_or hn4) dX11_isRow_6
theorem k_X11_isRow (l : Launch) (g : gT) (a1 : Int32) (x : st) (r : Int32) (x' : st)  (h : f_X11_isRow a1 x = some (r, x')) : Kt l yX11_isRow cX11_isRow 1 (some .boolean) 1 22 g [.int a1] x (some (.int r)) x' := by
  refine Kt.of (by decide) (fun p e s m below meth c C G hI => ?_)
  have hl := lv_entry ([.int a1]) (n := 1) (Nat.le_of_ble_eq_true rfl)
  rw [lg_entry_eq]
  generalize (lg_sl ([.int a1]) ++ List.replicate (1 - (lg_sl ([.int a1])).length) Slot.unset).toArray = ls at hl ⊢
  have hl : lv_has ls 1 [(0, .int a1)] := hl
  exact w_X11_isRow C G a1 x _ _ ls  h hI va_S.rf hl
theorem ms_X11_isRow : mtS yX11_isRow RX11 cX11_isRow 1 (some .boolean) 1 := ⟨ks_X11_isRow, kI_X11, kc_X11_isRow, by decide +kernel⟩

/-! X11_isLane -/
def f_X11_isLane (a1 : Int32) (x : st) : Option (Int32 × st) := bnd (f_X11_in a1 0 2 x) fun r2 x1 => if isz r2 = true then some (r2, x1) else none
set_option maxHeartbeats 4000000 in
set_option maxRecDepth 100000 in
theorem w_X11_isLane {p : Program} {l : Launch} {e : Env} {s : State} {m : MethodId} {args : Array Value} {below : List Frame} {meth : Method} {c : Code} {g : gT} {r : Int32} {x' : st} (C : cxt p s m meth c args cX11_isLane 1 RX11 (some .boolean)) (G : gst g s) (a1 : Int32) (x : st) (H : Heap) (locs : List Loc) (ls : Array Slot)  (h : f_X11_isLane a1 x = some (r, x')) (hI : wst g x H) (hS : va_S (zA (gz g)) s.heap H locs) (hl : lv_has ls 1 [(0, .int a1)]) : W p l e (rmC 1 22) s m args below meth c H locs 0 0 (MQ below (Qx g (some (.int r)) x') args s 0 0 (zA (gz g))) (F0 m 0 ls []) := by
  obtain ⟨hx, hb, hml, hown, hts, hlk, hrt⟩ := id C
  unfold f_X11_isLane at h
  refine lv_iload_n hx hb dX11_isLane_0 rfl (lv_at hl 0 rfl) ?_
  refine lv_iconst (v := 0) hx hb dX11_isLane_1 (by decide) ?_
  refine lv_iconst (v := 2) hx hb dX11_isLane_2 (by decide) ?_
  obtain ⟨r2, x1, hq3, h⟩ := bnd_some h
  refine w_callS (fr := 0) (lo := 0) C G hI hS ms_X11_in km_X11_122 [.int a1, .int 0, .int 2] (k_X11_in l g a1 0 2 x _ _  hq3) rfl (by first | exact ⟨by decide, by decide⟩ | exact ⟨by show _ ≤ _ + _; omega, by show _ ≤ _ + _; omega⟩) ⟨Nat.zero_le _, Nat.zero_le _⟩ hl.1 rfl (Nat.le_of_ble_eq_true rfl) dX11_isLane_3 (fun H locs hI hS => ?_)
  obtain ⟨hn4, h⟩ := need_t h
  cases h
  exact w_iretz C hI hS (isz_or hn4) dX11_isLane_6
theorem k_X11_isLane (l : Launch) (g : gT) (a1 : Int32) (x : st) (r : Int32) (x' : st)  (h : f_X11_isLane a1 x = some (r, x')) : Kt l yX11_isLane cX11_isLane 1 (some .boolean) 1 22 g [.int a1] x (some (.int r)) x' := by
  refine Kt.of (by decide) (fun p e s m below meth c C G hI => ?_)
  have hl := lv_entry ([.int a1]) (n := 1) (Nat.le_of_ble_eq_true rfl)
  rw [lg_entry_eq]
  generalize (lg_sl ([.int a1]) ++ List.replicate (1 - (lg_sl ([.int a1])).length) Slot.unset).toArray = ls at hl ⊢
  have hl : lv_has ls 1 [(0, .int a1)] := hl
  exact w_X11_isLane C G a1 x _ _ ls  h hI va_S.rf hl
theorem ms_X11_isLane : mtS yX11_isLane RX11 cX11_isLane 1 (some .boolean) 1 := ⟨ks_X11_isLane, kI_X11, kc_X11_isLane, by decide +kernel⟩

/-! X11_isRight -/
def f_X11_isRight_b76 (v1 : Int32) (x : st) : Option (Int32 × st) := bnd (f_X11_isNumber v1 x) fun r2 x1 => if isz r2 = true then some (r2, x1) else none
set_option maxHeartbeats 4000000 in
set_option maxRecDepth 100000 in
theorem w_X11_isRight_b76 {p : Program} {l : Launch} {e : Env} {s : State} {m : MethodId} {args : Array Value} {below : List Frame} {meth : Method} {c : Code} {g : gT} {r : Int32} {x' : st} (C : cxt p s m meth c args cX11_isRight 5 RX11 (some .boolean)) (G : gst g s) (v1 : Int32) (x : st) (H : Heap) (locs : List Loc) (ls : Array Slot)  (h : f_X11_isRight_b76 v1 x = some (r, x')) (hI : wst g x H) (hS : va_S (zA (gz g)) s.heap H locs) (hl : lv_has ls 5 [(1, .int v1)]) : W p l e (rmC 2 42) s m args below meth c H locs 0 0 (MQ below (Qx g (some (.int r)) x') args s 0 0 (zA (gz g))) (F0 m 76 ls []) := by
  obtain ⟨hx, hb, hml, hown, hts, hlk, hrt⟩ := id C
  unfold f_X11_isRight_b76 at h
  refine lv_iload_n hx hb dX11_isRight_76 rfl (lv_at hl 0 rfl) ?_
  obtain ⟨r2, x1, hq3, h⟩ := bnd_some h
  refine w_callS (fr := 1) (lo := 22) C G hI hS ms_X11_isNumber km_X11_126 [.int v1] (k_X11_isNumber l g v1 x _ _  hq3) rfl (by first | exact ⟨by decide, by decide⟩ | exact ⟨by show _ ≤ _ + _; omega, by show _ ≤ _ + _; omega⟩) ⟨Nat.zero_le _, Nat.zero_le _⟩ hl.1 rfl (Nat.le_of_ble_eq_true rfl) dX11_isRight_77 (fun H locs hI hS => ?_)
  obtain ⟨hn4, h⟩ := need_t h
  cases h
  exact w_iretz C hI hS (isz_or hn4) dX11_isRight_80
def f_X11_isRight_b106  (x : st) : Option (Int32 × st) := some (0, x)
set_option maxHeartbeats 4000000 in
set_option maxRecDepth 100000 in
theorem w_X11_isRight_b106 {p : Program} {l : Launch} {e : Env} {s : State} {m : MethodId} {args : Array Value} {below : List Frame} {meth : Method} {c : Code} {g : gT} {r : Int32} {x' : st} (C : cxt p s m meth c args cX11_isRight 5 RX11 (some .boolean)) (G : gst g s)  (x : st) (H : Heap) (locs : List Loc) (ls : Array Slot)  (h : f_X11_isRight_b106  x = some (r, x')) (hI : wst g x H) (hS : va_S (zA (gz g)) s.heap H locs) (hl : lv_has ls 5 []) : W p l e (rmC 2 42) s m args below meth c H locs 0 0 (MQ below (Qx g (some (.int r)) x') args s 0 0 (zA (gz g))) (F0 m 106 ls []) := by
  obtain ⟨hx, hb, hml, hown, hts, hlk, hrt⟩ := id C
  unfold f_X11_isRight_b106 at h
  refine lv_iconst (v := 0) hx hb dX11_isRight_106 (by decide) ?_
  cases h
  exact w_iretz C hI hS (by decide) dX11_isRight_107
def f_X11_isRight_b81 (v1 : Int32) (v2 : Int32) (v3 : Int32) (x : st) : Option (Int32 × st) := bnd (f_X11_isNumber v1 x) fun r2 x1 => if r2 = 0 then (f_X11_isRight_b106  x1) else (bnd (f_X11_isNumber v2 x1) fun r5 x4 => if r5 = 0 then (f_X11_isRight_b106  x4) else (bnd (f_X11_isNumber v3 x4) fun r8 x7 => if r8 = 0 then (f_X11_isRight_b106  x7) else (some (1, x7))))
set_option maxHeartbeats 4000000 in
set_option maxRecDepth 100000 in
theorem w_X11_isRight_b81 {p : Program} {l : Launch} {e : Env} {s : State} {m : MethodId} {args : Array Value} {below : List Frame} {meth : Method} {c : Code} {g : gT} {r : Int32} {x' : st} (C : cxt p s m meth c args cX11_isRight 5 RX11 (some .boolean)) (G : gst g s) (v1 : Int32) (v2 : Int32) (v3 : Int32) (x : st) (H : Heap) (locs : List Loc) (ls : Array Slot)  (h : f_X11_isRight_b81 v1 v2 v3 x = some (r, x')) (hI : wst g x H) (hS : va_S (zA (gz g)) s.heap H locs) (hl : lv_has ls 5 [(1, .int v1), (2, .int v2), (3, .int v3)]) : W p l e (rmC 2 42) s m args below meth c H locs 0 0 (MQ below (Qx g (some (.int r)) x') args s 0 0 (zA (gz g))) (F0 m 81 ls []) := by
  obtain ⟨hx, hb, hml, hown, hts, hlk, hrt⟩ := id C
  unfold f_X11_isRight_b81 at h
  refine lv_iload_n hx hb dX11_isRight_81 rfl (lv_at hl 0 rfl) ?_
  obtain ⟨r2, x1, hq3, h⟩ := bnd_some h
  refine w_callS (fr := 1) (lo := 22) C G hI hS ms_X11_isNumber km_X11_126 [.int v1] (k_X11_isNumber l g v1 x _ _  hq3) rfl (by first | exact ⟨by decide, by decide⟩ | exact ⟨by show _ ≤ _ + _; omega, by show _ ≤ _ + _; omega⟩) ⟨Nat.zero_le _, Nat.zero_le _⟩ hl.1 rfl (Nat.le_of_ble_eq_true rfl) dX11_isRight_82 (fun H locs hI hS => ?_)
  refine lv_if_eq (tgt := 106) hx hb dX11_isRight_85 (by decide) (fun hc => ?_) (fun hc => ?_)
  · replace h := ite_y hc h
    exact w_X11_isRight_b106 C G  x1 _ _ _  h hI hS (lv_sub hl [] rfl)
  replace h := ite_n hc h
  refine lv_iload_n hx hb dX11_isRight_88 rfl (lv_at hl 1 rfl) ?_
  obtain ⟨r5, x4, hq6, h⟩ := bnd_some h
  refine w_callS (fr := 1) (lo := 22) C G hI hS ms_X11_isNumber km_X11_126 [.int v2] (k_X11_isNumber l g v2 x1 _ _  hq6) rfl (by first | exact ⟨by decide, by decide⟩ | exact ⟨by show _ ≤ _ + _; omega, by show _ ≤ _ + _; omega⟩) ⟨Nat.zero_le _, Nat.zero_le _⟩ hl.1 rfl (Nat.le_of_ble_eq_true rfl) dX11_isRight_89 (fun H locs hI hS => ?_)
  refine lv_if_eq (tgt := 106) hx hb dX11_isRight_92 (by decide) (fun hc => ?_) (fun hc => ?_)
  · replace h := ite_y hc h
    exact w_X11_isRight_b106 C G  x4 _ _ _  h hI hS (lv_sub hl [] rfl)
  replace h := ite_n hc h
  refine lv_iload_n hx hb dX11_isRight_95 rfl (lv_at hl 2 rfl) ?_
  obtain ⟨r8, x7, hq9, h⟩ := bnd_some h
  refine w_callS (fr := 1) (lo := 22) C G hI hS ms_X11_isNumber km_X11_126 [.int v3] (k_X11_isNumber l g v3 x4 _ _  hq9) rfl (by first | exact ⟨by decide, by decide⟩ | exact ⟨by show _ ≤ _ + _; omega, by show _ ≤ _ + _; omega⟩) ⟨Nat.zero_le _, Nat.zero_le _⟩ hl.1 rfl (Nat.le_of_ble_eq_true rfl) dX11_isRight_96 (fun H locs hI hS => ?_)
  refine lv_if_eq (tgt := 106) hx hb dX11_isRight_99 (by decide) (fun hc => ?_) (fun hc => ?_)
  · replace h := ite_y hc h
    exact w_X11_isRight_b106 C G  x7 _ _ _  h hI hS (lv_sub hl [] rfl)
  replace h := ite_n hc h
  refine lv_iconst (v := 1) hx hb dX11_isRight_102 (by decide) ?_
  refine lv_goto (tgt := 107) hx hb dX11_isRight_103 (by decide) ?_
  cases h
  exact w_iretz C hI hS (by decide) dX11_isRight_107
def f_X11_isRight_b137  (x : st) : Option (Int32 × st) := some (0, x)
set_option maxHeartbeats 4000000 in
set_option maxRecDepth 100000 in
theorem w_X11_isRight_b137 {p : Program} {l : Launch} {e : Env} {s : State} {m : MethodId} {args : Array Value} {below : List Frame} {meth : Method} {c : Code} {g : gT} {r : Int32} {x' : st} (C : cxt p s m meth c args cX11_isRight 5 RX11 (some .boolean)) (G : gst g s)  (x : st) (H : Heap) (locs : List Loc) (ls : Array Slot)  (h : f_X11_isRight_b137  x = some (r, x')) (hI : wst g x H) (hS : va_S (zA (gz g)) s.heap H locs) (hl : lv_has ls 5 []) : W p l e (rmC 2 42) s m args below meth c H locs 0 0 (MQ below (Qx g (some (.int r)) x') args s 0 0 (zA (gz g))) (F0 m 137 ls []) := by
  obtain ⟨hx, hb, hml, hown, hts, hlk, hrt⟩ := id C
  unfold f_X11_isRight_b137 at h
  refine lv_iconst (v := 0) hx hb dX11_isRight_137 (by decide) ?_
  cases h
  exact w_iretz C hI hS (by decide) dX11_isRight_138
def f_X11_isRight_b164  (x : st) : Option (Int32 × st) := some (0, x)
set_option maxHeartbeats 4000000 in
set_option maxRecDepth 100000 in
theorem w_X11_isRight_b164 {p : Program} {l : Launch} {e : Env} {s : State} {m : MethodId} {args : Array Value} {below : List Frame} {meth : Method} {c : Code} {g : gT} {r : Int32} {x' : st} (C : cxt p s m meth c args cX11_isRight 5 RX11 (some .boolean)) (G : gst g s)  (x : st) (H : Heap) (locs : List Loc) (ls : Array Slot)  (h : f_X11_isRight_b164  x = some (r, x')) (hI : wst g x H) (hS : va_S (zA (gz g)) s.heap H locs) (hl : lv_has ls 5 []) : W p l e (rmC 2 42) s m args below meth c H locs 0 0 (MQ below (Qx g (some (.int r)) x') args s 0 0 (zA (gz g))) (F0 m 164 ls []) := by
  obtain ⟨hx, hb, hml, hown, hts, hlk, hrt⟩ := id C
  unfold f_X11_isRight_b164 at h
  refine lv_iconst (v := 0) hx hb dX11_isRight_164 (by decide) ?_
  cases h
  exact w_iretz C hI hS (by decide) dX11_isRight_165
def f_X11_isRight_b199  (x : st) : Option (Int32 × st) := some (0, x)
set_option maxHeartbeats 4000000 in
set_option maxRecDepth 100000 in
theorem w_X11_isRight_b199 {p : Program} {l : Launch} {e : Env} {s : State} {m : MethodId} {args : Array Value} {below : List Frame} {meth : Method} {c : Code} {g : gT} {r : Int32} {x' : st} (C : cxt p s m meth c args cX11_isRight 5 RX11 (some .boolean)) (G : gst g s)  (x : st) (H : Heap) (locs : List Loc) (ls : Array Slot)  (h : f_X11_isRight_b199  x = some (r, x')) (hI : wst g x H) (hS : va_S (zA (gz g)) s.heap H locs) (hl : lv_has ls 5 []) : W p l e (rmC 2 42) s m args below meth c H locs 0 0 (MQ below (Qx g (some (.int r)) x') args s 0 0 (zA (gz g))) (F0 m 199 ls []) := by
  obtain ⟨hx, hb, hml, hown, hts, hlk, hrt⟩ := id C
  unfold f_X11_isRight_b199 at h
  refine lv_iconst (v := 0) hx hb dX11_isRight_199 (by decide) ?_
  cases h
  exact w_iretz C hI hS (by decide) dX11_isRight_200
def f_X11_isRight_b234  (x : st) : Option (Int32 × st) := some (0, x)
set_option maxHeartbeats 4000000 in
set_option maxRecDepth 100000 in
theorem w_X11_isRight_b234 {p : Program} {l : Launch} {e : Env} {s : State} {m : MethodId} {args : Array Value} {below : List Frame} {meth : Method} {c : Code} {g : gT} {r : Int32} {x' : st} (C : cxt p s m meth c args cX11_isRight 5 RX11 (some .boolean)) (G : gst g s)  (x : st) (H : Heap) (locs : List Loc) (ls : Array Slot)  (h : f_X11_isRight_b234  x = some (r, x')) (hI : wst g x H) (hS : va_S (zA (gz g)) s.heap H locs) (hl : lv_has ls 5 []) : W p l e (rmC 2 42) s m args below meth c H locs 0 0 (MQ below (Qx g (some (.int r)) x') args s 0 0 (zA (gz g))) (F0 m 234 ls []) := by
  obtain ⟨hx, hb, hml, hown, hts, hlk, hrt⟩ := id C
  unfold f_X11_isRight_b234 at h
  refine lv_iconst (v := 0) hx hb dX11_isRight_234 (by decide) ?_
  cases h
  exact w_iretz C hI hS (by decide) dX11_isRight_235
def f_X11_isRight_b254  (x : st) : Option (Int32 × st) := some (0, x)
set_option maxHeartbeats 4000000 in
set_option maxRecDepth 100000 in
theorem w_X11_isRight_b254 {p : Program} {l : Launch} {e : Env} {s : State} {m : MethodId} {args : Array Value} {below : List Frame} {meth : Method} {c : Code} {g : gT} {r : Int32} {x' : st} (C : cxt p s m meth c args cX11_isRight 5 RX11 (some .boolean)) (G : gst g s)  (x : st) (H : Heap) (locs : List Loc) (ls : Array Slot)  (h : f_X11_isRight_b254  x = some (r, x')) (hI : wst g x H) (hS : va_S (zA (gz g)) s.heap H locs) (hl : lv_has ls 5 []) : W p l e (rmC 2 42) s m args below meth c H locs 0 0 (MQ below (Qx g (some (.int r)) x') args s 0 0 (zA (gz g))) (F0 m 254 ls []) := by
  obtain ⟨hx, hb, hml, hown, hts, hlk, hrt⟩ := id C
  unfold f_X11_isRight_b254 at h
  refine lv_iconst (v := 0) hx hb dX11_isRight_254 (by decide) ?_
  cases h
  exact w_iretz C hI hS (by decide) dX11_isRight_255
def f_X11_isRight_b281  (x : st) : Option (Int32 × st) := some (0, x)
set_option maxHeartbeats 4000000 in
set_option maxRecDepth 100000 in
theorem w_X11_isRight_b281 {p : Program} {l : Launch} {e : Env} {s : State} {m : MethodId} {args : Array Value} {below : List Frame} {meth : Method} {c : Code} {g : gT} {r : Int32} {x' : st} (C : cxt p s m meth c args cX11_isRight 5 RX11 (some .boolean)) (G : gst g s)  (x : st) (H : Heap) (locs : List Loc) (ls : Array Slot)  (h : f_X11_isRight_b281  x = some (r, x')) (hI : wst g x H) (hS : va_S (zA (gz g)) s.heap H locs) (hl : lv_has ls 5 []) : W p l e (rmC 2 42) s m args below meth c H locs 0 0 (MQ below (Qx g (some (.int r)) x') args s 0 0 (zA (gz g))) (F0 m 281 ls []) := by
  obtain ⟨hx, hb, hml, hown, hts, hlk, hrt⟩ := id C
  unfold f_X11_isRight_b281 at h
  refine lv_iconst (v := 0) hx hb dX11_isRight_281 (by decide) ?_
  cases h
  exact w_iretz C hI hS (by decide) dX11_isRight_282
def f_X11_isRight_b316  (x : st) : Option (Int32 × st) := some (0, x)
set_option maxHeartbeats 4000000 in
set_option maxRecDepth 100000 in
theorem w_X11_isRight_b316 {p : Program} {l : Launch} {e : Env} {s : State} {m : MethodId} {args : Array Value} {below : List Frame} {meth : Method} {c : Code} {g : gT} {r : Int32} {x' : st} (C : cxt p s m meth c args cX11_isRight 5 RX11 (some .boolean)) (G : gst g s)  (x : st) (H : Heap) (locs : List Loc) (ls : Array Slot)  (h : f_X11_isRight_b316  x = some (r, x')) (hI : wst g x H) (hS : va_S (zA (gz g)) s.heap H locs) (hl : lv_has ls 5 []) : W p l e (rmC 2 42) s m args below meth c H locs 0 0 (MQ below (Qx g (some (.int r)) x') args s 0 0 (zA (gz g))) (F0 m 316 ls []) := by
  obtain ⟨hx, hb, hml, hown, hts, hlk, hrt⟩ := id C
  unfold f_X11_isRight_b316 at h
  refine lv_iconst (v := 0) hx hb dX11_isRight_316 (by decide) ?_
  cases h
  exact w_iretz C hI hS (by decide) dX11_isRight_317
def f_X11_isRight_b339  (x : st) : Option (Int32 × st) := some (0, x)
set_option maxHeartbeats 4000000 in
set_option maxRecDepth 100000 in
theorem w_X11_isRight_b339 {p : Program} {l : Launch} {e : Env} {s : State} {m : MethodId} {args : Array Value} {below : List Frame} {meth : Method} {c : Code} {g : gT} {r : Int32} {x' : st} (C : cxt p s m meth c args cX11_isRight 5 RX11 (some .boolean)) (G : gst g s)  (x : st) (H : Heap) (locs : List Loc) (ls : Array Slot)  (h : f_X11_isRight_b339  x = some (r, x')) (hI : wst g x H) (hS : va_S (zA (gz g)) s.heap H locs) (hl : lv_has ls 5 []) : W p l e (rmC 2 42) s m args below meth c H locs 0 0 (MQ below (Qx g (some (.int r)) x') args s 0 0 (zA (gz g))) (F0 m 339 ls []) := by
  obtain ⟨hx, hb, hml, hown, hts, hlk, hrt⟩ := id C
  unfold f_X11_isRight_b339 at h
  refine lv_iconst (v := 0) hx hb dX11_isRight_339 (by decide) ?_
  cases h
  exact w_iretz C hI hS (by decide) dX11_isRight_340
def f_X11_isRight (a1 : Int32) (a2 : Int32) (a3 : Int32) (a4 : Int32) (a5 : Int32) (x : st) : Option (Int32 × st) := if a1 = 0 then (f_X11_isRight_b76 a2 x) else if a1 = 1 then (f_X11_isRight_b81 a2 a3 a4 x) else if a1 = 2 then (f_X11_isRight_b81 a2 a3 a4 x) else if a1 = 3 then (f_X11_isRight_b81 a2 a3 a4 x) else if a1 = 4 then (f_X11_isRight_b81 a2 a3 a4 x) else if a1 = 5 then (f_X11_isRight_b81 a2 a3 a4 x) else if a1 = 6 then (bnd (f_X11_in a3 0 48 x) fun r2 x1 => if isz r2 = true then some (r2, x1) else none) else if a1 = 7 then (bnd (f_X11_isNumber a2 x) fun r6 x5 => if r6 = 0 then (f_X11_isRight_b137  x5) else (bnd (f_X11_in a3 0 48 x5) fun r9 x8 => if r9 = 0 then (f_X11_isRight_b137  x8) else (some (1, x8)))) else if a1 = 8 then (bnd (f_X11_isRow a2 x) fun r12 x11 => if r12 = 0 then (f_X11_isRight_b164  x11) else (bnd (f_X11_isLane a3 x11) fun r15 x14 => if r15 = 0 then (f_X11_isRight_b164  x14) else (bnd (f_X11_isNumber a4 x14) fun r18 x17 => if r18 = 0 then (f_X11_isRight_b164  x17) else (some (1, x17))))) else if a1 = 9 then (bnd (f_X11_isRow a2 x) fun r21 x20 => if r21 = 0 then (f_X11_isRight_b199  x20) else (bnd (f_X11_isLane a3 x20) fun r24 x23 => if r24 = 0 then (f_X11_isRight_b199  x23) else (bnd (f_X11_isNumber a4 x23) fun r27 x26 => if r27 = 0 then (f_X11_isRight_b199  x26) else (bnd (f_X11_isNumber a5 x26) fun r30 x29 => if r30 = 0 then (f_X11_isRight_b199  x29) else (some (1, x29)))))) else if a1 = 10 then (bnd (f_X11_isNumber a2 x) fun r33 x32 => if r33 = 0 then (f_X11_isRight_b234  x32) else (bnd (f_X11_isRow a3 x32) fun r36 x35 => if r36 = 0 then (f_X11_isRight_b234  x35) else (bnd (f_X11_isLane a4 x35) fun r39 x38 => if r39 = 0 then (f_X11_isRight_b234  x38) else (bnd (f_X11_isNumber a5 x38) fun r42 x41 => if r42 = 0 then (f_X11_isRight_b234  x41) else (some (1, x41)))))) else if a1 = 11 then (bnd (f_X11_isNumber a2 x) fun r45 x44 => if r45 = 0 then (f_X11_isRight_b254  x44) else (bnd (f_X11_isRow a3 x44) fun r48 x47 => if r48 = 0 then (f_X11_isRight_b254  x47) else (some (1, x47)))) else if a1 = 12 then (bnd (f_X11_isRow a2 x) fun r51 x50 => if r51 = 0 then (f_X11_isRight_b281  x50) else (bnd (f_X11_isRow a3 x50) fun r54 x53 => if r54 = 0 then (f_X11_isRight_b281  x53) else (bnd (f_X11_isNumber a4 x53) fun r57 x56 => if r57 = 0 then (f_X11_isRight_b281  x56) else (some (1, x56))))) else if a1 = 13 then (bnd (f_X11_isNumber a2 x) fun r60 x59 => if r60 = 0 then (f_X11_isRight_b316  x59) else (bnd (f_X11_isMethod a3 x59) fun r63 x62 => if r63 = 0 then (f_X11_isRight_b316  x62) else (bnd (f_X11_isRow a4 x62) fun r66 x65 => if r66 = 0 then (f_X11_isRight_b316  x65) else (bnd (f_X11_isNumber a5 x65) fun r69 x68 => if r69 = 0 then (f_X11_isRight_b316  x68) else (some (1, x68)))))) else if a1 = 14 then (f_X11_isRight_b76 a2 x) else (if a1 = 15 then (bnd (f_X11_in a3 8 9 x) fun r72 x71 => if r72 = 0 then (f_X11_isRight_b339  x71) else (some (1, x71))) else (f_X11_isRight_b339  x))
set_option maxHeartbeats 4000000 in
set_option maxRecDepth 100000 in
theorem w_X11_isRight {p : Program} {l : Launch} {e : Env} {s : State} {m : MethodId} {args : Array Value} {below : List Frame} {meth : Method} {c : Code} {g : gT} {r : Int32} {x' : st} (C : cxt p s m meth c args cX11_isRight 5 RX11 (some .boolean)) (G : gst g s) (a1 : Int32) (a2 : Int32) (a3 : Int32) (a4 : Int32) (a5 : Int32) (x : st) (H : Heap) (locs : List Loc) (ls : Array Slot)  (h : f_X11_isRight a1 a2 a3 a4 a5 x = some (r, x')) (hI : wst g x H) (hS : va_S (zA (gz g)) s.heap H locs) (hl : lv_has ls 5 [(0, .int a1), (1, .int a2), (2, .int a3), (3, .int a4), (4, .int a5)]) : W p l e (rmC 2 42) s m args below meth c H locs 0 0 (MQ below (Qx g (some (.int r)) x') args s 0 0 (zA (gz g))) (F0 m 0 ls []) := by
  obtain ⟨hx, hb, hml, hown, hts, hlk, hrt⟩ := id C
  unfold f_X11_isRight at h
  refine lv_iload_n hx hb dX11_isRight_0 rfl (lv_at hl 0 rfl) ?_
  by_cases hc0 : a1 = 0
  · replace h := ite_y hc0 h
    refine lv_tableIn (off := 75) (tgt := 76) hx hb dX11_isRight_1 (by rw [hc0]; decide) (by rw [hc0]; decide) (by rw [hc0]; decide +kernel) (by decide) ?_
    exact w_X11_isRight_b76 C G a2 x _ _ _  h hI hS (lv_sub hl [1] rfl)
  replace h := ite_n hc0 h
  by_cases hc1 : a1 = 1
  · replace h := ite_y hc1 h
    refine lv_tableIn (off := 80) (tgt := 81) hx hb dX11_isRight_1 (by rw [hc1]; decide) (by rw [hc1]; decide) (by rw [hc1]; decide +kernel) (by decide) ?_
    exact w_X11_isRight_b81 C G a2 a3 a4 x _ _ _  h hI hS (lv_sub hl [1, 2, 3] rfl)
  replace h := ite_n hc1 h
  by_cases hc2 : a1 = 2
  · replace h := ite_y hc2 h
    refine lv_tableIn (off := 80) (tgt := 81) hx hb dX11_isRight_1 (by rw [hc2]; decide) (by rw [hc2]; decide) (by rw [hc2]; decide +kernel) (by decide) ?_
    exact w_X11_isRight_b81 C G a2 a3 a4 x _ _ _  h hI hS (lv_sub hl [1, 2, 3] rfl)
  replace h := ite_n hc2 h
  by_cases hc3 : a1 = 3
  · replace h := ite_y hc3 h
    refine lv_tableIn (off := 80) (tgt := 81) hx hb dX11_isRight_1 (by rw [hc3]; decide) (by rw [hc3]; decide) (by rw [hc3]; decide +kernel) (by decide) ?_
    exact w_X11_isRight_b81 C G a2 a3 a4 x _ _ _  h hI hS (lv_sub hl [1, 2, 3] rfl)
  replace h := ite_n hc3 h
  by_cases hc4 : a1 = 4
  · replace h := ite_y hc4 h
    refine lv_tableIn (off := 80) (tgt := 81) hx hb dX11_isRight_1 (by rw [hc4]; decide) (by rw [hc4]; decide) (by rw [hc4]; decide +kernel) (by decide) ?_
    exact w_X11_isRight_b81 C G a2 a3 a4 x _ _ _  h hI hS (lv_sub hl [1, 2, 3] rfl)
  replace h := ite_n hc4 h
  by_cases hc5 : a1 = 5
  · replace h := ite_y hc5 h
    refine lv_tableIn (off := 80) (tgt := 81) hx hb dX11_isRight_1 (by rw [hc5]; decide) (by rw [hc5]; decide) (by rw [hc5]; decide +kernel) (by decide) ?_
    exact w_X11_isRight_b81 C G a2 a3 a4 x _ _ _  h hI hS (lv_sub hl [1, 2, 3] rfl)
  replace h := ite_n hc5 h
  by_cases hc6 : a1 = 6
  · replace h := ite_y hc6 h
    refine lv_tableIn (off := 107) (tgt := 108) hx hb dX11_isRight_1 (by rw [hc6]; decide) (by rw [hc6]; decide) (by rw [hc6]; decide +kernel) (by decide) ?_
    refine lv_iload_n hx hb dX11_isRight_108 rfl (lv_at hl 2 rfl) ?_
    refine lv_iconst (v := 0) hx hb dX11_isRight_109 (by decide) ?_
    refine lv_bipush (v := 48) hx hb dX11_isRight_110 (by decide) ?_
    obtain ⟨r2, x1, hq3, h⟩ := bnd_some h
    refine w_callS (fr := 0) (lo := 0) C G hI hS ms_X11_in km_X11_122 [.int a3, .int 0, .int 48] (k_X11_in l g a3 0 48 x _ _  hq3) rfl (by first | exact ⟨by decide, by decide⟩ | exact ⟨by show _ ≤ _ + _; omega, by show _ ≤ _ + _; omega⟩) ⟨Nat.zero_le _, Nat.zero_le _⟩ hl.1 rfl (Nat.le_of_ble_eq_true rfl) dX11_isRight_112 (fun H locs hI hS => ?_)
    obtain ⟨hn4, h⟩ := need_t h
    cases h
    exact w_iretz C hI hS (isz_or hn4) dX11_isRight_115
  replace h := ite_n hc6 h
  by_cases hc7 : a1 = 7
  · replace h := ite_y hc7 h
    refine lv_tableIn (off := 115) (tgt := 116) hx hb dX11_isRight_1 (by rw [hc7]; decide) (by rw [hc7]; decide) (by rw [hc7]; decide +kernel) (by decide) ?_
    refine lv_iload_n hx hb dX11_isRight_116 rfl (lv_at hl 1 rfl) ?_
    obtain ⟨r6, x5, hq7, h⟩ := bnd_some h
    refine w_callS (fr := 1) (lo := 22) C G hI hS ms_X11_isNumber km_X11_126 [.int a2] (k_X11_isNumber l g a2 x _ _  hq7) rfl (by first | exact ⟨by decide, by decide⟩ | exact ⟨by show _ ≤ _ + _; omega, by show _ ≤ _ + _; omega⟩) ⟨Nat.zero_le _, Nat.zero_le _⟩ hl.1 rfl (Nat.le_of_ble_eq_true rfl) dX11_isRight_117 (fun H locs hI hS => ?_)
    refine lv_if_eq (tgt := 137) hx hb dX11_isRight_120 (by decide) (fun hc => ?_) (fun hc => ?_)
    · replace h := ite_y hc h
      exact w_X11_isRight_b137 C G  x5 _ _ _  h hI hS (lv_sub hl [] rfl)
    replace h := ite_n hc h
    refine lv_iload_n hx hb dX11_isRight_123 rfl (lv_at hl 2 rfl) ?_
    refine lv_iconst (v := 0) hx hb dX11_isRight_124 (by decide) ?_
    refine lv_bipush (v := 48) hx hb dX11_isRight_125 (by decide) ?_
    obtain ⟨r9, x8, hq10, h⟩ := bnd_some h
    refine w_callS (fr := 0) (lo := 0) C G hI hS ms_X11_in km_X11_122 [.int a3, .int 0, .int 48] (k_X11_in l g a3 0 48 x5 _ _  hq10) rfl (by first | exact ⟨by decide, by decide⟩ | exact ⟨by show _ ≤ _ + _; omega, by show _ ≤ _ + _; omega⟩) ⟨Nat.zero_le _, Nat.zero_le _⟩ hl.1 rfl (Nat.le_of_ble_eq_true rfl) dX11_isRight_127 (fun H locs hI hS => ?_)
    refine lv_if_eq (tgt := 137) hx hb dX11_isRight_130 (by decide) (fun hc => ?_) (fun hc => ?_)
    · replace h := ite_y hc h
      exact w_X11_isRight_b137 C G  x8 _ _ _  h hI hS (lv_sub hl [] rfl)
    replace h := ite_n hc h
    refine lv_iconst (v := 1) hx hb dX11_isRight_133 (by decide) ?_
    refine lv_goto (tgt := 138) hx hb dX11_isRight_134 (by decide) ?_
    cases h
    exact w_iretz C hI hS (by decide) dX11_isRight_138
  replace h := ite_n hc7 h
  by_cases hc8 : a1 = 8
  · replace h := ite_y hc8 h
    refine lv_tableIn (off := 138) (tgt := 139) hx hb dX11_isRight_1 (by rw [hc8]; decide) (by rw [hc8]; decide) (by rw [hc8]; decide +kernel) (by decide) ?_
    refine lv_iload_n hx hb dX11_isRight_139 rfl (lv_at hl 1 rfl) ?_
    obtain ⟨r12, x11, hq13, h⟩ := bnd_some h
    refine w_callS (fr := 1) (lo := 22) C G hI hS ms_X11_isRow km_X11_130 [.int a2] (k_X11_isRow l g a2 x _ _  hq13) rfl (by first | exact ⟨by decide, by decide⟩ | exact ⟨by show _ ≤ _ + _; omega, by show _ ≤ _ + _; omega⟩) ⟨Nat.zero_le _, Nat.zero_le _⟩ hl.1 rfl (Nat.le_of_ble_eq_true rfl) dX11_isRight_140 (fun H locs hI hS => ?_)
    refine lv_if_eq (tgt := 164) hx hb dX11_isRight_143 (by decide) (fun hc => ?_) (fun hc => ?_)
    · replace h := ite_y hc h
      exact w_X11_isRight_b164 C G  x11 _ _ _  h hI hS (lv_sub hl [] rfl)
    replace h := ite_n hc h
    refine lv_iload_n hx hb dX11_isRight_146 rfl (lv_at hl 2 rfl) ?_
    obtain ⟨r15, x14, hq16, h⟩ := bnd_some h
    refine w_callS (fr := 1) (lo := 22) C G hI hS ms_X11_isLane km_X11_133 [.int a3] (k_X11_isLane l g a3 x11 _ _  hq16) rfl (by first | exact ⟨by decide, by decide⟩ | exact ⟨by show _ ≤ _ + _; omega, by show _ ≤ _ + _; omega⟩) ⟨Nat.zero_le _, Nat.zero_le _⟩ hl.1 rfl (Nat.le_of_ble_eq_true rfl) dX11_isRight_147 (fun H locs hI hS => ?_)
    refine lv_if_eq (tgt := 164) hx hb dX11_isRight_150 (by decide) (fun hc => ?_) (fun hc => ?_)
    · replace h := ite_y hc h
      exact w_X11_isRight_b164 C G  x14 _ _ _  h hI hS (lv_sub hl [] rfl)
    replace h := ite_n hc h
    refine lv_iload_n hx hb dX11_isRight_153 rfl (lv_at hl 3 rfl) ?_
    obtain ⟨r18, x17, hq19, h⟩ := bnd_some h
    refine w_callS (fr := 1) (lo := 22) C G hI hS ms_X11_isNumber km_X11_126 [.int a4] (k_X11_isNumber l g a4 x14 _ _  hq19) rfl (by first | exact ⟨by decide, by decide⟩ | exact ⟨by show _ ≤ _ + _; omega, by show _ ≤ _ + _; omega⟩) ⟨Nat.zero_le _, Nat.zero_le _⟩ hl.1 rfl (Nat.le_of_ble_eq_true rfl) dX11_isRight_154 (fun H locs hI hS => ?_)
    refine lv_if_eq (tgt := 164) hx hb dX11_isRight_157 (by decide) (fun hc => ?_) (fun hc => ?_)
    · replace h := ite_y hc h
      exact w_X11_isRight_b164 C G  x17 _ _ _  h hI hS (lv_sub hl [] rfl)
    replace h := ite_n hc h
    refine lv_iconst (v := 1) hx hb dX11_isRight_160 (by decide) ?_
    refine lv_goto (tgt := 165) hx hb dX11_isRight_161 (by decide) ?_
    cases h
    exact w_iretz C hI hS (by decide) dX11_isRight_165
  replace h := ite_n hc8 h
  by_cases hc9 : a1 = 9
  · replace h := ite_y hc9 h
    refine lv_tableIn (off := 165) (tgt := 166) hx hb dX11_isRight_1 (by rw [hc9]; decide) (by rw [hc9]; decide) (by rw [hc9]; decide +kernel) (by decide) ?_
    refine lv_iload_n hx hb dX11_isRight_166 rfl (lv_at hl 1 rfl) ?_
    obtain ⟨r21, x20, hq22, h⟩ := bnd_some h
    refine w_callS (fr := 1) (lo := 22) C G hI hS ms_X11_isRow km_X11_130 [.int a2] (k_X11_isRow l g a2 x _ _  hq22) rfl (by first | exact ⟨by decide, by decide⟩ | exact ⟨by show _ ≤ _ + _; omega, by show _ ≤ _ + _; omega⟩) ⟨Nat.zero_le _, Nat.zero_le _⟩ hl.1 rfl (Nat.le_of_ble_eq_true rfl) dX11_isRight_167 (fun H locs hI hS => ?_)
    refine lv_if_eq (tgt := 199) hx hb dX11_isRight_170 (by decide) (fun hc => ?_) (fun hc => ?_)
    · replace h := ite_y hc h
      exact w_X11_isRight_b199 C G  x20 _ _ _  h hI hS (lv_sub hl [] rfl)
    replace h := ite_n hc h
    refine lv_iload_n hx hb dX11_isRight_173 rfl (lv_at hl 2 rfl) ?_
    obtain ⟨r24, x23, hq25, h⟩ := bnd_some h
    refine w_callS (fr := 1) (lo := 22) C G hI hS ms_X11_isLane km_X11_133 [.int a3] (k_X11_isLane l g a3 x20 _ _  hq25) rfl (by first | exact ⟨by decide, by decide⟩ | exact ⟨by show _ ≤ _ + _; omega, by show _ ≤ _ + _; omega⟩) ⟨Nat.zero_le _, Nat.zero_le _⟩ hl.1 rfl (Nat.le_of_ble_eq_true rfl) dX11_isRight_174 (fun H locs hI hS => ?_)
    refine lv_if_eq (tgt := 199) hx hb dX11_isRight_177 (by decide) (fun hc => ?_) (fun hc => ?_)
    · replace h := ite_y hc h
      exact w_X11_isRight_b199 C G  x23 _ _ _  h hI hS (lv_sub hl [] rfl)
    replace h := ite_n hc h
    refine lv_iload_n hx hb dX11_isRight_180 rfl (lv_at hl 3 rfl) ?_
    obtain ⟨r27, x26, hq28, h⟩ := bnd_some h
    refine w_callS (fr := 1) (lo := 22) C G hI hS ms_X11_isNumber km_X11_126 [.int a4] (k_X11_isNumber l g a4 x23 _ _  hq28) rfl (by first | exact ⟨by decide, by decide⟩ | exact ⟨by show _ ≤ _ + _; omega, by show _ ≤ _ + _; omega⟩) ⟨Nat.zero_le _, Nat.zero_le _⟩ hl.1 rfl (Nat.le_of_ble_eq_true rfl) dX11_isRight_181 (fun H locs hI hS => ?_)
    refine lv_if_eq (tgt := 199) hx hb dX11_isRight_184 (by decide) (fun hc => ?_) (fun hc => ?_)
    · replace h := ite_y hc h
      exact w_X11_isRight_b199 C G  x26 _ _ _  h hI hS (lv_sub hl [] rfl)
    replace h := ite_n hc h
    refine lv_iload hx hb dX11_isRight_187 (lv_at hl 4 rfl) ?_
    obtain ⟨r30, x29, hq31, h⟩ := bnd_some h
    refine w_callS (fr := 1) (lo := 22) C G hI hS ms_X11_isNumber km_X11_126 [.int a5] (k_X11_isNumber l g a5 x26 _ _  hq31) rfl (by first | exact ⟨by decide, by decide⟩ | exact ⟨by show _ ≤ _ + _; omega, by show _ ≤ _ + _; omega⟩) ⟨Nat.zero_le _, Nat.zero_le _⟩ hl.1 rfl (Nat.le_of_ble_eq_true rfl) dX11_isRight_189 (fun H locs hI hS => ?_)
    refine lv_if_eq (tgt := 199) hx hb dX11_isRight_192 (by decide) (fun hc => ?_) (fun hc => ?_)
    · replace h := ite_y hc h
      exact w_X11_isRight_b199 C G  x29 _ _ _  h hI hS (lv_sub hl [] rfl)
    replace h := ite_n hc h
    refine lv_iconst (v := 1) hx hb dX11_isRight_195 (by decide) ?_
    refine lv_goto (tgt := 200) hx hb dX11_isRight_196 (by decide) ?_
    cases h
    exact w_iretz C hI hS (by decide) dX11_isRight_200
  replace h := ite_n hc9 h
  by_cases hc10 : a1 = 10
  · replace h := ite_y hc10 h
    refine lv_tableIn (off := 200) (tgt := 201) hx hb dX11_isRight_1 (by rw [hc10]; decide) (by rw [hc10]; decide) (by rw [hc10]; decide +kernel) (by decide) ?_
    refine lv_iload_n hx hb dX11_isRight_201 rfl (lv_at hl 1 rfl) ?_
    obtain ⟨r33, x32, hq34, h⟩ := bnd_some h
    refine w_callS (fr := 1) (lo := 22) C G hI hS ms_X11_isNumber km_X11_126 [.int a2] (k_X11_isNumber l g a2 x _ _  hq34) rfl (by first | exact ⟨by decide, by decide⟩ | exact ⟨by show _ ≤ _ + _; omega, by show _ ≤ _ + _; omega⟩) ⟨Nat.zero_le _, Nat.zero_le _⟩ hl.1 rfl (Nat.le_of_ble_eq_true rfl) dX11_isRight_202 (fun H locs hI hS => ?_)
    refine lv_if_eq (tgt := 234) hx hb dX11_isRight_205 (by decide) (fun hc => ?_) (fun hc => ?_)
    · replace h := ite_y hc h
      exact w_X11_isRight_b234 C G  x32 _ _ _  h hI hS (lv_sub hl [] rfl)
    replace h := ite_n hc h
    refine lv_iload_n hx hb dX11_isRight_208 rfl (lv_at hl 2 rfl) ?_
    obtain ⟨r36, x35, hq37, h⟩ := bnd_some h
    refine w_callS (fr := 1) (lo := 22) C G hI hS ms_X11_isRow km_X11_130 [.int a3] (k_X11_isRow l g a3 x32 _ _  hq37) rfl (by first | exact ⟨by decide, by decide⟩ | exact ⟨by show _ ≤ _ + _; omega, by show _ ≤ _ + _; omega⟩) ⟨Nat.zero_le _, Nat.zero_le _⟩ hl.1 rfl (Nat.le_of_ble_eq_true rfl) dX11_isRight_209 (fun H locs hI hS => ?_)
    refine lv_if_eq (tgt := 234) hx hb dX11_isRight_212 (by decide) (fun hc => ?_) (fun hc => ?_)
    · replace h := ite_y hc h
      exact w_X11_isRight_b234 C G  x35 _ _ _  h hI hS (lv_sub hl [] rfl)
    replace h := ite_n hc h
    refine lv_iload_n hx hb dX11_isRight_215 rfl (lv_at hl 3 rfl) ?_
    obtain ⟨r39, x38, hq40, h⟩ := bnd_some h
    refine w_callS (fr := 1) (lo := 22) C G hI hS ms_X11_isLane km_X11_133 [.int a4] (k_X11_isLane l g a4 x35 _ _  hq40) rfl (by first | exact ⟨by decide, by decide⟩ | exact ⟨by show _ ≤ _ + _; omega, by show _ ≤ _ + _; omega⟩) ⟨Nat.zero_le _, Nat.zero_le _⟩ hl.1 rfl (Nat.le_of_ble_eq_true rfl) dX11_isRight_216 (fun H locs hI hS => ?_)
    refine lv_if_eq (tgt := 234) hx hb dX11_isRight_219 (by decide) (fun hc => ?_) (fun hc => ?_)
    · replace h := ite_y hc h
      exact w_X11_isRight_b234 C G  x38 _ _ _  h hI hS (lv_sub hl [] rfl)
    replace h := ite_n hc h
    refine lv_iload hx hb dX11_isRight_222 (lv_at hl 4 rfl) ?_
    obtain ⟨r42, x41, hq43, h⟩ := bnd_some h
    refine w_callS (fr := 1) (lo := 22) C G hI hS ms_X11_isNumber km_X11_126 [.int a5] (k_X11_isNumber l g a5 x38 _ _  hq43) rfl (by first | exact ⟨by decide, by decide⟩ | exact ⟨by show _ ≤ _ + _; omega, by show _ ≤ _ + _; omega⟩) ⟨Nat.zero_le _, Nat.zero_le _⟩ hl.1 rfl (Nat.le_of_ble_eq_true rfl) dX11_isRight_224 (fun H locs hI hS => ?_)
    refine lv_if_eq (tgt := 234) hx hb dX11_isRight_227 (by decide) (fun hc => ?_) (fun hc => ?_)
    · replace h := ite_y hc h
      exact w_X11_isRight_b234 C G  x41 _ _ _  h hI hS (lv_sub hl [] rfl)
    replace h := ite_n hc h
    refine lv_iconst (v := 1) hx hb dX11_isRight_230 (by decide) ?_
    refine lv_goto (tgt := 235) hx hb dX11_isRight_231 (by decide) ?_
    cases h
    exact w_iretz C hI hS (by decide) dX11_isRight_235
  replace h := ite_n hc10 h
  by_cases hc11 : a1 = 11
  · replace h := ite_y hc11 h
    refine lv_tableIn (off := 235) (tgt := 236) hx hb dX11_isRight_1 (by rw [hc11]; decide) (by rw [hc11]; decide) (by rw [hc11]; decide +kernel) (by decide) ?_
    refine lv_iload_n hx hb dX11_isRight_236 rfl (lv_at hl 1 rfl) ?_
    obtain ⟨r45, x44, hq46, h⟩ := bnd_some h
    refine w_callS (fr := 1) (lo := 22) C G hI hS ms_X11_isNumber km_X11_126 [.int a2] (k_X11_isNumber l g a2 x _ _  hq46) rfl (by first | exact ⟨by decide, by decide⟩ | exact ⟨by show _ ≤ _ + _; omega, by show _ ≤ _ + _; omega⟩) ⟨Nat.zero_le _, Nat.zero_le _⟩ hl.1 rfl (Nat.le_of_ble_eq_true rfl) dX11_isRight_237 (fun H locs hI hS => ?_)
    refine lv_if_eq (tgt := 254) hx hb dX11_isRight_240 (by decide) (fun hc => ?_) (fun hc => ?_)
    · replace h := ite_y hc h
      exact w_X11_isRight_b254 C G  x44 _ _ _  h hI hS (lv_sub hl [] rfl)
    replace h := ite_n hc h
    refine lv_iload_n hx hb dX11_isRight_243 rfl (lv_at hl 2 rfl) ?_
    obtain ⟨r48, x47, hq49, h⟩ := bnd_some h
    refine w_callS (fr := 1) (lo := 22) C G hI hS ms_X11_isRow km_X11_130 [.int a3] (k_X11_isRow l g a3 x44 _ _  hq49) rfl (by first | exact ⟨by decide, by decide⟩ | exact ⟨by show _ ≤ _ + _; omega, by show _ ≤ _ + _; omega⟩) ⟨Nat.zero_le _, Nat.zero_le _⟩ hl.1 rfl (Nat.le_of_ble_eq_true rfl) dX11_isRight_244 (fun H locs hI hS => ?_)
    refine lv_if_eq (tgt := 254) hx hb dX11_isRight_247 (by decide) (fun hc => ?_) (fun hc => ?_)
    · replace h := ite_y hc h
      exact w_X11_isRight_b254 C G  x47 _ _ _  h hI hS (lv_sub hl [] rfl)
    replace h := ite_n hc h
    refine lv_iconst (v := 1) hx hb dX11_isRight_250 (by decide) ?_
    refine lv_goto (tgt := 255) hx hb dX11_isRight_251 (by decide) ?_
    cases h
    exact w_iretz C hI hS (by decide) dX11_isRight_255
  replace h := ite_n hc11 h
  by_cases hc12 : a1 = 12
  · replace h := ite_y hc12 h
    refine lv_tableIn (off := 255) (tgt := 256) hx hb dX11_isRight_1 (by rw [hc12]; decide) (by rw [hc12]; decide) (by rw [hc12]; decide +kernel) (by decide) ?_
    refine lv_iload_n hx hb dX11_isRight_256 rfl (lv_at hl 1 rfl) ?_
    obtain ⟨r51, x50, hq52, h⟩ := bnd_some h
    refine w_callS (fr := 1) (lo := 22) C G hI hS ms_X11_isRow km_X11_130 [.int a2] (k_X11_isRow l g a2 x _ _  hq52) rfl (by first | exact ⟨by decide, by decide⟩ | exact ⟨by show _ ≤ _ + _; omega, by show _ ≤ _ + _; omega⟩) ⟨Nat.zero_le _, Nat.zero_le _⟩ hl.1 rfl (Nat.le_of_ble_eq_true rfl) dX11_isRight_257 (fun H locs hI hS => ?_)
    refine lv_if_eq (tgt := 281) hx hb dX11_isRight_260 (by decide) (fun hc => ?_) (fun hc => ?_)
    · replace h := ite_y hc h
      exact w_X11_isRight_b281 C G  x50 _ _ _  h hI hS (lv_sub hl [] rfl)
    replace h := ite_n hc h
    refine lv_iload_n hx hb dX11_isRight_263 rfl (lv_at hl 2 rfl) ?_
    obtain ⟨r54, x53, hq55, h⟩ := bnd_some h
    refine w_callS (fr := 1) (lo := 22) C G hI hS ms_X11_isRow km_X11_130 [.int a3] (k_X11_isRow l g a3 x50 _ _  hq55) rfl (by first | exact ⟨by decide, by decide⟩ | exact ⟨by show _ ≤ _ + _; omega, by show _ ≤ _ + _; omega⟩) ⟨Nat.zero_le _, Nat.zero_le _⟩ hl.1 rfl (Nat.le_of_ble_eq_true rfl) dX11_isRight_264 (fun H locs hI hS => ?_)
    refine lv_if_eq (tgt := 281) hx hb dX11_isRight_267 (by decide) (fun hc => ?_) (fun hc => ?_)
    · replace h := ite_y hc h
      exact w_X11_isRight_b281 C G  x53 _ _ _  h hI hS (lv_sub hl [] rfl)
    replace h := ite_n hc h
    refine lv_iload_n hx hb dX11_isRight_270 rfl (lv_at hl 3 rfl) ?_
    obtain ⟨r57, x56, hq58, h⟩ := bnd_some h
    refine w_callS (fr := 1) (lo := 22) C G hI hS ms_X11_isNumber km_X11_126 [.int a4] (k_X11_isNumber l g a4 x53 _ _  hq58) rfl (by first | exact ⟨by decide, by decide⟩ | exact ⟨by show _ ≤ _ + _; omega, by show _ ≤ _ + _; omega⟩) ⟨Nat.zero_le _, Nat.zero_le _⟩ hl.1 rfl (Nat.le_of_ble_eq_true rfl) dX11_isRight_271 (fun H locs hI hS => ?_)
    refine lv_if_eq (tgt := 281) hx hb dX11_isRight_274 (by decide) (fun hc => ?_) (fun hc => ?_)
    · replace h := ite_y hc h
      exact w_X11_isRight_b281 C G  x56 _ _ _  h hI hS (lv_sub hl [] rfl)
    replace h := ite_n hc h
    refine lv_iconst (v := 1) hx hb dX11_isRight_277 (by decide) ?_
    refine lv_goto (tgt := 282) hx hb dX11_isRight_278 (by decide) ?_
    cases h
    exact w_iretz C hI hS (by decide) dX11_isRight_282
  replace h := ite_n hc12 h
  by_cases hc13 : a1 = 13
  · replace h := ite_y hc13 h
    refine lv_tableIn (off := 282) (tgt := 283) hx hb dX11_isRight_1 (by rw [hc13]; decide) (by rw [hc13]; decide) (by rw [hc13]; decide +kernel) (by decide) ?_
    refine lv_iload_n hx hb dX11_isRight_283 rfl (lv_at hl 1 rfl) ?_
    obtain ⟨r60, x59, hq61, h⟩ := bnd_some h
    refine w_callS (fr := 1) (lo := 22) C G hI hS ms_X11_isNumber km_X11_126 [.int a2] (k_X11_isNumber l g a2 x _ _  hq61) rfl (by first | exact ⟨by decide, by decide⟩ | exact ⟨by show _ ≤ _ + _; omega, by show _ ≤ _ + _; omega⟩) ⟨Nat.zero_le _, Nat.zero_le _⟩ hl.1 rfl (Nat.le_of_ble_eq_true rfl) dX11_isRight_284 (fun H locs hI hS => ?_)
    refine lv_if_eq (tgt := 316) hx hb dX11_isRight_287 (by decide) (fun hc => ?_) (fun hc => ?_)
    · replace h := ite_y hc h
      exact w_X11_isRight_b316 C G  x59 _ _ _  h hI hS (lv_sub hl [] rfl)
    replace h := ite_n hc h
    refine lv_iload_n hx hb dX11_isRight_290 rfl (lv_at hl 2 rfl) ?_
    obtain ⟨r63, x62, hq64, h⟩ := bnd_some h
    refine w_callS (fr := 1) (lo := 22) C G hI hS ms_X11_isMethod km_X11_136 [.int a3] (k_X11_isMethod l g a3 x59 _ _  hq64) rfl (by first | exact ⟨by decide, by decide⟩ | exact ⟨by show _ ≤ _ + _; omega, by show _ ≤ _ + _; omega⟩) ⟨Nat.zero_le _, Nat.zero_le _⟩ hl.1 rfl (Nat.le_of_ble_eq_true rfl) dX11_isRight_291 (fun H locs hI hS => ?_)
    refine lv_if_eq (tgt := 316) hx hb dX11_isRight_294 (by decide) (fun hc => ?_) (fun hc => ?_)
    · replace h := ite_y hc h
      exact w_X11_isRight_b316 C G  x62 _ _ _  h hI hS (lv_sub hl [] rfl)
    replace h := ite_n hc h
    refine lv_iload_n hx hb dX11_isRight_297 rfl (lv_at hl 3 rfl) ?_
    obtain ⟨r66, x65, hq67, h⟩ := bnd_some h
    refine w_callS (fr := 1) (lo := 22) C G hI hS ms_X11_isRow km_X11_130 [.int a4] (k_X11_isRow l g a4 x62 _ _  hq67) rfl (by first | exact ⟨by decide, by decide⟩ | exact ⟨by show _ ≤ _ + _; omega, by show _ ≤ _ + _; omega⟩) ⟨Nat.zero_le _, Nat.zero_le _⟩ hl.1 rfl (Nat.le_of_ble_eq_true rfl) dX11_isRight_298 (fun H locs hI hS => ?_)
    refine lv_if_eq (tgt := 316) hx hb dX11_isRight_301 (by decide) (fun hc => ?_) (fun hc => ?_)
    · replace h := ite_y hc h
      exact w_X11_isRight_b316 C G  x65 _ _ _  h hI hS (lv_sub hl [] rfl)
    replace h := ite_n hc h
    refine lv_iload hx hb dX11_isRight_304 (lv_at hl 4 rfl) ?_
    obtain ⟨r69, x68, hq70, h⟩ := bnd_some h
    refine w_callS (fr := 1) (lo := 22) C G hI hS ms_X11_isNumber km_X11_126 [.int a5] (k_X11_isNumber l g a5 x65 _ _  hq70) rfl (by first | exact ⟨by decide, by decide⟩ | exact ⟨by show _ ≤ _ + _; omega, by show _ ≤ _ + _; omega⟩) ⟨Nat.zero_le _, Nat.zero_le _⟩ hl.1 rfl (Nat.le_of_ble_eq_true rfl) dX11_isRight_306 (fun H locs hI hS => ?_)
    refine lv_if_eq (tgt := 316) hx hb dX11_isRight_309 (by decide) (fun hc => ?_) (fun hc => ?_)
    · replace h := ite_y hc h
      exact w_X11_isRight_b316 C G  x68 _ _ _  h hI hS (lv_sub hl [] rfl)
    replace h := ite_n hc h
    refine lv_iconst (v := 1) hx hb dX11_isRight_312 (by decide) ?_
    refine lv_goto (tgt := 317) hx hb dX11_isRight_313 (by decide) ?_
    cases h
    exact w_iretz C hI hS (by decide) dX11_isRight_317
  replace h := ite_n hc13 h
  by_cases hc14 : a1 = 14
  · replace h := ite_y hc14 h
    refine lv_tableIn (off := 75) (tgt := 76) hx hb dX11_isRight_1 (by rw [hc14]; decide) (by rw [hc14]; decide) (by rw [hc14]; decide +kernel) (by decide) ?_
    exact w_X11_isRight_b76 C G a2 x _ _ _  h hI hS (lv_sub hl [1] rfl)
  replace h := ite_n hc14 h
  refine lv_tableOut (tgt := 318) hx hb dX11_isRight_1 (sw_out 15 (by intro k hk; match k, hk with | 0, _ => exact hc0 | 1, _ => exact hc1 | 2, _ => exact hc2 | 3, _ => exact hc3 | 4, _ => exact hc4 | 5, _ => exact hc5 | 6, _ => exact hc6 | 7, _ => exact hc7 | 8, _ => exact hc8 | 9, _ => exact hc9 | 10, _ => exact hc10 | 11, _ => exact hc11 | 12, _ => exact hc12 | 13, _ => exact hc13 | 14, _ => exact hc14 | k + 15, hk => exact absurd hk (by omega)) (by decide)) (by decide) ?_
  refine lv_iload_n hx hb dX11_isRight_318 rfl (lv_at hl 0 rfl) ?_
  refine lv_bipush (v := 15) hx hb dX11_isRight_319 (by decide) ?_
  refine lv_icmp_ne (tgt := 339) hx hb dX11_isRight_321 (by decide) (fun hc => ?_) (fun hc => ?_)
  · replace h := ite_n hc h
    exact w_X11_isRight_b339 C G  x _ _ _  h hI hS (lv_sub hl [] rfl)
  replace h := ite_y hc h
  refine lv_iload_n hx hb dX11_isRight_324 rfl (lv_at hl 2 rfl) ?_
  refine lv_bipush (v := 8) hx hb dX11_isRight_325 (by decide) ?_
  refine lv_bipush (v := 9) hx hb dX11_isRight_327 (by decide) ?_
  obtain ⟨r72, x71, hq73, h⟩ := bnd_some h
  refine w_callS (fr := 0) (lo := 0) C G hI hS ms_X11_in km_X11_122 [.int a3, .int 8, .int 9] (k_X11_in l g a3 8 9 x _ _  hq73) rfl (by first | exact ⟨by decide, by decide⟩ | exact ⟨by show _ ≤ _ + _; omega, by show _ ≤ _ + _; omega⟩) ⟨Nat.zero_le _, Nat.zero_le _⟩ hl.1 rfl (Nat.le_of_ble_eq_true rfl) dX11_isRight_329 (fun H locs hI hS => ?_)
  refine lv_if_eq (tgt := 339) hx hb dX11_isRight_332 (by decide) (fun hc => ?_) (fun hc => ?_)
  · replace h := ite_y hc h
    exact w_X11_isRight_b339 C G  x71 _ _ _  h hI hS (lv_sub hl [] rfl)
  replace h := ite_n hc h
  refine lv_iconst (v := 1) hx hb dX11_isRight_335 (by decide) ?_
  refine lv_goto (tgt := 340) hx hb dX11_isRight_336 (by decide) ?_
  cases h
  exact w_iretz C hI hS (by decide) dX11_isRight_340
theorem k_X11_isRight (l : Launch) (g : gT) (a1 : Int32) (a2 : Int32) (a3 : Int32) (a4 : Int32) (a5 : Int32) (x : st) (r : Int32) (x' : st)  (h : f_X11_isRight a1 a2 a3 a4 a5 x = some (r, x')) : Kt l yX11_isRight cX11_isRight 5 (some .boolean) 2 42 g [.int a1, .int a2, .int a3, .int a4, .int a5] x (some (.int r)) x' := by
  refine Kt.of (by decide) (fun p e s m below meth c C G hI => ?_)
  have hl := lv_entry ([.int a1, .int a2, .int a3, .int a4, .int a5]) (n := 5) (Nat.le_of_ble_eq_true rfl)
  rw [lg_entry_eq]
  generalize (lg_sl ([.int a1, .int a2, .int a3, .int a4, .int a5]) ++ List.replicate (5 - (lg_sl ([.int a1, .int a2, .int a3, .int a4, .int a5])).length) Slot.unset).toArray = ls at hl ⊢
  have hl : lv_has ls 5 [(0, .int a1), (1, .int a2), (2, .int a3), (3, .int a4), (4, .int a5)] := hl
  exact w_X11_isRight C G a1 a2 a3 a4 a5 x _ _ ls  h hI va_S.rf hl
theorem ms_X11_isRight : mtS yX11_isRight RX11 cX11_isRight 5 (some .boolean) 5 := ⟨ks_X11_isRight, kI_X11, kc_X11_isRight, by decide +kernel⟩

/-! X11_act -/
def f_X11_act_b21  (x : st) : Option (Int32 × st) := some ((-1), x)
set_option maxHeartbeats 4000000 in
set_option maxRecDepth 100000 in
theorem w_X11_act_b21 {p : Program} {l : Launch} {e : Env} {s : State} {m : MethodId} {args : Array Value} {below : List Frame} {meth : Method} {c : Code} {g : gT} {r : Int32} {x' : st} (C : cxt p s m meth c args cX11_act 8 RX11 (some .int)) (G : gst g s)  (x : st) (H : Heap) (locs : List Loc) (ls : Array Slot)  (h : f_X11_act_b21  x = some (r, x')) (hI : wst g x H) (hS : va_S (zA (gz g)) s.heap H locs) (hl : lv_has ls 8 []) : W p l e (rmC 3 66) s m args below meth c H locs 0 0 (MQ below (Qx g (some (.int r)) x') args s 0 0 (zA (gz g))) (F0 m 21 ls []) := by
  obtain ⟨hx, hb, hml, hown, hts, hlk, hrt⟩ := id C
  unfold f_X11_act_b21 at h
  refine lv_iconst (v := (-1)) hx hb dX11_act_21 (by decide) ?_
  cases h
  exact w_ireti C hI hS dX11_act_22
def f_X11_act (a1 : Int32) (a2 : Int32) (a3 : Int32) (a4 : Int32) (a5 : Int32) (a6 : Int32) (x : st) : Option (Int32 × st) := bnd (f_X11_isMethod a1 x) fun r2 x1 => if r2 = 0 then (f_X11_act_b21  x1) else (bnd (f_X11_isRight a2 a3 a4 a5 a6 x1) fun r5 x4 => if r5 = 0 then (f_X11_act_b21  x4) else (if inb a1 8 = true then if (x4 40 0 a1.toNatClampNeg) = 48 then (some ((-2), x4)) else (if inb a1 8 = true then if inb ((48 * a1) + (x4 40 0 a1.toNatClampNeg)) 384 = true then lets (sx x4 41 0 ((48 * a1) + (x4 40 0 a1.toNatClampNeg)).toNatClampNeg a2) fun x10 => if inb ((48 * a1) + (x4 40 0 a1.toNatClampNeg)) 384 = true then lets (sx x10 42 0 ((48 * a1) + (x4 40 0 a1.toNatClampNeg)).toNatClampNeg a3) fun x12 => if inb ((48 * a1) + (x4 40 0 a1.toNatClampNeg)) 384 = true then lets (sx x12 43 0 ((48 * a1) + (x4 40 0 a1.toNatClampNeg)).toNatClampNeg a4) fun x14 => if inb ((48 * a1) + (x4 40 0 a1.toNatClampNeg)) 384 = true then lets (sx x14 44 0 ((48 * a1) + (x4 40 0 a1.toNatClampNeg)).toNatClampNeg a5) fun x16 => if inb ((48 * a1) + (x4 40 0 a1.toNatClampNeg)) 384 = true then lets (sx x16 45 0 ((48 * a1) + (x4 40 0 a1.toNatClampNeg)).toNatClampNeg a6) fun x18 => if inb a1 8 = true then if inb a1 8 = true then lets (sx x18 40 0 a1.toNatClampNeg ((x18 40 0 a1.toNatClampNeg) + 1)) fun x21 => if inb a1 8 = true then some (((x21 40 0 a1.toNatClampNeg) - 1), x21) else none else none else none else none else none else none else none else none else none) else none))
set_option maxHeartbeats 4000000 in
set_option maxRecDepth 100000 in
theorem w_X11_act {p : Program} {l : Launch} {e : Env} {s : State} {m : MethodId} {args : Array Value} {below : List Frame} {meth : Method} {c : Code} {g : gT} {r : Int32} {x' : st} (C : cxt p s m meth c args cX11_act 8 RX11 (some .int)) (G : gst g s) (a1 : Int32) (a2 : Int32) (a3 : Int32) (a4 : Int32) (a5 : Int32) (a6 : Int32) (x : st) (H : Heap) (locs : List Loc) (ls : Array Slot)  (h : f_X11_act a1 a2 a3 a4 a5 a6 x = some (r, x')) (hI : wst g x H) (hS : va_S (zA (gz g)) s.heap H locs) (hl : lv_has ls 8 [(0, .ref (ga g 30 0)), (1, .int a1), (2, .int a2), (3, .int a3), (4, .int a4), (5, .int a5), (6, .int a6)]) : W p l e (rmC 3 66) s m args below meth c H locs 0 0 (MQ below (Qx g (some (.int r)) x') args s 0 0 (zA (gz g))) (F0 m 0 ls []) := by
  obtain ⟨hx, hb, hml, hown, hts, hlk, hrt⟩ := id C
  unfold f_X11_act at h
  refine lv_iload_n hx hb dX11_act_0 rfl (lv_at hl 1 rfl) ?_
  obtain ⟨r2, x1, hq3, h⟩ := bnd_some h
  refine w_callS (fr := 1) (lo := 22) C G hI hS ms_X11_isMethod km_X11_136 [.int a1] (k_X11_isMethod l g a1 x _ _  hq3) rfl (by first | exact ⟨by decide, by decide⟩ | exact ⟨by show _ ≤ _ + _; omega, by show _ ≤ _ + _; omega⟩) ⟨Nat.zero_le _, Nat.zero_le _⟩ hl.1 rfl (Nat.le_of_ble_eq_true rfl) dX11_act_1 (fun H locs hI hS => ?_)
  refine lv_if_eq (tgt := 21) hx hb dX11_act_4 (by decide) (fun hc => ?_) (fun hc => ?_)
  · replace h := ite_y hc h
    exact w_X11_act_b21 C G  x1 _ _ _  h hI hS (lv_sub hl [] rfl)
  replace h := ite_n hc h
  refine lv_iload_n hx hb dX11_act_7 rfl (lv_at hl 2 rfl) ?_
  refine lv_iload_n hx hb dX11_act_8 rfl (lv_at hl 3 rfl) ?_
  refine lv_iload hx hb dX11_act_9 (lv_at hl 4 rfl) ?_
  refine lv_iload hx hb dX11_act_11 (lv_at hl 5 rfl) ?_
  refine lv_iload hx hb dX11_act_13 (lv_at hl 6 rfl) ?_
  obtain ⟨r5, x4, hq6, h⟩ := bnd_some h
  refine w_callS (fr := 2) (lo := 42) C G hI hS ms_X11_isRight km_X11_139 [.int a2, .int a3, .int a4, .int a5, .int a6] (k_X11_isRight l g a2 a3 a4 a5 a6 x1 _ _  hq6) rfl (by first | exact ⟨by decide, by decide⟩ | exact ⟨by show _ ≤ _ + _; omega, by show _ ≤ _ + _; omega⟩) ⟨Nat.zero_le _, Nat.zero_le _⟩ hl.1 rfl (Nat.le_of_ble_eq_true rfl) dX11_act_15 (fun H locs hI hS => ?_)
  refine lv_if_ne (tgt := 23) hx hb dX11_act_18 (by decide) (fun hc => ?_) (fun hc => ?_)
  · replace h := ite_n hc h
    refine lv_aload_n hx hb dX11_act_23 rfl (lv_at hl 0 rfl) ?_
    refine w_get C G hI 30 0 (hI.at1 rfl) (fcE_30 g _ _) rfl in_X11 0 (by decide) kf_X11_7 (fun _ h => h) (v := .ref (ga g 40 0)) rfl dX11_act_24 ?_
    refine lv_iload_n hx hb dX11_act_27 rfl (lv_at hl 1 rfl) ?_
    obtain ⟨hn7, h⟩ := need_t h
    refine w_iald C G hI 40 0 (hI.at1 rfl) (fcA_40 g _ _) (inb_in hn7) dX11_act_28 ?_
    refine lv_bipush (v := 48) hx hb dX11_act_29 (by decide) ?_
    refine lv_icmp_ne (tgt := 37) hx hb dX11_act_31 (by decide) (fun hc => ?_) (fun hc => ?_)
    · replace h := ite_n hc h
      refine lv_bipush (v := 48) hx hb dX11_act_37 (by decide) ?_
      refine lv_iload_n hx hb dX11_act_39 rfl (lv_at hl 1 rfl) ?_
      refine lv_imul hx hb dX11_act_40 ?_
      refine lv_aload_n hx hb dX11_act_41 rfl (lv_at hl 0 rfl) ?_
      refine w_get C G hI 30 0 (hI.at1 rfl) (fcE_30 g _ _) rfl in_X11 0 (by decide) kf_X11_7 (fun _ h => h) (v := .ref (ga g 40 0)) rfl dX11_act_42 ?_
      refine lv_iload_n hx hb dX11_act_45 rfl (lv_at hl 1 rfl) ?_
      obtain ⟨hn8, h⟩ := need_t h
      refine w_iald C G hI 40 0 (hI.at1 rfl) (fcA_40 g _ _) (inb_in hn8) dX11_act_46 ?_
      refine lv_iadd hx hb dX11_act_47 ?_
      refine lv_istore (lv' := [(7, .int ((48 * a1) + (x4 40 0 a1.toNatClampNeg))), (0, .ref (ga g 30 0)), (1, .int a1), (2, .int a2), (3, .int a3), (4, .int a4), (5, .int a5), (6, .int a6)]) hx hb dX11_act_48 hl (by decide) rfl (fun ls hl => ?_)
      refine lv_aload_n hx hb dX11_act_50 rfl (lv_at hl 1 rfl) ?_
      refine w_get C G hI 30 0 (hI.at1 rfl) (fcE_30 g _ _) rfl in_X11 1 (by decide) kf_X11_13 (fun _ h => h) (v := .ref (ga g 41 0)) rfl dX11_act_51 ?_
      refine lv_iload hx hb dX11_act_54 (lv_at hl 0 rfl) ?_
      refine lv_iload_n hx hb dX11_act_56 rfl (lv_at hl 3 rfl) ?_
      obtain ⟨hn9, h⟩ := need_t h
      refine w_iast C G hI hS 41 0 (hI.at1 rfl) rfl (fcA_41 g _) (y := a2) (inb_in hn9) dX11_act_57 (fun H locs hI hS => ?_)
      obtain ⟨x10, e_x10, h⟩ := lets_some h
      rw [← e_x10] at hI
      refine lv_aload_n hx hb dX11_act_58 rfl (lv_at hl 1 rfl) ?_
      refine w_get C G hI 30 0 (hI.at1 rfl) (fcE_30 g _ _) rfl in_X11 2 (by decide) kf_X11_16 (fun _ h => h) (v := .ref (ga g 42 0)) rfl dX11_act_59 ?_
      refine lv_iload hx hb dX11_act_62 (lv_at hl 0 rfl) ?_
      refine lv_iload_n hx hb dX11_act_64 rfl (lv_at hl 4 rfl) ?_
      obtain ⟨hn11, h⟩ := need_t h
      refine w_iast C G hI hS 42 0 (hI.at1 rfl) rfl (fcA_42 g _) (y := a3) (inb_in hn11) dX11_act_65 (fun H locs hI hS => ?_)
      obtain ⟨x12, e_x12, h⟩ := lets_some h
      rw [← e_x12] at hI
      refine lv_aload_n hx hb dX11_act_66 rfl (lv_at hl 1 rfl) ?_
      refine w_get C G hI 30 0 (hI.at1 rfl) (fcE_30 g _ _) rfl in_X11 3 (by decide) kf_X11_19 (fun _ h => h) (v := .ref (ga g 43 0)) rfl dX11_act_67 ?_
      refine lv_iload hx hb dX11_act_70 (lv_at hl 0 rfl) ?_
      refine lv_iload hx hb dX11_act_72 (lv_at hl 5 rfl) ?_
      obtain ⟨hn13, h⟩ := need_t h
      refine w_iast C G hI hS 43 0 (hI.at1 rfl) rfl (fcA_43 g _) (y := a4) (inb_in hn13) dX11_act_74 (fun H locs hI hS => ?_)
      obtain ⟨x14, e_x14, h⟩ := lets_some h
      rw [← e_x14] at hI
      refine lv_aload_n hx hb dX11_act_75 rfl (lv_at hl 1 rfl) ?_
      refine w_get C G hI 30 0 (hI.at1 rfl) (fcE_30 g _ _) rfl in_X11 4 (by decide) kf_X11_22 (fun _ h => h) (v := .ref (ga g 44 0)) rfl dX11_act_76 ?_
      refine lv_iload hx hb dX11_act_79 (lv_at hl 0 rfl) ?_
      refine lv_iload hx hb dX11_act_81 (lv_at hl 6 rfl) ?_
      obtain ⟨hn15, h⟩ := need_t h
      refine w_iast C G hI hS 44 0 (hI.at1 rfl) rfl (fcA_44 g _) (y := a5) (inb_in hn15) dX11_act_83 (fun H locs hI hS => ?_)
      obtain ⟨x16, e_x16, h⟩ := lets_some h
      rw [← e_x16] at hI
      refine lv_aload_n hx hb dX11_act_84 rfl (lv_at hl 1 rfl) ?_
      refine w_get C G hI 30 0 (hI.at1 rfl) (fcE_30 g _ _) rfl in_X11 5 (by decide) kf_X11_25 (fun _ h => h) (v := .ref (ga g 45 0)) rfl dX11_act_85 ?_
      refine lv_iload hx hb dX11_act_88 (lv_at hl 0 rfl) ?_
      refine lv_iload hx hb dX11_act_90 (lv_at hl 7 rfl) ?_
      obtain ⟨hn17, h⟩ := need_t h
      refine w_iast C G hI hS 45 0 (hI.at1 rfl) rfl (fcA_45 g _) (y := a6) (inb_in hn17) dX11_act_92 (fun H locs hI hS => ?_)
      obtain ⟨x18, e_x18, h⟩ := lets_some h
      rw [← e_x18] at hI
      refine lv_aload_n hx hb dX11_act_93 rfl (lv_at hl 1 rfl) ?_
      refine w_get C G hI 30 0 (hI.at1 rfl) (fcE_30 g _ _) rfl in_X11 0 (by decide) kf_X11_7 (fun _ h => h) (v := .ref (ga g 40 0)) rfl dX11_act_94 ?_
      refine lv_iload_n hx hb dX11_act_97 rfl (lv_at hl 2 rfl) ?_
      refine lv_dup2_11 hx hb dX11_act_98 rfl rfl ?_
      obtain ⟨hn19, h⟩ := need_t h
      refine w_iald C G hI 40 0 (hI.at1 rfl) (fcA_40 g _ _) (inb_in hn19) dX11_act_99 ?_
      refine lv_iconst (v := 1) hx hb dX11_act_100 (by decide) ?_
      refine lv_iadd hx hb dX11_act_101 ?_
      obtain ⟨hn20, h⟩ := need_t h
      refine w_iast C G hI hS 40 0 (hI.at1 rfl) rfl (fcA_40 g _) (y := ((x18 40 0 a1.toNatClampNeg) + 1)) (inb_in hn20) dX11_act_102 (fun H locs hI hS => ?_)
      obtain ⟨x21, e_x21, h⟩ := lets_some h
      rw [← e_x21] at hI
      refine lv_aload_n hx hb dX11_act_103 rfl (lv_at hl 1 rfl) ?_
      refine w_get C G hI 30 0 (hI.at1 rfl) (fcE_30 g _ _) rfl in_X11 0 (by decide) kf_X11_7 (fun _ h => h) (v := .ref (ga g 40 0)) rfl dX11_act_104 ?_
      refine lv_iload_n hx hb dX11_act_107 rfl (lv_at hl 2 rfl) ?_
      obtain ⟨hn22, h⟩ := need_t h
      refine w_iald C G hI 40 0 (hI.at1 rfl) (fcA_40 g _ _) (inb_in hn22) dX11_act_108 ?_
      refine lv_iconst (v := 1) hx hb dX11_act_109 (by decide) ?_
      refine lv_isub hx hb dX11_act_110 ?_
      cases h
      exact w_ireti C hI hS dX11_act_111
    replace h := ite_y hc h
    refine lv_bipush (v := (-2)) hx hb dX11_act_34 (by decide) ?_
    cases h
    exact w_ireti C hI hS dX11_act_36
  replace h := ite_y hc h
  exact w_X11_act_b21 C G  x4 _ _ _  h hI hS (lv_sub hl [] rfl)
theorem k_X11_act (l : Launch) (g : gT) (a1 : Int32) (a2 : Int32) (a3 : Int32) (a4 : Int32) (a5 : Int32) (a6 : Int32) (x : st) (r : Int32) (x' : st)  (h : f_X11_act a1 a2 a3 a4 a5 a6 x = some (r, x')) : Kt l yX11_act cX11_act 8 (some .int) 3 66 g [.ref (ga g 30 0), .int a1, .int a2, .int a3, .int a4, .int a5, .int a6] x (some (.int r)) x' := by
  refine Kt.of (by decide) (fun p e s m below meth c C G hI => ?_)
  have hl := lv_entry ([.ref (ga g 30 0), .int a1, .int a2, .int a3, .int a4, .int a5, .int a6]) (n := 8) (Nat.le_of_ble_eq_true rfl)
  rw [lg_entry_eq]
  generalize (lg_sl ([.ref (ga g 30 0), .int a1, .int a2, .int a3, .int a4, .int a5, .int a6]) ++ List.replicate (8 - (lg_sl ([.ref (ga g 30 0), .int a1, .int a2, .int a3, .int a4, .int a5, .int a6])).length) Slot.unset).toArray = ls at hl ⊢
  have hl : lv_has ls 8 [(0, .ref (ga g 30 0)), (1, .int a1), (2, .int a2), (3, .int a3), (4, .int a4), (5, .int a5), (6, .int a6)] := hl
  exact w_X11_act C G a1 a2 a3 a4 a5 a6 x _ _ ls  h hI va_S.rf hl
theorem mv_X11_act : mtV yX11_act RX11 cX11_act 8 (some .int) 6 := ⟨ki_X11_act, kl_X11_act, kI_X11, kc_X11_act, by decide +kernel⟩

/-! X11_isSpan -/
def f_X11_isSpan_b36  (x : st) : Option (Int32 × st) := some (0, x)
set_option maxHeartbeats 4000000 in
set_option maxRecDepth 100000 in
theorem w_X11_isSpan_b36 {p : Program} {l : Launch} {e : Env} {s : State} {m : MethodId} {args : Array Value} {below : List Frame} {meth : Method} {c : Code} {g : gT} {r : Int32} {x' : st} (C : cxt p s m meth c args cX11_isSpan 3 RX11 (some .boolean)) (G : gst g s)  (x : st) (H : Heap) (locs : List Loc) (ls : Array Slot)  (h : f_X11_isSpan_b36  x = some (r, x')) (hI : wst g x H) (hS : va_S (zA (gz g)) s.heap H locs) (hl : lv_has ls 3 []) : W p l e (rmC 2 42) s m args below meth c H locs 0 0 (MQ below (Qx g (some (.int r)) x') args s 0 0 (zA (gz g))) (F0 m 36 ls []) := by
  obtain ⟨hx, hb, hml, hown, hts, hlk, hrt⟩ := id C
  unfold f_X11_isSpan_b36 at h
  refine lv_iconst (v := 0) hx hb dX11_isSpan_36 (by decide) ?_
  cases h
  exact w_iretz C hI hS (by decide) dX11_isSpan_37
def f_X11_isSpan (a1 : Int32) (a2 : Int32) (a3 : Int32) (x : st) : Option (Int32 × st) := bnd (f_X11_isMethod a1 x) fun r2 x1 => if r2 = 0 then (f_X11_isSpan_b36  x1) else (bnd (f_X11_in a2 0 48 x1) fun r5 x4 => if r5 = 0 then (f_X11_isSpan_b36  x4) else (bnd (f_X11_in a3 0 48 x4) fun r8 x7 => if r8 = 0 then (f_X11_isSpan_b36  x7) else (if a3 ≤ a2 then (f_X11_isSpan_b36  x7) else (some (1, x7)))))
set_option maxHeartbeats 4000000 in
set_option maxRecDepth 100000 in
theorem w_X11_isSpan {p : Program} {l : Launch} {e : Env} {s : State} {m : MethodId} {args : Array Value} {below : List Frame} {meth : Method} {c : Code} {g : gT} {r : Int32} {x' : st} (C : cxt p s m meth c args cX11_isSpan 3 RX11 (some .boolean)) (G : gst g s) (a1 : Int32) (a2 : Int32) (a3 : Int32) (x : st) (H : Heap) (locs : List Loc) (ls : Array Slot)  (h : f_X11_isSpan a1 a2 a3 x = some (r, x')) (hI : wst g x H) (hS : va_S (zA (gz g)) s.heap H locs) (hl : lv_has ls 3 [(0, .int a1), (1, .int a2), (2, .int a3)]) : W p l e (rmC 2 42) s m args below meth c H locs 0 0 (MQ below (Qx g (some (.int r)) x') args s 0 0 (zA (gz g))) (F0 m 0 ls []) := by
  obtain ⟨hx, hb, hml, hown, hts, hlk, hrt⟩ := id C
  unfold f_X11_isSpan at h
  refine lv_iload_n hx hb dX11_isSpan_0 rfl (lv_at hl 0 rfl) ?_
  obtain ⟨r2, x1, hq3, h⟩ := bnd_some h
  refine w_callS (fr := 1) (lo := 22) C G hI hS ms_X11_isMethod km_X11_136 [.int a1] (k_X11_isMethod l g a1 x _ _  hq3) rfl (by first | exact ⟨by decide, by decide⟩ | exact ⟨by show _ ≤ _ + _; omega, by show _ ≤ _ + _; omega⟩) ⟨Nat.zero_le _, Nat.zero_le _⟩ hl.1 rfl (Nat.le_of_ble_eq_true rfl) dX11_isSpan_1 (fun H locs hI hS => ?_)
  refine lv_if_eq (tgt := 36) hx hb dX11_isSpan_4 (by decide) (fun hc => ?_) (fun hc => ?_)
  · replace h := ite_y hc h
    exact w_X11_isSpan_b36 C G  x1 _ _ _  h hI hS (lv_sub hl [] rfl)
  replace h := ite_n hc h
  refine lv_iload_n hx hb dX11_isSpan_7 rfl (lv_at hl 1 rfl) ?_
  refine lv_iconst (v := 0) hx hb dX11_isSpan_8 (by decide) ?_
  refine lv_bipush (v := 48) hx hb dX11_isSpan_9 (by decide) ?_
  obtain ⟨r5, x4, hq6, h⟩ := bnd_some h
  refine w_callS (fr := 0) (lo := 0) C G hI hS ms_X11_in km_X11_122 [.int a2, .int 0, .int 48] (k_X11_in l g a2 0 48 x1 _ _  hq6) rfl (by first | exact ⟨by decide, by decide⟩ | exact ⟨by show _ ≤ _ + _; omega, by show _ ≤ _ + _; omega⟩) ⟨Nat.zero_le _, Nat.zero_le _⟩ hl.1 rfl (Nat.le_of_ble_eq_true rfl) dX11_isSpan_11 (fun H locs hI hS => ?_)
  refine lv_if_eq (tgt := 36) hx hb dX11_isSpan_14 (by decide) (fun hc => ?_) (fun hc => ?_)
  · replace h := ite_y hc h
    exact w_X11_isSpan_b36 C G  x4 _ _ _  h hI hS (lv_sub hl [] rfl)
  replace h := ite_n hc h
  refine lv_iload_n hx hb dX11_isSpan_17 rfl (lv_at hl 2 rfl) ?_
  refine lv_iconst (v := 0) hx hb dX11_isSpan_18 (by decide) ?_
  refine lv_bipush (v := 48) hx hb dX11_isSpan_19 (by decide) ?_
  obtain ⟨r8, x7, hq9, h⟩ := bnd_some h
  refine w_callS (fr := 0) (lo := 0) C G hI hS ms_X11_in km_X11_122 [.int a3, .int 0, .int 48] (k_X11_in l g a3 0 48 x4 _ _  hq9) rfl (by first | exact ⟨by decide, by decide⟩ | exact ⟨by show _ ≤ _ + _; omega, by show _ ≤ _ + _; omega⟩) ⟨Nat.zero_le _, Nat.zero_le _⟩ hl.1 rfl (Nat.le_of_ble_eq_true rfl) dX11_isSpan_21 (fun H locs hI hS => ?_)
  refine lv_if_eq (tgt := 36) hx hb dX11_isSpan_24 (by decide) (fun hc => ?_) (fun hc => ?_)
  · replace h := ite_y hc h
    exact w_X11_isSpan_b36 C G  x7 _ _ _  h hI hS (lv_sub hl [] rfl)
  replace h := ite_n hc h
  refine lv_iload_n hx hb dX11_isSpan_27 rfl (lv_at hl 1 rfl) ?_
  refine lv_iload_n hx hb dX11_isSpan_28 rfl (lv_at hl 2 rfl) ?_
  refine lv_icmp_ge (tgt := 36) hx hb dX11_isSpan_29 (by decide) (fun hc => ?_) (fun hc => ?_)
  · replace h := ite_y hc h
    exact w_X11_isSpan_b36 C G  x7 _ _ _  h hI hS (lv_sub hl [] rfl)
  replace h := ite_n hc h
  refine lv_iconst (v := 1) hx hb dX11_isSpan_32 (by decide) ?_
  refine lv_goto (tgt := 37) hx hb dX11_isSpan_33 (by decide) ?_
  cases h
  exact w_iretz C hI hS (by decide) dX11_isSpan_37
theorem k_X11_isSpan (l : Launch) (g : gT) (a1 : Int32) (a2 : Int32) (a3 : Int32) (x : st) (r : Int32) (x' : st)  (h : f_X11_isSpan a1 a2 a3 x = some (r, x')) : Kt l yX11_isSpan cX11_isSpan 3 (some .boolean) 2 42 g [.int a1, .int a2, .int a3] x (some (.int r)) x' := by
  refine Kt.of (by decide) (fun p e s m below meth c C G hI => ?_)
  have hl := lv_entry ([.int a1, .int a2, .int a3]) (n := 3) (Nat.le_of_ble_eq_true rfl)
  rw [lg_entry_eq]
  generalize (lg_sl ([.int a1, .int a2, .int a3]) ++ List.replicate (3 - (lg_sl ([.int a1, .int a2, .int a3])).length) Slot.unset).toArray = ls at hl ⊢
  have hl : lv_has ls 3 [(0, .int a1), (1, .int a2), (2, .int a3)] := hl
  exact w_X11_isSpan C G a1 a2 a3 x _ _ ls  h hI va_S.rf hl
theorem ms_X11_isSpan : mtS yX11_isSpan RX11 cX11_isSpan 3 (some .boolean) 3 := ⟨ks_X11_isSpan, kI_X11, kc_X11_isSpan, by decide +kernel⟩

/-! X11_guard -/
def f_X11_guard_b31  (x : st) : Option (Int32 × st) := some ((-1), x)
set_option maxHeartbeats 4000000 in
set_option maxRecDepth 100000 in
theorem w_X11_guard_b31 {p : Program} {l : Launch} {e : Env} {s : State} {m : MethodId} {args : Array Value} {below : List Frame} {meth : Method} {c : Code} {g : gT} {r : Int32} {x' : st} (C : cxt p s m meth c args cX11_guard 7 RX11 (some .int)) (G : gst g s)  (x : st) (H : Heap) (locs : List Loc) (ls : Array Slot)  (h : f_X11_guard_b31  x = some (r, x')) (hI : wst g x H) (hS : va_S (zA (gz g)) s.heap H locs) (hl : lv_has ls 7 []) : W p l e (rmC 3 64) s m args below meth c H locs 0 0 (MQ below (Qx g (some (.int r)) x') args s 0 0 (zA (gz g))) (F0 m 31 ls []) := by
  obtain ⟨hx, hb, hml, hown, hts, hlk, hrt⟩ := id C
  unfold f_X11_guard_b31 at h
  refine lv_iconst (v := (-1)) hx hb dX11_guard_31 (by decide) ?_
  cases h
  exact w_ireti C hI hS dX11_guard_32
def f_X11_guard (a1 : Int32) (a2 : Int32) (a3 : Int32) (a4 : Int32) (a5 : Int32) (x : st) : Option (Int32 × st) := bnd (f_X11_isSpan a1 a2 a3 x) fun r2 x1 => if r2 = 0 then (f_X11_guard_b31  x1) else (bnd (f_X11_in a4 0 9 x1) fun r5 x4 => if r5 = 0 then (f_X11_guard_b31  x4) else (bnd (f_X11_in a5 0 48 x4) fun r8 x7 => if r8 = 0 then (f_X11_guard_b31  x7) else (if inb a1 8 = true then if (x7 46 0 a1.toNatClampNeg) = 6 then (some ((-2), x7)) else (if inb a1 8 = true then if inb ((6 * a1) + (x7 46 0 a1.toNatClampNeg)) 48 = true then lets (sx x7 47 0 ((6 * a1) + (x7 46 0 a1.toNatClampNeg)).toNatClampNeg a2) fun x13 => if inb ((6 * a1) + (x7 46 0 a1.toNatClampNeg)) 48 = true then lets (sx x13 48 0 ((6 * a1) + (x7 46 0 a1.toNatClampNeg)).toNatClampNeg a3) fun x15 => if inb ((6 * a1) + (x7 46 0 a1.toNatClampNeg)) 48 = true then lets (sx x15 49 0 ((6 * a1) + (x7 46 0 a1.toNatClampNeg)).toNatClampNeg a4) fun x17 => if inb ((6 * a1) + (x7 46 0 a1.toNatClampNeg)) 48 = true then lets (sx x17 50 0 ((6 * a1) + (x7 46 0 a1.toNatClampNeg)).toNatClampNeg a5) fun x19 => if inb a1 8 = true then if inb a1 8 = true then lets (sx x19 46 0 a1.toNatClampNeg ((x19 46 0 a1.toNatClampNeg) + 1)) fun x22 => if inb a1 8 = true then some (((x22 46 0 a1.toNatClampNeg) - 1), x22) else none else none else none else none else none else none else none else none) else none)))
set_option maxHeartbeats 4000000 in
set_option maxRecDepth 100000 in
theorem w_X11_guard {p : Program} {l : Launch} {e : Env} {s : State} {m : MethodId} {args : Array Value} {below : List Frame} {meth : Method} {c : Code} {g : gT} {r : Int32} {x' : st} (C : cxt p s m meth c args cX11_guard 7 RX11 (some .int)) (G : gst g s) (a1 : Int32) (a2 : Int32) (a3 : Int32) (a4 : Int32) (a5 : Int32) (x : st) (H : Heap) (locs : List Loc) (ls : Array Slot)  (h : f_X11_guard a1 a2 a3 a4 a5 x = some (r, x')) (hI : wst g x H) (hS : va_S (zA (gz g)) s.heap H locs) (hl : lv_has ls 7 [(0, .ref (ga g 30 0)), (1, .int a1), (2, .int a2), (3, .int a3), (4, .int a4), (5, .int a5)]) : W p l e (rmC 3 64) s m args below meth c H locs 0 0 (MQ below (Qx g (some (.int r)) x') args s 0 0 (zA (gz g))) (F0 m 0 ls []) := by
  obtain ⟨hx, hb, hml, hown, hts, hlk, hrt⟩ := id C
  unfold f_X11_guard at h
  refine lv_iload_n hx hb dX11_guard_0 rfl (lv_at hl 1 rfl) ?_
  refine lv_iload_n hx hb dX11_guard_1 rfl (lv_at hl 2 rfl) ?_
  refine lv_iload_n hx hb dX11_guard_2 rfl (lv_at hl 3 rfl) ?_
  obtain ⟨r2, x1, hq3, h⟩ := bnd_some h
  refine w_callS (fr := 2) (lo := 42) C G hI hS ms_X11_isSpan km_X11_143 [.int a1, .int a2, .int a3] (k_X11_isSpan l g a1 a2 a3 x _ _  hq3) rfl (by first | exact ⟨by decide, by decide⟩ | exact ⟨by show _ ≤ _ + _; omega, by show _ ≤ _ + _; omega⟩) ⟨Nat.zero_le _, Nat.zero_le _⟩ hl.1 rfl (Nat.le_of_ble_eq_true rfl) dX11_guard_3 (fun H locs hI hS => ?_)
  refine lv_if_eq (tgt := 31) hx hb dX11_guard_6 (by decide) (fun hc => ?_) (fun hc => ?_)
  · replace h := ite_y hc h
    exact w_X11_guard_b31 C G  x1 _ _ _  h hI hS (lv_sub hl [] rfl)
  replace h := ite_n hc h
  refine lv_iload hx hb dX11_guard_9 (lv_at hl 4 rfl) ?_
  refine lv_iconst (v := 0) hx hb dX11_guard_11 (by decide) ?_
  refine lv_bipush (v := 9) hx hb dX11_guard_12 (by decide) ?_
  obtain ⟨r5, x4, hq6, h⟩ := bnd_some h
  refine w_callS (fr := 0) (lo := 0) C G hI hS ms_X11_in km_X11_122 [.int a4, .int 0, .int 9] (k_X11_in l g a4 0 9 x1 _ _  hq6) rfl (by first | exact ⟨by decide, by decide⟩ | exact ⟨by show _ ≤ _ + _; omega, by show _ ≤ _ + _; omega⟩) ⟨Nat.zero_le _, Nat.zero_le _⟩ hl.1 rfl (Nat.le_of_ble_eq_true rfl) dX11_guard_14 (fun H locs hI hS => ?_)
  refine lv_if_eq (tgt := 31) hx hb dX11_guard_17 (by decide) (fun hc => ?_) (fun hc => ?_)
  · replace h := ite_y hc h
    exact w_X11_guard_b31 C G  x4 _ _ _  h hI hS (lv_sub hl [] rfl)
  replace h := ite_n hc h
  refine lv_iload hx hb dX11_guard_20 (lv_at hl 5 rfl) ?_
  refine lv_iconst (v := 0) hx hb dX11_guard_22 (by decide) ?_
  refine lv_bipush (v := 48) hx hb dX11_guard_23 (by decide) ?_
  obtain ⟨r8, x7, hq9, h⟩ := bnd_some h
  refine w_callS (fr := 0) (lo := 0) C G hI hS ms_X11_in km_X11_122 [.int a5, .int 0, .int 48] (k_X11_in l g a5 0 48 x4 _ _  hq9) rfl (by first | exact ⟨by decide, by decide⟩ | exact ⟨by show _ ≤ _ + _; omega, by show _ ≤ _ + _; omega⟩) ⟨Nat.zero_le _, Nat.zero_le _⟩ hl.1 rfl (Nat.le_of_ble_eq_true rfl) dX11_guard_25 (fun H locs hI hS => ?_)
  refine lv_if_ne (tgt := 33) hx hb dX11_guard_28 (by decide) (fun hc => ?_) (fun hc => ?_)
  · replace h := ite_n hc h
    refine lv_aload_n hx hb dX11_guard_33 rfl (lv_at hl 0 rfl) ?_
    refine w_get C G hI 30 0 (hI.at1 rfl) (fcE_30 g _ _) rfl in_X11 6 (by decide) kf_X11_28 (fun _ h => h) (v := .ref (ga g 46 0)) rfl dX11_guard_34 ?_
    refine lv_iload_n hx hb dX11_guard_37 rfl (lv_at hl 1 rfl) ?_
    obtain ⟨hn10, h⟩ := need_t h
    refine w_iald C G hI 46 0 (hI.at1 rfl) (fcA_46 g _ _) (inb_in hn10) dX11_guard_38 ?_
    refine lv_bipush (v := 6) hx hb dX11_guard_39 (by decide) ?_
    refine lv_icmp_ne (tgt := 47) hx hb dX11_guard_41 (by decide) (fun hc => ?_) (fun hc => ?_)
    · replace h := ite_n hc h
      refine lv_bipush (v := 6) hx hb dX11_guard_47 (by decide) ?_
      refine lv_iload_n hx hb dX11_guard_49 rfl (lv_at hl 1 rfl) ?_
      refine lv_imul hx hb dX11_guard_50 ?_
      refine lv_aload_n hx hb dX11_guard_51 rfl (lv_at hl 0 rfl) ?_
      refine w_get C G hI 30 0 (hI.at1 rfl) (fcE_30 g _ _) rfl in_X11 6 (by decide) kf_X11_28 (fun _ h => h) (v := .ref (ga g 46 0)) rfl dX11_guard_52 ?_
      refine lv_iload_n hx hb dX11_guard_55 rfl (lv_at hl 1 rfl) ?_
      obtain ⟨hn11, h⟩ := need_t h
      refine w_iald C G hI 46 0 (hI.at1 rfl) (fcA_46 g _ _) (inb_in hn11) dX11_guard_56 ?_
      refine lv_iadd hx hb dX11_guard_57 ?_
      refine lv_istore (lv' := [(6, .int ((6 * a1) + (x7 46 0 a1.toNatClampNeg))), (0, .ref (ga g 30 0)), (1, .int a1), (2, .int a2), (3, .int a3), (4, .int a4), (5, .int a5)]) hx hb dX11_guard_58 hl (by decide) rfl (fun ls hl => ?_)
      refine lv_aload_n hx hb dX11_guard_60 rfl (lv_at hl 1 rfl) ?_
      refine w_get C G hI 30 0 (hI.at1 rfl) (fcE_30 g _ _) rfl in_X11 7 (by decide) kf_X11_31 (fun _ h => h) (v := .ref (ga g 47 0)) rfl dX11_guard_61 ?_
      refine lv_iload hx hb dX11_guard_64 (lv_at hl 0 rfl) ?_
      refine lv_iload_n hx hb dX11_guard_66 rfl (lv_at hl 3 rfl) ?_
      obtain ⟨hn12, h⟩ := need_t h
      refine w_iast C G hI hS 47 0 (hI.at1 rfl) rfl (fcA_47 g _) (y := a2) (inb_in hn12) dX11_guard_67 (fun H locs hI hS => ?_)
      obtain ⟨x13, e_x13, h⟩ := lets_some h
      rw [← e_x13] at hI
      refine lv_aload_n hx hb dX11_guard_68 rfl (lv_at hl 1 rfl) ?_
      refine w_get C G hI 30 0 (hI.at1 rfl) (fcE_30 g _ _) rfl in_X11 8 (by decide) kf_X11_34 (fun _ h => h) (v := .ref (ga g 48 0)) rfl dX11_guard_69 ?_
      refine lv_iload hx hb dX11_guard_72 (lv_at hl 0 rfl) ?_
      refine lv_iload_n hx hb dX11_guard_74 rfl (lv_at hl 4 rfl) ?_
      obtain ⟨hn14, h⟩ := need_t h
      refine w_iast C G hI hS 48 0 (hI.at1 rfl) rfl (fcA_48 g _) (y := a3) (inb_in hn14) dX11_guard_75 (fun H locs hI hS => ?_)
      obtain ⟨x15, e_x15, h⟩ := lets_some h
      rw [← e_x15] at hI
      refine lv_aload_n hx hb dX11_guard_76 rfl (lv_at hl 1 rfl) ?_
      refine w_get C G hI 30 0 (hI.at1 rfl) (fcE_30 g _ _) rfl in_X11 9 (by decide) kf_X11_37 (fun _ h => h) (v := .ref (ga g 49 0)) rfl dX11_guard_77 ?_
      refine lv_iload hx hb dX11_guard_80 (lv_at hl 0 rfl) ?_
      refine lv_iload hx hb dX11_guard_82 (lv_at hl 5 rfl) ?_
      obtain ⟨hn16, h⟩ := need_t h
      refine w_iast C G hI hS 49 0 (hI.at1 rfl) rfl (fcA_49 g _) (y := a4) (inb_in hn16) dX11_guard_84 (fun H locs hI hS => ?_)
      obtain ⟨x17, e_x17, h⟩ := lets_some h
      rw [← e_x17] at hI
      refine lv_aload_n hx hb dX11_guard_85 rfl (lv_at hl 1 rfl) ?_
      refine w_get C G hI 30 0 (hI.at1 rfl) (fcE_30 g _ _) rfl in_X11 10 (by decide) kf_X11_40 (fun _ h => h) (v := .ref (ga g 50 0)) rfl dX11_guard_86 ?_
      refine lv_iload hx hb dX11_guard_89 (lv_at hl 0 rfl) ?_
      refine lv_iload hx hb dX11_guard_91 (lv_at hl 6 rfl) ?_
      obtain ⟨hn18, h⟩ := need_t h
      refine w_iast C G hI hS 50 0 (hI.at1 rfl) rfl (fcA_50 g _) (y := a5) (inb_in hn18) dX11_guard_93 (fun H locs hI hS => ?_)
      obtain ⟨x19, e_x19, h⟩ := lets_some h
      rw [← e_x19] at hI
      refine lv_aload_n hx hb dX11_guard_94 rfl (lv_at hl 1 rfl) ?_
      refine w_get C G hI 30 0 (hI.at1 rfl) (fcE_30 g _ _) rfl in_X11 6 (by decide) kf_X11_28 (fun _ h => h) (v := .ref (ga g 46 0)) rfl dX11_guard_95 ?_
      refine lv_iload_n hx hb dX11_guard_98 rfl (lv_at hl 2 rfl) ?_
      refine lv_dup2_11 hx hb dX11_guard_99 rfl rfl ?_
      obtain ⟨hn20, h⟩ := need_t h
      refine w_iald C G hI 46 0 (hI.at1 rfl) (fcA_46 g _ _) (inb_in hn20) dX11_guard_100 ?_
      refine lv_iconst (v := 1) hx hb dX11_guard_101 (by decide) ?_
      refine lv_iadd hx hb dX11_guard_102 ?_
      obtain ⟨hn21, h⟩ := need_t h
      refine w_iast C G hI hS 46 0 (hI.at1 rfl) rfl (fcA_46 g _) (y := ((x19 46 0 a1.toNatClampNeg) + 1)) (inb_in hn21) dX11_guard_103 (fun H locs hI hS => ?_)
      obtain ⟨x22, e_x22, h⟩ := lets_some h
      rw [← e_x22] at hI
      refine lv_aload_n hx hb dX11_guard_104 rfl (lv_at hl 1 rfl) ?_
      refine w_get C G hI 30 0 (hI.at1 rfl) (fcE_30 g _ _) rfl in_X11 6 (by decide) kf_X11_28 (fun _ h => h) (v := .ref (ga g 46 0)) rfl dX11_guard_105 ?_
      refine lv_iload_n hx hb dX11_guard_108 rfl (lv_at hl 2 rfl) ?_
      obtain ⟨hn23, h⟩ := need_t h
      refine w_iald C G hI 46 0 (hI.at1 rfl) (fcA_46 g _ _) (inb_in hn23) dX11_guard_109 ?_
      refine lv_iconst (v := 1) hx hb dX11_guard_110 (by decide) ?_
      refine lv_isub hx hb dX11_guard_111 ?_
      cases h
      exact w_ireti C hI hS dX11_guard_112
    replace h := ite_y hc h
    refine lv_bipush (v := (-2)) hx hb dX11_guard_44 (by decide) ?_
    cases h
    exact w_ireti C hI hS dX11_guard_46
  replace h := ite_y hc h
  exact w_X11_guard_b31 C G  x7 _ _ _  h hI hS (lv_sub hl [] rfl)
theorem k_X11_guard (l : Launch) (g : gT) (a1 : Int32) (a2 : Int32) (a3 : Int32) (a4 : Int32) (a5 : Int32) (x : st) (r : Int32) (x' : st)  (h : f_X11_guard a1 a2 a3 a4 a5 x = some (r, x')) : Kt l yX11_guard cX11_guard 7 (some .int) 3 64 g [.ref (ga g 30 0), .int a1, .int a2, .int a3, .int a4, .int a5] x (some (.int r)) x' := by
  refine Kt.of (by decide) (fun p e s m below meth c C G hI => ?_)
  have hl := lv_entry ([.ref (ga g 30 0), .int a1, .int a2, .int a3, .int a4, .int a5]) (n := 7) (Nat.le_of_ble_eq_true rfl)
  rw [lg_entry_eq]
  generalize (lg_sl ([.ref (ga g 30 0), .int a1, .int a2, .int a3, .int a4, .int a5]) ++ List.replicate (7 - (lg_sl ([.ref (ga g 30 0), .int a1, .int a2, .int a3, .int a4, .int a5])).length) Slot.unset).toArray = ls at hl ⊢
  have hl : lv_has ls 7 [(0, .ref (ga g 30 0)), (1, .int a1), (2, .int a2), (3, .int a3), (4, .int a4), (5, .int a5)] := hl
  exact w_X11_guard C G a1 a2 a3 a4 a5 x _ _ ls  h hI va_S.rf hl
theorem mv_X11_guard : mtV yX11_guard RX11 cX11_guard 7 (some .int) 5 := ⟨ki_X11_guard, kl_X11_guard, kI_X11, kc_X11_guard, by decide +kernel⟩

/-! X11_clean -/
def f_X11_clean_b17  (x : st) : Option (Int32 × st) := some ((-1), x)
set_option maxHeartbeats 4000000 in
set_option maxRecDepth 100000 in
theorem w_X11_clean_b17 {p : Program} {l : Launch} {e : Env} {s : State} {m : MethodId} {args : Array Value} {below : List Frame} {meth : Method} {c : Code} {g : gT} {r : Int32} {x' : st} (C : cxt p s m meth c args cX11_clean 6 RX11 (some .int)) (G : gst g s)  (x : st) (H : Heap) (locs : List Loc) (ls : Array Slot)  (h : f_X11_clean_b17  x = some (r, x')) (hI : wst g x H) (hS : va_S (zA (gz g)) s.heap H locs) (hl : lv_has ls 6 []) : W p l e (rmC 3 64) s m args below meth c H locs 0 0 (MQ below (Qx g (some (.int r)) x') args s 0 0 (zA (gz g))) (F0 m 17 ls []) := by
  obtain ⟨hx, hb, hml, hown, hts, hlk, hrt⟩ := id C
  unfold f_X11_clean_b17 at h
  refine lv_iconst (v := (-1)) hx hb dX11_clean_17 (by decide) ?_
  cases h
  exact w_ireti C hI hS dX11_clean_18
def f_X11_clean (a1 : Int32) (a2 : Int32) (a3 : Int32) (a4 : Int32) (x : st) : Option (Int32 × st) := bnd (f_X11_isSpan a1 a2 a3 x) fun r2 x1 => if r2 = 0 then (f_X11_clean_b17  x1) else (bnd (f_X11_isMethod a4 x1) fun r5 x4 => if r5 = 0 then (f_X11_clean_b17  x4) else (if inb a1 8 = true then if (x4 51 0 a1.toNatClampNeg) = 6 then (some ((-2), x4)) else (if inb a1 8 = true then if inb ((6 * a1) + (x4 51 0 a1.toNatClampNeg)) 48 = true then lets (sx x4 52 0 ((6 * a1) + (x4 51 0 a1.toNatClampNeg)).toNatClampNeg a2) fun x10 => if inb ((6 * a1) + (x4 51 0 a1.toNatClampNeg)) 48 = true then lets (sx x10 53 0 ((6 * a1) + (x4 51 0 a1.toNatClampNeg)).toNatClampNeg a3) fun x12 => if inb ((6 * a1) + (x4 51 0 a1.toNatClampNeg)) 48 = true then lets (sx x12 54 0 ((6 * a1) + (x4 51 0 a1.toNatClampNeg)).toNatClampNeg a4) fun x14 => if inb a1 8 = true then if inb a1 8 = true then lets (sx x14 51 0 a1.toNatClampNeg ((x14 51 0 a1.toNatClampNeg) + 1)) fun x17 => if inb a1 8 = true then some (((x17 51 0 a1.toNatClampNeg) - 1), x17) else none else none else none else none else none else none else none) else none))
set_option maxHeartbeats 4000000 in
set_option maxRecDepth 100000 in
theorem w_X11_clean {p : Program} {l : Launch} {e : Env} {s : State} {m : MethodId} {args : Array Value} {below : List Frame} {meth : Method} {c : Code} {g : gT} {r : Int32} {x' : st} (C : cxt p s m meth c args cX11_clean 6 RX11 (some .int)) (G : gst g s) (a1 : Int32) (a2 : Int32) (a3 : Int32) (a4 : Int32) (x : st) (H : Heap) (locs : List Loc) (ls : Array Slot)  (h : f_X11_clean a1 a2 a3 a4 x = some (r, x')) (hI : wst g x H) (hS : va_S (zA (gz g)) s.heap H locs) (hl : lv_has ls 6 [(0, .ref (ga g 30 0)), (1, .int a1), (2, .int a2), (3, .int a3), (4, .int a4)]) : W p l e (rmC 3 64) s m args below meth c H locs 0 0 (MQ below (Qx g (some (.int r)) x') args s 0 0 (zA (gz g))) (F0 m 0 ls []) := by
  obtain ⟨hx, hb, hml, hown, hts, hlk, hrt⟩ := id C
  unfold f_X11_clean at h
  refine lv_iload_n hx hb dX11_clean_0 rfl (lv_at hl 1 rfl) ?_
  refine lv_iload_n hx hb dX11_clean_1 rfl (lv_at hl 2 rfl) ?_
  refine lv_iload_n hx hb dX11_clean_2 rfl (lv_at hl 3 rfl) ?_
  obtain ⟨r2, x1, hq3, h⟩ := bnd_some h
  refine w_callS (fr := 2) (lo := 42) C G hI hS ms_X11_isSpan km_X11_143 [.int a1, .int a2, .int a3] (k_X11_isSpan l g a1 a2 a3 x _ _  hq3) rfl (by first | exact ⟨by decide, by decide⟩ | exact ⟨by show _ ≤ _ + _; omega, by show _ ≤ _ + _; omega⟩) ⟨Nat.zero_le _, Nat.zero_le _⟩ hl.1 rfl (Nat.le_of_ble_eq_true rfl) dX11_clean_3 (fun H locs hI hS => ?_)
  refine lv_if_eq (tgt := 17) hx hb dX11_clean_6 (by decide) (fun hc => ?_) (fun hc => ?_)
  · replace h := ite_y hc h
    exact w_X11_clean_b17 C G  x1 _ _ _  h hI hS (lv_sub hl [] rfl)
  replace h := ite_n hc h
  refine lv_iload hx hb dX11_clean_9 (lv_at hl 4 rfl) ?_
  obtain ⟨r5, x4, hq6, h⟩ := bnd_some h
  refine w_callS (fr := 1) (lo := 22) C G hI hS ms_X11_isMethod km_X11_136 [.int a4] (k_X11_isMethod l g a4 x1 _ _  hq6) rfl (by first | exact ⟨by decide, by decide⟩ | exact ⟨by show _ ≤ _ + _; omega, by show _ ≤ _ + _; omega⟩) ⟨Nat.zero_le _, Nat.zero_le _⟩ hl.1 rfl (Nat.le_of_ble_eq_true rfl) dX11_clean_11 (fun H locs hI hS => ?_)
  refine lv_if_ne (tgt := 19) hx hb dX11_clean_14 (by decide) (fun hc => ?_) (fun hc => ?_)
  · replace h := ite_n hc h
    refine lv_aload_n hx hb dX11_clean_19 rfl (lv_at hl 0 rfl) ?_
    refine w_get C G hI 30 0 (hI.at1 rfl) (fcE_30 g _ _) rfl in_X11 11 (by decide) kf_X11_43 (fun _ h => h) (v := .ref (ga g 51 0)) rfl dX11_clean_20 ?_
    refine lv_iload_n hx hb dX11_clean_23 rfl (lv_at hl 1 rfl) ?_
    obtain ⟨hn7, h⟩ := need_t h
    refine w_iald C G hI 51 0 (hI.at1 rfl) (fcA_51 g _ _) (inb_in hn7) dX11_clean_24 ?_
    refine lv_bipush (v := 6) hx hb dX11_clean_25 (by decide) ?_
    refine lv_icmp_ne (tgt := 33) hx hb dX11_clean_27 (by decide) (fun hc => ?_) (fun hc => ?_)
    · replace h := ite_n hc h
      refine lv_bipush (v := 6) hx hb dX11_clean_33 (by decide) ?_
      refine lv_iload_n hx hb dX11_clean_35 rfl (lv_at hl 1 rfl) ?_
      refine lv_imul hx hb dX11_clean_36 ?_
      refine lv_aload_n hx hb dX11_clean_37 rfl (lv_at hl 0 rfl) ?_
      refine w_get C G hI 30 0 (hI.at1 rfl) (fcE_30 g _ _) rfl in_X11 11 (by decide) kf_X11_43 (fun _ h => h) (v := .ref (ga g 51 0)) rfl dX11_clean_38 ?_
      refine lv_iload_n hx hb dX11_clean_41 rfl (lv_at hl 1 rfl) ?_
      obtain ⟨hn8, h⟩ := need_t h
      refine w_iald C G hI 51 0 (hI.at1 rfl) (fcA_51 g _ _) (inb_in hn8) dX11_clean_42 ?_
      refine lv_iadd hx hb dX11_clean_43 ?_
      refine lv_istore (lv' := [(5, .int ((6 * a1) + (x4 51 0 a1.toNatClampNeg))), (0, .ref (ga g 30 0)), (1, .int a1), (2, .int a2), (3, .int a3), (4, .int a4)]) hx hb dX11_clean_44 hl (by decide) rfl (fun ls hl => ?_)
      refine lv_aload_n hx hb dX11_clean_46 rfl (lv_at hl 1 rfl) ?_
      refine w_get C G hI 30 0 (hI.at1 rfl) (fcE_30 g _ _) rfl in_X11 12 (by decide) kf_X11_46 (fun _ h => h) (v := .ref (ga g 52 0)) rfl dX11_clean_47 ?_
      refine lv_iload hx hb dX11_clean_50 (lv_at hl 0 rfl) ?_
      refine lv_iload_n hx hb dX11_clean_52 rfl (lv_at hl 3 rfl) ?_
      obtain ⟨hn9, h⟩ := need_t h
      refine w_iast C G hI hS 52 0 (hI.at1 rfl) rfl (fcA_52 g _) (y := a2) (inb_in hn9) dX11_clean_53 (fun H locs hI hS => ?_)
      obtain ⟨x10, e_x10, h⟩ := lets_some h
      rw [← e_x10] at hI
      refine lv_aload_n hx hb dX11_clean_54 rfl (lv_at hl 1 rfl) ?_
      refine w_get C G hI 30 0 (hI.at1 rfl) (fcE_30 g _ _) rfl in_X11 13 (by decide) kf_X11_49 (fun _ h => h) (v := .ref (ga g 53 0)) rfl dX11_clean_55 ?_
      refine lv_iload hx hb dX11_clean_58 (lv_at hl 0 rfl) ?_
      refine lv_iload_n hx hb dX11_clean_60 rfl (lv_at hl 4 rfl) ?_
      obtain ⟨hn11, h⟩ := need_t h
      refine w_iast C G hI hS 53 0 (hI.at1 rfl) rfl (fcA_53 g _) (y := a3) (inb_in hn11) dX11_clean_61 (fun H locs hI hS => ?_)
      obtain ⟨x12, e_x12, h⟩ := lets_some h
      rw [← e_x12] at hI
      refine lv_aload_n hx hb dX11_clean_62 rfl (lv_at hl 1 rfl) ?_
      refine w_get C G hI 30 0 (hI.at1 rfl) (fcE_30 g _ _) rfl in_X11 14 (by decide) kf_X11_52 (fun _ h => h) (v := .ref (ga g 54 0)) rfl dX11_clean_63 ?_
      refine lv_iload hx hb dX11_clean_66 (lv_at hl 0 rfl) ?_
      refine lv_iload hx hb dX11_clean_68 (lv_at hl 5 rfl) ?_
      obtain ⟨hn13, h⟩ := need_t h
      refine w_iast C G hI hS 54 0 (hI.at1 rfl) rfl (fcA_54 g _) (y := a4) (inb_in hn13) dX11_clean_70 (fun H locs hI hS => ?_)
      obtain ⟨x14, e_x14, h⟩ := lets_some h
      rw [← e_x14] at hI
      refine lv_aload_n hx hb dX11_clean_71 rfl (lv_at hl 1 rfl) ?_
      refine w_get C G hI 30 0 (hI.at1 rfl) (fcE_30 g _ _) rfl in_X11 11 (by decide) kf_X11_43 (fun _ h => h) (v := .ref (ga g 51 0)) rfl dX11_clean_72 ?_
      refine lv_iload_n hx hb dX11_clean_75 rfl (lv_at hl 2 rfl) ?_
      refine lv_dup2_11 hx hb dX11_clean_76 rfl rfl ?_
      obtain ⟨hn15, h⟩ := need_t h
      refine w_iald C G hI 51 0 (hI.at1 rfl) (fcA_51 g _ _) (inb_in hn15) dX11_clean_77 ?_
      refine lv_iconst (v := 1) hx hb dX11_clean_78 (by decide) ?_
      refine lv_iadd hx hb dX11_clean_79 ?_
      obtain ⟨hn16, h⟩ := need_t h
      refine w_iast C G hI hS 51 0 (hI.at1 rfl) rfl (fcA_51 g _) (y := ((x14 51 0 a1.toNatClampNeg) + 1)) (inb_in hn16) dX11_clean_80 (fun H locs hI hS => ?_)
      obtain ⟨x17, e_x17, h⟩ := lets_some h
      rw [← e_x17] at hI
      refine lv_aload_n hx hb dX11_clean_81 rfl (lv_at hl 1 rfl) ?_
      refine w_get C G hI 30 0 (hI.at1 rfl) (fcE_30 g _ _) rfl in_X11 11 (by decide) kf_X11_43 (fun _ h => h) (v := .ref (ga g 51 0)) rfl dX11_clean_82 ?_
      refine lv_iload_n hx hb dX11_clean_85 rfl (lv_at hl 2 rfl) ?_
      obtain ⟨hn18, h⟩ := need_t h
      refine w_iald C G hI 51 0 (hI.at1 rfl) (fcA_51 g _ _) (inb_in hn18) dX11_clean_86 ?_
      refine lv_iconst (v := 1) hx hb dX11_clean_87 (by decide) ?_
      refine lv_isub hx hb dX11_clean_88 ?_
      cases h
      exact w_ireti C hI hS dX11_clean_89
    replace h := ite_y hc h
    refine lv_bipush (v := (-2)) hx hb dX11_clean_30 (by decide) ?_
    cases h
    exact w_ireti C hI hS dX11_clean_32
  replace h := ite_y hc h
  exact w_X11_clean_b17 C G  x4 _ _ _  h hI hS (lv_sub hl [] rfl)
theorem k_X11_clean (l : Launch) (g : gT) (a1 : Int32) (a2 : Int32) (a3 : Int32) (a4 : Int32) (x : st) (r : Int32) (x' : st)  (h : f_X11_clean a1 a2 a3 a4 x = some (r, x')) : Kt l yX11_clean cX11_clean 6 (some .int) 3 64 g [.ref (ga g 30 0), .int a1, .int a2, .int a3, .int a4] x (some (.int r)) x' := by
  refine Kt.of (by decide) (fun p e s m below meth c C G hI => ?_)
  have hl := lv_entry ([.ref (ga g 30 0), .int a1, .int a2, .int a3, .int a4]) (n := 6) (Nat.le_of_ble_eq_true rfl)
  rw [lg_entry_eq]
  generalize (lg_sl ([.ref (ga g 30 0), .int a1, .int a2, .int a3, .int a4]) ++ List.replicate (6 - (lg_sl ([.ref (ga g 30 0), .int a1, .int a2, .int a3, .int a4])).length) Slot.unset).toArray = ls at hl ⊢
  have hl : lv_has ls 6 [(0, .ref (ga g 30 0)), (1, .int a1), (2, .int a2), (3, .int a3), (4, .int a4)] := hl
  exact w_X11_clean C G a1 a2 a3 a4 x _ _ ls  h hI va_S.rf hl
theorem mv_X11_clean : mtV yX11_clean RX11 cX11_clean 6 (some .int) 4 := ⟨ki_X11_clean, kl_X11_clean, kI_X11, kc_X11_clean, by decide +kernel⟩

/-! X11_clear -/
def f_X11_clear (a1 : Int32) (x : st) : Option (Int32 × st) := bnd (f_X11_isMethod a1 x) fun r2 x1 => if r2 = 0 then (some ((-1), x1)) else (if inb a1 8 = true then if inb a1 8 = true then lets (sx x1 40 0 a1.toNatClampNeg 0) fun x6 => if inb a1 8 = true then lets (sx x6 46 0 a1.toNatClampNeg 0) fun x8 => if inb a1 8 = true then lets (sx x8 51 0 a1.toNatClampNeg 0) fun x10 => some ((x1 40 0 a1.toNatClampNeg), x10) else none else none else none else none)
set_option maxHeartbeats 4000000 in
set_option maxRecDepth 100000 in
theorem w_X11_clear {p : Program} {l : Launch} {e : Env} {s : State} {m : MethodId} {args : Array Value} {below : List Frame} {meth : Method} {c : Code} {g : gT} {r : Int32} {x' : st} (C : cxt p s m meth c args cX11_clear 3 RX11 (some .int)) (G : gst g s) (a1 : Int32) (x : st) (H : Heap) (locs : List Loc) (ls : Array Slot)  (h : f_X11_clear a1 x = some (r, x')) (hI : wst g x H) (hS : va_S (zA (gz g)) s.heap H locs) (hl : lv_has ls 3 [(0, .ref (ga g 30 0)), (1, .int a1)]) : W p l e (rmC 2 42) s m args below meth c H locs 0 0 (MQ below (Qx g (some (.int r)) x') args s 0 0 (zA (gz g))) (F0 m 0 ls []) := by
  obtain ⟨hx, hb, hml, hown, hts, hlk, hrt⟩ := id C
  unfold f_X11_clear at h
  refine lv_iload_n hx hb dX11_clear_0 rfl (lv_at hl 1 rfl) ?_
  obtain ⟨r2, x1, hq3, h⟩ := bnd_some h
  refine w_callS (fr := 1) (lo := 22) C G hI hS ms_X11_isMethod km_X11_136 [.int a1] (k_X11_isMethod l g a1 x _ _  hq3) rfl (by first | exact ⟨by decide, by decide⟩ | exact ⟨by show _ ≤ _ + _; omega, by show _ ≤ _ + _; omega⟩) ⟨Nat.zero_le _, Nat.zero_le _⟩ hl.1 rfl (Nat.le_of_ble_eq_true rfl) dX11_clear_1 (fun H locs hI hS => ?_)
  refine lv_if_ne (tgt := 9) hx hb dX11_clear_4 (by decide) (fun hc => ?_) (fun hc => ?_)
  · replace h := ite_n hc h
    refine lv_aload_n hx hb dX11_clear_9 rfl (lv_at hl 0 rfl) ?_
    refine w_get C G hI 30 0 (hI.at1 rfl) (fcE_30 g _ _) rfl in_X11 0 (by decide) kf_X11_7 (fun _ h => h) (v := .ref (ga g 40 0)) rfl dX11_clear_10 ?_
    refine lv_iload_n hx hb dX11_clear_13 rfl (lv_at hl 1 rfl) ?_
    obtain ⟨hn4, h⟩ := need_t h
    refine w_iald C G hI 40 0 (hI.at1 rfl) (fcA_40 g _ _) (inb_in hn4) dX11_clear_14 ?_
    refine lv_istore_n (lv' := [(2, .int (x1 40 0 a1.toNatClampNeg)), (0, .ref (ga g 30 0)), (1, .int a1)]) hx hb dX11_clear_15 rfl hl (by decide) rfl (fun ls hl => ?_)
    refine lv_aload_n hx hb dX11_clear_16 rfl (lv_at hl 1 rfl) ?_
    refine w_get C G hI 30 0 (hI.at1 rfl) (fcE_30 g _ _) rfl in_X11 0 (by decide) kf_X11_7 (fun _ h => h) (v := .ref (ga g 40 0)) rfl dX11_clear_17 ?_
    refine lv_iload_n hx hb dX11_clear_20 rfl (lv_at hl 2 rfl) ?_
    refine lv_iconst (v := 0) hx hb dX11_clear_21 (by decide) ?_
    obtain ⟨hn5, h⟩ := need_t h
    refine w_iast C G hI hS 40 0 (hI.at1 rfl) rfl (fcA_40 g _) (y := 0) (inb_in hn5) dX11_clear_22 (fun H locs hI hS => ?_)
    obtain ⟨x6, e_x6, h⟩ := lets_some h
    rw [← e_x6] at hI
    refine lv_aload_n hx hb dX11_clear_23 rfl (lv_at hl 1 rfl) ?_
    refine w_get C G hI 30 0 (hI.at1 rfl) (fcE_30 g _ _) rfl in_X11 6 (by decide) kf_X11_28 (fun _ h => h) (v := .ref (ga g 46 0)) rfl dX11_clear_24 ?_
    refine lv_iload_n hx hb dX11_clear_27 rfl (lv_at hl 2 rfl) ?_
    refine lv_iconst (v := 0) hx hb dX11_clear_28 (by decide) ?_
    obtain ⟨hn7, h⟩ := need_t h
    refine w_iast C G hI hS 46 0 (hI.at1 rfl) rfl (fcA_46 g _) (y := 0) (inb_in hn7) dX11_clear_29 (fun H locs hI hS => ?_)
    obtain ⟨x8, e_x8, h⟩ := lets_some h
    rw [← e_x8] at hI
    refine lv_aload_n hx hb dX11_clear_30 rfl (lv_at hl 1 rfl) ?_
    refine w_get C G hI 30 0 (hI.at1 rfl) (fcE_30 g _ _) rfl in_X11 11 (by decide) kf_X11_43 (fun _ h => h) (v := .ref (ga g 51 0)) rfl dX11_clear_31 ?_
    refine lv_iload_n hx hb dX11_clear_34 rfl (lv_at hl 2 rfl) ?_
    refine lv_iconst (v := 0) hx hb dX11_clear_35 (by decide) ?_
    obtain ⟨hn9, h⟩ := need_t h
    refine w_iast C G hI hS 51 0 (hI.at1 rfl) rfl (fcA_51 g _) (y := 0) (inb_in hn9) dX11_clear_36 (fun H locs hI hS => ?_)
    obtain ⟨x10, e_x10, h⟩ := lets_some h
    rw [← e_x10] at hI
    refine lv_iload_n hx hb dX11_clear_37 rfl (lv_at hl 0 rfl) ?_
    cases h
    exact w_ireti C hI hS dX11_clear_38
  replace h := ite_y hc h
  refine lv_iconst (v := (-1)) hx hb dX11_clear_7 (by decide) ?_
  cases h
  exact w_ireti C hI hS dX11_clear_8
theorem k_X11_clear (l : Launch) (g : gT) (a1 : Int32) (x : st) (r : Int32) (x' : st)  (h : f_X11_clear a1 x = some (r, x')) : Kt l yX11_clear cX11_clear 3 (some .int) 2 42 g [.ref (ga g 30 0), .int a1] x (some (.int r)) x' := by
  refine Kt.of (by decide) (fun p e s m below meth c C G hI => ?_)
  have hl := lv_entry ([.ref (ga g 30 0), .int a1]) (n := 3) (Nat.le_of_ble_eq_true rfl)
  rw [lg_entry_eq]
  generalize (lg_sl ([.ref (ga g 30 0), .int a1]) ++ List.replicate (3 - (lg_sl ([.ref (ga g 30 0), .int a1])).length) Slot.unset).toArray = ls at hl ⊢
  have hl : lv_has ls 3 [(0, .ref (ga g 30 0)), (1, .int a1)] := hl
  exact w_X11_clear C G a1 x _ _ ls  h hI va_S.rf hl
theorem mv_X11_clear : mtV yX11_clear RX11 cX11_clear 3 (some .int) 1 := ⟨ki_X11_clear, kl_X11_clear, kI_X11, kc_X11_clear, by decide +kernel⟩

/-! X11_reserve -/
def f_X11_reserve (a1 : Int32) (x : st) : Option (Int32 × st) := bnd (f_X11_in a1 0 100 x) fun r2 x1 => if r2 = 0 then (some ((-1), x1)) else (lets (sx x1 30 0 15 a1) fun x4 => some ((x1 30 0 15), x4))
set_option maxHeartbeats 4000000 in
set_option maxRecDepth 100000 in
theorem w_X11_reserve {p : Program} {l : Launch} {e : Env} {s : State} {m : MethodId} {args : Array Value} {below : List Frame} {meth : Method} {c : Code} {g : gT} {r : Int32} {x' : st} (C : cxt p s m meth c args cX11_reserve 3 RX11 (some .int)) (G : gst g s) (a1 : Int32) (x : st) (H : Heap) (locs : List Loc) (ls : Array Slot)  (h : f_X11_reserve a1 x = some (r, x')) (hI : wst g x H) (hS : va_S (zA (gz g)) s.heap H locs) (hl : lv_has ls 3 [(0, .ref (ga g 30 0)), (1, .int a1)]) : W p l e (rmC 1 22) s m args below meth c H locs 0 0 (MQ below (Qx g (some (.int r)) x') args s 0 0 (zA (gz g))) (F0 m 0 ls []) := by
  obtain ⟨hx, hb, hml, hown, hts, hlk, hrt⟩ := id C
  unfold f_X11_reserve at h
  refine lv_iload_n hx hb dX11_reserve_0 rfl (lv_at hl 1 rfl) ?_
  refine lv_iconst (v := 0) hx hb dX11_reserve_1 (by decide) ?_
  refine lv_bipush (v := 100) hx hb dX11_reserve_2 (by decide) ?_
  obtain ⟨r2, x1, hq3, h⟩ := bnd_some h
  refine w_callS (fr := 0) (lo := 0) C G hI hS ms_X11_in km_X11_122 [.int a1, .int 0, .int 100] (k_X11_in l g a1 0 100 x _ _  hq3) rfl (by first | exact ⟨by decide, by decide⟩ | exact ⟨by show _ ≤ _ + _; omega, by show _ ≤ _ + _; omega⟩) ⟨Nat.zero_le _, Nat.zero_le _⟩ hl.1 rfl (Nat.le_of_ble_eq_true rfl) dX11_reserve_4 (fun H locs hI hS => ?_)
  refine lv_if_ne (tgt := 12) hx hb dX11_reserve_7 (by decide) (fun hc => ?_) (fun hc => ?_)
  · replace h := ite_n hc h
    refine lv_aload_n hx hb dX11_reserve_12 rfl (lv_at hl 0 rfl) ?_
    refine w_get C G hI 30 0 (hI.at1 rfl) (fcE_30 g _ _) rfl in_X11 15 (by decide) kf_X11_55 (fun _ h => h) (v := .int (x1 30 0 15)) rfl dX11_reserve_13 ?_
    refine lv_istore_n (lv' := [(2, .int (x1 30 0 15)), (0, .ref (ga g 30 0)), (1, .int a1)]) hx hb dX11_reserve_16 rfl hl (by decide) rfl (fun ls hl => ?_)
    refine lv_aload_n hx hb dX11_reserve_17 rfl (lv_at hl 1 rfl) ?_
    refine lv_iload_n hx hb dX11_reserve_18 rfl (lv_at hl 2 rfl) ?_
    refine w_put C G hI hS 30 0 (hI.at1 rfl) rfl (fcE_30 g _ _) rfl in_X11 tyX11 tyX11_ok nmX11 15 (by decide) kf_X11_55 (fun _ h => h) rfl (ty := .int) (y := a1) (by decide +kernel) rfl rfl (Nat.le_of_ble_eq_true rfl) (m44_set_15 g _ _) dX11_reserve_19 (fun H locs hI hS => ?_)
    obtain ⟨x4, e_x4, h⟩ := lets_some h
    rw [← e_x4] at hI
    refine lv_iload_n hx hb dX11_reserve_22 rfl (lv_at hl 0 rfl) ?_
    cases h
    exact w_ireti C hI hS dX11_reserve_23
  replace h := ite_y hc h
  refine lv_iconst (v := (-1)) hx hb dX11_reserve_10 (by decide) ?_
  cases h
  exact w_ireti C hI hS dX11_reserve_11
theorem k_X11_reserve (l : Launch) (g : gT) (a1 : Int32) (x : st) (r : Int32) (x' : st)  (h : f_X11_reserve a1 x = some (r, x')) : Kt l yX11_reserve cX11_reserve 3 (some .int) 1 22 g [.ref (ga g 30 0), .int a1] x (some (.int r)) x' := by
  refine Kt.of (by decide) (fun p e s m below meth c C G hI => ?_)
  have hl := lv_entry ([.ref (ga g 30 0), .int a1]) (n := 3) (Nat.le_of_ble_eq_true rfl)
  rw [lg_entry_eq]
  generalize (lg_sl ([.ref (ga g 30 0), .int a1]) ++ List.replicate (3 - (lg_sl ([.ref (ga g 30 0), .int a1])).length) Slot.unset).toArray = ls at hl ⊢
  have hl : lv_has ls 3 [(0, .ref (ga g 30 0)), (1, .int a1)] := hl
  exact w_X11_reserve C G a1 x _ _ ls  h hI va_S.rf hl
theorem mv_X11_reserve : mtV yX11_reserve RX11 cX11_reserve 3 (some .int) 1 := ⟨ki_X11_reserve, kl_X11_reserve, kI_X11, kc_X11_reserve, by decide +kernel⟩

/-! X11_latest -/
def f_X11_latest (a1 : Int32) (x : st) : Option (Int32 × st) := bnd (f_X11_in a1 0 8 x) fun r2 x1 => if r2 = 0 then (some ((-1), x1)) else (if inb a1 9 = true then some ((x1 80 0 a1.toNatClampNeg), x1) else none)
set_option maxHeartbeats 4000000 in
set_option maxRecDepth 100000 in
theorem w_X11_latest {p : Program} {l : Launch} {e : Env} {s : State} {m : MethodId} {args : Array Value} {below : List Frame} {meth : Method} {c : Code} {g : gT} {r : Int32} {x' : st} (C : cxt p s m meth c args cX11_latest 2 RX11 (some .int)) (G : gst g s) (a1 : Int32) (x : st) (H : Heap) (locs : List Loc) (ls : Array Slot)  (h : f_X11_latest a1 x = some (r, x')) (hI : wst g x H) (hS : va_S (zA (gz g)) s.heap H locs) (hl : lv_has ls 2 [(0, .ref (ga g 30 0)), (1, .int a1)]) : W p l e (rmC 1 22) s m args below meth c H locs 0 0 (MQ below (Qx g (some (.int r)) x') args s 0 0 (zA (gz g))) (F0 m 0 ls []) := by
  obtain ⟨hx, hb, hml, hown, hts, hlk, hrt⟩ := id C
  unfold f_X11_latest at h
  refine lv_iload_n hx hb dX11_latest_0 rfl (lv_at hl 1 rfl) ?_
  refine lv_iconst (v := 0) hx hb dX11_latest_1 (by decide) ?_
  refine lv_bipush (v := 8) hx hb dX11_latest_2 (by decide) ?_
  obtain ⟨r2, x1, hq3, h⟩ := bnd_some h
  refine w_callS (fr := 0) (lo := 0) C G hI hS ms_X11_in km_X11_122 [.int a1, .int 0, .int 8] (k_X11_in l g a1 0 8 x _ _  hq3) rfl (by first | exact ⟨by decide, by decide⟩ | exact ⟨by show _ ≤ _ + _; omega, by show _ ≤ _ + _; omega⟩) ⟨Nat.zero_le _, Nat.zero_le _⟩ hl.1 rfl (Nat.le_of_ble_eq_true rfl) dX11_latest_4 (fun H locs hI hS => ?_)
  refine lv_if_eq (tgt := 19) hx hb dX11_latest_7 (by decide) (fun hc => ?_) (fun hc => ?_)
  · replace h := ite_y hc h
    refine lv_iconst (v := (-1)) hx hb dX11_latest_19 (by decide) ?_
    cases h
    exact w_ireti C hI hS dX11_latest_20
  replace h := ite_n hc h
  refine lv_aload_n hx hb dX11_latest_10 rfl (lv_at hl 0 rfl) ?_
  refine w_get C G hI 30 0 (hI.at1 rfl) (fcE_30 g _ _) rfl in_X11 40 (by decide) kf_X11_107 (fun _ h => h) (v := .ref (ga g 80 0)) rfl dX11_latest_11 ?_
  refine lv_iload_n hx hb dX11_latest_14 rfl (lv_at hl 1 rfl) ?_
  obtain ⟨hn4, h⟩ := need_t h
  refine w_iald C G hI 80 0 (hI.at1 rfl) (fcA_80 g _ _) (inb_in hn4) dX11_latest_15 ?_
  refine lv_goto (tgt := 20) hx hb dX11_latest_16 (by decide) ?_
  cases h
  exact w_ireti C hI hS dX11_latest_20
theorem k_X11_latest (l : Launch) (g : gT) (a1 : Int32) (x : st) (r : Int32) (x' : st)  (h : f_X11_latest a1 x = some (r, x')) : Kt l yX11_latest cX11_latest 2 (some .int) 1 22 g [.ref (ga g 30 0), .int a1] x (some (.int r)) x' := by
  refine Kt.of (by decide) (fun p e s m below meth c C G hI => ?_)
  have hl := lv_entry ([.ref (ga g 30 0), .int a1]) (n := 2) (Nat.le_of_ble_eq_true rfl)
  rw [lg_entry_eq]
  generalize (lg_sl ([.ref (ga g 30 0), .int a1]) ++ List.replicate (2 - (lg_sl ([.ref (ga g 30 0), .int a1])).length) Slot.unset).toArray = ls at hl ⊢
  have hl : lv_has ls 2 [(0, .ref (ga g 30 0)), (1, .int a1)] := hl
  exact w_X11_latest C G a1 x _ _ ls  h hI va_S.rf hl
theorem mv_X11_latest : mtV yX11_latest RX11 cX11_latest 2 (some .int) 1 := ⟨ki_X11_latest, kl_X11_latest, kI_X11, kc_X11_latest, by decide +kernel⟩

/-! X11_cleaned -/
def f_X11_cleaned_b13  (x : st) : Option (Int32 × st) := some ((-1), x)
set_option maxHeartbeats 4000000 in
set_option maxRecDepth 100000 in
theorem w_X11_cleaned_b13 {p : Program} {l : Launch} {e : Env} {s : State} {m : MethodId} {args : Array Value} {below : List Frame} {meth : Method} {c : Code} {g : gT} {r : Int32} {x' : st} (C : cxt p s m meth c args cX11_cleaned 3 RX11 (some .int)) (G : gst g s)  (x : st) (H : Heap) (locs : List Loc) (ls : Array Slot)  (h : f_X11_cleaned_b13  x = some (r, x')) (hI : wst g x H) (hS : va_S (zA (gz g)) s.heap H locs) (hl : lv_has ls 3 []) : W p l e (rmC 1 22) s m args below meth c H locs 0 0 (MQ below (Qx g (some (.int r)) x') args s 0 0 (zA (gz g))) (F0 m 13 ls []) := by
  obtain ⟨hx, hb, hml, hown, hts, hlk, hrt⟩ := id C
  unfold f_X11_cleaned_b13 at h
  refine lv_iconst (v := (-1)) hx hb dX11_cleaned_13 (by decide) ?_
  cases h
  exact w_ireti C hI hS dX11_cleaned_14
def f_X11_cleaned_b31  (x : st) : Option (Int32 × st) := some ((-3), x)
set_option maxHeartbeats 4000000 in
set_option maxRecDepth 100000 in
theorem w_X11_cleaned_b31 {p : Program} {l : Launch} {e : Env} {s : State} {m : MethodId} {args : Array Value} {below : List Frame} {meth : Method} {c : Code} {g : gT} {r : Int32} {x' : st} (C : cxt p s m meth c args cX11_cleaned 3 RX11 (some .int)) (G : gst g s)  (x : st) (H : Heap) (locs : List Loc) (ls : Array Slot)  (h : f_X11_cleaned_b31  x = some (r, x')) (hI : wst g x H) (hS : va_S (zA (gz g)) s.heap H locs) (hl : lv_has ls 3 []) : W p l e (rmC 1 22) s m args below meth c H locs 0 0 (MQ below (Qx g (some (.int r)) x') args s 0 0 (zA (gz g))) (F0 m 31 ls []) := by
  obtain ⟨hx, hb, hml, hown, hts, hlk, hrt⟩ := id C
  unfold f_X11_cleaned_b31 at h
  refine lv_bipush (v := (-3)) hx hb dX11_cleaned_31 (by decide) ?_
  cases h
  exact w_ireti C hI hS dX11_cleaned_33
def f_X11_cleaned (a1 : Int32) (a2 : Int32) (x : st) : Option (Int32 × st) := if a1 < 0 then (f_X11_cleaned_b13  x) else (bnd (f_X11_in a2 0 2 x) fun r2 x1 => if r2 = 0 then (f_X11_cleaned_b13  x1) else (if inb 5 9 = true then if (x1 80 0 (5 : Int32).toNatClampNeg) ≤ a1 then (f_X11_cleaned_b31  x1) else (if a1 < 100 then (if a2 = 0 then (if inb a1 100 = true then some ((x1 81 0 a1.toNatClampNeg), x1) else none) else (if a2 = 1 then (if inb a1 100 = true then some ((x1 82 0 a1.toNatClampNeg), x1) else none) else (if inb a1 100 = true then some ((x1 83 0 a1.toNatClampNeg), x1) else none))) else (f_X11_cleaned_b31  x1)) else none))
set_option maxHeartbeats 4000000 in
set_option maxRecDepth 100000 in
theorem w_X11_cleaned {p : Program} {l : Launch} {e : Env} {s : State} {m : MethodId} {args : Array Value} {below : List Frame} {meth : Method} {c : Code} {g : gT} {r : Int32} {x' : st} (C : cxt p s m meth c args cX11_cleaned 3 RX11 (some .int)) (G : gst g s) (a1 : Int32) (a2 : Int32) (x : st) (H : Heap) (locs : List Loc) (ls : Array Slot)  (h : f_X11_cleaned a1 a2 x = some (r, x')) (hI : wst g x H) (hS : va_S (zA (gz g)) s.heap H locs) (hl : lv_has ls 3 [(0, .ref (ga g 30 0)), (1, .int a1), (2, .int a2)]) : W p l e (rmC 1 22) s m args below meth c H locs 0 0 (MQ below (Qx g (some (.int r)) x') args s 0 0 (zA (gz g))) (F0 m 0 ls []) := by
  obtain ⟨hx, hb, hml, hown, hts, hlk, hrt⟩ := id C
  unfold f_X11_cleaned at h
  refine lv_iload_n hx hb dX11_cleaned_0 rfl (lv_at hl 1 rfl) ?_
  refine lv_if_lt (tgt := 13) hx hb dX11_cleaned_1 (by decide) (fun hc => ?_) (fun hc => ?_)
  · replace h := ite_y hc h
    exact w_X11_cleaned_b13 C G  x _ _ _  h hI hS (lv_sub hl [] rfl)
  replace h := ite_n hc h
  refine lv_iload_n hx hb dX11_cleaned_4 rfl (lv_at hl 2 rfl) ?_
  refine lv_iconst (v := 0) hx hb dX11_cleaned_5 (by decide) ?_
  refine lv_iconst (v := 2) hx hb dX11_cleaned_6 (by decide) ?_
  obtain ⟨r2, x1, hq3, h⟩ := bnd_some h
  refine w_callS (fr := 0) (lo := 0) C G hI hS ms_X11_in km_X11_122 [.int a2, .int 0, .int 2] (k_X11_in l g a2 0 2 x _ _  hq3) rfl (by first | exact ⟨by decide, by decide⟩ | exact ⟨by show _ ≤ _ + _; omega, by show _ ≤ _ + _; omega⟩) ⟨Nat.zero_le _, Nat.zero_le _⟩ hl.1 rfl (Nat.le_of_ble_eq_true rfl) dX11_cleaned_7 (fun H locs hI hS => ?_)
  refine lv_if_ne (tgt := 15) hx hb dX11_cleaned_10 (by decide) (fun hc => ?_) (fun hc => ?_)
  · replace h := ite_n hc h
    refine lv_iload_n hx hb dX11_cleaned_15 rfl (lv_at hl 1 rfl) ?_
    refine lv_aload_n hx hb dX11_cleaned_16 rfl (lv_at hl 0 rfl) ?_
    refine w_get C G hI 30 0 (hI.at1 rfl) (fcE_30 g _ _) rfl in_X11 40 (by decide) kf_X11_107 (fun _ h => h) (v := .ref (ga g 80 0)) rfl dX11_cleaned_17 ?_
    refine lv_iconst (v := 5) hx hb dX11_cleaned_20 (by decide) ?_
    obtain ⟨hn4, h⟩ := need_t h
    refine w_iald C G hI 80 0 (hI.at1 rfl) (fcA_80 g _ _) (inb_in hn4) dX11_cleaned_21 ?_
    refine lv_icmp_ge (tgt := 31) hx hb dX11_cleaned_22 (by decide) (fun hc => ?_) (fun hc => ?_)
    · replace h := ite_y hc h
      exact w_X11_cleaned_b31 C G  x1 _ _ _  h hI hS (lv_sub hl [] rfl)
    replace h := ite_n hc h
    refine lv_iload_n hx hb dX11_cleaned_25 rfl (lv_at hl 1 rfl) ?_
    refine lv_bipush (v := 100) hx hb dX11_cleaned_26 (by decide) ?_
    refine lv_icmp_lt (tgt := 34) hx hb dX11_cleaned_28 (by decide) (fun hc => ?_) (fun hc => ?_)
    · replace h := ite_y hc h
      refine lv_iload_n hx hb dX11_cleaned_34 rfl (lv_at hl 2 rfl) ?_
      refine lv_if_ne (tgt := 47) hx hb dX11_cleaned_35 (by decide) (fun hc => ?_) (fun hc => ?_)
      · replace h := ite_n hc h
        refine lv_iload_n hx hb dX11_cleaned_47 rfl (lv_at hl 2 rfl) ?_
        refine lv_iconst (v := 1) hx hb dX11_cleaned_48 (by decide) ?_
        refine lv_icmp_ne (tgt := 61) hx hb dX11_cleaned_49 (by decide) (fun hc => ?_) (fun hc => ?_)
        · replace h := ite_n hc h
          refine lv_aload_n hx hb dX11_cleaned_61 rfl (lv_at hl 0 rfl) ?_
          refine w_get C G hI 30 0 (hI.at1 rfl) (fcE_30 g _ _) rfl in_X11 43 (by decide) kf_X11_116 (fun _ h => h) (v := .ref (ga g 83 0)) rfl dX11_cleaned_62 ?_
          refine lv_iload_n hx hb dX11_cleaned_65 rfl (lv_at hl 1 rfl) ?_
          obtain ⟨hn5, h⟩ := need_t h
          refine w_iald C G hI 83 0 (hI.at1 rfl) (fcA_83 g _ _) (inb_in hn5) dX11_cleaned_66 ?_
          cases h
          exact w_ireti C hI hS dX11_cleaned_67
        replace h := ite_y hc h
        refine lv_aload_n hx hb dX11_cleaned_52 rfl (lv_at hl 0 rfl) ?_
        refine w_get C G hI 30 0 (hI.at1 rfl) (fcE_30 g _ _) rfl in_X11 42 (by decide) kf_X11_113 (fun _ h => h) (v := .ref (ga g 82 0)) rfl dX11_cleaned_53 ?_
        refine lv_iload_n hx hb dX11_cleaned_56 rfl (lv_at hl 1 rfl) ?_
        obtain ⟨hn6, h⟩ := need_t h
        refine w_iald C G hI 82 0 (hI.at1 rfl) (fcA_82 g _ _) (inb_in hn6) dX11_cleaned_57 ?_
        refine lv_goto (tgt := 67) hx hb dX11_cleaned_58 (by decide) ?_
        cases h
        exact w_ireti C hI hS dX11_cleaned_67
      replace h := ite_y hc h
      refine lv_aload_n hx hb dX11_cleaned_38 rfl (lv_at hl 0 rfl) ?_
      refine w_get C G hI 30 0 (hI.at1 rfl) (fcE_30 g _ _) rfl in_X11 41 (by decide) kf_X11_110 (fun _ h => h) (v := .ref (ga g 81 0)) rfl dX11_cleaned_39 ?_
      refine lv_iload_n hx hb dX11_cleaned_42 rfl (lv_at hl 1 rfl) ?_
      obtain ⟨hn7, h⟩ := need_t h
      refine w_iald C G hI 81 0 (hI.at1 rfl) (fcA_81 g _ _) (inb_in hn7) dX11_cleaned_43 ?_
      refine lv_goto (tgt := 67) hx hb dX11_cleaned_44 (by decide) ?_
      cases h
      exact w_ireti C hI hS dX11_cleaned_67
    replace h := ite_n hc h
    exact w_X11_cleaned_b31 C G  x1 _ _ _  h hI hS (lv_sub hl [] rfl)
  replace h := ite_y hc h
  exact w_X11_cleaned_b13 C G  x1 _ _ _  h hI hS (lv_sub hl [] rfl)
theorem k_X11_cleaned (l : Launch) (g : gT) (a1 : Int32) (a2 : Int32) (x : st) (r : Int32) (x' : st)  (h : f_X11_cleaned a1 a2 x = some (r, x')) : Kt l yX11_cleaned cX11_cleaned 3 (some .int) 1 22 g [.ref (ga g 30 0), .int a1, .int a2] x (some (.int r)) x' := by
  refine Kt.of (by decide) (fun p e s m below meth c C G hI => ?_)
  have hl := lv_entry ([.ref (ga g 30 0), .int a1, .int a2]) (n := 3) (Nat.le_of_ble_eq_true rfl)
  rw [lg_entry_eq]
  generalize (lg_sl ([.ref (ga g 30 0), .int a1, .int a2]) ++ List.replicate (3 - (lg_sl ([.ref (ga g 30 0), .int a1, .int a2])).length) Slot.unset).toArray = ls at hl ⊢
  have hl : lv_has ls 3 [(0, .ref (ga g 30 0)), (1, .int a1), (2, .int a2)] := hl
  exact w_X11_cleaned C G a1 a2 x _ _ ls  h hI va_S.rf hl
theorem mv_X11_cleaned : mtV yX11_cleaned RX11 cX11_cleaned 3 (some .int) 2 := ⟨ki_X11_cleaned, kl_X11_cleaned, kI_X11, kc_X11_cleaned, by decide +kernel⟩

/-! X11_told -/
def f_X11_told_b16  (x : st) : Option (Int32 × st) := some ((-1), x)
set_option maxHeartbeats 4000000 in
set_option maxRecDepth 100000 in
theorem w_X11_told_b16 {p : Program} {l : Launch} {e : Env} {s : State} {m : MethodId} {args : Array Value} {below : List Frame} {meth : Method} {c : Code} {g : gT} {r : Int32} {x' : st} (C : cxt p s m meth c args cX11_told 3 RX11 (some .int)) (G : gst g s)  (x : st) (H : Heap) (locs : List Loc) (ls : Array Slot)  (h : f_X11_told_b16  x = some (r, x')) (hI : wst g x H) (hS : va_S (zA (gz g)) s.heap H locs) (hl : lv_has ls 3 []) : W p l e (rmC 2 42) s m args below meth c H locs 0 0 (MQ below (Qx g (some (.int r)) x') args s 0 0 (zA (gz g))) (F0 m 16 ls []) := by
  obtain ⟨hx, hb, hml, hown, hts, hlk, hrt⟩ := id C
  unfold f_X11_told_b16 at h
  refine lv_iconst (v := (-1)) hx hb dX11_told_16 (by decide) ?_
  refine lv_goto (tgt := 53) hx hb dX11_told_17 (by decide) ?_
  cases h
  exact w_ireti C hI hS dX11_told_53
def f_X11_told (a1 : Int32) (a2 : Int32) (x : st) : Option (Int32 × st) := bnd (f_X11_isMethod a1 x) fun r2 x1 => if r2 = 0 then (f_X11_told_b16  x1) else (bnd (f_X11_in a2 0 2 x1) fun r5 x4 => if r5 = 0 then (f_X11_told_b16  x4) else (if a2 = 0 then (if inb a1 8 = true then some ((x4 40 0 a1.toNatClampNeg), x4) else none) else (if a2 = 1 then (if inb a1 8 = true then some ((x4 46 0 a1.toNatClampNeg), x4) else none) else (if inb a1 8 = true then some ((x4 51 0 a1.toNatClampNeg), x4) else none))))
set_option maxHeartbeats 4000000 in
set_option maxRecDepth 100000 in
theorem w_X11_told {p : Program} {l : Launch} {e : Env} {s : State} {m : MethodId} {args : Array Value} {below : List Frame} {meth : Method} {c : Code} {g : gT} {r : Int32} {x' : st} (C : cxt p s m meth c args cX11_told 3 RX11 (some .int)) (G : gst g s) (a1 : Int32) (a2 : Int32) (x : st) (H : Heap) (locs : List Loc) (ls : Array Slot)  (h : f_X11_told a1 a2 x = some (r, x')) (hI : wst g x H) (hS : va_S (zA (gz g)) s.heap H locs) (hl : lv_has ls 3 [(0, .ref (ga g 30 0)), (1, .int a1), (2, .int a2)]) : W p l e (rmC 2 42) s m args below meth c H locs 0 0 (MQ below (Qx g (some (.int r)) x') args s 0 0 (zA (gz g))) (F0 m 0 ls []) := by
  obtain ⟨hx, hb, hml, hown, hts, hlk, hrt⟩ := id C
  unfold f_X11_told at h
  refine lv_iload_n hx hb dX11_told_0 rfl (lv_at hl 1 rfl) ?_
  obtain ⟨r2, x1, hq3, h⟩ := bnd_some h
  refine w_callS (fr := 1) (lo := 22) C G hI hS ms_X11_isMethod km_X11_136 [.int a1] (k_X11_isMethod l g a1 x _ _  hq3) rfl (by first | exact ⟨by decide, by decide⟩ | exact ⟨by show _ ≤ _ + _; omega, by show _ ≤ _ + _; omega⟩) ⟨Nat.zero_le _, Nat.zero_le _⟩ hl.1 rfl (Nat.le_of_ble_eq_true rfl) dX11_told_1 (fun H locs hI hS => ?_)
  refine lv_if_eq (tgt := 16) hx hb dX11_told_4 (by decide) (fun hc => ?_) (fun hc => ?_)
  · replace h := ite_y hc h
    exact w_X11_told_b16 C G  x1 _ _ _  h hI hS (lv_sub hl [] rfl)
  replace h := ite_n hc h
  refine lv_iload_n hx hb dX11_told_7 rfl (lv_at hl 2 rfl) ?_
  refine lv_iconst (v := 0) hx hb dX11_told_8 (by decide) ?_
  refine lv_iconst (v := 2) hx hb dX11_told_9 (by decide) ?_
  obtain ⟨r5, x4, hq6, h⟩ := bnd_some h
  refine w_callS (fr := 0) (lo := 0) C G hI hS ms_X11_in km_X11_122 [.int a2, .int 0, .int 2] (k_X11_in l g a2 0 2 x1 _ _  hq6) rfl (by first | exact ⟨by decide, by decide⟩ | exact ⟨by show _ ≤ _ + _; omega, by show _ ≤ _ + _; omega⟩) ⟨Nat.zero_le _, Nat.zero_le _⟩ hl.1 rfl (Nat.le_of_ble_eq_true rfl) dX11_told_10 (fun H locs hI hS => ?_)
  refine lv_if_ne (tgt := 20) hx hb dX11_told_13 (by decide) (fun hc => ?_) (fun hc => ?_)
  · replace h := ite_n hc h
    refine lv_iload_n hx hb dX11_told_20 rfl (lv_at hl 2 rfl) ?_
    refine lv_if_ne (tgt := 33) hx hb dX11_told_21 (by decide) (fun hc => ?_) (fun hc => ?_)
    · replace h := ite_n hc h
      refine lv_iload_n hx hb dX11_told_33 rfl (lv_at hl 2 rfl) ?_
      refine lv_iconst (v := 1) hx hb dX11_told_34 (by decide) ?_
      refine lv_icmp_ne (tgt := 47) hx hb dX11_told_35 (by decide) (fun hc => ?_) (fun hc => ?_)
      · replace h := ite_n hc h
        refine lv_aload_n hx hb dX11_told_47 rfl (lv_at hl 0 rfl) ?_
        refine w_get C G hI 30 0 (hI.at1 rfl) (fcE_30 g _ _) rfl in_X11 11 (by decide) kf_X11_43 (fun _ h => h) (v := .ref (ga g 51 0)) rfl dX11_told_48 ?_
        refine lv_iload_n hx hb dX11_told_51 rfl (lv_at hl 1 rfl) ?_
        obtain ⟨hn7, h⟩ := need_t h
        refine w_iald C G hI 51 0 (hI.at1 rfl) (fcA_51 g _ _) (inb_in hn7) dX11_told_52 ?_
        cases h
        exact w_ireti C hI hS dX11_told_53
      replace h := ite_y hc h
      refine lv_aload_n hx hb dX11_told_38 rfl (lv_at hl 0 rfl) ?_
      refine w_get C G hI 30 0 (hI.at1 rfl) (fcE_30 g _ _) rfl in_X11 6 (by decide) kf_X11_28 (fun _ h => h) (v := .ref (ga g 46 0)) rfl dX11_told_39 ?_
      refine lv_iload_n hx hb dX11_told_42 rfl (lv_at hl 1 rfl) ?_
      obtain ⟨hn8, h⟩ := need_t h
      refine w_iald C G hI 46 0 (hI.at1 rfl) (fcA_46 g _ _) (inb_in hn8) dX11_told_43 ?_
      refine lv_goto (tgt := 53) hx hb dX11_told_44 (by decide) ?_
      cases h
      exact w_ireti C hI hS dX11_told_53
    replace h := ite_y hc h
    refine lv_aload_n hx hb dX11_told_24 rfl (lv_at hl 0 rfl) ?_
    refine w_get C G hI 30 0 (hI.at1 rfl) (fcE_30 g _ _) rfl in_X11 0 (by decide) kf_X11_7 (fun _ h => h) (v := .ref (ga g 40 0)) rfl dX11_told_25 ?_
    refine lv_iload_n hx hb dX11_told_28 rfl (lv_at hl 1 rfl) ?_
    obtain ⟨hn9, h⟩ := need_t h
    refine w_iald C G hI 40 0 (hI.at1 rfl) (fcA_40 g _ _) (inb_in hn9) dX11_told_29 ?_
    refine lv_goto (tgt := 53) hx hb dX11_told_30 (by decide) ?_
    cases h
    exact w_ireti C hI hS dX11_told_53
  replace h := ite_y hc h
  exact w_X11_told_b16 C G  x4 _ _ _  h hI hS (lv_sub hl [] rfl)
theorem k_X11_told (l : Launch) (g : gT) (a1 : Int32) (a2 : Int32) (x : st) (r : Int32) (x' : st)  (h : f_X11_told a1 a2 x = some (r, x')) : Kt l yX11_told cX11_told 3 (some .int) 2 42 g [.ref (ga g 30 0), .int a1, .int a2] x (some (.int r)) x' := by
  refine Kt.of (by decide) (fun p e s m below meth c C G hI => ?_)
  have hl := lv_entry ([.ref (ga g 30 0), .int a1, .int a2]) (n := 3) (Nat.le_of_ble_eq_true rfl)
  rw [lg_entry_eq]
  generalize (lg_sl ([.ref (ga g 30 0), .int a1, .int a2]) ++ List.replicate (3 - (lg_sl ([.ref (ga g 30 0), .int a1, .int a2])).length) Slot.unset).toArray = ls at hl ⊢
  have hl : lv_has ls 3 [(0, .ref (ga g 30 0)), (1, .int a1), (2, .int a2)] := hl
  exact w_X11_told C G a1 a2 x _ _ ls  h hI va_S.rf hl
theorem mv_X11_told : mtV yX11_told RX11 cX11_told 3 (some .int) 2 := ⟨ki_X11_told, kl_X11_told, kI_X11, kc_X11_told, by decide +kernel⟩
