/-! X4_raise -/
def f_X4_raise_b23 (v1 : Int32) (x : st) : Option (Nat × st) := lets (sx x 1 0 6 v1) fun x1 => some (2, x1)
set_option maxHeartbeats 4000000 in
set_option maxRecDepth 100000 in
theorem w_X4_raise_b23 {p : Program} {l : Launch} {e : Env} {s : State} {m : MethodId} {args : Array Value} {below : List Frame} {meth : Method} {c : Code} {g : gT} {r : Nat} {x' : st} (C : cxt p s m meth c args cX4_raise 3 RX4 (some (.object "StepBudgets$Outcome"))) (G : gst g s) (v1 : Int32) (x : st) (H : Heap) (locs : List Loc) (ls : Array Slot)  (h : f_X4_raise_b23 v1 x = some (r, x')) (hI : wst g x H) (hS : va_S (zA (gz g)) s.heap H locs) (hl : lv_has ls 3 [(0, .ref (ga g 1 0)), (1, .int v1)]) : W p l e (rmC 2 40) s m args below meth c H locs 0 0 (MQ below (Qx g (some (.ref (ge g r))) x') args s 0 0 (zA (gz g))) (F0 m 23 ls []) := by
  obtain ⟨hx, hb, hml, hown, hts, hlk, hrt⟩ := id C
  unfold f_X4_raise_b23 at h
  refine lv_aload_n hx hb dX4_raise_23 rfl (lv_at hl 0 rfl) ?_
  refine lv_iload_n hx hb dX4_raise_24 rfl (lv_at hl 1 rfl) ?_
  refine w_put C G hI hS 1 0 (hI.at1 rfl) rfl (fcE_1 g _ _) rfl in_X4 tyX4 tyX4_ok nmX4 6 (by decide) kf_X4_75 (fun _ h => h) rfl (ty := .int) (y := v1) (by decide +kernel) rfl rfl (Nat.le_of_ble_eq_true rfl) rfl dX4_raise_25 (fun H locs hI hS => ?_)
  obtain ⟨x1, e_x1, h⟩ := lets_some h
  rw [← e_x1] at hI
  refine w_out C G hS 2 (by decide) rfl kf_X4_72 dX4_raise_28 ?_
  cases h
  exact w_aret C hI hS dX4_raise_31
def f_X4_raise (a1 : Int32) (x : st) : Option (Nat × st) := if 7 ≤ a1 then (f_X4_raise_b23 a1 x) else (bnd (f_X5_countThrow  x) fun r2 x1 => if r2 < 5 then if r2 = 0 then (f_X4_raise_b23 a1 x1) else (some (r2, x1)) else none)
set_option maxHeartbeats 4000000 in
set_option maxRecDepth 100000 in
theorem w_X4_raise {p : Program} {l : Launch} {e : Env} {s : State} {m : MethodId} {args : Array Value} {below : List Frame} {meth : Method} {c : Code} {g : gT} {r : Nat} {x' : st} (C : cxt p s m meth c args cX4_raise 3 RX4 (some (.object "StepBudgets$Outcome"))) (G : gst g s) (a1 : Int32) (x : st) (H : Heap) (locs : List Loc) (ls : Array Slot)  (h : f_X4_raise a1 x = some (r, x')) (hI : wst g x H) (hS : va_S (zA (gz g)) s.heap H locs) (hl : lv_has ls 3 [(0, .ref (ga g 1 0)), (1, .int a1)]) : W p l e (rmC 2 40) s m args below meth c H locs 0 0 (MQ below (Qx g (some (.ref (ge g r))) x') args s 0 0 (zA (gz g))) (F0 m 0 ls []) := by
  obtain ⟨hx, hb, hml, hown, hts, hlk, hrt⟩ := id C
  unfold f_X4_raise at h
  refine lv_iload_n hx hb dX4_raise_0 rfl (lv_at hl 1 rfl) ?_
  refine lv_bipush (v := 7) hx hb dX4_raise_1 (by decide) ?_
  refine lv_icmp_ge (tgt := 23) hx hb dX4_raise_3 (by decide) (fun hc => ?_) (fun hc => ?_)
  · replace h := ite_y hc h
    exact w_X4_raise_b23 C G a1 x _ _ _  h hI hS (lv_sub hl [0, 1] rfl)
  replace h := ite_n hc h
  refine lv_aload_n hx hb dX4_raise_6 rfl (lv_at hl 0 rfl) ?_
  refine w_get C G hI 1 0 (hI.at1 rfl) (fcE_1 g _ _) rfl in_X4 1 (by decide) kf_X4_21 (fun _ h => h) (v := .ref (ga g 4 0)) rfl dX4_raise_7 ?_
  obtain ⟨r2, x1, hq3, h⟩ := bnd_some h
  refine w_callV (fr := 1) (lo := 20) C G hI hS 4 0 (hI.at1 rfl) (fcE_4 g _ _) rfl mv_X5_countThrow km_X4_203 [] (k_X5_countThrow l g  x _ _  hq3) rfl (by first | exact ⟨by decide, by decide⟩ | exact ⟨by show _ ≤ _ + _; omega, by show _ ≤ _ + _; omega⟩) ⟨Nat.zero_le _, Nat.zero_le _⟩ hl.1 rfl (Nat.le_of_ble_eq_true rfl) dX4_raise_10 (fun H locs hI hS => ?_)
  refine lv_astore_n (lv' := [(2, .ref (ge g r2)), (0, .ref (ga g 1 0)), (1, .int a1)]) hx hb dX4_raise_13 rfl hl (by decide) rfl (fun ls hl => ?_)
  refine lv_aload_n hx hb dX4_raise_14 rfl (lv_at hl 0 rfl) ?_
  refine w_out C G hS 0 (by decide) rfl kf_X4_84 dX4_raise_15 ?_
  obtain ⟨hn4, h⟩ := need_p h
  refine w_acmp_eq (tgt := 23) C G (a := r2) (b := 0) hn4 (by decide) dX4_raise_18 (by decide) (fun hc => ?_) (fun hc => ?_)
  · replace h := ite_y hc h
    exact w_X4_raise_b23 C G a1 x1 _ _ _  h hI hS (lv_sub hl [1, 2] rfl)
  replace h := ite_n hc h
  refine lv_aload_n hx hb dX4_raise_21 rfl (lv_at hl 0 rfl) ?_
  cases h
  exact w_aret C hI hS dX4_raise_22
theorem k_X4_raise (l : Launch) (g : gT) (a1 : Int32) (x : st) (r : Nat) (x' : st)  (h : f_X4_raise a1 x = some (r, x')) : Kt l yX4_raise cX4_raise 3 (some (.object "StepBudgets$Outcome")) 2 40 g [.ref (ga g 1 0), .int a1] x (some (.ref (ge g r))) x' := by
  refine Kt.of (by decide) (fun p e s m below meth c C G hI => ?_)
  have hl := lv_entry ([.ref (ga g 1 0), .int a1]) (n := 3) (Nat.le_of_ble_eq_true rfl)
  rw [lg_entry_eq]
  generalize (lg_sl ([.ref (ga g 1 0), .int a1]) ++ List.replicate (3 - (lg_sl ([.ref (ga g 1 0), .int a1])).length) Slot.unset).toArray = ls at hl ⊢
  have hl : lv_has ls 3 [(0, .ref (ga g 1 0)), (1, .int a1)] := hl
  exact w_X4_raise C G a1 x _ _ ls  h hI va_S.rf hl
theorem mv_X4_raise : mtV yX4_raise RX4 cX4_raise 3 (some (.object "StepBudgets$Outcome")) 1 := ⟨ki_X4_raise, kl_X4_raise, kI_X4, kc_X4_raise, by decide +kernel⟩

/-! X4_makeFrame -/
def f_X4_makeFrame (a1 : Int32) (a2 : Int32) (a3 : Int32) (a4 : Int32) (x : st) : Option (Nat × st) := bnd (f_X5_count 1 x) fun r2 x1 => if r2 < 5 then if r2 = 0 then (if a4 ≤ 12 then (if inb (a4 - 1) 12 = true then bnv (f_X2_begin ((a4 - 1).toNatClampNeg) a1 a2 a3 x1) fun x6 => bnv (f_X8_noteFrame a4 x6) fun x9 => some (0, x9) else none) else (bnd (f_X4_raise 7 x1) fun r13 x12 => some (r13, x12))) else (some (r2, x1)) else none
set_option maxHeartbeats 4000000 in
set_option maxRecDepth 100000 in
theorem w_X4_makeFrame {p : Program} {l : Launch} {e : Env} {s : State} {m : MethodId} {args : Array Value} {below : List Frame} {meth : Method} {c : Code} {g : gT} {r : Nat} {x' : st} (C : cxt p s m meth c args cX4_makeFrame 6 RX4 (some (.object "StepBudgets$Outcome"))) (G : gst g s) (a1 : Int32) (a2 : Int32) (a3 : Int32) (a4 : Int32) (x : st) (H : Heap) (locs : List Loc) (ls : Array Slot)  (h : f_X4_makeFrame a1 a2 a3 a4 x = some (r, x')) (hI : wst g x H) (hS : va_S (zA (gz g)) s.heap H locs) (hl : lv_has ls 6 [(0, .ref (ga g 1 0)), (1, .int a1), (2, .int a2), (3, .int a3), (4, .int a4)]) : W p l e (rmC 3 62) s m args below meth c H locs 0 0 (MQ below (Qx g (some (.ref (ge g r))) x') args s 0 0 (zA (gz g))) (F0 m 0 ls []) := by
  obtain ⟨hx, hb, hml, hown, hts, hlk, hrt⟩ := id C
  unfold f_X4_makeFrame at h
  refine lv_aload_n hx hb dX4_makeFrame_0 rfl (lv_at hl 0 rfl) ?_
  refine w_get C G hI 1 0 (hI.at1 rfl) (fcE_1 g _ _) rfl in_X4 1 (by decide) kf_X4_21 (fun _ h => h) (v := .ref (ga g 4 0)) rfl dX4_makeFrame_1 ?_
  refine lv_iconst (v := 1) hx hb dX4_makeFrame_4 (by decide) ?_
  obtain ⟨r2, x1, hq3, h⟩ := bnd_some h
  refine w_callV (fr := 1) (lo := 20) C G hI hS 4 0 (hI.at1 rfl) (fcE_4 g _ _) rfl mv_X5_count km_X4_91 [.int 1] (k_X5_count l g 1 x _ _  hq3) rfl (by first | exact ⟨by decide, by decide⟩ | exact ⟨by show _ ≤ _ + _; omega, by show _ ≤ _ + _; omega⟩) ⟨Nat.zero_le _, Nat.zero_le _⟩ hl.1 rfl (Nat.le_of_ble_eq_true rfl) dX4_makeFrame_5 (fun H locs hI hS => ?_)
  refine lv_astore (lv' := [(5, .ref (ge g r2)), (0, .ref (ga g 1 0)), (1, .int a1), (2, .int a2), (3, .int a3), (4, .int a4)]) hx hb dX4_makeFrame_8 hl (by decide) rfl (fun ls hl => ?_)
  refine lv_aload hx hb dX4_makeFrame_10 (lv_at hl 0 rfl) ?_
  refine w_out C G hS 0 (by decide) rfl kf_X4_84 dX4_makeFrame_12 ?_
  obtain ⟨hn4, h⟩ := need_p h
  refine w_acmp_eq (tgt := 21) C G (a := r2) (b := 0) hn4 (by decide) dX4_makeFrame_15 (by decide) (fun hc => ?_) (fun hc => ?_)
  · replace h := ite_y hc h
    refine lv_iload hx hb dX4_makeFrame_21 (lv_at hl 5 rfl) ?_
    refine lv_bipush (v := 12) hx hb dX4_makeFrame_23 (by decide) ?_
    refine lv_icmp_le (tgt := 35) hx hb dX4_makeFrame_25 (by decide) (fun hc => ?_) (fun hc => ?_)
    · replace h := ite_y hc h
      refine lv_aload_n hx hb dX4_makeFrame_35 rfl (lv_at hl 1 rfl) ?_
      refine w_get C G hI 1 0 (hI.at1 rfl) (fcE_1 g _ _) rfl in_X4 4 (by decide) kf_X4_40 (fun _ h => h) (v := .ref (ga g 11 0)) rfl dX4_makeFrame_36 ?_
      refine lv_iload hx hb dX4_makeFrame_39 (lv_at hl 5 rfl) ?_
      refine lv_iconst (v := 1) hx hb dX4_makeFrame_41 (by decide) ?_
      refine lv_isub hx hb dX4_makeFrame_42 ?_
      obtain ⟨hn5, h⟩ := need_t h
      refine w_aald C G hI 11 0 (hI.at1 rfl) 5 (fcA_11 g _ _) rfl (inb_in hn5) rfl dX4_makeFrame_43 ?_
      refine lv_iload_n hx hb dX4_makeFrame_44 rfl (lv_at hl 2 rfl) ?_
      refine lv_iload_n hx hb dX4_makeFrame_45 rfl (lv_at hl 3 rfl) ?_
      refine lv_iload_n hx hb dX4_makeFrame_46 rfl (lv_at hl 4 rfl) ?_
      obtain ⟨x6, hq8, h⟩ := bnv_some h
      refine w_callV (fr := 1) (lo := 23) C G hI hS 12 ((a4 - 1).toNatClampNeg) (hI.at12 rfl (inb_lt hn5)) (fcE_12 g _ _) rfl mv_X2_begin km_X4_97 [.int a1, .int a2, .int a3] (k_X2_begin l g ((a4 - 1).toNatClampNeg) a1 a2 a3 x1 _ (inb_lt hn5) hq8) rfl (by first | exact ⟨by decide, by decide⟩ | exact ⟨by show _ ≤ _ + _; omega, by show _ ≤ _ + _; omega⟩) ⟨Nat.zero_le _, Nat.zero_le _⟩ hl.1 rfl (Nat.le_of_ble_eq_true rfl) dX4_makeFrame_47 (fun H locs hI hS => ?_)
      refine lv_aload_n hx hb dX4_makeFrame_50 rfl (lv_at hl 1 rfl) ?_
      refine w_get C G hI 1 0 (hI.at1 rfl) (fcE_1 g _ _) rfl in_X4 0 (by decide) kf_X4_12 (fun _ h => h) (v := .ref (ga g 2 0)) rfl dX4_makeFrame_51 ?_
      refine lv_iload hx hb dX4_makeFrame_54 (lv_at hl 5 rfl) ?_
      obtain ⟨x9, hq11, h⟩ := bnv_some h
      refine w_callV (fr := 1) (lo := 40) C G hI hS 2 0 (hI.at1 rfl) (fcE_2 g _ _) rfl mv_X8_noteFrame km_X4_100 [.int a4] (k_X8_noteFrame l g a4 x6 _  hq11) rfl (by first | exact ⟨by decide, by decide⟩ | exact ⟨by show _ ≤ _ + _; omega, by show _ ≤ _ + _; omega⟩) ⟨Nat.zero_le _, Nat.zero_le _⟩ hl.1 rfl (Nat.le_of_ble_eq_true rfl) dX4_makeFrame_56 (fun H locs hI hS => ?_)
      refine w_out C G hS 0 (by decide) rfl kf_X4_84 dX4_makeFrame_59 ?_
      cases h
      exact w_aret C hI hS dX4_makeFrame_62
    replace h := ite_n hc h
    refine lv_aload_n hx hb dX4_makeFrame_28 rfl (lv_at hl 1 rfl) ?_
    refine lv_bipush (v := 7) hx hb dX4_makeFrame_29 (by decide) ?_
    obtain ⟨r13, x12, hq14, h⟩ := bnd_some h
    refine w_callV (fr := 2) (lo := 40) C G hI hS 1 0 (hI.at1 rfl) (fcE_1 g _ _) rfl mv_X4_raise km_X4_94 [.int 7] (k_X4_raise l g 7 x1 _ _  hq14) rfl (by first | exact ⟨by decide, by decide⟩ | exact ⟨by show _ ≤ _ + _; omega, by show _ ≤ _ + _; omega⟩) ⟨Nat.zero_le _, Nat.zero_le _⟩ hl.1 rfl (Nat.le_of_ble_eq_true rfl) dX4_makeFrame_31 (fun H locs hI hS => ?_)
    cases h
    exact w_aret C hI hS dX4_makeFrame_34
  replace h := ite_n hc h
  refine lv_aload hx hb dX4_makeFrame_18 (lv_at hl 0 rfl) ?_
  cases h
  exact w_aret C hI hS dX4_makeFrame_20
theorem k_X4_makeFrame (l : Launch) (g : gT) (a1 : Int32) (a2 : Int32) (a3 : Int32) (a4 : Int32) (x : st) (r : Nat) (x' : st)  (h : f_X4_makeFrame a1 a2 a3 a4 x = some (r, x')) : Kt l yX4_makeFrame cX4_makeFrame 6 (some (.object "StepBudgets$Outcome")) 3 62 g [.ref (ga g 1 0), .int a1, .int a2, .int a3, .int a4] x (some (.ref (ge g r))) x' := by
  refine Kt.of (by decide) (fun p e s m below meth c C G hI => ?_)
  have hl := lv_entry ([.ref (ga g 1 0), .int a1, .int a2, .int a3, .int a4]) (n := 6) (Nat.le_of_ble_eq_true rfl)
  rw [lg_entry_eq]
  generalize (lg_sl ([.ref (ga g 1 0), .int a1, .int a2, .int a3, .int a4]) ++ List.replicate (6 - (lg_sl ([.ref (ga g 1 0), .int a1, .int a2, .int a3, .int a4])).length) Slot.unset).toArray = ls at hl ⊢
  have hl : lv_has ls 6 [(0, .ref (ga g 1 0)), (1, .int a1), (2, .int a2), (3, .int a3), (4, .int a4)] := hl
  exact w_X4_makeFrame C G a1 a2 a3 a4 x _ _ ls  h hI va_S.rf hl
theorem mv_X4_makeFrame : mtV yX4_makeFrame RX4 cX4_makeFrame 6 (some (.object "StepBudgets$Outcome")) 4 := ⟨ki_X4_makeFrame, kl_X4_makeFrame, kI_X4, kc_X4_makeFrame, by decide +kernel⟩

/-! X4_setNumber -/
def f_X4_setNumber (i1 : Nat) (a2 : Int32) (a3 : Int32) (x : st) : Option (Nat × st) := if inb a2 6 = true then lets (sx x 13 i1 a2.toNatClampNeg a3) fun x2 => some (0, x2) else none
set_option maxHeartbeats 4000000 in
set_option maxRecDepth 100000 in
theorem w_X4_setNumber {p : Program} {l : Launch} {e : Env} {s : State} {m : MethodId} {args : Array Value} {below : List Frame} {meth : Method} {c : Code} {g : gT} {r : Nat} {x' : st} (C : cxt p s m meth c args cX4_setNumber 4 RX4 (some (.object "StepBudgets$Outcome"))) (G : gst g s) (i1 : Nat) (a2 : Int32) (a3 : Int32) (x : st) (H : Heap) (locs : List Loc) (ls : Array Slot) (h_i1 : i1 < 12) (h : f_X4_setNumber i1 a2 a3 x = some (r, x')) (hI : wst g x H) (hS : va_S (zA (gz g)) s.heap H locs) (hl : lv_has ls 4 [(0, .ref (ga g 1 0)), (1, .ref (ga g 12 i1)), (2, .int a2), (3, .int a3)]) : W p l e (rmC 0 0) s m args below meth c H locs 0 0 (MQ below (Qx g (some (.ref (ge g r))) x') args s 0 0 (zA (gz g))) (F0 m 0 ls []) := by
  obtain ⟨hx, hb, hml, hown, hts, hlk, hrt⟩ := id C
  unfold f_X4_setNumber at h
  refine lv_aload_n hx hb dX4_setNumber_0 rfl (lv_at hl 1 rfl) ?_
  refine w_get C G hI 12 i1 (hI.at12 rfl h_i1) (fcE_12 g _ _) rfl in_X2 0 (by decide) kf_X4_176 (fun _ h => h) (v := .ref (ga g 13 i1)) rfl dX4_setNumber_1 ?_
  refine lv_iload_n hx hb dX4_setNumber_4 rfl (lv_at hl 2 rfl) ?_
  refine lv_iload_n hx hb dX4_setNumber_5 rfl (lv_at hl 3 rfl) ?_
  obtain ⟨hn1, h⟩ := need_t h
  refine w_iast C G hI hS 13 i1 (hI.at12 rfl h_i1) rfl (fcA_13 g _) (y := a3) (inb_in hn1) dX4_setNumber_6 (fun H locs hI hS => ?_)
  obtain ⟨x2, e_x2, h⟩ := lets_some h
  rw [← e_x2] at hI
  refine w_out C G hS 0 (by decide) rfl kf_X4_84 dX4_setNumber_7 ?_
  cases h
  exact w_aret C hI hS dX4_setNumber_10
theorem k_X4_setNumber (l : Launch) (g : gT) (i1 : Nat) (a2 : Int32) (a3 : Int32) (x : st) (r : Nat) (x' : st) (h_i1 : i1 < 12) (h : f_X4_setNumber i1 a2 a3 x = some (r, x')) : Kt l yX4_setNumber cX4_setNumber 4 (some (.object "StepBudgets$Outcome")) 0 0 g [.ref (ga g 1 0), .ref (ga g 12 i1), .int a2, .int a3] x (some (.ref (ge g r))) x' := by
  refine Kt.of (by decide) (fun p e s m below meth c C G hI => ?_)
  have hl := lv_entry ([.ref (ga g 1 0), .ref (ga g 12 i1), .int a2, .int a3]) (n := 4) (Nat.le_of_ble_eq_true rfl)
  rw [lg_entry_eq]
  generalize (lg_sl ([.ref (ga g 1 0), .ref (ga g 12 i1), .int a2, .int a3]) ++ List.replicate (4 - (lg_sl ([.ref (ga g 1 0), .ref (ga g 12 i1), .int a2, .int a3])).length) Slot.unset).toArray = ls at hl ⊢
  have hl : lv_has ls 4 [(0, .ref (ga g 1 0)), (1, .ref (ga g 12 i1)), (2, .int a2), (3, .int a3)] := hl
  exact w_X4_setNumber C G i1 a2 a3 x _ _ ls h_i1 h hI va_S.rf hl
theorem mv_X4_setNumber : mtV yX4_setNumber RX4 cX4_setNumber 4 (some (.object "StepBudgets$Outcome")) 3 := ⟨ki_X4_setNumber, kl_X4_setNumber, kI_X4, kc_X4_setNumber, by decide +kernel⟩

/-! X4_reckon -/
def f_X4_reckon_b68 (s0 : Int32) (s1 : Int32) (s2 : Nat) (x : st) : Option (Nat × st) := bnd (f_X4_setNumber s2 s1 s0 x) fun r19 x18 => some (r19, x18)
set_option maxHeartbeats 4000000 in
set_option maxRecDepth 100000 in
theorem w_X4_reckon_b68 {p : Program} {l : Launch} {e : Env} {s : State} {m : MethodId} {args : Array Value} {below : List Frame} {meth : Method} {c : Code} {g : gT} {r : Nat} {x' : st} (C : cxt p s m meth c args cX4_reckon 5 RX4 (some (.object "StepBudgets$Outcome"))) (G : gst g s) (s0 : Int32) (s1 : Int32) (s2 : Nat) (x : st) (H : Heap) (locs : List Loc) (ls : Array Slot) (h_s2 : s2 < 12) (h : f_X4_reckon_b68 s0 s1 s2 x = some (r, x')) (hI : wst g x H) (hS : va_S (zA (gz g)) s.heap H locs) (hl : lv_has ls 5 []) : W p l e (rmC 1 23) s m args below meth c H locs 0 0 (MQ below (Qx g (some (.ref (ge g r))) x') args s 0 0 (zA (gz g))) (F0 m 68 ls [.int s0, .int s1, .ref (ga g 12 s2), .ref (ga g 1 0)]) := by
  obtain ⟨hx, hb, hml, hown, hts, hlk, hrt⟩ := id C
  unfold f_X4_reckon_b68 at h
  obtain ⟨r19, x18, hq20, h⟩ := bnd_some h
  refine w_callV (fr := 0) (lo := 0) C G hI hS 1 0 (hI.at1 rfl) (fcE_1 g _ _) rfl mv_X4_setNumber km_X4_216 [.ref (ga g 12 s2), .int s1, .int s0] (k_X4_setNumber l g s2 s1 s0 x _ _ h_s2 hq20) rfl (by first | exact ⟨by decide, by decide⟩ | exact ⟨by show _ ≤ _ + _; omega, by show _ ≤ _ + _; omega⟩) ⟨Nat.zero_le _, Nat.zero_le _⟩ hl.1 rfl (Nat.le_of_ble_eq_true rfl) dX4_reckon_68 (fun H locs hI hS => ?_)
  cases h
  exact w_aret C hI hS dX4_reckon_71
def f_X4_reckon (i1 : Nat) (i2 : Nat) (x : st) : Option (Nat × st) := bnd (f_X0_b i2 x) fun r2 x1 => if inb r2 6 = true then bnd (f_X0_c i2 x1) fun r6 x5 => if inb r6 6 = true then bnd (f_X0_kind i2 x5) fun r10 x9 => if r10 = 1 then (bnd (f_X0_a i2 x9) fun r19 x18 => bnd (f_X4_setNumber i1 r19 ((x1 13 i1 r2.toNatClampNeg) + (x5 13 i1 r6.toNatClampNeg)) x18) fun r22 x21 => some (r22, x21)) else (bnd (f_X0_a i2 x9) fun r13 x12 => bnd (f_X0_kind i2 x12) fun r16 x15 => if r16 = 2 then (f_X4_reckon_b68 ((x1 13 i1 r2.toNatClampNeg) - (x5 13 i1 r6.toNatClampNeg)) r13 i1 x15) else (f_X4_reckon_b68 ((x1 13 i1 r2.toNatClampNeg) * (x5 13 i1 r6.toNatClampNeg)) r13 i1 x15)) else none else none
set_option maxHeartbeats 4000000 in
set_option maxRecDepth 100000 in
theorem w_X4_reckon {p : Program} {l : Launch} {e : Env} {s : State} {m : MethodId} {args : Array Value} {below : List Frame} {meth : Method} {c : Code} {g : gT} {r : Nat} {x' : st} (C : cxt p s m meth c args cX4_reckon 5 RX4 (some (.object "StepBudgets$Outcome"))) (G : gst g s) (i1 : Nat) (i2 : Nat) (x : st) (H : Heap) (locs : List Loc) (ls : Array Slot) (h_i1 : i1 < 12) (h_i2 : gd g 18 i2) (h : f_X4_reckon i1 i2 x = some (r, x')) (hI : wst g x H) (hS : va_S (zA (gz g)) s.heap H locs) (hl : lv_has ls 5 [(0, .ref (ga g 1 0)), (1, .ref (ga g 12 i1)), (2, .ref (ga g 18 i2))]) : W p l e (rmC 1 23) s m args below meth c H locs 0 0 (MQ below (Qx g (some (.ref (ge g r))) x') args s 0 0 (zA (gz g))) (F0 m 0 ls []) := by
  obtain ⟨hx, hb, hml, hown, hts, hlk, hrt⟩ := id C
  unfold f_X4_reckon at h
  refine lv_aload_n hx hb dX4_reckon_0 rfl (lv_at hl 1 rfl) ?_
  refine w_get C G hI 12 i1 (hI.at12 rfl h_i1) (fcE_12 g _ _) rfl in_X2 0 (by decide) kf_X4_176 (fun _ h => h) (v := .ref (ga g 13 i1)) rfl dX4_reckon_1 ?_
  refine lv_aload_n hx hb dX4_reckon_4 rfl (lv_at hl 2 rfl) ?_
  obtain ⟨r2, x1, hq3, h⟩ := bnd_some h
  refine w_callV (fr := 0) (lo := 0) C G hI hS 18 i2 h_i2 (fcE_18 g _ _) rfl mv_X0_b km_X4_213 [] (k_X0_b l g i2 x _ _ h_i2 hq3) rfl (by first | exact ⟨by decide, by decide⟩ | exact ⟨by show _ ≤ _ + _; omega, by show _ ≤ _ + _; omega⟩) ⟨Nat.zero_le _, Nat.zero_le _⟩ hl.1 rfl (Nat.le_of_ble_eq_true rfl) dX4_reckon_5 (fun H locs hI hS => ?_)
  obtain ⟨hn4, h⟩ := need_t h
  refine w_iald C G hI 13 i1 (hI.at12 rfl h_i1) (fcA_13 g _ _) (inb_in hn4) dX4_reckon_8 ?_
  refine lv_istore_n (lv' := [(3, .int (x1 13 i1 r2.toNatClampNeg)), (0, .ref (ga g 1 0)), (1, .ref (ga g 12 i1)), (2, .ref (ga g 18 i2))]) hx hb dX4_reckon_9 rfl hl (by decide) rfl (fun ls hl => ?_)
  refine lv_aload_n hx hb dX4_reckon_10 rfl (lv_at hl 2 rfl) ?_
  refine w_get C G hI 12 i1 (hI.at12 rfl h_i1) (fcE_12 g _ _) rfl in_X2 0 (by decide) kf_X4_176 (fun _ h => h) (v := .ref (ga g 13 i1)) rfl dX4_reckon_11 ?_
  refine lv_aload_n hx hb dX4_reckon_14 rfl (lv_at hl 3 rfl) ?_
  obtain ⟨r6, x5, hq7, h⟩ := bnd_some h
  refine w_callV (fr := 0) (lo := 0) C G hI hS 18 i2 h_i2 (fcE_18 g _ _) rfl mv_X0_c km_X4_247 [] (k_X0_c l g i2 x1 _ _ h_i2 hq7) rfl (by first | exact ⟨by decide, by decide⟩ | exact ⟨by show _ ≤ _ + _; omega, by show _ ≤ _ + _; omega⟩) ⟨Nat.zero_le _, Nat.zero_le _⟩ hl.1 rfl (Nat.le_of_ble_eq_true rfl) dX4_reckon_15 (fun H locs hI hS => ?_)
  obtain ⟨hn8, h⟩ := need_t h
  refine w_iald C G hI 13 i1 (hI.at12 rfl h_i1) (fcA_13 g _ _) (inb_in hn8) dX4_reckon_18 ?_
  refine lv_istore (lv' := [(4, .int (x5 13 i1 r6.toNatClampNeg)), (3, .int (x1 13 i1 r2.toNatClampNeg)), (0, .ref (ga g 1 0)), (1, .ref (ga g 12 i1)), (2, .ref (ga g 18 i2))]) hx hb dX4_reckon_19 hl (by decide) rfl (fun ls hl => ?_)
  refine lv_aload_n hx hb dX4_reckon_21 rfl (lv_at hl 4 rfl) ?_
  obtain ⟨r10, x9, hq11, h⟩ := bnd_some h
  refine w_callV (fr := 0) (lo := 0) C G hI hS 18 i2 h_i2 (fcE_18 g _ _) rfl mv_X0_kind km_X4_207 [] (k_X0_kind l g i2 x5 _ _ h_i2 hq11) rfl (by first | exact ⟨by decide, by decide⟩ | exact ⟨by show _ ≤ _ + _; omega, by show _ ≤ _ + _; omega⟩) ⟨Nat.zero_le _, Nat.zero_le _⟩ hl.1 rfl (Nat.le_of_ble_eq_true rfl) dX4_reckon_22 (fun H locs hI hS => ?_)
  refine lv_iconst (v := 1) hx hb dX4_reckon_25 (by decide) ?_
  refine lv_icmp_ne (tgt := 43) hx hb dX4_reckon_26 (by decide) (fun hc => ?_) (fun hc => ?_)
  · replace h := ite_n hc h
    refine lv_aload_n hx hb dX4_reckon_43 rfl (lv_at hl 2 rfl) ?_
    refine lv_aload_n hx hb dX4_reckon_44 rfl (lv_at hl 3 rfl) ?_
    refine lv_aload_n hx hb dX4_reckon_45 rfl (lv_at hl 4 rfl) ?_
    obtain ⟨r13, x12, hq14, h⟩ := bnd_some h
    refine w_callV (fr := 0) (lo := 0) C G hI hS 18 i2 h_i2 (fcE_18 g _ _) rfl mv_X0_a km_X4_210 [] (k_X0_a l g i2 x9 _ _ h_i2 hq14) rfl (by first | exact ⟨by decide, by decide⟩ | exact ⟨by show _ ≤ _ + _; omega, by show _ ≤ _ + _; omega⟩) ⟨Nat.zero_le _, Nat.zero_le _⟩ hl.1 rfl (Nat.le_of_ble_eq_true rfl) dX4_reckon_46 (fun H locs hI hS => ?_)
    refine lv_aload_n hx hb dX4_reckon_49 rfl (lv_at hl 4 rfl) ?_
    obtain ⟨r16, x15, hq17, h⟩ := bnd_some h
    refine w_callV (fr := 0) (lo := 0) C G hI hS 18 i2 h_i2 (fcE_18 g _ _) rfl mv_X0_kind km_X4_207 [] (k_X0_kind l g i2 x12 _ _ h_i2 hq17) rfl (by first | exact ⟨by decide, by decide⟩ | exact ⟨by show _ ≤ _ + _; omega, by show _ ≤ _ + _; omega⟩) ⟨Nat.zero_le _, Nat.zero_le _⟩ hl.1 rfl (Nat.le_of_ble_eq_true rfl) dX4_reckon_50 (fun H locs hI hS => ?_)
    refine lv_iconst (v := 2) hx hb dX4_reckon_53 (by decide) ?_
    refine lv_icmp_ne (tgt := 64) hx hb dX4_reckon_54 (by decide) (fun hc => ?_) (fun hc => ?_)
    · replace h := ite_n hc h
      refine lv_iload_n hx hb dX4_reckon_64 rfl (lv_at hl 1 rfl) ?_
      refine lv_iload hx hb dX4_reckon_65 (lv_at hl 0 rfl) ?_
      refine lv_imul hx hb dX4_reckon_67 ?_
      exact w_X4_reckon_b68 C G ((x1 13 i1 r2.toNatClampNeg) * (x5 13 i1 r6.toNatClampNeg)) r13 i1 x15 _ _ _ h_i1 h hI hS (lv_sub hl [] rfl)
    replace h := ite_y hc h
    refine lv_iload_n hx hb dX4_reckon_57 rfl (lv_at hl 1 rfl) ?_
    refine lv_iload hx hb dX4_reckon_58 (lv_at hl 0 rfl) ?_
    refine lv_isub hx hb dX4_reckon_60 ?_
    refine lv_goto (tgt := 68) hx hb dX4_reckon_61 (by decide) ?_
    exact w_X4_reckon_b68 C G ((x1 13 i1 r2.toNatClampNeg) - (x5 13 i1 r6.toNatClampNeg)) r13 i1 x15 _ _ _ h_i1 h hI hS (lv_sub hl [] rfl)
  replace h := ite_y hc h
  refine lv_aload_n hx hb dX4_reckon_29 rfl (lv_at hl 2 rfl) ?_
  refine lv_aload_n hx hb dX4_reckon_30 rfl (lv_at hl 3 rfl) ?_
  refine lv_aload_n hx hb dX4_reckon_31 rfl (lv_at hl 4 rfl) ?_
  obtain ⟨r19, x18, hq20, h⟩ := bnd_some h
  refine w_callV (fr := 0) (lo := 0) C G hI hS 18 i2 h_i2 (fcE_18 g _ _) rfl mv_X0_a km_X4_210 [] (k_X0_a l g i2 x9 _ _ h_i2 hq20) rfl (by first | exact ⟨by decide, by decide⟩ | exact ⟨by show _ ≤ _ + _; omega, by show _ ≤ _ + _; omega⟩) ⟨Nat.zero_le _, Nat.zero_le _⟩ hl.1 rfl (Nat.le_of_ble_eq_true rfl) dX4_reckon_32 (fun H locs hI hS => ?_)
  refine lv_iload_n hx hb dX4_reckon_35 rfl (lv_at hl 1 rfl) ?_
  refine lv_iload hx hb dX4_reckon_36 (lv_at hl 0 rfl) ?_
  refine lv_iadd hx hb dX4_reckon_38 ?_
  obtain ⟨r22, x21, hq23, h⟩ := bnd_some h
  refine w_callV (fr := 0) (lo := 0) C G hI hS 1 0 (hI.at1 rfl) (fcE_1 g _ _) rfl mv_X4_setNumber km_X4_216 [.ref (ga g 12 i1), .int r19, .int ((x1 13 i1 r2.toNatClampNeg) + (x5 13 i1 r6.toNatClampNeg))] (k_X4_setNumber l g i1 r19 ((x1 13 i1 r2.toNatClampNeg) + (x5 13 i1 r6.toNatClampNeg)) x18 _ _ h_i1 hq23) rfl (by first | exact ⟨by decide, by decide⟩ | exact ⟨by show _ ≤ _ + _; omega, by show _ ≤ _ + _; omega⟩) ⟨Nat.zero_le _, Nat.zero_le _⟩ hl.1 rfl (Nat.le_of_ble_eq_true rfl) dX4_reckon_39 (fun H locs hI hS => ?_)
  cases h
  exact w_aret C hI hS dX4_reckon_42
theorem k_X4_reckon (l : Launch) (g : gT) (i1 : Nat) (i2 : Nat) (x : st) (r : Nat) (x' : st) (h_i1 : i1 < 12) (h_i2 : gd g 18 i2) (h : f_X4_reckon i1 i2 x = some (r, x')) : Kt l yX4_reckon cX4_reckon 5 (some (.object "StepBudgets$Outcome")) 1 23 g [.ref (ga g 1 0), .ref (ga g 12 i1), .ref (ga g 18 i2)] x (some (.ref (ge g r))) x' := by
  refine Kt.of (by decide) (fun p e s m below meth c C G hI => ?_)
  have hl := lv_entry ([.ref (ga g 1 0), .ref (ga g 12 i1), .ref (ga g 18 i2)]) (n := 5) (Nat.le_of_ble_eq_true rfl)
  rw [lg_entry_eq]
  generalize (lg_sl ([.ref (ga g 1 0), .ref (ga g 12 i1), .ref (ga g 18 i2)]) ++ List.replicate (5 - (lg_sl ([.ref (ga g 1 0), .ref (ga g 12 i1), .ref (ga g 18 i2)])).length) Slot.unset).toArray = ls at hl ⊢
  have hl : lv_has ls 5 [(0, .ref (ga g 1 0)), (1, .ref (ga g 12 i1)), (2, .ref (ga g 18 i2))] := hl
  exact w_X4_reckon C G i1 i2 x _ _ ls h_i1 h_i2 h hI va_S.rf hl
theorem mv_X4_reckon : mtV yX4_reckon RX4 cX4_reckon 5 (some (.object "StepBudgets$Outcome")) 2 := ⟨ki_X4_reckon, kl_X4_reckon, kI_X4, kc_X4_reckon, by decide +kernel⟩

/-! X4_divide -/
def f_X4_divide_b57 (s0 : Int32) (s1 : Int32) (s2 : Nat) (x : st) : Option (Nat × st) := bnd (f_X4_setNumber s2 s1 s0 x) fun r17 x16 => some (r17, x16)
set_option maxHeartbeats 4000000 in
set_option maxRecDepth 100000 in
theorem w_X4_divide_b57 {p : Program} {l : Launch} {e : Env} {s : State} {m : MethodId} {args : Array Value} {below : List Frame} {meth : Method} {c : Code} {g : gT} {r : Nat} {x' : st} (C : cxt p s m meth c args cX4_divide 5 RX4 (some (.object "StepBudgets$Outcome"))) (G : gst g s) (s0 : Int32) (s1 : Int32) (s2 : Nat) (x : st) (H : Heap) (locs : List Loc) (ls : Array Slot) (h_s2 : s2 < 12) (h : f_X4_divide_b57 s0 s1 s2 x = some (r, x')) (hI : wst g x H) (hS : va_S (zA (gz g)) s.heap H locs) (hl : lv_has ls 5 []) : W p l e (rmC 3 62) s m args below meth c H locs 0 0 (MQ below (Qx g (some (.ref (ge g r))) x') args s 0 0 (zA (gz g))) (F0 m 57 ls [.int s0, .int s1, .ref (ga g 12 s2), .ref (ga g 1 0)]) := by
  obtain ⟨hx, hb, hml, hown, hts, hlk, hrt⟩ := id C
  unfold f_X4_divide_b57 at h
  obtain ⟨r17, x16, hq18, h⟩ := bnd_some h
  refine w_callV (fr := 0) (lo := 0) C G hI hS 1 0 (hI.at1 rfl) (fcE_1 g _ _) rfl mv_X4_setNumber km_X4_216 [.ref (ga g 12 s2), .int s1, .int s0] (k_X4_setNumber l g s2 s1 s0 x _ _ h_s2 hq18) rfl (by first | exact ⟨by decide, by decide⟩ | exact ⟨by show _ ≤ _ + _; omega, by show _ ≤ _ + _; omega⟩) ⟨Nat.zero_le _, Nat.zero_le _⟩ hl.1 rfl (Nat.le_of_ble_eq_true rfl) dX4_divide_57 (fun H locs hI hS => ?_)
  cases h
  exact w_aret C hI hS dX4_divide_60
def f_X4_divide (i1 : Nat) (i2 : Nat) (x : st) : Option (Nat × st) := bnd (f_X0_b i2 x) fun r2 x1 => if inb r2 6 = true then bnd (f_X0_c i2 x1) fun r6 x5 => if inb r6 6 = true then if (x5 13 i1 r6.toNatClampNeg) = 0 then (bnd (f_X4_raise 1 x5) fun r18 x17 => some (r18, x17)) else (bnd (f_X0_a i2 x5) fun r10 x9 => bnd (f_X0_kind i2 x9) fun r13 x12 => if r13 = 4 then (if ¬ (x5 13 i1 r6.toNatClampNeg) = 0 then f_X4_divide_b57 ((x1 13 i1 r2.toNatClampNeg) / (x5 13 i1 r6.toNatClampNeg)) r10 i1 x12 else none) else (if ¬ (x5 13 i1 r6.toNatClampNeg) = 0 then f_X4_divide_b57 ((x1 13 i1 r2.toNatClampNeg) - (x1 13 i1 r2.toNatClampNeg) / (x5 13 i1 r6.toNatClampNeg) * (x5 13 i1 r6.toNatClampNeg)) r10 i1 x12 else none)) else none else none
set_option maxHeartbeats 4000000 in
set_option maxRecDepth 100000 in
theorem w_X4_divide {p : Program} {l : Launch} {e : Env} {s : State} {m : MethodId} {args : Array Value} {below : List Frame} {meth : Method} {c : Code} {g : gT} {r : Nat} {x' : st} (C : cxt p s m meth c args cX4_divide 5 RX4 (some (.object "StepBudgets$Outcome"))) (G : gst g s) (i1 : Nat) (i2 : Nat) (x : st) (H : Heap) (locs : List Loc) (ls : Array Slot) (h_i1 : i1 < 12) (h_i2 : gd g 18 i2) (h : f_X4_divide i1 i2 x = some (r, x')) (hI : wst g x H) (hS : va_S (zA (gz g)) s.heap H locs) (hl : lv_has ls 5 [(0, .ref (ga g 1 0)), (1, .ref (ga g 12 i1)), (2, .ref (ga g 18 i2))]) : W p l e (rmC 3 62) s m args below meth c H locs 0 0 (MQ below (Qx g (some (.ref (ge g r))) x') args s 0 0 (zA (gz g))) (F0 m 0 ls []) := by
  obtain ⟨hx, hb, hml, hown, hts, hlk, hrt⟩ := id C
  unfold f_X4_divide at h
  refine lv_aload_n hx hb dX4_divide_0 rfl (lv_at hl 1 rfl) ?_
  refine w_get C G hI 12 i1 (hI.at12 rfl h_i1) (fcE_12 g _ _) rfl in_X2 0 (by decide) kf_X4_176 (fun _ h => h) (v := .ref (ga g 13 i1)) rfl dX4_divide_1 ?_
  refine lv_aload_n hx hb dX4_divide_4 rfl (lv_at hl 2 rfl) ?_
  obtain ⟨r2, x1, hq3, h⟩ := bnd_some h
  refine w_callV (fr := 0) (lo := 0) C G hI hS 18 i2 h_i2 (fcE_18 g _ _) rfl mv_X0_b km_X4_213 [] (k_X0_b l g i2 x _ _ h_i2 hq3) rfl (by first | exact ⟨by decide, by decide⟩ | exact ⟨by show _ ≤ _ + _; omega, by show _ ≤ _ + _; omega⟩) ⟨Nat.zero_le _, Nat.zero_le _⟩ hl.1 rfl (Nat.le_of_ble_eq_true rfl) dX4_divide_5 (fun H locs hI hS => ?_)
  obtain ⟨hn4, h⟩ := need_t h
  refine w_iald C G hI 13 i1 (hI.at12 rfl h_i1) (fcA_13 g _ _) (inb_in hn4) dX4_divide_8 ?_
  refine lv_istore_n (lv' := [(3, .int (x1 13 i1 r2.toNatClampNeg)), (0, .ref (ga g 1 0)), (1, .ref (ga g 12 i1)), (2, .ref (ga g 18 i2))]) hx hb dX4_divide_9 rfl hl (by decide) rfl (fun ls hl => ?_)
  refine lv_aload_n hx hb dX4_divide_10 rfl (lv_at hl 2 rfl) ?_
  refine w_get C G hI 12 i1 (hI.at12 rfl h_i1) (fcE_12 g _ _) rfl in_X2 0 (by decide) kf_X4_176 (fun _ h => h) (v := .ref (ga g 13 i1)) rfl dX4_divide_11 ?_
  refine lv_aload_n hx hb dX4_divide_14 rfl (lv_at hl 3 rfl) ?_
  obtain ⟨r6, x5, hq7, h⟩ := bnd_some h
  refine w_callV (fr := 0) (lo := 0) C G hI hS 18 i2 h_i2 (fcE_18 g _ _) rfl mv_X0_c km_X4_247 [] (k_X0_c l g i2 x1 _ _ h_i2 hq7) rfl (by first | exact ⟨by decide, by decide⟩ | exact ⟨by show _ ≤ _ + _; omega, by show _ ≤ _ + _; omega⟩) ⟨Nat.zero_le _, Nat.zero_le _⟩ hl.1 rfl (Nat.le_of_ble_eq_true rfl) dX4_divide_15 (fun H locs hI hS => ?_)
  obtain ⟨hn8, h⟩ := need_t h
  refine w_iald C G hI 13 i1 (hI.at12 rfl h_i1) (fcA_13 g _ _) (inb_in hn8) dX4_divide_18 ?_
  refine lv_istore (lv' := [(4, .int (x5 13 i1 r6.toNatClampNeg)), (3, .int (x1 13 i1 r2.toNatClampNeg)), (0, .ref (ga g 1 0)), (1, .ref (ga g 12 i1)), (2, .ref (ga g 18 i2))]) hx hb dX4_divide_19 hl (by decide) rfl (fun ls hl => ?_)
  refine lv_iload hx hb dX4_divide_21 (lv_at hl 0 rfl) ?_
  refine lv_if_ne (tgt := 32) hx hb dX4_divide_23 (by decide) (fun hc => ?_) (fun hc => ?_)
  · replace h := ite_n hc h
    refine lv_aload_n hx hb dX4_divide_32 rfl (lv_at hl 2 rfl) ?_
    refine lv_aload_n hx hb dX4_divide_33 rfl (lv_at hl 3 rfl) ?_
    refine lv_aload_n hx hb dX4_divide_34 rfl (lv_at hl 4 rfl) ?_
    obtain ⟨r10, x9, hq11, h⟩ := bnd_some h
    refine w_callV (fr := 0) (lo := 0) C G hI hS 18 i2 h_i2 (fcE_18 g _ _) rfl mv_X0_a km_X4_210 [] (k_X0_a l g i2 x5 _ _ h_i2 hq11) rfl (by first | exact ⟨by decide, by decide⟩ | exact ⟨by show _ ≤ _ + _; omega, by show _ ≤ _ + _; omega⟩) ⟨Nat.zero_le _, Nat.zero_le _⟩ hl.1 rfl (Nat.le_of_ble_eq_true rfl) dX4_divide_35 (fun H locs hI hS => ?_)
    refine lv_aload_n hx hb dX4_divide_38 rfl (lv_at hl 4 rfl) ?_
    obtain ⟨r13, x12, hq14, h⟩ := bnd_some h
    refine w_callV (fr := 0) (lo := 0) C G hI hS 18 i2 h_i2 (fcE_18 g _ _) rfl mv_X0_kind km_X4_207 [] (k_X0_kind l g i2 x9 _ _ h_i2 hq14) rfl (by first | exact ⟨by decide, by decide⟩ | exact ⟨by show _ ≤ _ + _; omega, by show _ ≤ _ + _; omega⟩) ⟨Nat.zero_le _, Nat.zero_le _⟩ hl.1 rfl (Nat.le_of_ble_eq_true rfl) dX4_divide_39 (fun H locs hI hS => ?_)
    refine lv_iconst (v := 4) hx hb dX4_divide_42 (by decide) ?_
    refine lv_icmp_ne (tgt := 53) hx hb dX4_divide_43 (by decide) (fun hc => ?_) (fun hc => ?_)
    · replace h := ite_n hc h
      refine lv_iload_n hx hb dX4_divide_53 rfl (lv_at hl 1 rfl) ?_
      refine lv_iload hx hb dX4_divide_54 (lv_at hl 0 rfl) ?_
      obtain ⟨hn15, h⟩ := need_p h
      refine lv_irem hx hb dX4_divide_56 hn15 ?_
      exact w_X4_divide_b57 C G ((x1 13 i1 r2.toNatClampNeg) - (x1 13 i1 r2.toNatClampNeg) / (x5 13 i1 r6.toNatClampNeg) * (x5 13 i1 r6.toNatClampNeg)) r10 i1 x12 _ _ _ h_i1 h hI hS (lv_sub hl [] rfl)
    replace h := ite_y hc h
    refine lv_iload_n hx hb dX4_divide_46 rfl (lv_at hl 1 rfl) ?_
    refine lv_iload hx hb dX4_divide_47 (lv_at hl 0 rfl) ?_
    obtain ⟨hn16, h⟩ := need_p h
    refine lv_idiv hx hb dX4_divide_49 hn16 ?_
    refine lv_goto (tgt := 57) hx hb dX4_divide_50 (by decide) ?_
    exact w_X4_divide_b57 C G ((x1 13 i1 r2.toNatClampNeg) / (x5 13 i1 r6.toNatClampNeg)) r10 i1 x12 _ _ _ h_i1 h hI hS (lv_sub hl [] rfl)
  replace h := ite_y hc h
  refine lv_aload_n hx hb dX4_divide_26 rfl (lv_at hl 2 rfl) ?_
  refine lv_iconst (v := 1) hx hb dX4_divide_27 (by decide) ?_
  obtain ⟨r18, x17, hq19, h⟩ := bnd_some h
  refine w_callV (fr := 2) (lo := 40) C G hI hS 1 0 (hI.at1 rfl) (fcE_1 g _ _) rfl mv_X4_raise km_X4_94 [.int 1] (k_X4_raise l g 1 x5 _ _  hq19) rfl (by first | exact ⟨by decide, by decide⟩ | exact ⟨by show _ ≤ _ + _; omega, by show _ ≤ _ + _; omega⟩) ⟨Nat.zero_le _, Nat.zero_le _⟩ hl.1 rfl (Nat.le_of_ble_eq_true rfl) dX4_divide_28 (fun H locs hI hS => ?_)
  cases h
  exact w_aret C hI hS dX4_divide_31
theorem k_X4_divide (l : Launch) (g : gT) (i1 : Nat) (i2 : Nat) (x : st) (r : Nat) (x' : st) (h_i1 : i1 < 12) (h_i2 : gd g 18 i2) (h : f_X4_divide i1 i2 x = some (r, x')) : Kt l yX4_divide cX4_divide 5 (some (.object "StepBudgets$Outcome")) 3 62 g [.ref (ga g 1 0), .ref (ga g 12 i1), .ref (ga g 18 i2)] x (some (.ref (ge g r))) x' := by
  refine Kt.of (by decide) (fun p e s m below meth c C G hI => ?_)
  have hl := lv_entry ([.ref (ga g 1 0), .ref (ga g 12 i1), .ref (ga g 18 i2)]) (n := 5) (Nat.le_of_ble_eq_true rfl)
  rw [lg_entry_eq]
  generalize (lg_sl ([.ref (ga g 1 0), .ref (ga g 12 i1), .ref (ga g 18 i2)]) ++ List.replicate (5 - (lg_sl ([.ref (ga g 1 0), .ref (ga g 12 i1), .ref (ga g 18 i2)])).length) Slot.unset).toArray = ls at hl ⊢
  have hl : lv_has ls 5 [(0, .ref (ga g 1 0)), (1, .ref (ga g 12 i1)), (2, .ref (ga g 18 i2))] := hl
  exact w_X4_divide C G i1 i2 x _ _ ls h_i1 h_i2 h hI va_S.rf hl
theorem mv_X4_divide : mtV yX4_divide RX4 cX4_divide 5 (some (.object "StepBudgets$Outcome")) 2 := ⟨ki_X4_divide, kl_X4_divide, kI_X4, kc_X4_divide, by decide +kernel⟩

/-! X4_jump -/
def f_X4_jump_b26 (v1 : Nat) (v2 : Int32) (x : st) : Option (Nat × st) := lets (sx x 12 v1 4 v2) fun x1 => some (0, x1)
set_option maxHeartbeats 4000000 in
set_option maxRecDepth 100000 in
theorem w_X4_jump_b26 {p : Program} {l : Launch} {e : Env} {s : State} {m : MethodId} {args : Array Value} {below : List Frame} {meth : Method} {c : Code} {g : gT} {r : Nat} {x' : st} (C : cxt p s m meth c args cX4_jump 4 RX4 (some (.object "StepBudgets$Outcome"))) (G : gst g s) (v1 : Nat) (v2 : Int32) (x : st) (H : Heap) (locs : List Loc) (ls : Array Slot) (h_v1 : v1 < 12) (h : f_X4_jump_b26 v1 v2 x = some (r, x')) (hI : wst g x H) (hS : va_S (zA (gz g)) s.heap H locs) (hl : lv_has ls 4 [(1, .ref (ga g 12 v1)), (2, .int v2)]) : W p l e (rmC 2 42) s m args below meth c H locs 0 0 (MQ below (Qx g (some (.ref (ge g r))) x') args s 0 0 (zA (gz g))) (F0 m 26 ls []) := by
  obtain ⟨hx, hb, hml, hown, hts, hlk, hrt⟩ := id C
  unfold f_X4_jump_b26 at h
  refine lv_aload_n hx hb dX4_jump_26 rfl (lv_at hl 0 rfl) ?_
  refine lv_iload_n hx hb dX4_jump_27 rfl (lv_at hl 1 rfl) ?_
  refine w_put C G hI hS 12 v1 (hI.at12 rfl h_v1) rfl (fcE_12 g _ _) rfl in_X2 tyX2 tyX2_ok nmX2 4 (by decide) kf_X4_131 (fun _ h => h) rfl (ty := .int) (y := v2) (by decide +kernel) rfl rfl (Nat.le_of_ble_eq_true rfl) rfl dX4_jump_28 (fun H locs hI hS => ?_)
  obtain ⟨x1, e_x1, h⟩ := lets_some h
  rw [← e_x1] at hI
  refine w_out C G hS 0 (by decide) rfl kf_X4_84 dX4_jump_31 ?_
  cases h
  exact w_aret C hI hS dX4_jump_34
def f_X4_jump (i1 : Nat) (a2 : Int32) (x : st) : Option (Nat × st) := if (x 12 i1 3) < a2 then (f_X4_jump_b26 i1 a2 x) else (bnd (f_X5_count 1 x) fun r2 x1 => if r2 < 5 then if r2 = 0 then (f_X4_jump_b26 i1 a2 x1) else (some (r2, x1)) else none)
set_option maxHeartbeats 4000000 in
set_option maxRecDepth 100000 in
theorem w_X4_jump {p : Program} {l : Launch} {e : Env} {s : State} {m : MethodId} {args : Array Value} {below : List Frame} {meth : Method} {c : Code} {g : gT} {r : Nat} {x' : st} (C : cxt p s m meth c args cX4_jump 4 RX4 (some (.object "StepBudgets$Outcome"))) (G : gst g s) (i1 : Nat) (a2 : Int32) (x : st) (H : Heap) (locs : List Loc) (ls : Array Slot) (h_i1 : i1 < 12) (h : f_X4_jump i1 a2 x = some (r, x')) (hI : wst g x H) (hS : va_S (zA (gz g)) s.heap H locs) (hl : lv_has ls 4 [(0, .ref (ga g 1 0)), (1, .ref (ga g 12 i1)), (2, .int a2)]) : W p l e (rmC 2 42) s m args below meth c H locs 0 0 (MQ below (Qx g (some (.ref (ge g r))) x') args s 0 0 (zA (gz g))) (F0 m 0 ls []) := by
  obtain ⟨hx, hb, hml, hown, hts, hlk, hrt⟩ := id C
  unfold f_X4_jump at h
  refine lv_iload_n hx hb dX4_jump_0 rfl (lv_at hl 2 rfl) ?_
  refine lv_aload_n hx hb dX4_jump_1 rfl (lv_at hl 1 rfl) ?_
  refine w_get C G hI 12 i1 (hI.at12 rfl h_i1) (fcE_12 g _ _) rfl in_X2 3 (by decide) kf_X4_118 (fun _ h => h) (v := .int (x 12 i1 3)) rfl dX4_jump_2 ?_
  refine lv_icmp_gt (tgt := 26) hx hb dX4_jump_5 (by decide) (fun hc => ?_) (fun hc => ?_)
  · replace h := ite_y hc h
    exact w_X4_jump_b26 C G i1 a2 x _ _ _ h_i1 h hI hS (lv_sub hl [1, 2] rfl)
  replace h := ite_n hc h
  refine lv_aload_n hx hb dX4_jump_8 rfl (lv_at hl 0 rfl) ?_
  refine w_get C G hI 1 0 (hI.at1 rfl) (fcE_1 g _ _) rfl in_X4 1 (by decide) kf_X4_21 (fun _ h => h) (v := .ref (ga g 4 0)) rfl dX4_jump_9 ?_
  refine lv_iconst (v := 1) hx hb dX4_jump_12 (by decide) ?_
  obtain ⟨r2, x1, hq3, h⟩ := bnd_some h
  refine w_callV (fr := 1) (lo := 20) C G hI hS 4 0 (hI.at1 rfl) (fcE_4 g _ _) rfl mv_X5_count km_X4_91 [.int 1] (k_X5_count l g 1 x _ _  hq3) rfl (by first | exact ⟨by decide, by decide⟩ | exact ⟨by show _ ≤ _ + _; omega, by show _ ≤ _ + _; omega⟩) ⟨Nat.zero_le _, Nat.zero_le _⟩ hl.1 rfl (Nat.le_of_ble_eq_true rfl) dX4_jump_13 (fun H locs hI hS => ?_)
  refine lv_astore_n (lv' := [(3, .ref (ge g r2)), (0, .ref (ga g 1 0)), (1, .ref (ga g 12 i1)), (2, .int a2)]) hx hb dX4_jump_16 rfl hl (by decide) rfl (fun ls hl => ?_)
  refine lv_aload_n hx hb dX4_jump_17 rfl (lv_at hl 0 rfl) ?_
  refine w_out C G hS 0 (by decide) rfl kf_X4_84 dX4_jump_18 ?_
  obtain ⟨hn4, h⟩ := need_p h
  refine w_acmp_eq (tgt := 26) C G (a := r2) (b := 0) hn4 (by decide) dX4_jump_21 (by decide) (fun hc => ?_) (fun hc => ?_)
  · replace h := ite_y hc h
    exact w_X4_jump_b26 C G i1 a2 x1 _ _ _ h_i1 h hI hS (lv_sub hl [2, 3] rfl)
  replace h := ite_n hc h
  refine lv_aload_n hx hb dX4_jump_24 rfl (lv_at hl 0 rfl) ?_
  cases h
  exact w_aret C hI hS dX4_jump_25
theorem k_X4_jump (l : Launch) (g : gT) (i1 : Nat) (a2 : Int32) (x : st) (r : Nat) (x' : st) (h_i1 : i1 < 12) (h : f_X4_jump i1 a2 x = some (r, x')) : Kt l yX4_jump cX4_jump 4 (some (.object "StepBudgets$Outcome")) 2 42 g [.ref (ga g 1 0), .ref (ga g 12 i1), .int a2] x (some (.ref (ge g r))) x' := by
  refine Kt.of (by decide) (fun p e s m below meth c C G hI => ?_)
  have hl := lv_entry ([.ref (ga g 1 0), .ref (ga g 12 i1), .int a2]) (n := 4) (Nat.le_of_ble_eq_true rfl)
  rw [lg_entry_eq]
  generalize (lg_sl ([.ref (ga g 1 0), .ref (ga g 12 i1), .int a2]) ++ List.replicate (4 - (lg_sl ([.ref (ga g 1 0), .ref (ga g 12 i1), .int a2])).length) Slot.unset).toArray = ls at hl ⊢
  have hl : lv_has ls 4 [(0, .ref (ga g 1 0)), (1, .ref (ga g 12 i1)), (2, .int a2)] := hl
  exact w_X4_jump C G i1 a2 x _ _ ls h_i1 h hI va_S.rf hl
theorem mv_X4_jump : mtV yX4_jump RX4 cX4_jump 4 (some (.object "StepBudgets$Outcome")) 2 := ⟨ki_X4_jump, kl_X4_jump, kI_X4, kc_X4_jump, by decide +kernel⟩

/-! X4_newRow -/
def f_X4_newRow_b79 (s0 : Int32) (x : st) : Option (Nat × st) := bnd (f_X4_raise s0 x) fun r21 x20 => some (r21, x20)
set_option maxHeartbeats 4000000 in
set_option maxRecDepth 100000 in
theorem w_X4_newRow_b79 {p : Program} {l : Launch} {e : Env} {s : State} {m : MethodId} {args : Array Value} {below : List Frame} {meth : Method} {c : Code} {g : gT} {r : Nat} {x' : st} (C : cxt p s m meth c args cX4_newRow 6 RX4 (some (.object "StepBudgets$Outcome"))) (G : gst g s) (s0 : Int32) (x : st) (H : Heap) (locs : List Loc) (ls : Array Slot)  (h : f_X4_newRow_b79 s0 x = some (r, x')) (hI : wst g x H) (hS : va_S (zA (gz g)) s.heap H locs) (hl : lv_has ls 6 []) : W p l e (rmC 3 68) s m args below meth c H locs 0 0 (MQ below (Qx g (some (.ref (ge g r))) x') args s 0 0 (zA (gz g))) (F0 m 79 ls [.int s0, .ref (ga g 1 0)]) := by
  obtain ⟨hx, hb, hml, hown, hts, hlk, hrt⟩ := id C
  unfold f_X4_newRow_b79 at h
  obtain ⟨r21, x20, hq22, h⟩ := bnd_some h
  refine w_callV (fr := 2) (lo := 40) C G hI hS 1 0 (hI.at1 rfl) (fcE_1 g _ _) rfl mv_X4_raise km_X4_94 [.int s0] (k_X4_raise l g s0 x _ _  hq22) rfl (by first | exact ⟨by decide, by decide⟩ | exact ⟨by show _ ≤ _ + _; omega, by show _ ≤ _ + _; omega⟩) ⟨Nat.zero_le _, Nat.zero_le _⟩ hl.1 rfl (Nat.le_of_ble_eq_true rfl) dX4_newRow_79 (fun H locs hI hS => ?_)
  cases h
  exact w_aret C hI hS dX4_newRow_82
def f_X4_newRow_b46 (v1 : Nat) (v2 : Nat) (v3 : Int32) (v4 : Int32) (s0 : Int32) (x : st) : Option (Nat × st) := bnd (f_X5_count s0 x) fun r6 x5 => if r6 < 5 then if r6 = 0 then (if v4 = 0 then (if 0 ≤ v3 then (f_X4_newRow_b79 7 x5) else (f_X4_newRow_b79 6 x5)) else (bnd (f_X0_a v2 x5) fun r10 x9 => bnd (f_X0_b v2 x9) fun r13 x12 => bnd (f_X9_add r13 v3 x12) fun r16 x15 => if inb r10 3 = true then lets (sx x15 14 v1 r10.toNatClampNeg r16) fun x19 => some (0, x19) else none)) else (some (r6, x5)) else none
set_option maxHeartbeats 4000000 in
set_option maxRecDepth 100000 in
theorem w_X4_newRow_b46 {p : Program} {l : Launch} {e : Env} {s : State} {m : MethodId} {args : Array Value} {below : List Frame} {meth : Method} {c : Code} {g : gT} {r : Nat} {x' : st} (C : cxt p s m meth c args cX4_newRow 6 RX4 (some (.object "StepBudgets$Outcome"))) (G : gst g s) (v1 : Nat) (v2 : Nat) (v3 : Int32) (v4 : Int32) (s0 : Int32) (x : st) (H : Heap) (locs : List Loc) (ls : Array Slot) (h_v1 : v1 < 12) (h_v2 : gd g 18 v2) (h : f_X4_newRow_b46 v1 v2 v3 v4 s0 x = some (r, x')) (hI : wst g x H) (hS : va_S (zA (gz g)) s.heap H locs) (hl : lv_has ls 6 [(0, .ref (ga g 1 0)), (1, .ref (ga g 12 v1)), (2, .ref (ga g 18 v2)), (3, .int v3), (4, .int v4)]) : W p l e (rmC 3 68) s m args below meth c H locs 0 0 (MQ below (Qx g (some (.ref (ge g r))) x') args s 0 0 (zA (gz g))) (F0 m 46 ls [.int s0, .ref (ga g 4 0)]) := by
  obtain ⟨hx, hb, hml, hown, hts, hlk, hrt⟩ := id C
  unfold f_X4_newRow_b46 at h
  obtain ⟨r6, x5, hq7, h⟩ := bnd_some h
  refine w_callV (fr := 1) (lo := 20) C G hI hS 4 0 (hI.at1 rfl) (fcE_4 g _ _) rfl mv_X5_count km_X4_91 [.int s0] (k_X5_count l g s0 x _ _  hq7) rfl (by first | exact ⟨by decide, by decide⟩ | exact ⟨by show _ ≤ _ + _; omega, by show _ ≤ _ + _; omega⟩) ⟨Nat.zero_le _, Nat.zero_le _⟩ hl.1 rfl (Nat.le_of_ble_eq_true rfl) dX4_newRow_46 (fun H locs hI hS => ?_)
  refine lv_astore (lv' := [(5, .ref (ge g r6)), (0, .ref (ga g 1 0)), (1, .ref (ga g 12 v1)), (2, .ref (ga g 18 v2)), (3, .int v3), (4, .int v4)]) hx hb dX4_newRow_49 hl (by decide) rfl (fun ls hl => ?_)
  refine lv_aload hx hb dX4_newRow_51 (lv_at hl 0 rfl) ?_
  refine w_out C G hS 0 (by decide) rfl kf_X4_84 dX4_newRow_53 ?_
  obtain ⟨hn8, h⟩ := need_p h
  refine w_acmp_eq (tgt := 62) C G (a := r6) (b := 0) hn8 (by decide) dX4_newRow_56 (by decide) (fun hc => ?_) (fun hc => ?_)
  · replace h := ite_y hc h
    refine lv_iload hx hb dX4_newRow_62 (lv_at hl 5 rfl) ?_
    refine lv_if_ne (tgt := 83) hx hb dX4_newRow_64 (by decide) (fun hc => ?_) (fun hc => ?_)
    · replace h := ite_n hc h
      refine lv_aload_n hx hb dX4_newRow_83 rfl (lv_at hl 2 rfl) ?_
      refine w_get C G hI 12 v1 (hI.at12 rfl h_v1) (fcE_12 g _ _) rfl in_X2 1 (by decide) kf_X4_198 (fun _ h => h) (v := .ref (ga g 14 v1)) rfl dX4_newRow_84 ?_
      refine lv_aload_n hx hb dX4_newRow_87 rfl (lv_at hl 3 rfl) ?_
      obtain ⟨r10, x9, hq11, h⟩ := bnd_some h
      refine w_callV (fr := 0) (lo := 0) C G hI hS 18 v2 h_v2 (fcE_18 g _ _) rfl mv_X0_a km_X4_210 [] (k_X0_a l g v2 x5 _ _ h_v2 hq11) rfl (by first | exact ⟨by decide, by decide⟩ | exact ⟨by show _ ≤ _ + _; omega, by show _ ≤ _ + _; omega⟩) ⟨Nat.zero_le _, Nat.zero_le _⟩ hl.1 rfl (Nat.le_of_ble_eq_true rfl) dX4_newRow_88 (fun H locs hI hS => ?_)
      refine lv_aload_n hx hb dX4_newRow_91 rfl (lv_at hl 1 rfl) ?_
      refine w_get C G hI 1 0 (hI.at1 rfl) (fcE_1 g _ _) rfl in_X4 3 (by decide) kf_X4_34 (fun _ h => h) (v := .ref (ga g 5 0)) rfl dX4_newRow_92 ?_
      refine lv_aload_n hx hb dX4_newRow_95 rfl (lv_at hl 3 rfl) ?_
      obtain ⟨r13, x12, hq14, h⟩ := bnd_some h
      refine w_callV (fr := 0) (lo := 0) C G hI hS 18 v2 h_v2 (fcE_18 g _ _) rfl mv_X0_b km_X4_213 [] (k_X0_b l g v2 x9 _ _ h_v2 hq14) rfl (by first | exact ⟨by decide, by decide⟩ | exact ⟨by show _ ≤ _ + _; omega, by show _ ≤ _ + _; omega⟩) ⟨Nat.zero_le _, Nat.zero_le _⟩ hl.1 rfl (Nat.le_of_ble_eq_true rfl) dX4_newRow_96 (fun H locs hI hS => ?_)
      refine lv_iload_n hx hb dX4_newRow_99 rfl (lv_at hl 4 rfl) ?_
      obtain ⟨r16, x15, hq17, h⟩ := bnd_some h
      refine w_callV (fr := 2) (lo := 46) C G hI hS 5 0 (hI.at1 rfl) (fcE_5 g _ _) rfl mv_X9_add km_X4_250 [.int r13, .int v3] (k_X9_add l g r13 v3 x12 _ _  hq17) rfl (by first | exact ⟨by decide, by decide⟩ | exact ⟨by show _ ≤ _ + _; omega, by show _ ≤ _ + _; omega⟩) ⟨Nat.zero_le _, Nat.zero_le _⟩ hl.1 rfl (Nat.le_of_ble_eq_true rfl) dX4_newRow_100 (fun H locs hI hS => ?_)
      obtain ⟨hn18, h⟩ := need_t h
      refine w_iast C G hI hS 14 v1 (hI.at12 rfl h_v1) rfl (fcA_14 g _) (y := r16) (inb_in hn18) dX4_newRow_103 (fun H locs hI hS => ?_)
      obtain ⟨x19, e_x19, h⟩ := lets_some h
      rw [← e_x19] at hI
      refine w_out C G hS 0 (by decide) rfl kf_X4_84 dX4_newRow_104 ?_
      cases h
      exact w_aret C hI hS dX4_newRow_107
    replace h := ite_y hc h
    refine lv_aload_n hx hb dX4_newRow_67 rfl (lv_at hl 1 rfl) ?_
    refine lv_iload_n hx hb dX4_newRow_68 rfl (lv_at hl 4 rfl) ?_
    refine lv_if_ge (tgt := 77) hx hb dX4_newRow_69 (by decide) (fun hc => ?_) (fun hc => ?_)
    · replace h := ite_y hc h
      refine lv_bipush (v := 7) hx hb dX4_newRow_77 (by decide) ?_
      exact w_X4_newRow_b79 C G 7 x5 _ _ _  h hI hS (lv_sub hl [] rfl)
    replace h := ite_n hc h
    refine lv_bipush (v := 6) hx hb dX4_newRow_72 (by decide) ?_
    refine lv_goto (tgt := 79) hx hb dX4_newRow_74 (by decide) ?_
    exact w_X4_newRow_b79 C G 6 x5 _ _ _  h hI hS (lv_sub hl [] rfl)
  replace h := ite_n hc h
  refine lv_aload hx hb dX4_newRow_59 (lv_at hl 0 rfl) ?_
  cases h
  exact w_aret C hI hS dX4_newRow_61
def f_X4_newRow_b25 (v1 : Nat) (v2 : Nat) (v3 : Int32) (s0 : Int32) (x : st) : Option (Nat × st) := if s0 = 0 then (f_X4_newRow_b46 v1 v2 v3 s0 1 x) else (f_X4_newRow_b46 v1 v2 v3 s0 (1 + (v3 / 8)) x)
set_option maxHeartbeats 4000000 in
set_option maxRecDepth 100000 in
theorem w_X4_newRow_b25 {p : Program} {l : Launch} {e : Env} {s : State} {m : MethodId} {args : Array Value} {below : List Frame} {meth : Method} {c : Code} {g : gT} {r : Nat} {x' : st} (C : cxt p s m meth c args cX4_newRow 6 RX4 (some (.object "StepBudgets$Outcome"))) (G : gst g s) (v1 : Nat) (v2 : Nat) (v3 : Int32) (s0 : Int32) (x : st) (H : Heap) (locs : List Loc) (ls : Array Slot) (h_v1 : v1 < 12) (h_v2 : gd g 18 v2) (h : f_X4_newRow_b25 v1 v2 v3 s0 x = some (r, x')) (hI : wst g x H) (hS : va_S (zA (gz g)) s.heap H locs) (hl : lv_has ls 6 [(0, .ref (ga g 1 0)), (1, .ref (ga g 12 v1)), (2, .ref (ga g 18 v2)), (3, .int v3)]) : W p l e (rmC 3 68) s m args below meth c H locs 0 0 (MQ below (Qx g (some (.ref (ge g r))) x') args s 0 0 (zA (gz g))) (F0 m 25 ls [.int s0]) := by
  obtain ⟨hx, hb, hml, hown, hts, hlk, hrt⟩ := id C
  unfold f_X4_newRow_b25 at h
  refine lv_istore (lv' := [(4, .int s0), (0, .ref (ga g 1 0)), (1, .ref (ga g 12 v1)), (2, .ref (ga g 18 v2)), (3, .int v3)]) hx hb dX4_newRow_25 hl (by decide) rfl (fun ls hl => ?_)
  refine lv_aload_n hx hb dX4_newRow_27 rfl (lv_at hl 1 rfl) ?_
  refine w_get C G hI 1 0 (hI.at1 rfl) (fcE_1 g _ _) rfl in_X4 1 (by decide) kf_X4_21 (fun _ h => h) (v := .ref (ga g 4 0)) rfl dX4_newRow_28 ?_
  refine lv_iload hx hb dX4_newRow_31 (lv_at hl 0 rfl) ?_
  refine lv_if_eq (tgt := 45) hx hb dX4_newRow_33 (by decide) (fun hc => ?_) (fun hc => ?_)
  · replace h := ite_y hc h
    refine lv_iconst (v := 1) hx hb dX4_newRow_45 (by decide) ?_
    exact w_X4_newRow_b46 C G v1 v2 v3 s0 1 x _ _ _ h_v1 h_v2 h hI hS (lv_sub hl [1, 2, 3, 4, 0] rfl)
  replace h := ite_n hc h
  refine lv_iconst (v := 1) hx hb dX4_newRow_36 (by decide) ?_
  refine lv_iload_n hx hb dX4_newRow_37 rfl (lv_at hl 4 rfl) ?_
  refine lv_bipush (v := 8) hx hb dX4_newRow_38 (by decide) ?_
  refine lv_idiv hx hb dX4_newRow_40 (by decide) ?_
  refine lv_iadd hx hb dX4_newRow_41 ?_
  refine lv_goto (tgt := 46) hx hb dX4_newRow_42 (by decide) ?_
  exact w_X4_newRow_b46 C G v1 v2 v3 s0 (1 + (v3 / 8)) x _ _ _ h_v1 h_v2 h hI hS (lv_sub hl [1, 2, 3, 4, 0] rfl)
def f_X4_newRow_b24 (v1 : Nat) (v2 : Nat) (v3 : Int32) (x : st) : Option (Nat × st) := f_X4_newRow_b25 v1 v2 v3 0 x
set_option maxHeartbeats 4000000 in
set_option maxRecDepth 100000 in
theorem w_X4_newRow_b24 {p : Program} {l : Launch} {e : Env} {s : State} {m : MethodId} {args : Array Value} {below : List Frame} {meth : Method} {c : Code} {g : gT} {r : Nat} {x' : st} (C : cxt p s m meth c args cX4_newRow 6 RX4 (some (.object "StepBudgets$Outcome"))) (G : gst g s) (v1 : Nat) (v2 : Nat) (v3 : Int32) (x : st) (H : Heap) (locs : List Loc) (ls : Array Slot) (h_v1 : v1 < 12) (h_v2 : gd g 18 v2) (h : f_X4_newRow_b24 v1 v2 v3 x = some (r, x')) (hI : wst g x H) (hS : va_S (zA (gz g)) s.heap H locs) (hl : lv_has ls 6 [(0, .ref (ga g 1 0)), (1, .ref (ga g 12 v1)), (2, .ref (ga g 18 v2)), (3, .int v3)]) : W p l e (rmC 3 68) s m args below meth c H locs 0 0 (MQ below (Qx g (some (.ref (ge g r))) x') args s 0 0 (zA (gz g))) (F0 m 24 ls []) := by
  obtain ⟨hx, hb, hml, hown, hts, hlk, hrt⟩ := id C
  unfold f_X4_newRow_b24 at h
  refine lv_iconst (v := 0) hx hb dX4_newRow_24 (by decide) ?_
  exact w_X4_newRow_b25 C G v1 v2 v3 0 x _ _ _ h_v1 h_v2 h hI hS (lv_sub hl [0, 1, 2, 3] rfl)
def f_X4_newRow (i1 : Nat) (i2 : Nat) (x : st) : Option (Nat × st) := bnd (f_X0_c i2 x) fun r2 x1 => if inb r2 6 = true then if (x1 13 i1 r2.toNatClampNeg) < 0 then (f_X4_newRow_b24 i1 i2 (x1 13 i1 r2.toNatClampNeg) x1) else (if 64 < (x1 13 i1 r2.toNatClampNeg) then (f_X4_newRow_b24 i1 i2 (x1 13 i1 r2.toNatClampNeg) x1) else (f_X4_newRow_b25 i1 i2 (x1 13 i1 r2.toNatClampNeg) 1 x1)) else none
set_option maxHeartbeats 4000000 in
set_option maxRecDepth 100000 in
theorem w_X4_newRow {p : Program} {l : Launch} {e : Env} {s : State} {m : MethodId} {args : Array Value} {below : List Frame} {meth : Method} {c : Code} {g : gT} {r : Nat} {x' : st} (C : cxt p s m meth c args cX4_newRow 6 RX4 (some (.object "StepBudgets$Outcome"))) (G : gst g s) (i1 : Nat) (i2 : Nat) (x : st) (H : Heap) (locs : List Loc) (ls : Array Slot) (h_i1 : i1 < 12) (h_i2 : gd g 18 i2) (h : f_X4_newRow i1 i2 x = some (r, x')) (hI : wst g x H) (hS : va_S (zA (gz g)) s.heap H locs) (hl : lv_has ls 6 [(0, .ref (ga g 1 0)), (1, .ref (ga g 12 i1)), (2, .ref (ga g 18 i2))]) : W p l e (rmC 3 68) s m args below meth c H locs 0 0 (MQ below (Qx g (some (.ref (ge g r))) x') args s 0 0 (zA (gz g))) (F0 m 0 ls []) := by
  obtain ⟨hx, hb, hml, hown, hts, hlk, hrt⟩ := id C
  unfold f_X4_newRow at h
  refine lv_aload_n hx hb dX4_newRow_0 rfl (lv_at hl 1 rfl) ?_
  refine w_get C G hI 12 i1 (hI.at12 rfl h_i1) (fcE_12 g _ _) rfl in_X2 0 (by decide) kf_X4_176 (fun _ h => h) (v := .ref (ga g 13 i1)) rfl dX4_newRow_1 ?_
  refine lv_aload_n hx hb dX4_newRow_4 rfl (lv_at hl 2 rfl) ?_
  obtain ⟨r2, x1, hq3, h⟩ := bnd_some h
  refine w_callV (fr := 0) (lo := 0) C G hI hS 18 i2 h_i2 (fcE_18 g _ _) rfl mv_X0_c km_X4_247 [] (k_X0_c l g i2 x _ _ h_i2 hq3) rfl (by first | exact ⟨by decide, by decide⟩ | exact ⟨by show _ ≤ _ + _; omega, by show _ ≤ _ + _; omega⟩) ⟨Nat.zero_le _, Nat.zero_le _⟩ hl.1 rfl (Nat.le_of_ble_eq_true rfl) dX4_newRow_5 (fun H locs hI hS => ?_)
  obtain ⟨hn4, h⟩ := need_t h
  refine w_iald C G hI 13 i1 (hI.at12 rfl h_i1) (fcA_13 g _ _) (inb_in hn4) dX4_newRow_8 ?_
  refine lv_istore_n (lv' := [(3, .int (x1 13 i1 r2.toNatClampNeg)), (0, .ref (ga g 1 0)), (1, .ref (ga g 12 i1)), (2, .ref (ga g 18 i2))]) hx hb dX4_newRow_9 rfl hl (by decide) rfl (fun ls hl => ?_)
  refine lv_iload_n hx hb dX4_newRow_10 rfl (lv_at hl 0 rfl) ?_
  refine lv_if_lt (tgt := 24) hx hb dX4_newRow_11 (by decide) (fun hc => ?_) (fun hc => ?_)
  · replace h := ite_y hc h
    exact w_X4_newRow_b24 C G i1 i2 (x1 13 i1 r2.toNatClampNeg) x1 _ _ _ h_i1 h_i2 h hI hS (lv_sub hl [1, 2, 3, 0] rfl)
  replace h := ite_n hc h
  refine lv_iload_n hx hb dX4_newRow_14 rfl (lv_at hl 0 rfl) ?_
  refine lv_bipush (v := 64) hx hb dX4_newRow_15 (by decide) ?_
  refine lv_icmp_gt (tgt := 24) hx hb dX4_newRow_17 (by decide) (fun hc => ?_) (fun hc => ?_)
  · replace h := ite_y hc h
    exact w_X4_newRow_b24 C G i1 i2 (x1 13 i1 r2.toNatClampNeg) x1 _ _ _ h_i1 h_i2 h hI hS (lv_sub hl [1, 2, 3, 0] rfl)
  replace h := ite_n hc h
  refine lv_iconst (v := 1) hx hb dX4_newRow_20 (by decide) ?_
  refine lv_goto (tgt := 25) hx hb dX4_newRow_21 (by decide) ?_
  exact w_X4_newRow_b25 C G i1 i2 (x1 13 i1 r2.toNatClampNeg) 1 x1 _ _ _ h_i1 h_i2 h hI hS (lv_sub hl [1, 2, 3, 0] rfl)
theorem k_X4_newRow (l : Launch) (g : gT) (i1 : Nat) (i2 : Nat) (x : st) (r : Nat) (x' : st) (h_i1 : i1 < 12) (h_i2 : gd g 18 i2) (h : f_X4_newRow i1 i2 x = some (r, x')) : Kt l yX4_newRow cX4_newRow 6 (some (.object "StepBudgets$Outcome")) 3 68 g [.ref (ga g 1 0), .ref (ga g 12 i1), .ref (ga g 18 i2)] x (some (.ref (ge g r))) x' := by
  refine Kt.of (by decide) (fun p e s m below meth c C G hI => ?_)
  have hl := lv_entry ([.ref (ga g 1 0), .ref (ga g 12 i1), .ref (ga g 18 i2)]) (n := 6) (Nat.le_of_ble_eq_true rfl)
  rw [lg_entry_eq]
  generalize (lg_sl ([.ref (ga g 1 0), .ref (ga g 12 i1), .ref (ga g 18 i2)]) ++ List.replicate (6 - (lg_sl ([.ref (ga g 1 0), .ref (ga g 12 i1), .ref (ga g 18 i2)])).length) Slot.unset).toArray = ls at hl ⊢
  have hl : lv_has ls 6 [(0, .ref (ga g 1 0)), (1, .ref (ga g 12 i1)), (2, .ref (ga g 18 i2))] := hl
  exact w_X4_newRow C G i1 i2 x _ _ ls h_i1 h_i2 h hI va_S.rf hl
theorem mv_X4_newRow : mtV yX4_newRow RX4 cX4_newRow 6 (some (.object "StepBudgets$Outcome")) 2 := ⟨ki_X4_newRow, kl_X4_newRow, kI_X4, kc_X4_newRow, by decide +kernel⟩

/-! X4_putPlace -/
def f_X4_putPlace (i1 : Nat) (i2 : Nat) (x : st) : Option (Nat × st) := bnd (f_X0_a i2 x) fun r2 x1 => if inb r2 3 = true then bnd (f_X0_c i2 x1) fun r6 x5 => if inb r6 6 = true then bnd (f_X0_b i2 x5) fun r10 x9 => bnd (f_X9_placeFault (x1 14 i1 r2.toNatClampNeg) r10 (x5 13 i1 r6.toNatClampNeg) x9) fun r13 x12 => if r13 = 0 then (bnd (f_X0_d i2 x12) fun r16 x15 => if inb r16 6 = true then bnv (f_X9_put (x1 14 i1 r2.toNatClampNeg) (x5 13 i1 r6.toNatClampNeg) (x15 13 i1 r16.toNatClampNeg) x15) fun x19 => some (0, x19) else none) else (bnd (f_X4_raise r13 x12) fun r23 x22 => some (r23, x22)) else none else none
set_option maxHeartbeats 4000000 in
set_option maxRecDepth 100000 in
theorem w_X4_putPlace {p : Program} {l : Launch} {e : Env} {s : State} {m : MethodId} {args : Array Value} {below : List Frame} {meth : Method} {c : Code} {g : gT} {r : Nat} {x' : st} (C : cxt p s m meth c args cX4_putPlace 6 RX4 (some (.object "StepBudgets$Outcome"))) (G : gst g s) (i1 : Nat) (i2 : Nat) (x : st) (H : Heap) (locs : List Loc) (ls : Array Slot) (h_i1 : i1 < 12) (h_i2 : gd g 18 i2) (h : f_X4_putPlace i1 i2 x = some (r, x')) (hI : wst g x H) (hS : va_S (zA (gz g)) s.heap H locs) (hl : lv_has ls 6 [(0, .ref (ga g 1 0)), (1, .ref (ga g 12 i1)), (2, .ref (ga g 18 i2))]) : W p l e (rmC 3 65) s m args below meth c H locs 0 0 (MQ below (Qx g (some (.ref (ge g r))) x') args s 0 0 (zA (gz g))) (F0 m 0 ls []) := by
  obtain ⟨hx, hb, hml, hown, hts, hlk, hrt⟩ := id C
  unfold f_X4_putPlace at h
  refine lv_aload_n hx hb dX4_putPlace_0 rfl (lv_at hl 1 rfl) ?_
  refine w_get C G hI 12 i1 (hI.at12 rfl h_i1) (fcE_12 g _ _) rfl in_X2 1 (by decide) kf_X4_198 (fun _ h => h) (v := .ref (ga g 14 i1)) rfl dX4_putPlace_1 ?_
  refine lv_aload_n hx hb dX4_putPlace_4 rfl (lv_at hl 2 rfl) ?_
  obtain ⟨r2, x1, hq3, h⟩ := bnd_some h
  refine w_callV (fr := 0) (lo := 0) C G hI hS 18 i2 h_i2 (fcE_18 g _ _) rfl mv_X0_a km_X4_210 [] (k_X0_a l g i2 x _ _ h_i2 hq3) rfl (by first | exact ⟨by decide, by decide⟩ | exact ⟨by show _ ≤ _ + _; omega, by show _ ≤ _ + _; omega⟩) ⟨Nat.zero_le _, Nat.zero_le _⟩ hl.1 rfl (Nat.le_of_ble_eq_true rfl) dX4_putPlace_5 (fun H locs hI hS => ?_)
  obtain ⟨hn4, h⟩ := need_t h
  refine w_iald C G hI 14 i1 (hI.at12 rfl h_i1) (fcA_14 g _ _) (inb_in hn4) dX4_putPlace_8 ?_
  refine lv_istore_n (lv' := [(3, .int (x1 14 i1 r2.toNatClampNeg)), (0, .ref (ga g 1 0)), (1, .ref (ga g 12 i1)), (2, .ref (ga g 18 i2))]) hx hb dX4_putPlace_9 rfl hl (by decide) rfl (fun ls hl => ?_)
  refine lv_aload_n hx hb dX4_putPlace_10 rfl (lv_at hl 2 rfl) ?_
  refine w_get C G hI 12 i1 (hI.at12 rfl h_i1) (fcE_12 g _ _) rfl in_X2 0 (by decide) kf_X4_176 (fun _ h => h) (v := .ref (ga g 13 i1)) rfl dX4_putPlace_11 ?_
  refine lv_aload_n hx hb dX4_putPlace_14 rfl (lv_at hl 3 rfl) ?_
  obtain ⟨r6, x5, hq7, h⟩ := bnd_some h
  refine w_callV (fr := 0) (lo := 0) C G hI hS 18 i2 h_i2 (fcE_18 g _ _) rfl mv_X0_c km_X4_247 [] (k_X0_c l g i2 x1 _ _ h_i2 hq7) rfl (by first | exact ⟨by decide, by decide⟩ | exact ⟨by show _ ≤ _ + _; omega, by show _ ≤ _ + _; omega⟩) ⟨Nat.zero_le _, Nat.zero_le _⟩ hl.1 rfl (Nat.le_of_ble_eq_true rfl) dX4_putPlace_15 (fun H locs hI hS => ?_)
  obtain ⟨hn8, h⟩ := need_t h
  refine w_iald C G hI 13 i1 (hI.at12 rfl h_i1) (fcA_13 g _ _) (inb_in hn8) dX4_putPlace_18 ?_
  refine lv_istore (lv' := [(4, .int (x5 13 i1 r6.toNatClampNeg)), (3, .int (x1 14 i1 r2.toNatClampNeg)), (0, .ref (ga g 1 0)), (1, .ref (ga g 12 i1)), (2, .ref (ga g 18 i2))]) hx hb dX4_putPlace_19 hl (by decide) rfl (fun ls hl => ?_)
  refine lv_aload_n hx hb dX4_putPlace_21 rfl (lv_at hl 2 rfl) ?_
  refine w_get C G hI 1 0 (hI.at1 rfl) (fcE_1 g _ _) rfl in_X4 3 (by decide) kf_X4_34 (fun _ h => h) (v := .ref (ga g 5 0)) rfl dX4_putPlace_22 ?_
  refine lv_iload_n hx hb dX4_putPlace_25 rfl (lv_at hl 1 rfl) ?_
  refine lv_aload_n hx hb dX4_putPlace_26 rfl (lv_at hl 4 rfl) ?_
  obtain ⟨r10, x9, hq11, h⟩ := bnd_some h
  refine w_callV (fr := 0) (lo := 0) C G hI hS 18 i2 h_i2 (fcE_18 g _ _) rfl mv_X0_b km_X4_213 [] (k_X0_b l g i2 x5 _ _ h_i2 hq11) rfl (by first | exact ⟨by decide, by decide⟩ | exact ⟨by show _ ≤ _ + _; omega, by show _ ≤ _ + _; omega⟩) ⟨Nat.zero_le _, Nat.zero_le _⟩ hl.1 rfl (Nat.le_of_ble_eq_true rfl) dX4_putPlace_27 (fun H locs hI hS => ?_)
  refine lv_iload hx hb dX4_putPlace_30 (lv_at hl 0 rfl) ?_
  obtain ⟨r13, x12, hq14, h⟩ := bnd_some h
  refine w_callV (fr := 2) (lo := 42) C G hI hS 5 0 (hI.at1 rfl) (fcE_5 g _ _) rfl mv_X9_placeFault km_X4_253 [.int (x1 14 i1 r2.toNatClampNeg), .int r10, .int (x5 13 i1 r6.toNatClampNeg)] (k_X9_placeFault l g (x1 14 i1 r2.toNatClampNeg) r10 (x5 13 i1 r6.toNatClampNeg) x9 _ _  hq14) rfl (by first | exact ⟨by decide, by decide⟩ | exact ⟨by show _ ≤ _ + _; omega, by show _ ≤ _ + _; omega⟩) ⟨Nat.zero_le _, Nat.zero_le _⟩ hl.1 rfl (Nat.le_of_ble_eq_true rfl) dX4_putPlace_32 (fun H locs hI hS => ?_)
  refine lv_istore (lv' := [(5, .int r13), (4, .int (x5 13 i1 r6.toNatClampNeg)), (3, .int (x1 14 i1 r2.toNatClampNeg)), (0, .ref (ga g 1 0)), (1, .ref (ga g 12 i1)), (2, .ref (ga g 18 i2))]) hx hb dX4_putPlace_35 hl (by decide) rfl (fun ls hl => ?_)
  refine lv_iload hx hb dX4_putPlace_37 (lv_at hl 0 rfl) ?_
  refine lv_if_eq (tgt := 49) hx hb dX4_putPlace_39 (by decide) (fun hc => ?_) (fun hc => ?_)
  · replace h := ite_y hc h
    refine lv_aload_n hx hb dX4_putPlace_49 rfl (lv_at hl 3 rfl) ?_
    refine w_get C G hI 1 0 (hI.at1 rfl) (fcE_1 g _ _) rfl in_X4 3 (by decide) kf_X4_34 (fun _ h => h) (v := .ref (ga g 5 0)) rfl dX4_putPlace_50 ?_
    refine lv_iload_n hx hb dX4_putPlace_53 rfl (lv_at hl 2 rfl) ?_
    refine lv_iload hx hb dX4_putPlace_54 (lv_at hl 1 rfl) ?_
    refine lv_aload_n hx hb dX4_putPlace_56 rfl (lv_at hl 4 rfl) ?_
    refine w_get C G hI 12 i1 (hI.at12 rfl h_i1) (fcE_12 g _ _) rfl in_X2 0 (by decide) kf_X4_176 (fun _ h => h) (v := .ref (ga g 13 i1)) rfl dX4_putPlace_57 ?_
    refine lv_aload_n hx hb dX4_putPlace_60 rfl (lv_at hl 5 rfl) ?_
    obtain ⟨r16, x15, hq17, h⟩ := bnd_some h
    refine w_callV (fr := 0) (lo := 0) C G hI hS 18 i2 h_i2 (fcE_18 g _ _) rfl mv_X0_d km_X4_257 [] (k_X0_d l g i2 x12 _ _ h_i2 hq17) rfl (by first | exact ⟨by decide, by decide⟩ | exact ⟨by show _ ≤ _ + _; omega, by show _ ≤ _ + _; omega⟩) ⟨Nat.zero_le _, Nat.zero_le _⟩ hl.1 rfl (Nat.le_of_ble_eq_true rfl) dX4_putPlace_61 (fun H locs hI hS => ?_)
    obtain ⟨hn18, h⟩ := need_t h
    refine w_iald C G hI 13 i1 (hI.at12 rfl h_i1) (fcA_13 g _ _) (inb_in hn18) dX4_putPlace_64 ?_
    obtain ⟨x19, hq21, h⟩ := bnv_some h
    refine w_callV (fr := 0) (lo := 0) C G hI hS 5 0 (hI.at1 rfl) (fcE_5 g _ _) rfl mv_X9_put km_X4_260 [.int (x1 14 i1 r2.toNatClampNeg), .int (x5 13 i1 r6.toNatClampNeg), .int (x15 13 i1 r16.toNatClampNeg)] (k_X9_put l g (x1 14 i1 r2.toNatClampNeg) (x5 13 i1 r6.toNatClampNeg) (x15 13 i1 r16.toNatClampNeg) x15 _  hq21) rfl (by first | exact ⟨by decide, by decide⟩ | exact ⟨by show _ ≤ _ + _; omega, by show _ ≤ _ + _; omega⟩) ⟨Nat.zero_le _, Nat.zero_le _⟩ hl.1 rfl (Nat.le_of_ble_eq_true rfl) dX4_putPlace_65 (fun H locs hI hS => ?_)
    refine w_out C G hS 0 (by decide) rfl kf_X4_84 dX4_putPlace_68 ?_
    cases h
    exact w_aret C hI hS dX4_putPlace_71
  replace h := ite_n hc h
  refine lv_aload_n hx hb dX4_putPlace_42 rfl (lv_at hl 3 rfl) ?_
  refine lv_iload hx hb dX4_putPlace_43 (lv_at hl 0 rfl) ?_
  obtain ⟨r23, x22, hq24, h⟩ := bnd_some h
  refine w_callV (fr := 2) (lo := 40) C G hI hS 1 0 (hI.at1 rfl) (fcE_1 g _ _) rfl mv_X4_raise km_X4_94 [.int r13] (k_X4_raise l g r13 x12 _ _  hq24) rfl (by first | exact ⟨by decide, by decide⟩ | exact ⟨by show _ ≤ _ + _; omega, by show _ ≤ _ + _; omega⟩) ⟨Nat.zero_le _, Nat.zero_le _⟩ hl.1 rfl (Nat.le_of_ble_eq_true rfl) dX4_putPlace_45 (fun H locs hI hS => ?_)
  cases h
  exact w_aret C hI hS dX4_putPlace_48
theorem k_X4_putPlace (l : Launch) (g : gT) (i1 : Nat) (i2 : Nat) (x : st) (r : Nat) (x' : st) (h_i1 : i1 < 12) (h_i2 : gd g 18 i2) (h : f_X4_putPlace i1 i2 x = some (r, x')) : Kt l yX4_putPlace cX4_putPlace 6 (some (.object "StepBudgets$Outcome")) 3 65 g [.ref (ga g 1 0), .ref (ga g 12 i1), .ref (ga g 18 i2)] x (some (.ref (ge g r))) x' := by
  refine Kt.of (by decide) (fun p e s m below meth c C G hI => ?_)
  have hl := lv_entry ([.ref (ga g 1 0), .ref (ga g 12 i1), .ref (ga g 18 i2)]) (n := 6) (Nat.le_of_ble_eq_true rfl)
  rw [lg_entry_eq]
  generalize (lg_sl ([.ref (ga g 1 0), .ref (ga g 12 i1), .ref (ga g 18 i2)]) ++ List.replicate (6 - (lg_sl ([.ref (ga g 1 0), .ref (ga g 12 i1), .ref (ga g 18 i2)])).length) Slot.unset).toArray = ls at hl ⊢
  have hl : lv_has ls 6 [(0, .ref (ga g 1 0)), (1, .ref (ga g 12 i1)), (2, .ref (ga g 18 i2))] := hl
  exact w_X4_putPlace C G i1 i2 x _ _ ls h_i1 h_i2 h hI va_S.rf hl
theorem mv_X4_putPlace : mtV yX4_putPlace RX4 cX4_putPlace 6 (some (.object "StepBudgets$Outcome")) 2 := ⟨ki_X4_putPlace, kl_X4_putPlace, kI_X4, kc_X4_putPlace, by decide +kernel⟩

/-! X4_getPlace -/
def f_X4_getPlace (i1 : Nat) (i2 : Nat) (x : st) : Option (Nat × st) := bnd (f_X0_b i2 x) fun r2 x1 => if inb r2 3 = true then bnd (f_X0_d i2 x1) fun r6 x5 => if inb r6 6 = true then bnd (f_X0_c i2 x5) fun r10 x9 => bnd (f_X9_placeFault (x1 14 i1 r2.toNatClampNeg) r10 (x5 13 i1 r6.toNatClampNeg) x9) fun r13 x12 => if r13 = 0 then (bnd (f_X0_a i2 x12) fun r16 x15 => bnd (f_X9_get (x1 14 i1 r2.toNatClampNeg) (x5 13 i1 r6.toNatClampNeg) x15) fun r19 x18 => bnd (f_X4_setNumber i1 r16 r19 x18) fun r22 x21 => some (r22, x21)) else (bnd (f_X4_raise r13 x12) fun r25 x24 => some (r25, x24)) else none else none
set_option maxHeartbeats 4000000 in
set_option maxRecDepth 100000 in
theorem w_X4_getPlace {p : Program} {l : Launch} {e : Env} {s : State} {m : MethodId} {args : Array Value} {below : List Frame} {meth : Method} {c : Code} {g : gT} {r : Nat} {x' : st} (C : cxt p s m meth c args cX4_getPlace 6 RX4 (some (.object "StepBudgets$Outcome"))) (G : gst g s) (i1 : Nat) (i2 : Nat) (x : st) (H : Heap) (locs : List Loc) (ls : Array Slot) (h_i1 : i1 < 12) (h_i2 : gd g 18 i2) (h : f_X4_getPlace i1 i2 x = some (r, x')) (hI : wst g x H) (hS : va_S (zA (gz g)) s.heap H locs) (hl : lv_has ls 6 [(0, .ref (ga g 1 0)), (1, .ref (ga g 12 i1)), (2, .ref (ga g 18 i2))]) : W p l e (rmC 3 65) s m args below meth c H locs 0 0 (MQ below (Qx g (some (.ref (ge g r))) x') args s 0 0 (zA (gz g))) (F0 m 0 ls []) := by
  obtain ⟨hx, hb, hml, hown, hts, hlk, hrt⟩ := id C
  unfold f_X4_getPlace at h
  refine lv_aload_n hx hb dX4_getPlace_0 rfl (lv_at hl 1 rfl) ?_
  refine w_get C G hI 12 i1 (hI.at12 rfl h_i1) (fcE_12 g _ _) rfl in_X2 1 (by decide) kf_X4_198 (fun _ h => h) (v := .ref (ga g 14 i1)) rfl dX4_getPlace_1 ?_
  refine lv_aload_n hx hb dX4_getPlace_4 rfl (lv_at hl 2 rfl) ?_
  obtain ⟨r2, x1, hq3, h⟩ := bnd_some h
  refine w_callV (fr := 0) (lo := 0) C G hI hS 18 i2 h_i2 (fcE_18 g _ _) rfl mv_X0_b km_X4_213 [] (k_X0_b l g i2 x _ _ h_i2 hq3) rfl (by first | exact ⟨by decide, by decide⟩ | exact ⟨by show _ ≤ _ + _; omega, by show _ ≤ _ + _; omega⟩) ⟨Nat.zero_le _, Nat.zero_le _⟩ hl.1 rfl (Nat.le_of_ble_eq_true rfl) dX4_getPlace_5 (fun H locs hI hS => ?_)
  obtain ⟨hn4, h⟩ := need_t h
  refine w_iald C G hI 14 i1 (hI.at12 rfl h_i1) (fcA_14 g _ _) (inb_in hn4) dX4_getPlace_8 ?_
  refine lv_istore_n (lv' := [(3, .int (x1 14 i1 r2.toNatClampNeg)), (0, .ref (ga g 1 0)), (1, .ref (ga g 12 i1)), (2, .ref (ga g 18 i2))]) hx hb dX4_getPlace_9 rfl hl (by decide) rfl (fun ls hl => ?_)
  refine lv_aload_n hx hb dX4_getPlace_10 rfl (lv_at hl 2 rfl) ?_
  refine w_get C G hI 12 i1 (hI.at12 rfl h_i1) (fcE_12 g _ _) rfl in_X2 0 (by decide) kf_X4_176 (fun _ h => h) (v := .ref (ga g 13 i1)) rfl dX4_getPlace_11 ?_
  refine lv_aload_n hx hb dX4_getPlace_14 rfl (lv_at hl 3 rfl) ?_
  obtain ⟨r6, x5, hq7, h⟩ := bnd_some h
  refine w_callV (fr := 0) (lo := 0) C G hI hS 18 i2 h_i2 (fcE_18 g _ _) rfl mv_X0_d km_X4_257 [] (k_X0_d l g i2 x1 _ _ h_i2 hq7) rfl (by first | exact ⟨by decide, by decide⟩ | exact ⟨by show _ ≤ _ + _; omega, by show _ ≤ _ + _; omega⟩) ⟨Nat.zero_le _, Nat.zero_le _⟩ hl.1 rfl (Nat.le_of_ble_eq_true rfl) dX4_getPlace_15 (fun H locs hI hS => ?_)
  obtain ⟨hn8, h⟩ := need_t h
  refine w_iald C G hI 13 i1 (hI.at12 rfl h_i1) (fcA_13 g _ _) (inb_in hn8) dX4_getPlace_18 ?_
  refine lv_istore (lv' := [(4, .int (x5 13 i1 r6.toNatClampNeg)), (3, .int (x1 14 i1 r2.toNatClampNeg)), (0, .ref (ga g 1 0)), (1, .ref (ga g 12 i1)), (2, .ref (ga g 18 i2))]) hx hb dX4_getPlace_19 hl (by decide) rfl (fun ls hl => ?_)
  refine lv_aload_n hx hb dX4_getPlace_21 rfl (lv_at hl 2 rfl) ?_
  refine w_get C G hI 1 0 (hI.at1 rfl) (fcE_1 g _ _) rfl in_X4 3 (by decide) kf_X4_34 (fun _ h => h) (v := .ref (ga g 5 0)) rfl dX4_getPlace_22 ?_
  refine lv_iload_n hx hb dX4_getPlace_25 rfl (lv_at hl 1 rfl) ?_
  refine lv_aload_n hx hb dX4_getPlace_26 rfl (lv_at hl 4 rfl) ?_
  obtain ⟨r10, x9, hq11, h⟩ := bnd_some h
  refine w_callV (fr := 0) (lo := 0) C G hI hS 18 i2 h_i2 (fcE_18 g _ _) rfl mv_X0_c km_X4_247 [] (k_X0_c l g i2 x5 _ _ h_i2 hq11) rfl (by first | exact ⟨by decide, by decide⟩ | exact ⟨by show _ ≤ _ + _; omega, by show _ ≤ _ + _; omega⟩) ⟨Nat.zero_le _, Nat.zero_le _⟩ hl.1 rfl (Nat.le_of_ble_eq_true rfl) dX4_getPlace_27 (fun H locs hI hS => ?_)
  refine lv_iload hx hb dX4_getPlace_30 (lv_at hl 0 rfl) ?_
  obtain ⟨r13, x12, hq14, h⟩ := bnd_some h
  refine w_callV (fr := 2) (lo := 42) C G hI hS 5 0 (hI.at1 rfl) (fcE_5 g _ _) rfl mv_X9_placeFault km_X4_253 [.int (x1 14 i1 r2.toNatClampNeg), .int r10, .int (x5 13 i1 r6.toNatClampNeg)] (k_X9_placeFault l g (x1 14 i1 r2.toNatClampNeg) r10 (x5 13 i1 r6.toNatClampNeg) x9 _ _  hq14) rfl (by first | exact ⟨by decide, by decide⟩ | exact ⟨by show _ ≤ _ + _; omega, by show _ ≤ _ + _; omega⟩) ⟨Nat.zero_le _, Nat.zero_le _⟩ hl.1 rfl (Nat.le_of_ble_eq_true rfl) dX4_getPlace_32 (fun H locs hI hS => ?_)
  refine lv_istore (lv' := [(5, .int r13), (4, .int (x5 13 i1 r6.toNatClampNeg)), (3, .int (x1 14 i1 r2.toNatClampNeg)), (0, .ref (ga g 1 0)), (1, .ref (ga g 12 i1)), (2, .ref (ga g 18 i2))]) hx hb dX4_getPlace_35 hl (by decide) rfl (fun ls hl => ?_)
  refine lv_iload hx hb dX4_getPlace_37 (lv_at hl 0 rfl) ?_
  refine lv_if_eq (tgt := 51) hx hb dX4_getPlace_39 (by decide) (fun hc => ?_) (fun hc => ?_)
  · replace h := ite_y hc h
    refine lv_aload_n hx hb dX4_getPlace_51 rfl (lv_at hl 3 rfl) ?_
    refine lv_aload_n hx hb dX4_getPlace_52 rfl (lv_at hl 4 rfl) ?_
    refine lv_aload_n hx hb dX4_getPlace_53 rfl (lv_at hl 5 rfl) ?_
    obtain ⟨r16, x15, hq17, h⟩ := bnd_some h
    refine w_callV (fr := 0) (lo := 0) C G hI hS 18 i2 h_i2 (fcE_18 g _ _) rfl mv_X0_a km_X4_210 [] (k_X0_a l g i2 x12 _ _ h_i2 hq17) rfl (by first | exact ⟨by decide, by decide⟩ | exact ⟨by show _ ≤ _ + _; omega, by show _ ≤ _ + _; omega⟩) ⟨Nat.zero_le _, Nat.zero_le _⟩ hl.1 rfl (Nat.le_of_ble_eq_true rfl) dX4_getPlace_54 (fun H locs hI hS => ?_)
    refine lv_aload_n hx hb dX4_getPlace_57 rfl (lv_at hl 3 rfl) ?_
    refine w_get C G hI 1 0 (hI.at1 rfl) (fcE_1 g _ _) rfl in_X4 3 (by decide) kf_X4_34 (fun _ h => h) (v := .ref (ga g 5 0)) rfl dX4_getPlace_58 ?_
    refine lv_iload_n hx hb dX4_getPlace_61 rfl (lv_at hl 2 rfl) ?_
    refine lv_iload hx hb dX4_getPlace_62 (lv_at hl 1 rfl) ?_
    obtain ⟨r19, x18, hq20, h⟩ := bnd_some h
    refine w_callV (fr := 0) (lo := 0) C G hI hS 5 0 (hI.at1 rfl) (fcE_5 g _ _) rfl mv_X9_get km_X4_263 [.int (x1 14 i1 r2.toNatClampNeg), .int (x5 13 i1 r6.toNatClampNeg)] (k_X9_get l g (x1 14 i1 r2.toNatClampNeg) (x5 13 i1 r6.toNatClampNeg) x15 _ _  hq20) rfl (by first | exact ⟨by decide, by decide⟩ | exact ⟨by show _ ≤ _ + _; omega, by show _ ≤ _ + _; omega⟩) ⟨Nat.zero_le _, Nat.zero_le _⟩ hl.1 rfl (Nat.le_of_ble_eq_true rfl) dX4_getPlace_64 (fun H locs hI hS => ?_)
    obtain ⟨r22, x21, hq23, h⟩ := bnd_some h
    refine w_callV (fr := 0) (lo := 0) C G hI hS 1 0 (hI.at1 rfl) (fcE_1 g _ _) rfl mv_X4_setNumber km_X4_216 [.ref (ga g 12 i1), .int r16, .int r19] (k_X4_setNumber l g i1 r16 r19 x18 _ _ h_i1 hq23) rfl (by first | exact ⟨by decide, by decide⟩ | exact ⟨by show _ ≤ _ + _; omega, by show _ ≤ _ + _; omega⟩) ⟨Nat.zero_le _, Nat.zero_le _⟩ hl.1 rfl (Nat.le_of_ble_eq_true rfl) dX4_getPlace_67 (fun H locs hI hS => ?_)
    cases h
    exact w_aret C hI hS dX4_getPlace_70
  replace h := ite_n hc h
  refine lv_aload_n hx hb dX4_getPlace_42 rfl (lv_at hl 3 rfl) ?_
  refine lv_iload hx hb dX4_getPlace_43 (lv_at hl 0 rfl) ?_
  obtain ⟨r25, x24, hq26, h⟩ := bnd_some h
  refine w_callV (fr := 2) (lo := 40) C G hI hS 1 0 (hI.at1 rfl) (fcE_1 g _ _) rfl mv_X4_raise km_X4_94 [.int r13] (k_X4_raise l g r13 x12 _ _  hq26) rfl (by first | exact ⟨by decide, by decide⟩ | exact ⟨by show _ ≤ _ + _; omega, by show _ ≤ _ + _; omega⟩) ⟨Nat.zero_le _, Nat.zero_le _⟩ hl.1 rfl (Nat.le_of_ble_eq_true rfl) dX4_getPlace_45 (fun H locs hI hS => ?_)
  refine lv_goto (tgt := 70) hx hb dX4_getPlace_48 (by decide) ?_
  cases h
  exact w_aret C hI hS dX4_getPlace_70
theorem k_X4_getPlace (l : Launch) (g : gT) (i1 : Nat) (i2 : Nat) (x : st) (r : Nat) (x' : st) (h_i1 : i1 < 12) (h_i2 : gd g 18 i2) (h : f_X4_getPlace i1 i2 x = some (r, x')) : Kt l yX4_getPlace cX4_getPlace 6 (some (.object "StepBudgets$Outcome")) 3 65 g [.ref (ga g 1 0), .ref (ga g 12 i1), .ref (ga g 18 i2)] x (some (.ref (ge g r))) x' := by
  refine Kt.of (by decide) (fun p e s m below meth c C G hI => ?_)
  have hl := lv_entry ([.ref (ga g 1 0), .ref (ga g 12 i1), .ref (ga g 18 i2)]) (n := 6) (Nat.le_of_ble_eq_true rfl)
  rw [lg_entry_eq]
  generalize (lg_sl ([.ref (ga g 1 0), .ref (ga g 12 i1), .ref (ga g 18 i2)]) ++ List.replicate (6 - (lg_sl ([.ref (ga g 1 0), .ref (ga g 12 i1), .ref (ga g 18 i2)])).length) Slot.unset).toArray = ls at hl ⊢
  have hl : lv_has ls 6 [(0, .ref (ga g 1 0)), (1, .ref (ga g 12 i1)), (2, .ref (ga g 18 i2))] := hl
  exact w_X4_getPlace C G i1 i2 x _ _ ls h_i1 h_i2 h hI va_S.rf hl
theorem mv_X4_getPlace : mtV yX4_getPlace RX4 cX4_getPlace 6 (some (.object "StepBudgets$Outcome")) 2 := ⟨ki_X4_getPlace, kl_X4_getPlace, kI_X4, kc_X4_getPlace, by decide +kernel⟩

/-! X4_tellSize -/
def f_X4_tellSize (i1 : Nat) (i2 : Nat) (x : st) : Option (Nat × st) := bnd (f_X0_b i2 x) fun r2 x1 => if inb r2 3 = true then bnd (f_X9_size (x1 14 i1 r2.toNatClampNeg) x1) fun r6 x5 => if r6 = (-3) then (bnd (f_X4_raise 2 x5) fun r15 x14 => some (r15, x14)) else (bnd (f_X0_a i2 x5) fun r9 x8 => bnd (f_X4_setNumber i1 r9 r6 x8) fun r12 x11 => some (r12, x11)) else none
set_option maxHeartbeats 4000000 in
set_option maxRecDepth 100000 in
theorem w_X4_tellSize {p : Program} {l : Launch} {e : Env} {s : State} {m : MethodId} {args : Array Value} {below : List Frame} {meth : Method} {c : Code} {g : gT} {r : Nat} {x' : st} (C : cxt p s m meth c args cX4_tellSize 4 RX4 (some (.object "StepBudgets$Outcome"))) (G : gst g s) (i1 : Nat) (i2 : Nat) (x : st) (H : Heap) (locs : List Loc) (ls : Array Slot) (h_i1 : i1 < 12) (h_i2 : gd g 18 i2) (h : f_X4_tellSize i1 i2 x = some (r, x')) (hI : wst g x H) (hS : va_S (zA (gz g)) s.heap H locs) (hl : lv_has ls 4 [(0, .ref (ga g 1 0)), (1, .ref (ga g 12 i1)), (2, .ref (ga g 18 i2))]) : W p l e (rmC 3 63) s m args below meth c H locs 0 0 (MQ below (Qx g (some (.ref (ge g r))) x') args s 0 0 (zA (gz g))) (F0 m 0 ls []) := by
  obtain ⟨hx, hb, hml, hown, hts, hlk, hrt⟩ := id C
  unfold f_X4_tellSize at h
  refine lv_aload_n hx hb dX4_tellSize_0 rfl (lv_at hl 0 rfl) ?_
  refine w_get C G hI 1 0 (hI.at1 rfl) (fcE_1 g _ _) rfl in_X4 3 (by decide) kf_X4_34 (fun _ h => h) (v := .ref (ga g 5 0)) rfl dX4_tellSize_1 ?_
  refine lv_aload_n hx hb dX4_tellSize_4 rfl (lv_at hl 1 rfl) ?_
  refine w_get C G hI 12 i1 (hI.at12 rfl h_i1) (fcE_12 g _ _) rfl in_X2 1 (by decide) kf_X4_198 (fun _ h => h) (v := .ref (ga g 14 i1)) rfl dX4_tellSize_5 ?_
  refine lv_aload_n hx hb dX4_tellSize_8 rfl (lv_at hl 2 rfl) ?_
  obtain ⟨r2, x1, hq3, h⟩ := bnd_some h
  refine w_callV (fr := 0) (lo := 0) C G hI hS 18 i2 h_i2 (fcE_18 g _ _) rfl mv_X0_b km_X4_213 [] (k_X0_b l g i2 x _ _ h_i2 hq3) rfl (by first | exact ⟨by decide, by decide⟩ | exact ⟨by show _ ≤ _ + _; omega, by show _ ≤ _ + _; omega⟩) ⟨Nat.zero_le _, Nat.zero_le _⟩ hl.1 rfl (Nat.le_of_ble_eq_true rfl) dX4_tellSize_9 (fun H locs hI hS => ?_)
  obtain ⟨hn4, h⟩ := need_t h
  refine w_iald C G hI 14 i1 (hI.at12 rfl h_i1) (fcA_14 g _ _) (inb_in hn4) dX4_tellSize_12 ?_
  obtain ⟨r6, x5, hq7, h⟩ := bnd_some h
  refine w_callV (fr := 2) (lo := 42) C G hI hS 5 0 (hI.at1 rfl) (fcE_5 g _ _) rfl mv_X9_size km_X4_265 [.int (x1 14 i1 r2.toNatClampNeg)] (k_X9_size l g (x1 14 i1 r2.toNatClampNeg) x1 _ _  hq7) rfl (by first | exact ⟨by decide, by decide⟩ | exact ⟨by show _ ≤ _ + _; omega, by show _ ≤ _ + _; omega⟩) ⟨Nat.zero_le _, Nat.zero_le _⟩ hl.1 rfl (Nat.le_of_ble_eq_true rfl) dX4_tellSize_13 (fun H locs hI hS => ?_)
  refine lv_istore_n (lv' := [(3, .int r6), (0, .ref (ga g 1 0)), (1, .ref (ga g 12 i1)), (2, .ref (ga g 18 i2))]) hx hb dX4_tellSize_16 rfl hl (by decide) rfl (fun ls hl => ?_)
  refine lv_iload_n hx hb dX4_tellSize_17 rfl (lv_at hl 0 rfl) ?_
  refine lv_bipush (v := (-3)) hx hb dX4_tellSize_18 (by decide) ?_
  refine lv_icmp_ne (tgt := 31) hx hb dX4_tellSize_20 (by decide) (fun hc => ?_) (fun hc => ?_)
  · replace h := ite_n hc h
    refine lv_aload_n hx hb dX4_tellSize_31 rfl (lv_at hl 1 rfl) ?_
    refine lv_aload_n hx hb dX4_tellSize_32 rfl (lv_at hl 2 rfl) ?_
    refine lv_aload_n hx hb dX4_tellSize_33 rfl (lv_at hl 3 rfl) ?_
    obtain ⟨r9, x8, hq10, h⟩ := bnd_some h
    refine w_callV (fr := 0) (lo := 0) C G hI hS 18 i2 h_i2 (fcE_18 g _ _) rfl mv_X0_a km_X4_210 [] (k_X0_a l g i2 x5 _ _ h_i2 hq10) rfl (by first | exact ⟨by decide, by decide⟩ | exact ⟨by show _ ≤ _ + _; omega, by show _ ≤ _ + _; omega⟩) ⟨Nat.zero_le _, Nat.zero_le _⟩ hl.1 rfl (Nat.le_of_ble_eq_true rfl) dX4_tellSize_34 (fun H locs hI hS => ?_)
    refine lv_iload_n hx hb dX4_tellSize_37 rfl (lv_at hl 0 rfl) ?_
    obtain ⟨r12, x11, hq13, h⟩ := bnd_some h
    refine w_callV (fr := 0) (lo := 0) C G hI hS 1 0 (hI.at1 rfl) (fcE_1 g _ _) rfl mv_X4_setNumber km_X4_216 [.ref (ga g 12 i1), .int r9, .int r6] (k_X4_setNumber l g i1 r9 r6 x8 _ _ h_i1 hq13) rfl (by first | exact ⟨by decide, by decide⟩ | exact ⟨by show _ ≤ _ + _; omega, by show _ ≤ _ + _; omega⟩) ⟨Nat.zero_le _, Nat.zero_le _⟩ hl.1 rfl (Nat.le_of_ble_eq_true rfl) dX4_tellSize_38 (fun H locs hI hS => ?_)
    cases h
    exact w_aret C hI hS dX4_tellSize_41
  replace h := ite_y hc h
  refine lv_aload_n hx hb dX4_tellSize_23 rfl (lv_at hl 1 rfl) ?_
  refine lv_iconst (v := 2) hx hb dX4_tellSize_24 (by decide) ?_
  obtain ⟨r15, x14, hq16, h⟩ := bnd_some h
  refine w_callV (fr := 2) (lo := 40) C G hI hS 1 0 (hI.at1 rfl) (fcE_1 g _ _) rfl mv_X4_raise km_X4_94 [.int 2] (k_X4_raise l g 2 x5 _ _  hq16) rfl (by first | exact ⟨by decide, by decide⟩ | exact ⟨by show _ ≤ _ + _; omega, by show _ ≤ _ + _; omega⟩) ⟨Nat.zero_le _, Nat.zero_le _⟩ hl.1 rfl (Nat.le_of_ble_eq_true rfl) dX4_tellSize_25 (fun H locs hI hS => ?_)
  refine lv_goto (tgt := 41) hx hb dX4_tellSize_28 (by decide) ?_
  cases h
  exact w_aret C hI hS dX4_tellSize_41
theorem k_X4_tellSize (l : Launch) (g : gT) (i1 : Nat) (i2 : Nat) (x : st) (r : Nat) (x' : st) (h_i1 : i1 < 12) (h_i2 : gd g 18 i2) (h : f_X4_tellSize i1 i2 x = some (r, x')) : Kt l yX4_tellSize cX4_tellSize 4 (some (.object "StepBudgets$Outcome")) 3 63 g [.ref (ga g 1 0), .ref (ga g 12 i1), .ref (ga g 18 i2)] x (some (.ref (ge g r))) x' := by
  refine Kt.of (by decide) (fun p e s m below meth c C G hI => ?_)
  have hl := lv_entry ([.ref (ga g 1 0), .ref (ga g 12 i1), .ref (ga g 18 i2)]) (n := 4) (Nat.le_of_ble_eq_true rfl)
  rw [lg_entry_eq]
  generalize (lg_sl ([.ref (ga g 1 0), .ref (ga g 12 i1), .ref (ga g 18 i2)]) ++ List.replicate (4 - (lg_sl ([.ref (ga g 1 0), .ref (ga g 12 i1), .ref (ga g 18 i2)])).length) Slot.unset).toArray = ls at hl ⊢
  have hl : lv_has ls 4 [(0, .ref (ga g 1 0)), (1, .ref (ga g 12 i1)), (2, .ref (ga g 18 i2))] := hl
  exact w_X4_tellSize C G i1 i2 x _ _ ls h_i1 h_i2 h hI va_S.rf hl
theorem mv_X4_tellSize : mtV yX4_tellSize RX4 cX4_tellSize 4 (some (.object "StepBudgets$Outcome")) 2 := ⟨ki_X4_tellSize, kl_X4_tellSize, kI_X4, kc_X4_tellSize, by decide +kernel⟩

/-! X4_copyPlaces -/
def f_X4_copyPlaces (i1 : Nat) (i2 : Nat) (x : st) : Option (Nat × st) := bnd (f_X0_a i2 x) fun r2 x1 => if inb r2 3 = true then bnd (f_X0_b i2 x1) fun r6 x5 => if inb r6 3 = true then bnd (f_X0_c i2 x5) fun r10 x9 => if inb r10 6 = true then bnd (f_X9_copyFault (x1 14 i1 r2.toNatClampNeg) (x5 14 i1 r6.toNatClampNeg) (x9 13 i1 r10.toNatClampNeg) x9) fun r14 x13 => if r14 = 0 then (bnv (f_X9_copy (x1 14 i1 r2.toNatClampNeg) (x5 14 i1 r6.toNatClampNeg) (x9 13 i1 r10.toNatClampNeg) x13) fun x16 => some (0, x16)) else (bnd (f_X4_raise r14 x13) fun r20 x19 => some (r20, x19)) else none else none else none
set_option maxHeartbeats 4000000 in
set_option maxRecDepth 100000 in
theorem w_X4_copyPlaces {p : Program} {l : Launch} {e : Env} {s : State} {m : MethodId} {args : Array Value} {below : List Frame} {meth : Method} {c : Code} {g : gT} {r : Nat} {x' : st} (C : cxt p s m meth c args cX4_copyPlaces 7 RX4 (some (.object "StepBudgets$Outcome"))) (G : gst g s) (i1 : Nat) (i2 : Nat) (x : st) (H : Heap) (locs : List Loc) (ls : Array Slot) (h_i1 : i1 < 12) (h_i2 : gd g 18 i2) (h : f_X4_copyPlaces i1 i2 x = some (r, x')) (hI : wst g x H) (hS : va_S (zA (gz g)) s.heap H locs) (hl : lv_has ls 7 [(0, .ref (ga g 1 0)), (1, .ref (ga g 12 i1)), (2, .ref (ga g 18 i2))]) : W p l e (rmC 3 123) s m args below meth c H locs 0 0 (MQ below (Qx g (some (.ref (ge g r))) x') args s 0 0 (zA (gz g))) (F0 m 0 ls []) := by
  obtain ⟨hx, hb, hml, hown, hts, hlk, hrt⟩ := id C
  unfold f_X4_copyPlaces at h
  refine lv_aload_n hx hb dX4_copyPlaces_0 rfl (lv_at hl 1 rfl) ?_
  refine w_get C G hI 12 i1 (hI.at12 rfl h_i1) (fcE_12 g _ _) rfl in_X2 1 (by decide) kf_X4_198 (fun _ h => h) (v := .ref (ga g 14 i1)) rfl dX4_copyPlaces_1 ?_
  refine lv_aload_n hx hb dX4_copyPlaces_4 rfl (lv_at hl 2 rfl) ?_
  obtain ⟨r2, x1, hq3, h⟩ := bnd_some h
  refine w_callV (fr := 0) (lo := 0) C G hI hS 18 i2 h_i2 (fcE_18 g _ _) rfl mv_X0_a km_X4_210 [] (k_X0_a l g i2 x _ _ h_i2 hq3) rfl (by first | exact ⟨by decide, by decide⟩ | exact ⟨by show _ ≤ _ + _; omega, by show _ ≤ _ + _; omega⟩) ⟨Nat.zero_le _, Nat.zero_le _⟩ hl.1 rfl (Nat.le_of_ble_eq_true rfl) dX4_copyPlaces_5 (fun H locs hI hS => ?_)
  obtain ⟨hn4, h⟩ := need_t h
  refine w_iald C G hI 14 i1 (hI.at12 rfl h_i1) (fcA_14 g _ _) (inb_in hn4) dX4_copyPlaces_8 ?_
  refine lv_istore_n (lv' := [(3, .int (x1 14 i1 r2.toNatClampNeg)), (0, .ref (ga g 1 0)), (1, .ref (ga g 12 i1)), (2, .ref (ga g 18 i2))]) hx hb dX4_copyPlaces_9 rfl hl (by decide) rfl (fun ls hl => ?_)
  refine lv_aload_n hx hb dX4_copyPlaces_10 rfl (lv_at hl 2 rfl) ?_
  refine w_get C G hI 12 i1 (hI.at12 rfl h_i1) (fcE_12 g _ _) rfl in_X2 1 (by decide) kf_X4_198 (fun _ h => h) (v := .ref (ga g 14 i1)) rfl dX4_copyPlaces_11 ?_
  refine lv_aload_n hx hb dX4_copyPlaces_14 rfl (lv_at hl 3 rfl) ?_
  obtain ⟨r6, x5, hq7, h⟩ := bnd_some h
  refine w_callV (fr := 0) (lo := 0) C G hI hS 18 i2 h_i2 (fcE_18 g _ _) rfl mv_X0_b km_X4_213 [] (k_X0_b l g i2 x1 _ _ h_i2 hq7) rfl (by first | exact ⟨by decide, by decide⟩ | exact ⟨by show _ ≤ _ + _; omega, by show _ ≤ _ + _; omega⟩) ⟨Nat.zero_le _, Nat.zero_le _⟩ hl.1 rfl (Nat.le_of_ble_eq_true rfl) dX4_copyPlaces_15 (fun H locs hI hS => ?_)
  obtain ⟨hn8, h⟩ := need_t h
  refine w_iald C G hI 14 i1 (hI.at12 rfl h_i1) (fcA_14 g _ _) (inb_in hn8) dX4_copyPlaces_18 ?_
  refine lv_istore (lv' := [(4, .int (x5 14 i1 r6.toNatClampNeg)), (3, .int (x1 14 i1 r2.toNatClampNeg)), (0, .ref (ga g 1 0)), (1, .ref (ga g 12 i1)), (2, .ref (ga g 18 i2))]) hx hb dX4_copyPlaces_19 hl (by decide) rfl (fun ls hl => ?_)
  refine lv_aload_n hx hb dX4_copyPlaces_21 rfl (lv_at hl 3 rfl) ?_
  refine w_get C G hI 12 i1 (hI.at12 rfl h_i1) (fcE_12 g _ _) rfl in_X2 0 (by decide) kf_X4_176 (fun _ h => h) (v := .ref (ga g 13 i1)) rfl dX4_copyPlaces_22 ?_
  refine lv_aload_n hx hb dX4_copyPlaces_25 rfl (lv_at hl 4 rfl) ?_
  obtain ⟨r10, x9, hq11, h⟩ := bnd_some h
  refine w_callV (fr := 0) (lo := 0) C G hI hS 18 i2 h_i2 (fcE_18 g _ _) rfl mv_X0_c km_X4_247 [] (k_X0_c l g i2 x5 _ _ h_i2 hq11) rfl (by first | exact ⟨by decide, by decide⟩ | exact ⟨by show _ ≤ _ + _; omega, by show _ ≤ _ + _; omega⟩) ⟨Nat.zero_le _, Nat.zero_le _⟩ hl.1 rfl (Nat.le_of_ble_eq_true rfl) dX4_copyPlaces_26 (fun H locs hI hS => ?_)
  obtain ⟨hn12, h⟩ := need_t h
  refine w_iald C G hI 13 i1 (hI.at12 rfl h_i1) (fcA_13 g _ _) (inb_in hn12) dX4_copyPlaces_29 ?_
  refine lv_istore (lv' := [(5, .int (x9 13 i1 r10.toNatClampNeg)), (4, .int (x5 14 i1 r6.toNatClampNeg)), (3, .int (x1 14 i1 r2.toNatClampNeg)), (0, .ref (ga g 1 0)), (1, .ref (ga g 12 i1)), (2, .ref (ga g 18 i2))]) hx hb dX4_copyPlaces_30 hl (by decide) rfl (fun ls hl => ?_)
  refine lv_aload_n hx hb dX4_copyPlaces_32 rfl (lv_at hl 3 rfl) ?_
  refine w_get C G hI 1 0 (hI.at1 rfl) (fcE_1 g _ _) rfl in_X4 3 (by decide) kf_X4_34 (fun _ h => h) (v := .ref (ga g 5 0)) rfl dX4_copyPlaces_33 ?_
  refine lv_iload_n hx hb dX4_copyPlaces_36 rfl (lv_at hl 2 rfl) ?_
  refine lv_iload hx hb dX4_copyPlaces_37 (lv_at hl 1 rfl) ?_
  refine lv_iload hx hb dX4_copyPlaces_39 (lv_at hl 0 rfl) ?_
  obtain ⟨r14, x13, hq15, h⟩ := bnd_some h
  refine w_callV (fr := 2) (lo := 42) C G hI hS 5 0 (hI.at1 rfl) (fcE_5 g _ _) rfl mv_X9_copyFault km_X4_268 [.int (x1 14 i1 r2.toNatClampNeg), .int (x5 14 i1 r6.toNatClampNeg), .int (x9 13 i1 r10.toNatClampNeg)] (k_X9_copyFault l g (x1 14 i1 r2.toNatClampNeg) (x5 14 i1 r6.toNatClampNeg) (x9 13 i1 r10.toNatClampNeg) x9 _ _  hq15) rfl (by first | exact ⟨by decide, by decide⟩ | exact ⟨by show _ ≤ _ + _; omega, by show _ ≤ _ + _; omega⟩) ⟨Nat.zero_le _, Nat.zero_le _⟩ hl.1 rfl (Nat.le_of_ble_eq_true rfl) dX4_copyPlaces_41 (fun H locs hI hS => ?_)
  refine lv_istore (lv' := [(6, .int r14), (5, .int (x9 13 i1 r10.toNatClampNeg)), (4, .int (x5 14 i1 r6.toNatClampNeg)), (3, .int (x1 14 i1 r2.toNatClampNeg)), (0, .ref (ga g 1 0)), (1, .ref (ga g 12 i1)), (2, .ref (ga g 18 i2))]) hx hb dX4_copyPlaces_44 hl (by decide) rfl (fun ls hl => ?_)
  refine lv_iload hx hb dX4_copyPlaces_46 (lv_at hl 0 rfl) ?_
  refine lv_if_eq (tgt := 58) hx hb dX4_copyPlaces_48 (by decide) (fun hc => ?_) (fun hc => ?_)
  · replace h := ite_y hc h
    refine lv_aload_n hx hb dX4_copyPlaces_58 rfl (lv_at hl 4 rfl) ?_
    refine w_get C G hI 1 0 (hI.at1 rfl) (fcE_1 g _ _) rfl in_X4 3 (by decide) kf_X4_34 (fun _ h => h) (v := .ref (ga g 5 0)) rfl dX4_copyPlaces_59 ?_
    refine lv_iload_n hx hb dX4_copyPlaces_62 rfl (lv_at hl 3 rfl) ?_
    refine lv_iload hx hb dX4_copyPlaces_63 (lv_at hl 2 rfl) ?_
    refine lv_iload hx hb dX4_copyPlaces_65 (lv_at hl 1 rfl) ?_
    obtain ⟨x16, hq18, h⟩ := bnv_some h
    refine w_callV (fr := 1) (lo := 100) C G hI hS 5 0 (hI.at1 rfl) (fcE_5 g _ _) rfl mv_X9_copy km_X4_271 [.int (x1 14 i1 r2.toNatClampNeg), .int (x5 14 i1 r6.toNatClampNeg), .int (x9 13 i1 r10.toNatClampNeg)] (k_X9_copy l g (x1 14 i1 r2.toNatClampNeg) (x5 14 i1 r6.toNatClampNeg) (x9 13 i1 r10.toNatClampNeg) x13 _  hq18) rfl (by first | exact ⟨by decide, by decide⟩ | exact ⟨by show _ ≤ _ + _; omega, by show _ ≤ _ + _; omega⟩) ⟨Nat.zero_le _, Nat.zero_le _⟩ hl.1 rfl (Nat.le_of_ble_eq_true rfl) dX4_copyPlaces_67 (fun H locs hI hS => ?_)
    refine w_out C G hS 0 (by decide) rfl kf_X4_84 dX4_copyPlaces_70 ?_
    cases h
    exact w_aret C hI hS dX4_copyPlaces_73
  replace h := ite_n hc h
  refine lv_aload_n hx hb dX4_copyPlaces_51 rfl (lv_at hl 4 rfl) ?_
  refine lv_iload hx hb dX4_copyPlaces_52 (lv_at hl 0 rfl) ?_
  obtain ⟨r20, x19, hq21, h⟩ := bnd_some h
  refine w_callV (fr := 2) (lo := 40) C G hI hS 1 0 (hI.at1 rfl) (fcE_1 g _ _) rfl mv_X4_raise km_X4_94 [.int r14] (k_X4_raise l g r14 x13 _ _  hq21) rfl (by first | exact ⟨by decide, by decide⟩ | exact ⟨by show _ ≤ _ + _; omega, by show _ ≤ _ + _; omega⟩) ⟨Nat.zero_le _, Nat.zero_le _⟩ hl.1 rfl (Nat.le_of_ble_eq_true rfl) dX4_copyPlaces_54 (fun H locs hI hS => ?_)
  cases h
  exact w_aret C hI hS dX4_copyPlaces_57
theorem k_X4_copyPlaces (l : Launch) (g : gT) (i1 : Nat) (i2 : Nat) (x : st) (r : Nat) (x' : st) (h_i1 : i1 < 12) (h_i2 : gd g 18 i2) (h : f_X4_copyPlaces i1 i2 x = some (r, x')) : Kt l yX4_copyPlaces cX4_copyPlaces 7 (some (.object "StepBudgets$Outcome")) 3 123 g [.ref (ga g 1 0), .ref (ga g 12 i1), .ref (ga g 18 i2)] x (some (.ref (ge g r))) x' := by
  refine Kt.of (by decide) (fun p e s m below meth c C G hI => ?_)
  have hl := lv_entry ([.ref (ga g 1 0), .ref (ga g 12 i1), .ref (ga g 18 i2)]) (n := 7) (Nat.le_of_ble_eq_true rfl)
  rw [lg_entry_eq]
  generalize (lg_sl ([.ref (ga g 1 0), .ref (ga g 12 i1), .ref (ga g 18 i2)]) ++ List.replicate (7 - (lg_sl ([.ref (ga g 1 0), .ref (ga g 12 i1), .ref (ga g 18 i2)])).length) Slot.unset).toArray = ls at hl ⊢
  have hl : lv_has ls 7 [(0, .ref (ga g 1 0)), (1, .ref (ga g 12 i1)), (2, .ref (ga g 18 i2))] := hl
  exact w_X4_copyPlaces C G i1 i2 x _ _ ls h_i1 h_i2 h hI va_S.rf hl
theorem mv_X4_copyPlaces : mtV yX4_copyPlaces RX4 cX4_copyPlaces 7 (some (.object "StepBudgets$Outcome")) 2 := ⟨ki_X4_copyPlaces, kl_X4_copyPlaces, kI_X4, kc_X4_copyPlaces, by decide +kernel⟩
