/-! X4_start -/
def f_X4_start (pf : Int32 → st → Option (Nat × st)) (a1 : Int32) (a2 : Int32) (a3 : Int32) (a4 : Int32) (x : st) : Option (Int32 × st) := bnv (f_X8_begin  x) fun x1 => bnv (f_X9_forget  x1) fun x4 => bnv (f_X5_begin a3 a4 x4) fun x7 => bnd (f_X4_callFrame pf a1 a2 (-3) 1 x7) fun r11 x10 => if r11 < 5 then if r11 = 1 then (lets (sx x10 2 0 0 (x10 1 0 5)) fun x16 => some (0, x16)) else (if r11 < 5 then if r11 = 2 then (lets (sx x10 2 0 1 (x10 1 0 6)) fun x15 => some (2, x15)) else (some (1, x10)) else none) else none
set_option maxHeartbeats 4000000 in
set_option maxRecDepth 100000 in
theorem w_X4_start {p : Program} {l : Launch} {e : Env} {s : State} {m : MethodId} {args : Array Value} {below : List Frame} {meth : Method} {c : Code} {g : gT} {frp lop : Nat} {r : Int32} {x' : st} (C : cxt p s m meth c args cX4_start 6 RX4 (some .int)) (G : gst g s) {pf : Int32 → st → Option (Nat × st)} (hpf : ∀ (dep : Int32) (x : st) (o : Nat) (x' : st), pf dep x = some (o, x') → Kt l yX4_performFrame cX4_performFrame 6 (some (.object "StepBudgets$Outcome")) frp lop g [.ref (ga g 1 0), .int dep] x (some (.ref (ge g o))) x') (a1 : Int32) (a2 : Int32) (a3 : Int32) (a4 : Int32) (x : st) (H : Heap) (locs : List Loc) (ls : Array Slot)  (h : f_X4_start pf a1 a2 a3 a4 x = some (r, x')) (hI : wst g x H) (hS : va_S (zA (gz g)) s.heap H locs) (hl : lv_has ls 6 [(0, .ref (ga g 1 0)), (1, .int a1), (2, .int a2), (3, .int a3), (4, .int a4)]) : W p l e (rmC (frp + 5) (lop + 112)) s m args below meth c H locs 0 0 (MQ below (Qx g (some (.int r)) x') args s 0 0 (zA (gz g))) (F0 m 0 ls []) := by
  obtain ⟨hx, hb, hml, hown, hts, hlk, hrt⟩ := id C
  unfold f_X4_start at h
  refine lv_aload_n hx hb dX4_start_0 rfl (lv_at hl 0 rfl) ?_
  refine w_get C G hI 1 0 (hI.at1 rfl) (fcE_1 g _ _) rfl in_X4 0 (by decide) kf_X4_12 (fun _ h => h) (v := .ref (ga g 2 0)) rfl dX4_start_1 ?_
  obtain ⟨x1, hq3, h⟩ := bnv_some h
  refine w_callV (fr := 0) (lo := 0) C G hI hS 2 0 (hI.at1 rfl) (fcE_2 g _ _) rfl mv_X8_begin km_X4_46 [] (k_X8_begin l g  x _  hq3) rfl (by first | exact ⟨by decide, by decide⟩ | exact ⟨by show _ ≤ _ + _; omega, by show _ ≤ _ + _; omega⟩) ⟨Nat.zero_le _, Nat.zero_le _⟩ hl.1 rfl (Nat.le_of_ble_eq_true rfl) dX4_start_4 (fun H locs hI hS => ?_)
  refine lv_aload_n hx hb dX4_start_7 rfl (lv_at hl 0 rfl) ?_
  refine w_get C G hI 1 0 (hI.at1 rfl) (fcE_1 g _ _) rfl in_X4 3 (by decide) kf_X4_34 (fun _ h => h) (v := .ref (ga g 5 0)) rfl dX4_start_8 ?_
  obtain ⟨x4, hq6, h⟩ := bnv_some h
  refine w_callV (fr := 0) (lo := 0) C G hI hS 5 0 (hI.at1 rfl) (fcE_5 g _ _) rfl mv_X9_forget km_X4_49 [] (k_X9_forget l g  x1 _  hq6) rfl (by first | exact ⟨by decide, by decide⟩ | exact ⟨by show _ ≤ _ + _; omega, by show _ ≤ _ + _; omega⟩) ⟨Nat.zero_le _, Nat.zero_le _⟩ hl.1 rfl (Nat.le_of_ble_eq_true rfl) dX4_start_11 (fun H locs hI hS => ?_)
  refine lv_aload_n hx hb dX4_start_14 rfl (lv_at hl 0 rfl) ?_
  refine w_get C G hI 1 0 (hI.at1 rfl) (fcE_1 g _ _) rfl in_X4 1 (by decide) kf_X4_21 (fun _ h => h) (v := .ref (ga g 4 0)) rfl dX4_start_15 ?_
  refine lv_iload_n hx hb dX4_start_18 rfl (lv_at hl 3 rfl) ?_
  refine lv_iload hx hb dX4_start_19 (lv_at hl 4 rfl) ?_
  obtain ⟨x7, hq9, h⟩ := bnv_some h
  refine w_callV (fr := 0) (lo := 0) C G hI hS 4 0 (hI.at1 rfl) (fcE_4 g _ _) rfl mv_X5_begin km_X4_52 [.int a3, .int a4] (k_X5_begin l g a3 a4 x4 _  hq9) rfl (by first | exact ⟨by decide, by decide⟩ | exact ⟨by show _ ≤ _ + _; omega, by show _ ≤ _ + _; omega⟩) ⟨Nat.zero_le _, Nat.zero_le _⟩ hl.1 rfl (Nat.le_of_ble_eq_true rfl) dX4_start_21 (fun H locs hI hS => ?_)
  refine lv_aload_n hx hb dX4_start_24 rfl (lv_at hl 0 rfl) ?_
  refine lv_iload_n hx hb dX4_start_25 rfl (lv_at hl 1 rfl) ?_
  refine lv_iload_n hx hb dX4_start_26 rfl (lv_at hl 2 rfl) ?_
  refine lv_bipush (v := (-3)) hx hb dX4_start_27 (by decide) ?_
  refine lv_iconst (v := 1) hx hb dX4_start_29 (by decide) ?_
  obtain ⟨r11, x10, hq12, h⟩ := bnd_some h
  refine w_callV (fr := frp + 4) (lo := lop + 87) C G hI hS 1 0 (hI.at1 rfl) (fcE_1 g _ _) rfl mv_X4_callFrame km_X4_55 [.int a1, .int a2, .int (-3), .int 1] (k_X4_callFrame l g pf hpf a1 a2 (-3) 1 x7 _ _  hq12) rfl (by first | exact ⟨by decide, by decide⟩ | exact ⟨by show _ ≤ _ + _; omega, by show _ ≤ _ + _; omega⟩) ⟨Nat.zero_le _, Nat.zero_le _⟩ hl.1 rfl (Nat.le_of_ble_eq_true rfl) dX4_start_30 (fun H locs hI hS => ?_)
  refine lv_astore (lv' := [(5, .ref (ge g r11)), (0, .ref (ga g 1 0)), (1, .int a1), (2, .int a2), (3, .int a3), (4, .int a4)]) hx hb dX4_start_33 hl (by decide) rfl (fun ls hl => ?_)
  refine lv_aload hx hb dX4_start_35 (lv_at hl 0 rfl) ?_
  refine w_out C G hS 1 (by decide) rfl kf_X4_59 dX4_start_37 ?_
  obtain ⟨hn13, h⟩ := need_p h
  refine w_acmp_ne (tgt := 56) C G (a := r11) (b := 1) hn13 (by decide) dX4_start_40 (by decide) (fun hc => ?_) (fun hc => ?_)
  · replace h := ite_n hc h
    refine lv_aload hx hb dX4_start_56 (lv_at hl 0 rfl) ?_
    refine w_out C G hS 2 (by decide) rfl kf_X4_72 dX4_start_58 ?_
    obtain ⟨hn14, h⟩ := need_p h
    refine w_acmp_ne (tgt := 77) C G (a := r11) (b := 2) hn14 (by decide) dX4_start_61 (by decide) (fun hc => ?_) (fun hc => ?_)
    · replace h := ite_n hc h
      refine lv_iconst (v := 1) hx hb dX4_start_77 (by decide) ?_
      cases h
      exact w_ireti C hI hS dX4_start_78
    replace h := ite_y hc h
    refine lv_aload_n hx hb dX4_start_64 rfl (lv_at hl 1 rfl) ?_
    refine w_get C G hI 1 0 (hI.at1 rfl) (fcE_1 g _ _) rfl in_X4 0 (by decide) kf_X4_12 (fun _ h => h) (v := .ref (ga g 2 0)) rfl dX4_start_65 ?_
    refine lv_aload_n hx hb dX4_start_68 rfl (lv_at hl 1 rfl) ?_
    refine w_get C G hI 1 0 (hI.at1 rfl) (fcE_1 g _ _) rfl in_X4 6 (by decide) kf_X4_75 (fun _ h => h) (v := .int (x10 1 0 6)) rfl dX4_start_69 ?_
    refine w_put C G hI hS 2 0 (hI.at1 rfl) rfl (fcE_2 g _ _) rfl in_X8 tyX8 tyX8_ok nmX8 1 (by decide) kf_X4_78 (fun _ h => h) rfl (ty := .int) (y := (x10 1 0 6)) (by decide +kernel) rfl rfl (Nat.le_of_ble_eq_true rfl) rfl dX4_start_72 (fun H locs hI hS => ?_)
    obtain ⟨x15, e_x15, h⟩ := lets_some h
    rw [← e_x15] at hI
    refine lv_iconst (v := 2) hx hb dX4_start_75 (by decide) ?_
    cases h
    exact w_ireti C hI hS dX4_start_76
  replace h := ite_y hc h
  refine lv_aload_n hx hb dX4_start_43 rfl (lv_at hl 1 rfl) ?_
  refine w_get C G hI 1 0 (hI.at1 rfl) (fcE_1 g _ _) rfl in_X4 0 (by decide) kf_X4_12 (fun _ h => h) (v := .ref (ga g 2 0)) rfl dX4_start_44 ?_
  refine lv_aload_n hx hb dX4_start_47 rfl (lv_at hl 1 rfl) ?_
  refine w_get C G hI 1 0 (hI.at1 rfl) (fcE_1 g _ _) rfl in_X4 5 (by decide) kf_X4_65 (fun _ h => h) (v := .int (x10 1 0 5)) rfl dX4_start_48 ?_
  refine w_put C G hI hS 2 0 (hI.at1 rfl) rfl (fcE_2 g _ _) rfl in_X8 tyX8 tyX8_ok nmX8 0 (by decide) kf_X4_69 (fun _ h => h) rfl (ty := .int) (y := (x10 1 0 5)) (by decide +kernel) rfl rfl (Nat.le_of_ble_eq_true rfl) rfl dX4_start_51 (fun H locs hI hS => ?_)
  obtain ⟨x16, e_x16, h⟩ := lets_some h
  rw [← e_x16] at hI
  refine lv_iconst (v := 0) hx hb dX4_start_54 (by decide) ?_
  cases h
  exact w_ireti C hI hS dX4_start_55
theorem k_X4_start (l : Launch) (g : gT) {frp lop : Nat} (pf : Int32 → st → Option (Nat × st)) (hpf : ∀ (dep : Int32) (x : st) (o : Nat) (x' : st), pf dep x = some (o, x') → Kt l yX4_performFrame cX4_performFrame 6 (some (.object "StepBudgets$Outcome")) frp lop g [.ref (ga g 1 0), .int dep] x (some (.ref (ge g o))) x') (a1 : Int32) (a2 : Int32) (a3 : Int32) (a4 : Int32) (x : st) (r : Int32) (x' : st)  (h : f_X4_start pf a1 a2 a3 a4 x = some (r, x')) : Kt l yX4_start cX4_start 6 (some .int) (frp + 5) (lop + 112) g [.ref (ga g 1 0), .int a1, .int a2, .int a3, .int a4] x (some (.int r)) x' := by
  refine Kt.of (by decide) (fun p e s m below meth c C G hI => ?_)
  have hl := lv_entry ([.ref (ga g 1 0), .int a1, .int a2, .int a3, .int a4]) (n := 6) (Nat.le_of_ble_eq_true rfl)
  rw [lg_entry_eq]
  generalize (lg_sl ([.ref (ga g 1 0), .int a1, .int a2, .int a3, .int a4]) ++ List.replicate (6 - (lg_sl ([.ref (ga g 1 0), .int a1, .int a2, .int a3, .int a4])).length) Slot.unset).toArray = ls at hl ⊢
  have hl : lv_has ls 6 [(0, .ref (ga g 1 0)), (1, .int a1), (2, .int a2), (3, .int a3), (4, .int a4)] := hl
  exact w_X4_start C G hpf a1 a2 a3 a4 x _ _ ls  h hI va_S.rf hl
theorem mv_X4_start : mtV yX4_start RX4 cX4_start 6 (some .int) 4 := ⟨ki_X4_start, kl_X4_start, kI_X4, kc_X4_start, by decide +kernel⟩

/-! X10_run -/
def f_X10_run_b19 (pf : Int32 → st → Option (Nat × st))  (x : st) : Option (Int32 × st) := some ((-1), x)
set_option maxHeartbeats 4000000 in
set_option maxRecDepth 100000 in
theorem w_X10_run_b19 {p : Program} {l : Launch} {e : Env} {s : State} {m : MethodId} {args : Array Value} {below : List Frame} {meth : Method} {c : Code} {g : gT} {frp lop : Nat} {r : Int32} {x' : st} (C : cxt p s m meth c args cX10_run 4 RX10 (some .int)) (G : gst g s) {pf : Int32 → st → Option (Nat × st)} (hpf : ∀ (dep : Int32) (x : st) (o : Nat) (x' : st), pf dep x = some (o, x') → Kt l yX4_performFrame cX4_performFrame 6 (some (.object "StepBudgets$Outcome")) frp lop g [.ref (ga g 1 0), .int dep] x (some (.ref (ge g o))) x')  (x : st) (H : Heap) (locs : List Loc) (ls : Array Slot)  (h : f_X10_run_b19 pf  x = some (r, x')) (hI : wst g x H) (hS : va_S (zA (gz g)) s.heap H locs) (hl : lv_has ls 4 []) : W p l e (rmC (frp + 6) (lop + 137)) s m args below meth c H locs 0 0 (MQ below (Qx g (some (.int r)) x') args s 0 0 (zA (gz g))) (F0 m 19 ls []) := by
  obtain ⟨hx, hb, hml, hown, hts, hlk, hrt⟩ := id C
  unfold f_X10_run_b19 at h
  refine lv_iconst (v := (-1)) hx hb dX10_run_19 (by decide) ?_
  cases h
  exact w_ireti C hI hS dX10_run_20
def f_X10_run (pf : Int32 → st → Option (Nat × st)) (a1 : Int32) (a2 : Int32) (a3 : Int32) (x : st) : Option (Int32 × st) := bnd (f_X10_within a1 8 x) fun r2 x1 => if r2 = 0 then (f_X10_run_b19 pf  x1) else (bnd (f_X10_within a3 501 x1) fun r5 x4 => if r5 = 0 then (f_X10_run_b19 pf  x4) else (bnd (f_X4_start pf a1 a2 a3 (x4 0 0 1) x4) fun r8 x7 => some (r8, x7)))
set_option maxHeartbeats 4000000 in
set_option maxRecDepth 100000 in
theorem w_X10_run {p : Program} {l : Launch} {e : Env} {s : State} {m : MethodId} {args : Array Value} {below : List Frame} {meth : Method} {c : Code} {g : gT} {frp lop : Nat} {r : Int32} {x' : st} (C : cxt p s m meth c args cX10_run 4 RX10 (some .int)) (G : gst g s) {pf : Int32 → st → Option (Nat × st)} (hpf : ∀ (dep : Int32) (x : st) (o : Nat) (x' : st), pf dep x = some (o, x') → Kt l yX4_performFrame cX4_performFrame 6 (some (.object "StepBudgets$Outcome")) frp lop g [.ref (ga g 1 0), .int dep] x (some (.ref (ge g o))) x') (a1 : Int32) (a2 : Int32) (a3 : Int32) (x : st) (H : Heap) (locs : List Loc) (ls : Array Slot)  (h : f_X10_run pf a1 a2 a3 x = some (r, x')) (hI : wst g x H) (hS : va_S (zA (gz g)) s.heap H locs) (hl : lv_has ls 4 [(0, .ref (ga g 0 0)), (1, .int a1), (2, .int a2), (3, .int a3)]) : W p l e (rmC (frp + 6) (lop + 137)) s m args below meth c H locs 0 0 (MQ below (Qx g (some (.int r)) x') args s 0 0 (zA (gz g))) (F0 m 0 ls []) := by
  obtain ⟨hx, hb, hml, hown, hts, hlk, hrt⟩ := id C
  unfold f_X10_run at h
  refine lv_iload_n hx hb dX10_run_0 rfl (lv_at hl 1 rfl) ?_
  refine lv_bipush (v := 8) hx hb dX10_run_1 (by decide) ?_
  obtain ⟨r2, x1, hq3, h⟩ := bnd_some h
  refine w_callS (fr := 0) (lo := 0) C G hI hS ms_X10_within km_X10_20 [.int a1, .int 8] (k_X10_within l g a1 8 x _ _  hq3) rfl (by first | exact ⟨by decide, by decide⟩ | exact ⟨by show _ ≤ _ + _; omega, by show _ ≤ _ + _; omega⟩) ⟨Nat.zero_le _, Nat.zero_le _⟩ hl.1 rfl (Nat.le_of_ble_eq_true rfl) dX10_run_3 (fun H locs hI hS => ?_)
  refine lv_if_eq (tgt := 19) hx hb dX10_run_6 (by decide) (fun hc => ?_) (fun hc => ?_)
  · replace h := ite_y hc h
    exact w_X10_run_b19 C G hpf  x1 _ _ _  h hI hS (lv_sub hl [] rfl)
  replace h := ite_n hc h
  refine lv_iload_n hx hb dX10_run_9 rfl (lv_at hl 3 rfl) ?_
  refine lv_sipush (v := 501) hx hb dX10_run_10 (by decide) ?_
  obtain ⟨r5, x4, hq6, h⟩ := bnd_some h
  refine w_callS (fr := 0) (lo := 0) C G hI hS ms_X10_within km_X10_20 [.int a3, .int 501] (k_X10_within l g a3 501 x1 _ _  hq6) rfl (by first | exact ⟨by decide, by decide⟩ | exact ⟨by show _ ≤ _ + _; omega, by show _ ≤ _ + _; omega⟩) ⟨Nat.zero_le _, Nat.zero_le _⟩ hl.1 rfl (Nat.le_of_ble_eq_true rfl) dX10_run_13 (fun H locs hI hS => ?_)
  refine lv_if_ne (tgt := 21) hx hb dX10_run_16 (by decide) (fun hc => ?_) (fun hc => ?_)
  · replace h := ite_n hc h
    refine lv_aload_n hx hb dX10_run_21 rfl (lv_at hl 0 rfl) ?_
    refine w_get C G hI 0 0 (hI.at1 rfl) (fcE_0 g _ _) rfl in_X10 0 (by decide) kf_X10_12 (fun _ h => h) (v := .ref (ga g 1 0)) rfl dX10_run_22 ?_
    refine lv_iload_n hx hb dX10_run_25 rfl (lv_at hl 1 rfl) ?_
    refine lv_iload_n hx hb dX10_run_26 rfl (lv_at hl 2 rfl) ?_
    refine lv_iload_n hx hb dX10_run_27 rfl (lv_at hl 3 rfl) ?_
    refine lv_aload_n hx hb dX10_run_28 rfl (lv_at hl 0 rfl) ?_
    refine w_get C G hI 0 0 (hI.at1 rfl) (fcE_0 g _ _) rfl in_X10 1 (by decide) kf_X10_16 (fun _ h => h) (v := .int (x4 0 0 1)) rfl dX10_run_29 ?_
    obtain ⟨r8, x7, hq9, h⟩ := bnd_some h
    refine w_callV (fr := frp + 5) (lo := lop + 112) C G hI hS 1 0 (hI.at1 rfl) (fcE_1 g _ _) rfl mv_X4_start km_X10_75 [.int a1, .int a2, .int a3, .int (x4 0 0 1)] (k_X4_start l g pf hpf a1 a2 a3 (x4 0 0 1) x4 _ _  hq9) rfl (by first | exact ⟨by decide, by decide⟩ | exact ⟨by show _ ≤ _ + _; omega, by show _ ≤ _ + _; omega⟩) ⟨Nat.zero_le _, Nat.zero_le _⟩ hl.1 rfl (Nat.le_of_ble_eq_true rfl) dX10_run_32 (fun H locs hI hS => ?_)
    cases h
    exact w_ireti C hI hS dX10_run_35
  replace h := ite_y hc h
  exact w_X10_run_b19 C G hpf  x4 _ _ _  h hI hS (lv_sub hl [] rfl)
theorem k_X10_run (l : Launch) (g : gT) {frp lop : Nat} (pf : Int32 → st → Option (Nat × st)) (hpf : ∀ (dep : Int32) (x : st) (o : Nat) (x' : st), pf dep x = some (o, x') → Kt l yX4_performFrame cX4_performFrame 6 (some (.object "StepBudgets$Outcome")) frp lop g [.ref (ga g 1 0), .int dep] x (some (.ref (ge g o))) x') (a1 : Int32) (a2 : Int32) (a3 : Int32) (x : st) (r : Int32) (x' : st)  (h : f_X10_run pf a1 a2 a3 x = some (r, x')) : Kt l yX10_run cX10_run 4 (some .int) (frp + 6) (lop + 137) g [.ref (ga g 0 0), .int a1, .int a2, .int a3] x (some (.int r)) x' := by
  refine Kt.of (by decide) (fun p e s m below meth c C G hI => ?_)
  have hl := lv_entry ([.ref (ga g 0 0), .int a1, .int a2, .int a3]) (n := 4) (Nat.le_of_ble_eq_true rfl)
  rw [lg_entry_eq]
  generalize (lg_sl ([.ref (ga g 0 0), .int a1, .int a2, .int a3]) ++ List.replicate (4 - (lg_sl ([.ref (ga g 0 0), .int a1, .int a2, .int a3])).length) Slot.unset).toArray = ls at hl ⊢
  have hl : lv_has ls 4 [(0, .ref (ga g 0 0)), (1, .int a1), (2, .int a2), (3, .int a3)] := hl
  exact w_X10_run C G hpf a1 a2 a3 x _ _ ls  h hI va_S.rf hl
theorem mv_X10_run : mtV yX10_run RX10 cX10_run 4 (some .int) 3 := ⟨ki_X10_run, kl_X10_run, kI_X10, kc_X10_run, by decide +kernel⟩

/-! X10_latest -/
def f_X10_latest (a1 : Int32) (x : st) : Option (Int32 × st) := if a1 = 0 then (some ((x 2 0 0), x)) else if a1 = 1 then (some ((x 2 0 1), x)) else if a1 = 2 then (some ((x 4 0 0), x)) else if a1 = 3 then (some ((x 4 0 1), x)) else if a1 = 4 then (some ((x 2 0 2), x)) else if a1 = 5 then (some ((x 2 0 3), x)) else if a1 = 6 then (some ((x 2 0 4), x)) else if a1 = 7 then (if (x 4 0 2) = 0 then (some (0, x)) else (some (1, x))) else if a1 = 8 then (some ((x 2 0 5), x)) else (some ((-1), x))
set_option maxHeartbeats 4000000 in
set_option maxRecDepth 100000 in
theorem w_X10_latest {p : Program} {l : Launch} {e : Env} {s : State} {m : MethodId} {args : Array Value} {below : List Frame} {meth : Method} {c : Code} {g : gT} {r : Int32} {x' : st} (C : cxt p s m meth c args cX10_latest 2 RX10 (some .int)) (G : gst g s) (a1 : Int32) (x : st) (H : Heap) (locs : List Loc) (ls : Array Slot)  (h : f_X10_latest a1 x = some (r, x')) (hI : wst g x H) (hS : va_S (zA (gz g)) s.heap H locs) (hl : lv_has ls 2 [(0, .ref (ga g 0 0)), (1, .int a1)]) : W p l e (rmC 0 0) s m args below meth c H locs 0 0 (MQ below (Qx g (some (.int r)) x') args s 0 0 (zA (gz g))) (F0 m 0 ls []) := by
  obtain ⟨hx, hb, hml, hown, hts, hlk, hrt⟩ := id C
  unfold f_X10_latest at h
  refine lv_iload_n hx hb dX10_latest_0 rfl (lv_at hl 1 rfl) ?_
  by_cases hc0 : a1 = 0
  · replace h := ite_y hc0 h
    refine lv_tableIn (off := 51) (tgt := 52) hx hb dX10_latest_1 (by rw [hc0]; decide) (by rw [hc0]; decide) (by rw [hc0]; decide +kernel) (by decide) ?_
    refine lv_aload_n hx hb dX10_latest_52 rfl (lv_at hl 0 rfl) ?_
    refine w_get C G hI 0 0 (hI.at1 rfl) (fcE_0 g _ _) rfl in_X10 0 (by decide) kf_X10_12 (fun _ h => h) (v := .ref (ga g 1 0)) rfl dX10_latest_53 ?_
    refine w_get C G hI 1 0 (hI.at1 rfl) (fcE_1 g _ _) rfl in_X4 0 (by decide) kf_X10_79 (fun _ h => h) (v := .ref (ga g 2 0)) rfl dX10_latest_56 ?_
    refine w_get C G hI 2 0 (hI.at1 rfl) (fcE_2 g _ _) rfl in_X8 0 (by decide) kf_X10_83 (fun _ h => h) (v := .int (x 2 0 0)) rfl dX10_latest_59 ?_
    cases h
    exact w_ireti C hI hS dX10_latest_62
  replace h := ite_n hc0 h
  by_cases hc1 : a1 = 1
  · replace h := ite_y hc1 h
    refine lv_tableIn (off := 62) (tgt := 63) hx hb dX10_latest_1 (by rw [hc1]; decide) (by rw [hc1]; decide) (by rw [hc1]; decide +kernel) (by decide) ?_
    refine lv_aload_n hx hb dX10_latest_63 rfl (lv_at hl 0 rfl) ?_
    refine w_get C G hI 0 0 (hI.at1 rfl) (fcE_0 g _ _) rfl in_X10 0 (by decide) kf_X10_12 (fun _ h => h) (v := .ref (ga g 1 0)) rfl dX10_latest_64 ?_
    refine w_get C G hI 1 0 (hI.at1 rfl) (fcE_1 g _ _) rfl in_X4 0 (by decide) kf_X10_79 (fun _ h => h) (v := .ref (ga g 2 0)) rfl dX10_latest_67 ?_
    refine w_get C G hI 2 0 (hI.at1 rfl) (fcE_2 g _ _) rfl in_X8 1 (by decide) kf_X10_88 (fun _ h => h) (v := .int (x 2 0 1)) rfl dX10_latest_70 ?_
    cases h
    exact w_ireti C hI hS dX10_latest_73
  replace h := ite_n hc1 h
  by_cases hc2 : a1 = 2
  · replace h := ite_y hc2 h
    refine lv_tableIn (off := 73) (tgt := 74) hx hb dX10_latest_1 (by rw [hc2]; decide) (by rw [hc2]; decide) (by rw [hc2]; decide +kernel) (by decide) ?_
    refine lv_aload_n hx hb dX10_latest_74 rfl (lv_at hl 0 rfl) ?_
    refine w_get C G hI 0 0 (hI.at1 rfl) (fcE_0 g _ _) rfl in_X10 0 (by decide) kf_X10_12 (fun _ h => h) (v := .ref (ga g 1 0)) rfl dX10_latest_75 ?_
    refine w_get C G hI 1 0 (hI.at1 rfl) (fcE_1 g _ _) rfl in_X4 1 (by decide) kf_X10_91 (fun _ h => h) (v := .ref (ga g 4 0)) rfl dX10_latest_78 ?_
    refine w_get C G hI 4 0 (hI.at1 rfl) (fcE_4 g _ _) rfl in_X5 0 (by decide) kf_X10_95 (fun _ h => h) (v := .int (x 4 0 0)) rfl dX10_latest_81 ?_
    cases h
    exact w_ireti C hI hS dX10_latest_84
  replace h := ite_n hc2 h
  by_cases hc3 : a1 = 3
  · replace h := ite_y hc3 h
    refine lv_tableIn (off := 84) (tgt := 85) hx hb dX10_latest_1 (by rw [hc3]; decide) (by rw [hc3]; decide) (by rw [hc3]; decide +kernel) (by decide) ?_
    refine lv_aload_n hx hb dX10_latest_85 rfl (lv_at hl 0 rfl) ?_
    refine w_get C G hI 0 0 (hI.at1 rfl) (fcE_0 g _ _) rfl in_X10 0 (by decide) kf_X10_12 (fun _ h => h) (v := .ref (ga g 1 0)) rfl dX10_latest_86 ?_
    refine w_get C G hI 1 0 (hI.at1 rfl) (fcE_1 g _ _) rfl in_X4 1 (by decide) kf_X10_91 (fun _ h => h) (v := .ref (ga g 4 0)) rfl dX10_latest_89 ?_
    refine w_get C G hI 4 0 (hI.at1 rfl) (fcE_4 g _ _) rfl in_X5 1 (by decide) kf_X10_100 (fun _ h => h) (v := .int (x 4 0 1)) rfl dX10_latest_92 ?_
    cases h
    exact w_ireti C hI hS dX10_latest_95
  replace h := ite_n hc3 h
  by_cases hc4 : a1 = 4
  · replace h := ite_y hc4 h
    refine lv_tableIn (off := 95) (tgt := 96) hx hb dX10_latest_1 (by rw [hc4]; decide) (by rw [hc4]; decide) (by rw [hc4]; decide +kernel) (by decide) ?_
    refine lv_aload_n hx hb dX10_latest_96 rfl (lv_at hl 0 rfl) ?_
    refine w_get C G hI 0 0 (hI.at1 rfl) (fcE_0 g _ _) rfl in_X10 0 (by decide) kf_X10_12 (fun _ h => h) (v := .ref (ga g 1 0)) rfl dX10_latest_97 ?_
    refine w_get C G hI 1 0 (hI.at1 rfl) (fcE_1 g _ _) rfl in_X4 0 (by decide) kf_X10_79 (fun _ h => h) (v := .ref (ga g 2 0)) rfl dX10_latest_100 ?_
    refine w_get C G hI 2 0 (hI.at1 rfl) (fcE_2 g _ _) rfl in_X8 2 (by decide) kf_X10_103 (fun _ h => h) (v := .int (x 2 0 2)) rfl dX10_latest_103 ?_
    cases h
    exact w_ireti C hI hS dX10_latest_106
  replace h := ite_n hc4 h
  by_cases hc5 : a1 = 5
  · replace h := ite_y hc5 h
    refine lv_tableIn (off := 106) (tgt := 107) hx hb dX10_latest_1 (by rw [hc5]; decide) (by rw [hc5]; decide) (by rw [hc5]; decide +kernel) (by decide) ?_
    refine lv_aload_n hx hb dX10_latest_107 rfl (lv_at hl 0 rfl) ?_
    refine w_get C G hI 0 0 (hI.at1 rfl) (fcE_0 g _ _) rfl in_X10 0 (by decide) kf_X10_12 (fun _ h => h) (v := .ref (ga g 1 0)) rfl dX10_latest_108 ?_
    refine w_get C G hI 1 0 (hI.at1 rfl) (fcE_1 g _ _) rfl in_X4 0 (by decide) kf_X10_79 (fun _ h => h) (v := .ref (ga g 2 0)) rfl dX10_latest_111 ?_
    refine w_get C G hI 2 0 (hI.at1 rfl) (fcE_2 g _ _) rfl in_X8 3 (by decide) kf_X10_106 (fun _ h => h) (v := .int (x 2 0 3)) rfl dX10_latest_114 ?_
    cases h
    exact w_ireti C hI hS dX10_latest_117
  replace h := ite_n hc5 h
  by_cases hc6 : a1 = 6
  · replace h := ite_y hc6 h
    refine lv_tableIn (off := 117) (tgt := 118) hx hb dX10_latest_1 (by rw [hc6]; decide) (by rw [hc6]; decide) (by rw [hc6]; decide +kernel) (by decide) ?_
    refine lv_aload_n hx hb dX10_latest_118 rfl (lv_at hl 0 rfl) ?_
    refine w_get C G hI 0 0 (hI.at1 rfl) (fcE_0 g _ _) rfl in_X10 0 (by decide) kf_X10_12 (fun _ h => h) (v := .ref (ga g 1 0)) rfl dX10_latest_119 ?_
    refine w_get C G hI 1 0 (hI.at1 rfl) (fcE_1 g _ _) rfl in_X4 0 (by decide) kf_X10_79 (fun _ h => h) (v := .ref (ga g 2 0)) rfl dX10_latest_122 ?_
    refine w_get C G hI 2 0 (hI.at1 rfl) (fcE_2 g _ _) rfl in_X8 4 (by decide) kf_X10_108 (fun _ h => h) (v := .int (x 2 0 4)) rfl dX10_latest_125 ?_
    cases h
    exact w_ireti C hI hS dX10_latest_128
  replace h := ite_n hc6 h
  by_cases hc7 : a1 = 7
  · replace h := ite_y hc7 h
    refine lv_tableIn (off := 128) (tgt := 129) hx hb dX10_latest_1 (by rw [hc7]; decide) (by rw [hc7]; decide) (by rw [hc7]; decide +kernel) (by decide) ?_
    refine lv_aload_n hx hb dX10_latest_129 rfl (lv_at hl 0 rfl) ?_
    refine w_get C G hI 0 0 (hI.at1 rfl) (fcE_0 g _ _) rfl in_X10 0 (by decide) kf_X10_12 (fun _ h => h) (v := .ref (ga g 1 0)) rfl dX10_latest_130 ?_
    refine w_get C G hI 1 0 (hI.at1 rfl) (fcE_1 g _ _) rfl in_X4 1 (by decide) kf_X10_91 (fun _ h => h) (v := .ref (ga g 4 0)) rfl dX10_latest_133 ?_
    refine w_get C G hI 4 0 (hI.at1 rfl) (fcE_4 g _ _) rfl in_X5 2 (by decide) kf_X10_110 (fun _ h => h) (v := .int (x 4 0 2)) rfl dX10_latest_136 ?_
    refine lv_if_eq (tgt := 146) hx hb dX10_latest_139 (by decide) (fun hc => ?_) (fun hc => ?_)
    · replace h := ite_y hc h
      refine lv_iconst (v := 0) hx hb dX10_latest_146 (by decide) ?_
      cases h
      exact w_ireti C hI hS dX10_latest_147
    replace h := ite_n hc h
    refine lv_iconst (v := 1) hx hb dX10_latest_142 (by decide) ?_
    refine lv_goto (tgt := 147) hx hb dX10_latest_143 (by decide) ?_
    cases h
    exact w_ireti C hI hS dX10_latest_147
  replace h := ite_n hc7 h
  by_cases hc8 : a1 = 8
  · replace h := ite_y hc8 h
    refine lv_tableIn (off := 147) (tgt := 148) hx hb dX10_latest_1 (by rw [hc8]; decide) (by rw [hc8]; decide) (by rw [hc8]; decide +kernel) (by decide) ?_
    refine lv_aload_n hx hb dX10_latest_148 rfl (lv_at hl 0 rfl) ?_
    refine w_get C G hI 0 0 (hI.at1 rfl) (fcE_0 g _ _) rfl in_X10 0 (by decide) kf_X10_12 (fun _ h => h) (v := .ref (ga g 1 0)) rfl dX10_latest_149 ?_
    refine w_get C G hI 1 0 (hI.at1 rfl) (fcE_1 g _ _) rfl in_X4 0 (by decide) kf_X10_79 (fun _ h => h) (v := .ref (ga g 2 0)) rfl dX10_latest_152 ?_
    refine w_get C G hI 2 0 (hI.at1 rfl) (fcE_2 g _ _) rfl in_X8 5 (by decide) kf_X10_114 (fun _ h => h) (v := .int (x 2 0 5)) rfl dX10_latest_155 ?_
    cases h
    exact w_ireti C hI hS dX10_latest_158
  replace h := ite_n hc8 h
  refine lv_tableOut (tgt := 159) hx hb dX10_latest_1 (sw_out 9 (by intro k hk; match k, hk with | 0, _ => exact hc0 | 1, _ => exact hc1 | 2, _ => exact hc2 | 3, _ => exact hc3 | 4, _ => exact hc4 | 5, _ => exact hc5 | 6, _ => exact hc6 | 7, _ => exact hc7 | 8, _ => exact hc8 | k + 9, hk => exact absurd hk (by omega)) (by decide)) (by decide) ?_
  refine lv_iconst (v := (-1)) hx hb dX10_latest_159 (by decide) ?_
  cases h
  exact w_ireti C hI hS dX10_latest_160
theorem k_X10_latest (l : Launch) (g : gT) (a1 : Int32) (x : st) (r : Int32) (x' : st)  (h : f_X10_latest a1 x = some (r, x')) : Kt l yX10_latest cX10_latest 2 (some .int) 0 0 g [.ref (ga g 0 0), .int a1] x (some (.int r)) x' := by
  refine Kt.of (by decide) (fun p e s m below meth c C G hI => ?_)
  have hl := lv_entry ([.ref (ga g 0 0), .int a1]) (n := 2) (Nat.le_of_ble_eq_true rfl)
  rw [lg_entry_eq]
  generalize (lg_sl ([.ref (ga g 0 0), .int a1]) ++ List.replicate (2 - (lg_sl ([.ref (ga g 0 0), .int a1])).length) Slot.unset).toArray = ls at hl ⊢
  have hl : lv_has ls 2 [(0, .ref (ga g 0 0)), (1, .int a1)] := hl
  exact w_X10_latest C G a1 x _ _ ls  h hI va_S.rf hl
theorem mv_X10_latest : mtV yX10_latest RX10 cX10_latest 2 (some .int) 1 := ⟨ki_X10_latest, kl_X10_latest, kI_X10, kc_X10_latest, by decide +kernel⟩

/-! X10_reserve -/
def f_X10_reserve (a1 : Int32) (x : st) : Option (Int32 × st) := bnd (f_X10_within a1 101 x) fun r2 x1 => if r2 = 0 then (some ((-1), x1)) else (lets (sx x1 0 0 1 a1) fun x4 => some ((x1 0 0 1), x4))
set_option maxHeartbeats 4000000 in
set_option maxRecDepth 100000 in
theorem w_X10_reserve {p : Program} {l : Launch} {e : Env} {s : State} {m : MethodId} {args : Array Value} {below : List Frame} {meth : Method} {c : Code} {g : gT} {r : Int32} {x' : st} (C : cxt p s m meth c args cX10_reserve 3 RX10 (some .int)) (G : gst g s) (a1 : Int32) (x : st) (H : Heap) (locs : List Loc) (ls : Array Slot)  (h : f_X10_reserve a1 x = some (r, x')) (hI : wst g x H) (hS : va_S (zA (gz g)) s.heap H locs) (hl : lv_has ls 3 [(0, .ref (ga g 0 0)), (1, .int a1)]) : W p l e (rmC 1 21) s m args below meth c H locs 0 0 (MQ below (Qx g (some (.int r)) x') args s 0 0 (zA (gz g))) (F0 m 0 ls []) := by
  obtain ⟨hx, hb, hml, hown, hts, hlk, hrt⟩ := id C
  unfold f_X10_reserve at h
  refine lv_iload_n hx hb dX10_reserve_0 rfl (lv_at hl 1 rfl) ?_
  refine lv_bipush (v := 101) hx hb dX10_reserve_1 (by decide) ?_
  obtain ⟨r2, x1, hq3, h⟩ := bnd_some h
  refine w_callS (fr := 0) (lo := 0) C G hI hS ms_X10_within km_X10_20 [.int a1, .int 101] (k_X10_within l g a1 101 x _ _  hq3) rfl (by first | exact ⟨by decide, by decide⟩ | exact ⟨by show _ ≤ _ + _; omega, by show _ ≤ _ + _; omega⟩) ⟨Nat.zero_le _, Nat.zero_le _⟩ hl.1 rfl (Nat.le_of_ble_eq_true rfl) dX10_reserve_3 (fun H locs hI hS => ?_)
  refine lv_if_ne (tgt := 11) hx hb dX10_reserve_6 (by decide) (fun hc => ?_) (fun hc => ?_)
  · replace h := ite_n hc h
    refine lv_aload_n hx hb dX10_reserve_11 rfl (lv_at hl 0 rfl) ?_
    refine w_get C G hI 0 0 (hI.at1 rfl) (fcE_0 g _ _) rfl in_X10 1 (by decide) kf_X10_16 (fun _ h => h) (v := .int (x1 0 0 1)) rfl dX10_reserve_12 ?_
    refine lv_istore_n (lv' := [(2, .int (x1 0 0 1)), (0, .ref (ga g 0 0)), (1, .int a1)]) hx hb dX10_reserve_15 rfl hl (by decide) rfl (fun ls hl => ?_)
    refine lv_aload_n hx hb dX10_reserve_16 rfl (lv_at hl 1 rfl) ?_
    refine lv_iload_n hx hb dX10_reserve_17 rfl (lv_at hl 2 rfl) ?_
    refine w_put C G hI hS 0 0 (hI.at1 rfl) rfl (fcE_0 g _ _) rfl in_X10 tyX10 tyX10_ok nmX10 1 (by decide) kf_X10_16 (fun _ h => h) rfl (ty := .int) (y := a1) (by decide +kernel) rfl rfl (Nat.le_of_ble_eq_true rfl) rfl dX10_reserve_18 (fun H locs hI hS => ?_)
    obtain ⟨x4, e_x4, h⟩ := lets_some h
    rw [← e_x4] at hI
    refine lv_iload_n hx hb dX10_reserve_21 rfl (lv_at hl 0 rfl) ?_
    cases h
    exact w_ireti C hI hS dX10_reserve_22
  replace h := ite_y hc h
  refine lv_iconst (v := (-1)) hx hb dX10_reserve_9 (by decide) ?_
  cases h
  exact w_ireti C hI hS dX10_reserve_10
theorem k_X10_reserve (l : Launch) (g : gT) (a1 : Int32) (x : st) (r : Int32) (x' : st)  (h : f_X10_reserve a1 x = some (r, x')) : Kt l yX10_reserve cX10_reserve 3 (some .int) 1 21 g [.ref (ga g 0 0), .int a1] x (some (.int r)) x' := by
  refine Kt.of (by decide) (fun p e s m below meth c C G hI => ?_)
  have hl := lv_entry ([.ref (ga g 0 0), .int a1]) (n := 3) (Nat.le_of_ble_eq_true rfl)
  rw [lg_entry_eq]
  generalize (lg_sl ([.ref (ga g 0 0), .int a1]) ++ List.replicate (3 - (lg_sl ([.ref (ga g 0 0), .int a1])).length) Slot.unset).toArray = ls at hl ⊢
  have hl : lv_has ls 3 [(0, .ref (ga g 0 0)), (1, .int a1)] := hl
  exact w_X10_reserve C G a1 x _ _ ls  h hI va_S.rf hl
theorem mv_X10_reserve : mtV yX10_reserve RX10 cX10_reserve 3 (some .int) 1 := ⟨ki_X10_reserve, kl_X10_reserve, kI_X10, kc_X10_reserve, by decide +kernel⟩

/-! X10_cleaned -/
def f_X10_cleaned_b12  (x : st) : Option (Int32 × st) := some ((-1), x)
set_option maxHeartbeats 4000000 in
set_option maxRecDepth 100000 in
theorem w_X10_cleaned_b12 {p : Program} {l : Launch} {e : Env} {s : State} {m : MethodId} {args : Array Value} {below : List Frame} {meth : Method} {c : Code} {g : gT} {r : Int32} {x' : st} (C : cxt p s m meth c args cX10_cleaned 3 RX10 (some .int)) (G : gst g s)  (x : st) (H : Heap) (locs : List Loc) (ls : Array Slot)  (h : f_X10_cleaned_b12  x = some (r, x')) (hI : wst g x H) (hS : va_S (zA (gz g)) s.heap H locs) (hl : lv_has ls 3 []) : W p l e (rmC 2 62) s m args below meth c H locs 0 0 (MQ below (Qx g (some (.int r)) x') args s 0 0 (zA (gz g))) (F0 m 12 ls []) := by
  obtain ⟨hx, hb, hml, hown, hts, hlk, hrt⟩ := id C
  unfold f_X10_cleaned_b12 at h
  refine lv_iconst (v := (-1)) hx hb dX10_cleaned_12 (by decide) ?_
  cases h
  exact w_ireti C hI hS dX10_cleaned_13
def f_X10_cleaned (a1 : Int32) (a2 : Int32) (x : st) : Option (Int32 × st) := if a1 < 0 then (f_X10_cleaned_b12  x) else (bnd (f_X10_within a2 3 x) fun r2 x1 => if r2 = 0 then (f_X10_cleaned_b12  x1) else (bnd (f_X8_cleanPart a1 a2 x1) fun r5 x4 => some (r5, x4)))
set_option maxHeartbeats 4000000 in
set_option maxRecDepth 100000 in
theorem w_X10_cleaned {p : Program} {l : Launch} {e : Env} {s : State} {m : MethodId} {args : Array Value} {below : List Frame} {meth : Method} {c : Code} {g : gT} {r : Int32} {x' : st} (C : cxt p s m meth c args cX10_cleaned 3 RX10 (some .int)) (G : gst g s) (a1 : Int32) (a2 : Int32) (x : st) (H : Heap) (locs : List Loc) (ls : Array Slot)  (h : f_X10_cleaned a1 a2 x = some (r, x')) (hI : wst g x H) (hS : va_S (zA (gz g)) s.heap H locs) (hl : lv_has ls 3 [(0, .ref (ga g 0 0)), (1, .int a1), (2, .int a2)]) : W p l e (rmC 2 62) s m args below meth c H locs 0 0 (MQ below (Qx g (some (.int r)) x') args s 0 0 (zA (gz g))) (F0 m 0 ls []) := by
  obtain ⟨hx, hb, hml, hown, hts, hlk, hrt⟩ := id C
  unfold f_X10_cleaned at h
  refine lv_iload_n hx hb dX10_cleaned_0 rfl (lv_at hl 1 rfl) ?_
  refine lv_if_lt (tgt := 12) hx hb dX10_cleaned_1 (by decide) (fun hc => ?_) (fun hc => ?_)
  · replace h := ite_y hc h
    exact w_X10_cleaned_b12 C G  x _ _ _  h hI hS (lv_sub hl [] rfl)
  replace h := ite_n hc h
  refine lv_iload_n hx hb dX10_cleaned_4 rfl (lv_at hl 2 rfl) ?_
  refine lv_iconst (v := 3) hx hb dX10_cleaned_5 (by decide) ?_
  obtain ⟨r2, x1, hq3, h⟩ := bnd_some h
  refine w_callS (fr := 0) (lo := 0) C G hI hS ms_X10_within km_X10_20 [.int a2, .int 3] (k_X10_within l g a2 3 x _ _  hq3) rfl (by first | exact ⟨by decide, by decide⟩ | exact ⟨by show _ ≤ _ + _; omega, by show _ ≤ _ + _; omega⟩) ⟨Nat.zero_le _, Nat.zero_le _⟩ hl.1 rfl (Nat.le_of_ble_eq_true rfl) dX10_cleaned_6 (fun H locs hI hS => ?_)
  refine lv_if_ne (tgt := 14) hx hb dX10_cleaned_9 (by decide) (fun hc => ?_) (fun hc => ?_)
  · replace h := ite_n hc h
    refine lv_aload_n hx hb dX10_cleaned_14 rfl (lv_at hl 0 rfl) ?_
    refine w_get C G hI 0 0 (hI.at1 rfl) (fcE_0 g _ _) rfl in_X10 0 (by decide) kf_X10_12 (fun _ h => h) (v := .ref (ga g 1 0)) rfl dX10_cleaned_15 ?_
    refine w_get C G hI 1 0 (hI.at1 rfl) (fcE_1 g _ _) rfl in_X4 0 (by decide) kf_X10_79 (fun _ h => h) (v := .ref (ga g 2 0)) rfl dX10_cleaned_18 ?_
    refine lv_iload_n hx hb dX10_cleaned_21 rfl (lv_at hl 1 rfl) ?_
    refine lv_iload_n hx hb dX10_cleaned_22 rfl (lv_at hl 2 rfl) ?_
    obtain ⟨r5, x4, hq6, h⟩ := bnd_some h
    refine w_callV (fr := 1) (lo := 40) C G hI hS 2 0 (hI.at1 rfl) (fcE_2 g _ _) rfl mv_X8_cleanPart km_X10_117 [.int a1, .int a2] (k_X8_cleanPart l g a1 a2 x1 _ _  hq6) rfl (by first | exact ⟨by decide, by decide⟩ | exact ⟨by show _ ≤ _ + _; omega, by show _ ≤ _ + _; omega⟩) ⟨Nat.zero_le _, Nat.zero_le _⟩ hl.1 rfl (Nat.le_of_ble_eq_true rfl) dX10_cleaned_23 (fun H locs hI hS => ?_)
    cases h
    exact w_ireti C hI hS dX10_cleaned_26
  replace h := ite_y hc h
  exact w_X10_cleaned_b12 C G  x1 _ _ _  h hI hS (lv_sub hl [] rfl)
theorem k_X10_cleaned (l : Launch) (g : gT) (a1 : Int32) (a2 : Int32) (x : st) (r : Int32) (x' : st)  (h : f_X10_cleaned a1 a2 x = some (r, x')) : Kt l yX10_cleaned cX10_cleaned 3 (some .int) 2 62 g [.ref (ga g 0 0), .int a1, .int a2] x (some (.int r)) x' := by
  refine Kt.of (by decide) (fun p e s m below meth c C G hI => ?_)
  have hl := lv_entry ([.ref (ga g 0 0), .int a1, .int a2]) (n := 3) (Nat.le_of_ble_eq_true rfl)
  rw [lg_entry_eq]
  generalize (lg_sl ([.ref (ga g 0 0), .int a1, .int a2]) ++ List.replicate (3 - (lg_sl ([.ref (ga g 0 0), .int a1, .int a2])).length) Slot.unset).toArray = ls at hl ⊢
  have hl : lv_has ls 3 [(0, .ref (ga g 0 0)), (1, .int a1), (2, .int a2)] := hl
  exact w_X10_cleaned C G a1 a2 x _ _ ls  h hI va_S.rf hl
theorem mv_X10_cleaned : mtV yX10_cleaned RX10 cX10_cleaned 3 (some .int) 2 := ⟨ki_X10_cleaned, kl_X10_cleaned, kI_X10, kc_X10_cleaned, by decide +kernel⟩

/-! X10_told -/
def f_X10_told (a1 : Int32) (a2 : Int32) (x : st) : Option (Int32 × st) := bnd (f_X10_within a1 8 x) fun r2 x1 => if r2 = 0 then (some ((-1), x1)) else (if a2 = 0 then (if inb a1 8 = true then some ((x1 21 (a1.toNatClampNeg) 2), x1) else none) else if a2 = 1 then (if inb a1 8 = true then some ((x1 22 (a1.toNatClampNeg) 2), x1) else none) else if a2 = 2 then (if inb a1 8 = true then some ((x1 23 (a1.toNatClampNeg) 2), x1) else none) else (some ((-1), x1)))
set_option maxHeartbeats 4000000 in
set_option maxRecDepth 100000 in
theorem w_X10_told {p : Program} {l : Launch} {e : Env} {s : State} {m : MethodId} {args : Array Value} {below : List Frame} {meth : Method} {c : Code} {g : gT} {r : Int32} {x' : st} (C : cxt p s m meth c args cX10_told 3 RX10 (some .int)) (G : gst g s) (a1 : Int32) (a2 : Int32) (x : st) (H : Heap) (locs : List Loc) (ls : Array Slot)  (h : f_X10_told a1 a2 x = some (r, x')) (hI : wst g x H) (hS : va_S (zA (gz g)) s.heap H locs) (hl : lv_has ls 3 [(0, .ref (ga g 0 0)), (1, .int a1), (2, .int a2)]) : W p l e (rmC 1 21) s m args below meth c H locs 0 0 (MQ below (Qx g (some (.int r)) x') args s 0 0 (zA (gz g))) (F0 m 0 ls []) := by
  obtain ⟨hx, hb, hml, hown, hts, hlk, hrt⟩ := id C
  unfold f_X10_told at h
  refine lv_iload_n hx hb dX10_told_0 rfl (lv_at hl 1 rfl) ?_
  refine lv_bipush (v := 8) hx hb dX10_told_1 (by decide) ?_
  obtain ⟨r2, x1, hq3, h⟩ := bnd_some h
  refine w_callS (fr := 0) (lo := 0) C G hI hS ms_X10_within km_X10_20 [.int a1, .int 8] (k_X10_within l g a1 8 x _ _  hq3) rfl (by first | exact ⟨by decide, by decide⟩ | exact ⟨by show _ ≤ _ + _; omega, by show _ ≤ _ + _; omega⟩) ⟨Nat.zero_le _, Nat.zero_le _⟩ hl.1 rfl (Nat.le_of_ble_eq_true rfl) dX10_told_3 (fun H locs hI hS => ?_)
  refine lv_if_ne (tgt := 11) hx hb dX10_told_6 (by decide) (fun hc => ?_) (fun hc => ?_)
  · replace h := ite_n hc h
    refine lv_iload_n hx hb dX10_told_11 rfl (lv_at hl 2 rfl) ?_
    by_cases hc0 : a2 = 0
    · replace h := ite_y hc0 h
      refine lv_tableIn (off := 28) (tgt := 40) hx hb dX10_told_12 (by rw [hc0]; decide) (by rw [hc0]; decide) (by rw [hc0]; decide +kernel) (by decide) ?_
      refine lv_aload_n hx hb dX10_told_40 rfl (lv_at hl 0 rfl) ?_
      refine w_get C G hI 0 0 (hI.at1 rfl) (fcE_0 g _ _) rfl in_X10 0 (by decide) kf_X10_12 (fun _ h => h) (v := .ref (ga g 1 0)) rfl dX10_told_41 ?_
      refine w_get C G hI 1 0 (hI.at1 rfl) (fcE_1 g _ _) rfl in_X4 2 (by decide) kf_X10_30 (fun _ h => h) (v := .ref (ga g 10 0)) rfl dX10_told_44 ?_
      refine lv_iload_n hx hb dX10_told_47 rfl (lv_at hl 1 rfl) ?_
      obtain ⟨hn4, h⟩ := need_t h
      refine w_aald C G hI 10 0 (hI.at1 rfl) 4 (fcA_10 g _ _) rfl (inb_in hn4) rfl dX10_told_48 ?_
      refine w_get C G hI 15 (a1.toNatClampNeg) (hI.at8 rfl (inb_lt hn4)) (fcE_15 g _ _) rfl in_X6 0 (by decide) kf_X10_34 (fun _ h => h) (v := .ref (ga g 21 (a1.toNatClampNeg))) rfl dX10_told_49 ?_
      refine w_callV (fr := 0) (lo := 0) C G hI hS 21 (a1.toNatClampNeg) (hI.at8 rfl (inb_lt hn4)) (fcE_21 g _ _) rfl mv_Jx4a65c_size_8abf5 km_X10_40 [] (k_size_21 l g (a1.toNatClampNeg) (inb_lt hn4) _) rfl (by first | exact ⟨by decide, by decide⟩ | exact ⟨by show _ ≤ _ + _; omega, by show _ ≤ _ + _; omega⟩) ⟨Nat.zero_le _, Nat.zero_le _⟩ hl.1 rfl (Nat.le_of_ble_eq_true rfl) dX10_told_52 (fun H locs hI hS => ?_)
      cases h
      exact w_ireti C hI hS dX10_told_55
    replace h := ite_n hc0 h
    by_cases hc1 : a2 = 1
    · replace h := ite_y hc1 h
      refine lv_tableIn (off := 44) (tgt := 56) hx hb dX10_told_12 (by rw [hc1]; decide) (by rw [hc1]; decide) (by rw [hc1]; decide +kernel) (by decide) ?_
      refine lv_aload_n hx hb dX10_told_56 rfl (lv_at hl 0 rfl) ?_
      refine w_get C G hI 0 0 (hI.at1 rfl) (fcE_0 g _ _) rfl in_X10 0 (by decide) kf_X10_12 (fun _ h => h) (v := .ref (ga g 1 0)) rfl dX10_told_57 ?_
      refine w_get C G hI 1 0 (hI.at1 rfl) (fcE_1 g _ _) rfl in_X4 2 (by decide) kf_X10_30 (fun _ h => h) (v := .ref (ga g 10 0)) rfl dX10_told_60 ?_
      refine lv_iload_n hx hb dX10_told_63 rfl (lv_at hl 1 rfl) ?_
      obtain ⟨hn5, h⟩ := need_t h
      refine w_aald C G hI 10 0 (hI.at1 rfl) 4 (fcA_10 g _ _) rfl (inb_in hn5) rfl dX10_told_64 ?_
      refine w_get C G hI 15 (a1.toNatClampNeg) (hI.at8 rfl (inb_lt hn5)) (fcE_15 g _ _) rfl in_X6 1 (by decide) kf_X10_56 (fun _ h => h) (v := .ref (ga g 22 (a1.toNatClampNeg))) rfl dX10_told_65 ?_
      refine w_callV (fr := 0) (lo := 0) C G hI hS 22 (a1.toNatClampNeg) (hI.at8 rfl (inb_lt hn5)) (fcE_22 g _ _) rfl mv_Jx4a65c_size_8abf5 km_X10_40 [] (k_size_22 l g (a1.toNatClampNeg) (inb_lt hn5) _) rfl (by first | exact ⟨by decide, by decide⟩ | exact ⟨by show _ ≤ _ + _; omega, by show _ ≤ _ + _; omega⟩) ⟨Nat.zero_le _, Nat.zero_le _⟩ hl.1 rfl (Nat.le_of_ble_eq_true rfl) dX10_told_68 (fun H locs hI hS => ?_)
      cases h
      exact w_ireti C hI hS dX10_told_71
    replace h := ite_n hc1 h
    by_cases hc2 : a2 = 2
    · replace h := ite_y hc2 h
      refine lv_tableIn (off := 60) (tgt := 72) hx hb dX10_told_12 (by rw [hc2]; decide) (by rw [hc2]; decide) (by rw [hc2]; decide +kernel) (by decide) ?_
      refine lv_aload_n hx hb dX10_told_72 rfl (lv_at hl 0 rfl) ?_
      refine w_get C G hI 0 0 (hI.at1 rfl) (fcE_0 g _ _) rfl in_X10 0 (by decide) kf_X10_12 (fun _ h => h) (v := .ref (ga g 1 0)) rfl dX10_told_73 ?_
      refine w_get C G hI 1 0 (hI.at1 rfl) (fcE_1 g _ _) rfl in_X4 2 (by decide) kf_X10_30 (fun _ h => h) (v := .ref (ga g 10 0)) rfl dX10_told_76 ?_
      refine lv_iload_n hx hb dX10_told_79 rfl (lv_at hl 1 rfl) ?_
      obtain ⟨hn6, h⟩ := need_t h
      refine w_aald C G hI 10 0 (hI.at1 rfl) 4 (fcA_10 g _ _) rfl (inb_in hn6) rfl dX10_told_80 ?_
      refine w_get C G hI 15 (a1.toNatClampNeg) (hI.at8 rfl (inb_lt hn6)) (fcE_15 g _ _) rfl in_X6 2 (by decide) kf_X10_64 (fun _ h => h) (v := .ref (ga g 23 (a1.toNatClampNeg))) rfl dX10_told_81 ?_
      refine w_callV (fr := 0) (lo := 0) C G hI hS 23 (a1.toNatClampNeg) (hI.at8 rfl (inb_lt hn6)) (fcE_23 g _ _) rfl mv_Jx4a65c_size_8abf5 km_X10_40 [] (k_size_23 l g (a1.toNatClampNeg) (inb_lt hn6) _) rfl (by first | exact ⟨by decide, by decide⟩ | exact ⟨by show _ ≤ _ + _; omega, by show _ ≤ _ + _; omega⟩) ⟨Nat.zero_le _, Nat.zero_le _⟩ hl.1 rfl (Nat.le_of_ble_eq_true rfl) dX10_told_84 (fun H locs hI hS => ?_)
      cases h
      exact w_ireti C hI hS dX10_told_87
    replace h := ite_n hc2 h
    refine lv_tableOut (tgt := 88) hx hb dX10_told_12 (sw_out 3 (by intro k hk; match k, hk with | 0, _ => exact hc0 | 1, _ => exact hc1 | 2, _ => exact hc2 | k + 3, hk => exact absurd hk (by omega)) (by decide)) (by decide) ?_
    refine lv_iconst (v := (-1)) hx hb dX10_told_88 (by decide) ?_
    cases h
    exact w_ireti C hI hS dX10_told_89
  replace h := ite_y hc h
  refine lv_iconst (v := (-1)) hx hb dX10_told_9 (by decide) ?_
  cases h
  exact w_ireti C hI hS dX10_told_10
theorem k_X10_told (l : Launch) (g : gT) (a1 : Int32) (a2 : Int32) (x : st) (r : Int32) (x' : st)  (h : f_X10_told a1 a2 x = some (r, x')) : Kt l yX10_told cX10_told 3 (some .int) 1 21 g [.ref (ga g 0 0), .int a1, .int a2] x (some (.int r)) x' := by
  refine Kt.of (by decide) (fun p e s m below meth c C G hI => ?_)
  have hl := lv_entry ([.ref (ga g 0 0), .int a1, .int a2]) (n := 3) (Nat.le_of_ble_eq_true rfl)
  rw [lg_entry_eq]
  generalize (lg_sl ([.ref (ga g 0 0), .int a1, .int a2]) ++ List.replicate (3 - (lg_sl ([.ref (ga g 0 0), .int a1, .int a2])).length) Slot.unset).toArray = ls at hl ⊢
  have hl : lv_has ls 3 [(0, .ref (ga g 0 0)), (1, .int a1), (2, .int a2)] := hl
  exact w_X10_told C G a1 a2 x _ _ ls  h hI va_S.rf hl
theorem mv_X10_told : mtV yX10_told RX10 cX10_told 3 (some .int) 2 := ⟨ki_X10_told, kl_X10_told, kI_X10, kc_X10_told, by decide +kernel⟩
/-- performFrame, d FRAMES deep at most -/
def pfn : Nat → Int32 → st → Option (Nat × st)
  | 0, _, _ => none
  | d + 1, a, x => f_X4_performFrame (pfn d) a x
theorem k_pfn (l : Launch) (g : gT) : ∀ (d : Nat) (dep : Int32) (x : st) (o : Nat) (x' : st), pfn d dep x = some (o, x') → Kt l yX4_performFrame cX4_performFrame 6 (some (.object "StepBudgets$Outcome")) (9 * d) (214 * d) g [.ref (ga g 1 0), .int dep] x (some (.ref (ge g o))) x'
  | 0, _, _, _, _, h => by cases h
  | d + 1, dep, x, o, x', h => k_X4_performFrame l g (frp := 9 * d) (lop := 214 * d) (pfn d) (k_pfn l g d) dep x o x' h
