theorem mv_X4_performFrame : mtV yX4_performFrame RX4 cX4_performFrame 6 (some (.object "StepBudgets$Outcome")) 1 := ⟨ki_X4_performFrame, kl_X4_performFrame, kI_X4, kc_X4_performFrame, by decide +kernel⟩
/-! X4_cleanFrame -/
def f_X4_cleanFrame (pf : Int32 → st → Option (Nat × st)) (i1 : Nat) (a2 : Int32) (a3 : Int32) (x : st) : Option (Nat × st) := if inb (x 12 i1 2) 8 = true then if inb a2 (x 26 ((x 12 i1 2).toNatClampNeg) 0).toNatClampNeg = true then bnd (f_X1_by (6 * ((x 12 i1 2).toNatClampNeg) + a2.toNatClampNeg) x) fun r5 x4 => if inb 0 6 = true then if inb 0 3 = true then bnd (f_X4_makeFrame r5 (x4 13 i1 (0 : Int32).toNatClampNeg) (x4 14 i1 (0 : Int32).toNatClampNeg) (a3 + 1) x4) fun r10 x9 => if r10 < 5 then if r10 = 0 then (lets (sx x9 12 i1 5 ((x9 12 i1 5) ||| (1 <<< (a2 &&& 31)))) fun x13 => bnv (f_X8_noteClean r5 (x13 12 i1 2) (a3 + 1) x13) fun x14 => bnd (pf (a3 + 1) x14) fun r18 x17 => some (r18, x17)) else (some (r10, x9)) else none else none else none else none else none
set_option maxHeartbeats 4000000 in
set_option maxRecDepth 100000 in
theorem w_X4_cleanFrame {p : Program} {l : Launch} {e : Env} {s : State} {m : MethodId} {args : Array Value} {below : List Frame} {meth : Method} {c : Code} {g : gT} {frp lop : Nat} {r : Nat} {x' : st} (C : cxt p s m meth c args cX4_cleanFrame 6 RX4 (some (.object "StepBudgets$Outcome"))) (G : gst g s) {pf : Int32 → st → Option (Nat × st)} (hpf : ∀ (dep : Int32) (x : st) (o : Nat) (x' : st), pf dep x = some (o, x') → Kt l yX4_performFrame cX4_performFrame 6 (some (.object "StepBudgets$Outcome")) frp lop g [.ref (ga g 1 0), .int dep] x (some (.ref (ge g o))) x') (i1 : Nat) (a2 : Int32) (a3 : Int32) (x : st) (H : Heap) (locs : List Loc) (ls : Array Slot) (h_i1 : i1 < 12) (h : f_X4_cleanFrame pf i1 a2 a3 x = some (r, x')) (hI : wst g x H) (hS : va_S (zA (gz g)) s.heap H locs) (hl : lv_has ls 6 [(0, .ref (ga g 1 0)), (1, .ref (ga g 12 i1)), (2, .int a2), (3, .int a3)]) : W p l e (rmC (frp + 4) (lop + 87)) s m args below meth c H locs 0 0 (MQ below (Qx g (some (.ref (ge g r))) x') args s 0 0 (zA (gz g))) (F0 m 0 ls []) := by
  obtain ⟨hx, hb, hml, hown, hts, hlk, hrt⟩ := id C
  unfold f_X4_cleanFrame at h
  refine lv_aload_n hx hb dX4_cleanFrame_0 rfl (lv_at hl 0 rfl) ?_
  refine w_get C G hI 1 0 (hI.at1 rfl) (fcE_1 g _ _) rfl in_X4 2 (by decide) kf_X4_27 (fun _ h => h) (v := .ref (ga g 10 0)) rfl dX4_cleanFrame_1 ?_
  refine lv_aload_n hx hb dX4_cleanFrame_4 rfl (lv_at hl 1 rfl) ?_
  refine w_get C G hI 12 i1 (hI.at12 rfl h_i1) (fcE_12 g _ _) rfl in_X2 2 (by decide) kf_X4_104 (fun _ h => h) (v := .int (x 12 i1 2)) rfl dX4_cleanFrame_5 ?_
  obtain ⟨hn1, h⟩ := need_t h
  refine w_aald C G hI 10 0 (hI.at1 rfl) 4 (fcA_10 g _ _) rfl (inb_in hn1) rfl dX4_cleanFrame_8 ?_
  refine w_get C G hI 15 ((x 12 i1 2).toNatClampNeg) (hI.at8 rfl (inb_lt hn1)) (fcE_15 g _ _) rfl in_X6 2 (by decide) kf_X4_180 (fun _ h => h) (v := .ref (ga g 23 ((x 12 i1 2).toNatClampNeg))) rfl dX4_cleanFrame_9 ?_
  refine lv_iload_n hx hb dX4_cleanFrame_12 rfl (lv_at hl 2 rfl) ?_
  obtain ⟨hn2, h⟩ := need_t h
  refine w_callV (fr := 2) (lo := 43) C G hI hS 23 ((x 12 i1 2).toNatClampNeg) (hI.at8 rfl (inb_lt hn1)) (fcE_23 g _ _) rfl mv_Jx4a65c_get_915e3 km_X4_137 [.int a2] (k_get_23 l g ((x 12 i1 2).toNatClampNeg) (inb_lt hn1) hI.2 _ hn2) rfl (by first | exact ⟨by decide, by decide⟩ | exact ⟨by show _ ≤ _ + _; omega, by show _ ≤ _ + _; omega⟩) ⟨Nat.zero_le _, Nat.zero_le _⟩ hl.1 rfl (Nat.le_of_ble_eq_true rfl) dX4_cleanFrame_13 (fun H locs hI hS => ?_)
  have hg3 := (hI.2.2.2.2.2 ((x 12 i1 2).toNatClampNeg) a2.toNatClampNeg (inb_lt hn1) (inb_lt hn2)).2.1
  refine w_cast C G hI 20 (6 * ((x 12 i1 2).toNatClampNeg) + a2.toNatClampNeg) hg3 (fcE_20 g _ _) rfl kC_X4_183 dX4_cleanFrame_16 ?_
  obtain ⟨r5, x4, hq6, h⟩ := bnd_some h
  refine w_callV (fr := 0) (lo := 0) C G hI hS 20 (6 * ((x 12 i1 2).toNatClampNeg) + a2.toNatClampNeg) hg3 (fcE_20 g _ _) rfl mv_X1_by km_X4_195 [] (k_X1_by l g (6 * ((x 12 i1 2).toNatClampNeg) + a2.toNatClampNeg) x _ _ hg3 hq6) rfl (by first | exact ⟨by decide, by decide⟩ | exact ⟨by show _ ≤ _ + _; omega, by show _ ≤ _ + _; omega⟩) ⟨Nat.zero_le _, Nat.zero_le _⟩ hl.1 rfl (Nat.le_of_ble_eq_true rfl) dX4_cleanFrame_19 (fun H locs hI hS => ?_)
  refine lv_istore (lv' := [(4, .int r5), (0, .ref (ga g 1 0)), (1, .ref (ga g 12 i1)), (2, .int a2), (3, .int a3)]) hx hb dX4_cleanFrame_22 hl (by decide) rfl (fun ls hl => ?_)
  refine lv_aload_n hx hb dX4_cleanFrame_24 rfl (lv_at hl 1 rfl) ?_
  refine lv_iload hx hb dX4_cleanFrame_25 (lv_at hl 0 rfl) ?_
  refine lv_aload_n hx hb dX4_cleanFrame_27 rfl (lv_at hl 2 rfl) ?_
  refine w_get C G hI 12 i1 (hI.at12 rfl h_i1) (fcE_12 g _ _) rfl in_X2 0 (by decide) kf_X4_176 (fun _ h => h) (v := .ref (ga g 13 i1)) rfl dX4_cleanFrame_28 ?_
  refine lv_iconst (v := 0) hx hb dX4_cleanFrame_31 (by decide) ?_
  obtain ⟨hn7, h⟩ := need_t h
  refine w_iald C G hI 13 i1 (hI.at12 rfl h_i1) (fcA_13 g _ _) (inb_in hn7) dX4_cleanFrame_32 ?_
  refine lv_aload_n hx hb dX4_cleanFrame_33 rfl (lv_at hl 2 rfl) ?_
  refine w_get C G hI 12 i1 (hI.at12 rfl h_i1) (fcE_12 g _ _) rfl in_X2 1 (by decide) kf_X4_198 (fun _ h => h) (v := .ref (ga g 14 i1)) rfl dX4_cleanFrame_34 ?_
  refine lv_iconst (v := 0) hx hb dX4_cleanFrame_37 (by decide) ?_
  obtain ⟨hn8, h⟩ := need_t h
  refine w_iald C G hI 14 i1 (hI.at12 rfl h_i1) (fcA_14 g _ _) (inb_in hn8) dX4_cleanFrame_38 ?_
  refine lv_iload_n hx hb dX4_cleanFrame_39 rfl (lv_at hl 4 rfl) ?_
  refine lv_iconst (v := 1) hx hb dX4_cleanFrame_40 (by decide) ?_
  refine lv_iadd hx hb dX4_cleanFrame_41 ?_
  obtain ⟨r10, x9, hq11, h⟩ := bnd_some h
  refine w_callV (fr := 3) (lo := 62) C G hI hS 1 0 (hI.at1 rfl) (fcE_1 g _ _) rfl mv_X4_makeFrame km_X4_81 [.int r5, .int (x4 13 i1 (0 : Int32).toNatClampNeg), .int (x4 14 i1 (0 : Int32).toNatClampNeg), .int (a3 + 1)] (k_X4_makeFrame l g r5 (x4 13 i1 (0 : Int32).toNatClampNeg) (x4 14 i1 (0 : Int32).toNatClampNeg) (a3 + 1) x4 _ _  hq11) rfl (by first | exact ⟨by decide, by decide⟩ | exact ⟨by show _ ≤ _ + _; omega, by show _ ≤ _ + _; omega⟩) ⟨Nat.zero_le _, Nat.zero_le _⟩ hl.1 rfl (Nat.le_of_ble_eq_true rfl) dX4_cleanFrame_42 (fun H locs hI hS => ?_)
  refine lv_astore (lv' := [(5, .ref (ge g r10)), (4, .int r5), (0, .ref (ga g 1 0)), (1, .ref (ga g 12 i1)), (2, .int a2), (3, .int a3)]) hx hb dX4_cleanFrame_45 hl (by decide) rfl (fun ls hl => ?_)
  refine lv_aload hx hb dX4_cleanFrame_47 (lv_at hl 0 rfl) ?_
  refine w_out C G hS 0 (by decide) rfl kf_X4_84 dX4_cleanFrame_49 ?_
  obtain ⟨hn12, h⟩ := need_p h
  refine w_acmp_eq (tgt := 58) C G (a := r10) (b := 0) hn12 (by decide) dX4_cleanFrame_52 (by decide) (fun hc => ?_) (fun hc => ?_)
  · replace h := ite_y hc h
    refine lv_aload_n hx hb dX4_cleanFrame_58 rfl (lv_at hl 3 rfl) ?_
    refine lv_dup hx hb dX4_cleanFrame_59 rfl ?_
    refine w_get C G hI 12 i1 (hI.at12 rfl h_i1) (fcE_12 g _ _) rfl in_X2 5 (by decide) kf_X4_134 (fun _ h => h) (v := .int (x9 12 i1 5)) rfl dX4_cleanFrame_60 ?_
    refine lv_iconst (v := 1) hx hb dX4_cleanFrame_63 (by decide) ?_
    refine lv_iload_n hx hb dX4_cleanFrame_64 rfl (lv_at hl 4 rfl) ?_
    refine lv_ishl hx hb dX4_cleanFrame_65 ?_
    refine lv_ior hx hb dX4_cleanFrame_66 ?_
    refine w_put C G hI hS 12 i1 (hI.at12 rfl h_i1) rfl (fcE_12 g _ _) rfl in_X2 tyX2 tyX2_ok nmX2 5 (by decide) kf_X4_134 (fun _ h => h) rfl (ty := .int) (y := ((x9 12 i1 5) ||| (1 <<< (a2 &&& 31)))) (by decide +kernel) rfl rfl (Nat.le_of_ble_eq_true rfl) rfl dX4_cleanFrame_67 (fun H locs hI hS => ?_)
    obtain ⟨x13, e_x13, h⟩ := lets_some h
    rw [← e_x13] at hI
    refine lv_aload_n hx hb dX4_cleanFrame_70 rfl (lv_at hl 2 rfl) ?_
    refine w_get C G hI 1 0 (hI.at1 rfl) (fcE_1 g _ _) rfl in_X4 0 (by decide) kf_X4_12 (fun _ h => h) (v := .ref (ga g 2 0)) rfl dX4_cleanFrame_71 ?_
    refine lv_iload hx hb dX4_cleanFrame_74 (lv_at hl 1 rfl) ?_
    refine lv_aload_n hx hb dX4_cleanFrame_76 rfl (lv_at hl 3 rfl) ?_
    refine w_get C G hI 12 i1 (hI.at12 rfl h_i1) (fcE_12 g _ _) rfl in_X2 2 (by decide) kf_X4_104 (fun _ h => h) (v := .int (x13 12 i1 2)) rfl dX4_cleanFrame_77 ?_
    refine lv_iload_n hx hb dX4_cleanFrame_80 rfl (lv_at hl 5 rfl) ?_
    refine lv_iconst (v := 1) hx hb dX4_cleanFrame_81 (by decide) ?_
    refine lv_iadd hx hb dX4_cleanFrame_82 ?_
    obtain ⟨x14, hq16, h⟩ := bnv_some h
    refine w_callV (fr := 0) (lo := 0) C G hI hS 2 0 (hI.at1 rfl) (fcE_2 g _ _) rfl mv_X8_noteClean km_X4_200 [.int r5, .int (x13 12 i1 2), .int (a3 + 1)] (k_X8_noteClean l g r5 (x13 12 i1 2) (a3 + 1) x13 _  hq16) rfl (by first | exact ⟨by decide, by decide⟩ | exact ⟨by show _ ≤ _ + _; omega, by show _ ≤ _ + _; omega⟩) ⟨Nat.zero_le _, Nat.zero_le _⟩ hl.1 rfl (Nat.le_of_ble_eq_true rfl) dX4_cleanFrame_83 (fun H locs hI hS => ?_)
    refine lv_aload_n hx hb dX4_cleanFrame_86 rfl (lv_at hl 2 rfl) ?_
    refine lv_iload_n hx hb dX4_cleanFrame_87 rfl (lv_at hl 5 rfl) ?_
    refine lv_iconst (v := 1) hx hb dX4_cleanFrame_88 (by decide) ?_
    refine lv_iadd hx hb dX4_cleanFrame_89 ?_
    obtain ⟨r18, x17, hq19, h⟩ := bnd_some h
    refine w_callV (fr := frp) (lo := lop) C G hI hS 1 0 (hI.at1 rfl) (fcE_1 g _ _) rfl mv_X4_performFrame km_X4_87 [.int (a3 + 1)] (hpf (a3 + 1) x14 _ _ hq19) rfl (by first | exact ⟨by decide, by decide⟩ | exact ⟨by show _ ≤ _ + _; omega, by show _ ≤ _ + _; omega⟩) ⟨Nat.zero_le _, Nat.zero_le _⟩ hl.1 rfl (Nat.le_of_ble_eq_true rfl) dX4_cleanFrame_90 (fun H locs hI hS => ?_)
    cases h
    exact w_aret C hI hS dX4_cleanFrame_93
  replace h := ite_n hc h
  refine lv_aload hx hb dX4_cleanFrame_55 (lv_at hl 0 rfl) ?_
  cases h
  exact w_aret C hI hS dX4_cleanFrame_57
theorem k_X4_cleanFrame (l : Launch) (g : gT) {frp lop : Nat} (pf : Int32 → st → Option (Nat × st)) (hpf : ∀ (dep : Int32) (x : st) (o : Nat) (x' : st), pf dep x = some (o, x') → Kt l yX4_performFrame cX4_performFrame 6 (some (.object "StepBudgets$Outcome")) frp lop g [.ref (ga g 1 0), .int dep] x (some (.ref (ge g o))) x') (i1 : Nat) (a2 : Int32) (a3 : Int32) (x : st) (r : Nat) (x' : st) (h_i1 : i1 < 12) (h : f_X4_cleanFrame pf i1 a2 a3 x = some (r, x')) : Kt l yX4_cleanFrame cX4_cleanFrame 6 (some (.object "StepBudgets$Outcome")) (frp + 4) (lop + 87) g [.ref (ga g 1 0), .ref (ga g 12 i1), .int a2, .int a3] x (some (.ref (ge g r))) x' := by
  refine Kt.of (by decide) (fun p e s m below meth c C G hI => ?_)
  have hl := lv_entry ([.ref (ga g 1 0), .ref (ga g 12 i1), .int a2, .int a3]) (n := 6) (Nat.le_of_ble_eq_true rfl)
  rw [lg_entry_eq]
  generalize (lg_sl ([.ref (ga g 1 0), .ref (ga g 12 i1), .int a2, .int a3]) ++ List.replicate (6 - (lg_sl ([.ref (ga g 1 0), .ref (ga g 12 i1), .int a2, .int a3])).length) Slot.unset).toArray = ls at hl ⊢
  have hl : lv_has ls 6 [(0, .ref (ga g 1 0)), (1, .ref (ga g 12 i1)), (2, .int a2), (3, .int a3)] := hl
  exact w_X4_cleanFrame C G hpf i1 a2 a3 x _ _ ls h_i1 h hI va_S.rf hl
theorem mv_X4_cleanFrame : mtV yX4_cleanFrame RX4 cX4_cleanFrame 6 (some (.object "StepBudgets$Outcome")) 3 := ⟨ki_X4_cleanFrame, kl_X4_cleanFrame, kI_X4, kc_X4_cleanFrame, by decide +kernel⟩

/-! X4_leave -/
def f_X4_leave_b82 (pf : Int32 → st → Option (Nat × st)) (lp : Nat → Int32 → Int32 → Nat → Int32 → st → Option (Nat × st)) (v1 : Nat) (v2 : Int32) (v3 : Int32) (v4 : Nat) (v5 : Int32) (x : st) : Option (Nat × st) := lp v1 v2 v3 v4 (v5 + (-1)) x
set_option maxHeartbeats 4000000 in
set_option maxRecDepth 100000 in
theorem w_X4_leave_b82 {p : Program} {l : Launch} {e : Env} {s : State} {m : MethodId} {args : Array Value} {below : List Frame} {meth : Method} {c : Code} {g : gT} {frp lop : Nat} {r : Nat} {x' : st} (C : cxt p s m meth c args cX4_leave 8 RX4 (some (.object "StepBudgets$Outcome"))) (G : gst g s) {pf : Int32 → st → Option (Nat × st)} (hpf : ∀ (dep : Int32) (x : st) (o : Nat) (x' : st), pf dep x = some (o, x') → Kt l yX4_performFrame cX4_performFrame 6 (some (.object "StepBudgets$Outcome")) frp lop g [.ref (ga g 1 0), .int dep] x (some (.ref (ge g o))) x') (lp : Nat → Int32 → Int32 → Nat → Int32 → st → Option (Nat × st)) (hlp : ∀ (v1 : Nat) (v2 : Int32) (v3 : Int32) (v4 : Nat) (v5 : Int32) (x : st) (H : Heap) (locs : List Loc) (ls : Array Slot), v1 < 12 → v4 < 8 → lp v1 v2 v3 v4 v5 x = some (r, x') → wst g x H → va_S (zA (gz g)) s.heap H locs → lv_has ls 8 [(0, .ref (ga g 1 0)), (1, .ref (ga g 12 v1)), (2, .int v2), (3, .int v3), (4, .ref (ga g 23 v4)), (5, .int v5)] → W p l e (rmC (frp + 5) (lop + 112)) s m args below meth c H locs 0 0 (MQ below (Qx g (some (.ref (ge g r))) x') args s 0 0 (zA (gz g))) (F0 m 23 ls [])) (v1 : Nat) (v2 : Int32) (v3 : Int32) (v4 : Nat) (v5 : Int32) (x : st) (H : Heap) (locs : List Loc) (ls : Array Slot) (h_v1 : v1 < 12) (h_v4 : v4 < 8) (h : f_X4_leave_b82 pf lp v1 v2 v3 v4 v5 x = some (r, x')) (hI : wst g x H) (hS : va_S (zA (gz g)) s.heap H locs) (hl : lv_has ls 8 [(0, .ref (ga g 1 0)), (1, .ref (ga g 12 v1)), (2, .int v2), (3, .int v3), (4, .ref (ga g 23 v4)), (5, .int v5)]) : W p l e (rmC (frp + 5) (lop + 112)) s m args below meth c H locs 0 0 (MQ below (Qx g (some (.ref (ge g r))) x') args s 0 0 (zA (gz g))) (F0 m 82 ls []) := by
  obtain ⟨hx, hb, hml, hown, hts, hlk, hrt⟩ := id C
  unfold f_X4_leave_b82 at h
  refine lv_iinc (v := (v5 + (-1))) (lv' := [(5, .int (v5 + (-1))), (0, .ref (ga g 1 0)), (1, .ref (ga g 12 v1)), (2, .int v2), (3, .int v3), (4, .ref (ga g 23 v4))]) hx hb dX4_leave_82 hl (k := 5) rfl rfl (by decide) rfl (fun ls hl => ?_)
  refine lv_goto (tgt := 23) hx hb dX4_leave_85 (by decide) ?_
  exact hlp v1 v2 v3 v4 (v5 + (-1)) x _ _ _ h_v1 h_v4 h hI hS (lv_sub hl [1, 2, 3, 4, 5, 0] rfl)
def f_X4_leave_b23 (pf : Int32 → st → Option (Nat × st)) : Nat → Nat → Int32 → Int32 → Nat → Int32 → st → Option (Nat × st)
  | 0, _, _, _, _, _, _ => none
  | n + 1, v1, v2, v3, v4, v5, x => if v5 < 0 then (some (0, x)) else (if inb v5 (x 26 v4 0).toNatClampNeg = true then bnd (f_X1_holds (6 * v4 + v5.toNatClampNeg) (x 12 v1 3) x) fun r5 x4 => if r5 = 0 then (f_X4_leave_b82 pf (f_X4_leave_b23 pf n) v1 v2 v3 v4 v5 x4) else (bnd (f_X1_holds (6 * v4 + v5.toNatClampNeg) v2 x4) fun r8 x7 => if r8 = 0 then (bnd (f_X4_cleanFrame pf v1 v5 v3 x7) fun r11 x10 => if r11 < 5 then if r11 = 1 then (f_X4_leave_b82 pf (f_X4_leave_b23 pf n) v1 v2 v3 v4 v5 x10) else (some (r11, x10)) else none) else (f_X4_leave_b82 pf (f_X4_leave_b23 pf n) v1 v2 v3 v4 v5 x7)) else none)
set_option maxHeartbeats 4000000 in
set_option maxRecDepth 100000 in
theorem w_X4_leave_b23 {p : Program} {l : Launch} {e : Env} {s : State} {m : MethodId} {args : Array Value} {below : List Frame} {meth : Method} {c : Code} {g : gT} {frp lop : Nat} {r : Nat} {x' : st} (C : cxt p s m meth c args cX4_leave 8 RX4 (some (.object "StepBudgets$Outcome"))) (G : gst g s) {pf : Int32 → st → Option (Nat × st)} (hpf : ∀ (dep : Int32) (x : st) (o : Nat) (x' : st), pf dep x = some (o, x') → Kt l yX4_performFrame cX4_performFrame 6 (some (.object "StepBudgets$Outcome")) frp lop g [.ref (ga g 1 0), .int dep] x (some (.ref (ge g o))) x') : ∀ (n : Nat) (v1 : Nat) (v2 : Int32) (v3 : Int32) (v4 : Nat) (v5 : Int32) (x : st) (H : Heap) (locs : List Loc) (ls : Array Slot), v1 < 12 → v4 < 8 → f_X4_leave_b23 pf n v1 v2 v3 v4 v5 x = some (r, x') → wst g x H → va_S (zA (gz g)) s.heap H locs → lv_has ls 8 [(0, .ref (ga g 1 0)), (1, .ref (ga g 12 v1)), (2, .int v2), (3, .int v3), (4, .ref (ga g 23 v4)), (5, .int v5)] → W p l e (rmC (frp + 5) (lop + 112)) s m args below meth c H locs 0 0 (MQ below (Qx g (some (.ref (ge g r))) x') args s 0 0 (zA (gz g))) (F0 m 23 ls []) := by
  obtain ⟨hx, hb, hml, hown, hts, hlk, hrt⟩ := id C
  intro n
  induction n with
  | zero =>
    intro v1 v2 v3 v4 v5 x H locs ls h_v1 h_v4 h hI hS hl
    simp [f_X4_leave_b23] at h
  | succ n ih =>
    intro v1 v2 v3 v4 v5 x H locs ls h_v1 h_v4 h hI hS hl
    unfold f_X4_leave_b23 at h
    refine lv_iload hx hb dX4_leave_23 (lv_at hl 5 rfl) ?_
    refine lv_if_lt (tgt := 88) hx hb dX4_leave_25 (by decide) (fun hc => ?_) (fun hc => ?_)
    · replace h := ite_y hc h
      refine w_out C G hS 0 (by decide) rfl kf_X4_84 dX4_leave_88 ?_
      cases h
      exact w_aret C hI hS dX4_leave_91
    replace h := ite_n hc h
    refine lv_aload hx hb dX4_leave_28 (lv_at hl 4 rfl) ?_
    refine lv_iload hx hb dX4_leave_30 (lv_at hl 5 rfl) ?_
    obtain ⟨hn2, h⟩ := need_t h
    refine w_callV (fr := 2) (lo := 43) C G hI hS 23 v4 (hI.at8 rfl h_v4) (fcE_23 g _ _) rfl mv_Jx4a65c_get_915e3 km_X4_137 [.int v5] (k_get_23 l g v4 h_v4 hI.2 _ hn2) rfl (by first | exact ⟨by decide, by decide⟩ | exact ⟨by show _ ≤ _ + _; omega, by show _ ≤ _ + _; omega⟩) ⟨Nat.zero_le _, Nat.zero_le _⟩ hl.1 rfl (Nat.le_of_ble_eq_true rfl) dX4_leave_32 (fun H locs hI hS => ?_)
    have hg3 := (hI.2.2.2.2.2 v4 v5.toNatClampNeg h_v4 (inb_lt hn2)).2.1
    refine w_cast C G hI 20 (6 * v4 + v5.toNatClampNeg) hg3 (fcE_20 g _ _) rfl kC_X4_183 dX4_leave_35 ?_
    refine lv_astore (lv' := [(6, .ref (ga g 20 (6 * v4 + v5.toNatClampNeg))), (0, .ref (ga g 1 0)), (1, .ref (ga g 12 v1)), (2, .int v2), (3, .int v3), (4, .ref (ga g 23 v4)), (5, .int v5)]) hx hb dX4_leave_38 hl (by decide) rfl (fun ls hl => ?_)
    refine lv_aload hx hb dX4_leave_40 (lv_at hl 0 rfl) ?_
    refine lv_aload_n hx hb dX4_leave_42 rfl (lv_at hl 2 rfl) ?_
    refine w_get C G hI 12 v1 (hI.at12 rfl h_v1) (fcE_12 g _ _) rfl in_X2 3 (by decide) kf_X4_118 (fun _ h => h) (v := .int (x 12 v1 3)) rfl dX4_leave_43 ?_
    obtain ⟨r5, x4, hq6, h⟩ := bnd_some h
    refine w_callV (fr := 0) (lo := 0) C G hI hS 20 (6 * v4 + v5.toNatClampNeg) hg3 (fcE_20 g _ _) rfl mv_X1_holds km_X4_185 [.int (x 12 v1 3)] (k_X1_holds l g (6 * v4 + v5.toNatClampNeg) (x 12 v1 3) x _ _ hg3 hq6) rfl (by first | exact ⟨by decide, by decide⟩ | exact ⟨by show _ ≤ _ + _; omega, by show _ ≤ _ + _; omega⟩) ⟨Nat.zero_le _, Nat.zero_le _⟩ hl.1 rfl (Nat.le_of_ble_eq_true rfl) dX4_leave_46 (fun H locs hI hS => ?_)
    refine lv_if_eq (tgt := 82) hx hb dX4_leave_49 (by decide) (fun hc => ?_) (fun hc => ?_)
    · replace h := ite_y hc h
      exact w_X4_leave_b82 C G hpf (f_X4_leave_b23 pf n) ih v1 v2 v3 v4 v5 x4 _ _ _ h_v1 h_v4 h hI hS (lv_sub hl [1, 2, 3, 4, 5, 6] rfl)
    replace h := ite_n hc h
    refine lv_aload hx hb dX4_leave_52 (lv_at hl 0 rfl) ?_
    refine lv_iload_n hx hb dX4_leave_54 rfl (lv_at hl 3 rfl) ?_
    obtain ⟨r8, x7, hq9, h⟩ := bnd_some h
    refine w_callV (fr := 0) (lo := 0) C G hI hS 20 (6 * v4 + v5.toNatClampNeg) hg3 (fcE_20 g _ _) rfl mv_X1_holds km_X4_185 [.int v2] (k_X1_holds l g (6 * v4 + v5.toNatClampNeg) v2 x4 _ _ hg3 hq9) rfl (by first | exact ⟨by decide, by decide⟩ | exact ⟨by show _ ≤ _ + _; omega, by show _ ≤ _ + _; omega⟩) ⟨Nat.zero_le _, Nat.zero_le _⟩ hl.1 rfl (Nat.le_of_ble_eq_true rfl) dX4_leave_55 (fun H locs hI hS => ?_)
    refine lv_if_ne (tgt := 82) hx hb dX4_leave_58 (by decide) (fun hc => ?_) (fun hc => ?_)
    · replace h := ite_n hc h
      exact w_X4_leave_b82 C G hpf (f_X4_leave_b23 pf n) ih v1 v2 v3 v4 v5 x7 _ _ _ h_v1 h_v4 h hI hS (lv_sub hl [1, 2, 3, 4, 5, 6] rfl)
    replace h := ite_y hc h
    refine lv_aload_n hx hb dX4_leave_61 rfl (lv_at hl 1 rfl) ?_
    refine lv_aload_n hx hb dX4_leave_62 rfl (lv_at hl 2 rfl) ?_
    refine lv_iload hx hb dX4_leave_63 (lv_at hl 6 rfl) ?_
    refine lv_iload_n hx hb dX4_leave_65 rfl (lv_at hl 4 rfl) ?_
    obtain ⟨r11, x10, hq12, h⟩ := bnd_some h
    refine w_callV (fr := frp + 4) (lo := lop + 87) C G hI hS 1 0 (hI.at1 rfl) (fcE_1 g _ _) rfl mv_X4_cleanFrame km_X4_189 [.ref (ga g 12 v1), .int v5, .int v3] (k_X4_cleanFrame l g pf hpf v1 v5 v3 x7 _ _ h_v1 hq12) rfl (by first | exact ⟨by decide, by decide⟩ | exact ⟨by show _ ≤ _ + _; omega, by show _ ≤ _ + _; omega⟩) ⟨Nat.zero_le _, Nat.zero_le _⟩ hl.1 rfl (Nat.le_of_ble_eq_true rfl) dX4_leave_66 (fun H locs hI hS => ?_)
    refine lv_astore (lv' := [(7, .ref (ge g r11)), (6, .ref (ga g 20 (6 * v4 + v5.toNatClampNeg))), (0, .ref (ga g 1 0)), (1, .ref (ga g 12 v1)), (2, .int v2), (3, .int v3), (4, .ref (ga g 23 v4)), (5, .int v5)]) hx hb dX4_leave_69 hl (by decide) rfl (fun ls hl => ?_)
    refine lv_aload hx hb dX4_leave_71 (lv_at hl 0 rfl) ?_
    refine w_out C G hS 1 (by decide) rfl kf_X4_59 dX4_leave_73 ?_
    obtain ⟨hn13, h⟩ := need_p h
    refine w_acmp_eq (tgt := 82) C G (a := r11) (b := 1) hn13 (by decide) dX4_leave_76 (by decide) (fun hc => ?_) (fun hc => ?_)
    · replace h := ite_y hc h
      exact w_X4_leave_b82 C G hpf (f_X4_leave_b23 pf n) ih v1 v2 v3 v4 v5 x10 _ _ _ h_v1 h_v4 h hI hS (lv_sub hl [2, 3, 4, 5, 6, 7] rfl)
    replace h := ite_n hc h
    refine lv_aload hx hb dX4_leave_79 (lv_at hl 0 rfl) ?_
    cases h
    exact w_aret C hI hS dX4_leave_81
def f_X4_leave (pf : Int32 → st → Option (Nat × st)) (i1 : Nat) (a2 : Int32) (a3 : Int32) (x : st) : Option (Nat × st) := if inb (x 12 i1 2) 8 = true then f_X4_leave_b23 pf 100 i1 a2 a3 ((x 12 i1 2).toNatClampNeg) ((x 23 ((x 12 i1 2).toNatClampNeg) 2) - 1) x else none
set_option maxHeartbeats 4000000 in
set_option maxRecDepth 100000 in
theorem w_X4_leave {p : Program} {l : Launch} {e : Env} {s : State} {m : MethodId} {args : Array Value} {below : List Frame} {meth : Method} {c : Code} {g : gT} {frp lop : Nat} {r : Nat} {x' : st} (C : cxt p s m meth c args cX4_leave 8 RX4 (some (.object "StepBudgets$Outcome"))) (G : gst g s) {pf : Int32 → st → Option (Nat × st)} (hpf : ∀ (dep : Int32) (x : st) (o : Nat) (x' : st), pf dep x = some (o, x') → Kt l yX4_performFrame cX4_performFrame 6 (some (.object "StepBudgets$Outcome")) frp lop g [.ref (ga g 1 0), .int dep] x (some (.ref (ge g o))) x') (i1 : Nat) (a2 : Int32) (a3 : Int32) (x : st) (H : Heap) (locs : List Loc) (ls : Array Slot) (h_i1 : i1 < 12) (h : f_X4_leave pf i1 a2 a3 x = some (r, x')) (hI : wst g x H) (hS : va_S (zA (gz g)) s.heap H locs) (hl : lv_has ls 8 [(0, .ref (ga g 1 0)), (1, .ref (ga g 12 i1)), (2, .int a2), (3, .int a3)]) : W p l e (rmC (frp + 5) (lop + 112)) s m args below meth c H locs 0 0 (MQ below (Qx g (some (.ref (ge g r))) x') args s 0 0 (zA (gz g))) (F0 m 0 ls []) := by
  obtain ⟨hx, hb, hml, hown, hts, hlk, hrt⟩ := id C
  unfold f_X4_leave at h
  refine lv_aload_n hx hb dX4_leave_0 rfl (lv_at hl 0 rfl) ?_
  refine w_get C G hI 1 0 (hI.at1 rfl) (fcE_1 g _ _) rfl in_X4 2 (by decide) kf_X4_27 (fun _ h => h) (v := .ref (ga g 10 0)) rfl dX4_leave_1 ?_
  refine lv_aload_n hx hb dX4_leave_4 rfl (lv_at hl 1 rfl) ?_
  refine w_get C G hI 12 i1 (hI.at12 rfl h_i1) (fcE_12 g _ _) rfl in_X2 2 (by decide) kf_X4_104 (fun _ h => h) (v := .int (x 12 i1 2)) rfl dX4_leave_5 ?_
  obtain ⟨hn1, h⟩ := need_t h
  refine w_aald C G hI 10 0 (hI.at1 rfl) 4 (fcA_10 g _ _) rfl (inb_in hn1) rfl dX4_leave_8 ?_
  refine w_get C G hI 15 ((x 12 i1 2).toNatClampNeg) (hI.at8 rfl (inb_lt hn1)) (fcE_15 g _ _) rfl in_X6 2 (by decide) kf_X4_180 (fun _ h => h) (v := .ref (ga g 23 ((x 12 i1 2).toNatClampNeg))) rfl dX4_leave_9 ?_
  refine lv_astore (lv' := [(4, .ref (ga g 23 ((x 12 i1 2).toNatClampNeg))), (0, .ref (ga g 1 0)), (1, .ref (ga g 12 i1)), (2, .int a2), (3, .int a3)]) hx hb dX4_leave_12 hl (by decide) rfl (fun ls hl => ?_)
  refine lv_aload hx hb dX4_leave_14 (lv_at hl 0 rfl) ?_
  refine w_callV (fr := 0) (lo := 0) C G hI hS 23 ((x 12 i1 2).toNatClampNeg) (hI.at8 rfl (inb_lt hn1)) (fcE_23 g _ _) rfl mv_Jx4a65c_size_8abf5 km_X4_111 [] (k_size_23 l g ((x 12 i1 2).toNatClampNeg) (inb_lt hn1) _) rfl (by first | exact ⟨by decide, by decide⟩ | exact ⟨by show _ ≤ _ + _; omega, by show _ ≤ _ + _; omega⟩) ⟨Nat.zero_le _, Nat.zero_le _⟩ hl.1 rfl (Nat.le_of_ble_eq_true rfl) dX4_leave_16 (fun H locs hI hS => ?_)
  refine lv_iconst (v := 1) hx hb dX4_leave_19 (by decide) ?_
  refine lv_isub hx hb dX4_leave_20 ?_
  refine lv_istore (lv' := [(5, .int ((x 23 ((x 12 i1 2).toNatClampNeg) 2) - 1)), (4, .ref (ga g 23 ((x 12 i1 2).toNatClampNeg))), (0, .ref (ga g 1 0)), (1, .ref (ga g 12 i1)), (2, .int a2), (3, .int a3)]) hx hb dX4_leave_21 hl (by decide) rfl (fun ls hl => ?_)
  exact w_X4_leave_b23 C G hpf 100 i1 a2 a3 ((x 12 i1 2).toNatClampNeg) ((x 23 ((x 12 i1 2).toNatClampNeg) 2) - 1) x _ _ _ h_i1 (inb_lt hn1) h hI hS (lv_sub hl [2, 3, 4, 5, 1, 0] rfl)
theorem k_X4_leave (l : Launch) (g : gT) {frp lop : Nat} (pf : Int32 → st → Option (Nat × st)) (hpf : ∀ (dep : Int32) (x : st) (o : Nat) (x' : st), pf dep x = some (o, x') → Kt l yX4_performFrame cX4_performFrame 6 (some (.object "StepBudgets$Outcome")) frp lop g [.ref (ga g 1 0), .int dep] x (some (.ref (ge g o))) x') (i1 : Nat) (a2 : Int32) (a3 : Int32) (x : st) (r : Nat) (x' : st) (h_i1 : i1 < 12) (h : f_X4_leave pf i1 a2 a3 x = some (r, x')) : Kt l yX4_leave cX4_leave 8 (some (.object "StepBudgets$Outcome")) (frp + 5) (lop + 112) g [.ref (ga g 1 0), .ref (ga g 12 i1), .int a2, .int a3] x (some (.ref (ge g r))) x' := by
  refine Kt.of (by decide) (fun p e s m below meth c C G hI => ?_)
  have hl := lv_entry ([.ref (ga g 1 0), .ref (ga g 12 i1), .int a2, .int a3]) (n := 8) (Nat.le_of_ble_eq_true rfl)
  rw [lg_entry_eq]
  generalize (lg_sl ([.ref (ga g 1 0), .ref (ga g 12 i1), .int a2, .int a3]) ++ List.replicate (8 - (lg_sl ([.ref (ga g 1 0), .ref (ga g 12 i1), .int a2, .int a3])).length) Slot.unset).toArray = ls at hl ⊢
  have hl : lv_has ls 8 [(0, .ref (ga g 1 0)), (1, .ref (ga g 12 i1)), (2, .int a2), (3, .int a3)] := hl
  exact w_X4_leave C G hpf i1 a2 a3 x _ _ ls h_i1 h hI va_S.rf hl
theorem mv_X4_leave : mtV yX4_leave RX4 cX4_leave 8 (some (.object "StepBudgets$Outcome")) 3 := ⟨ki_X4_leave, kl_X4_leave, kI_X4, kc_X4_leave, by decide +kernel⟩

/-! X4_goOn -/
def f_X4_goOn_b51 (pf : Int32 → st → Option (Nat × st)) (v5 : Nat) (x : st) : Option (Nat × st) := some (v5, x)
set_option maxHeartbeats 4000000 in
set_option maxRecDepth 100000 in
theorem w_X4_goOn_b51 {p : Program} {l : Launch} {e : Env} {s : State} {m : MethodId} {args : Array Value} {below : List Frame} {meth : Method} {c : Code} {g : gT} {frp lop : Nat} {r : Nat} {x' : st} (C : cxt p s m meth c args cX4_goOn 6 RX4 (some (.object "StepBudgets$Outcome"))) (G : gst g s) {pf : Int32 → st → Option (Nat × st)} (hpf : ∀ (dep : Int32) (x : st) (o : Nat) (x' : st), pf dep x = some (o, x') → Kt l yX4_performFrame cX4_performFrame 6 (some (.object "StepBudgets$Outcome")) frp lop g [.ref (ga g 1 0), .int dep] x (some (.ref (ge g o))) x') (v5 : Nat) (x : st) (H : Heap) (locs : List Loc) (ls : Array Slot)  (h : f_X4_goOn_b51 pf v5 x = some (r, x')) (hI : wst g x H) (hS : va_S (zA (gz g)) s.heap H locs) (hl : lv_has ls 6 [(5, .ref (ge g v5))]) : W p l e (rmC (frp + 6) (lop + 139)) s m args below meth c H locs 0 0 (MQ below (Qx g (some (.ref (ge g r))) x') args s 0 0 (zA (gz g))) (F0 m 51 ls []) := by
  obtain ⟨hx, hb, hml, hown, hts, hlk, hrt⟩ := id C
  unfold f_X4_goOn_b51 at h
  refine lv_aload hx hb dX4_goOn_51 (lv_at hl 0 rfl) ?_
  cases h
  exact w_aret C hI hS dX4_goOn_53
def f_X4_goOn_b25 (pf : Int32 → st → Option (Nat × st)) (v1 : Nat) (v3 : Int32) (s0 : Int32) (x : st) : Option (Nat × st) := bnd (f_X4_leave pf v1 s0 v3 x) fun r3 x2 => if r3 < 5 then if r3 = 0 then (lets (sx x2 12 v1 3 s0) fun x6 => f_X4_goOn_b51 pf r3 x6) else (f_X4_goOn_b51 pf r3 x2) else none
set_option maxHeartbeats 4000000 in
set_option maxRecDepth 100000 in
theorem w_X4_goOn_b25 {p : Program} {l : Launch} {e : Env} {s : State} {m : MethodId} {args : Array Value} {below : List Frame} {meth : Method} {c : Code} {g : gT} {frp lop : Nat} {r : Nat} {x' : st} (C : cxt p s m meth c args cX4_goOn 6 RX4 (some (.object "StepBudgets$Outcome"))) (G : gst g s) {pf : Int32 → st → Option (Nat × st)} (hpf : ∀ (dep : Int32) (x : st) (o : Nat) (x' : st), pf dep x = some (o, x') → Kt l yX4_performFrame cX4_performFrame 6 (some (.object "StepBudgets$Outcome")) frp lop g [.ref (ga g 1 0), .int dep] x (some (.ref (ge g o))) x') (v1 : Nat) (v3 : Int32) (s0 : Int32) (x : st) (H : Heap) (locs : List Loc) (ls : Array Slot) (h_v1 : v1 < 12) (h : f_X4_goOn_b25 pf v1 v3 s0 x = some (r, x')) (hI : wst g x H) (hS : va_S (zA (gz g)) s.heap H locs) (hl : lv_has ls 6 [(0, .ref (ga g 1 0)), (1, .ref (ga g 12 v1)), (3, .int v3)]) : W p l e (rmC (frp + 6) (lop + 139)) s m args below meth c H locs 0 0 (MQ below (Qx g (some (.ref (ge g r))) x') args s 0 0 (zA (gz g))) (F0 m 25 ls [.int s0]) := by
  obtain ⟨hx, hb, hml, hown, hts, hlk, hrt⟩ := id C
  unfold f_X4_goOn_b25 at h
  refine lv_istore (lv' := [(4, .int s0), (0, .ref (ga g 1 0)), (1, .ref (ga g 12 v1)), (3, .int v3)]) hx hb dX4_goOn_25 hl (by decide) rfl (fun ls hl => ?_)
  refine lv_aload_n hx hb dX4_goOn_27 rfl (lv_at hl 1 rfl) ?_
  refine lv_aload_n hx hb dX4_goOn_28 rfl (lv_at hl 2 rfl) ?_
  refine lv_iload hx hb dX4_goOn_29 (lv_at hl 0 rfl) ?_
  refine lv_iload_n hx hb dX4_goOn_31 rfl (lv_at hl 3 rfl) ?_
  obtain ⟨r3, x2, hq4, h⟩ := bnd_some h
  refine w_callV (fr := frp + 5) (lo := lop + 112) C G hI hS 1 0 (hI.at1 rfl) (fcE_1 g _ _) rfl mv_X4_leave km_X4_157 [.ref (ga g 12 v1), .int s0, .int v3] (k_X4_leave l g pf hpf v1 s0 v3 x _ _ h_v1 hq4) rfl (by first | exact ⟨by decide, by decide⟩ | exact ⟨by show _ ≤ _ + _; omega, by show _ ≤ _ + _; omega⟩) ⟨Nat.zero_le _, Nat.zero_le _⟩ hl.1 rfl (Nat.le_of_ble_eq_true rfl) dX4_goOn_32 (fun H locs hI hS => ?_)
  refine lv_astore (lv' := [(5, .ref (ge g r3)), (4, .int s0), (0, .ref (ga g 1 0)), (1, .ref (ga g 12 v1)), (3, .int v3)]) hx hb dX4_goOn_35 hl (by decide) rfl (fun ls hl => ?_)
  refine lv_aload hx hb dX4_goOn_37 (lv_at hl 0 rfl) ?_
  refine w_out C G hS 0 (by decide) rfl kf_X4_84 dX4_goOn_39 ?_
  obtain ⟨hn5, h⟩ := need_p h
  refine w_acmp_ne (tgt := 51) C G (a := r3) (b := 0) hn5 (by decide) dX4_goOn_42 (by decide) (fun hc => ?_) (fun hc => ?_)
  · replace h := ite_n hc h
    exact w_X4_goOn_b51 C G hpf r3 x2 _ _ _  h hI hS (lv_sub hl [0] rfl)
  replace h := ite_y hc h
  refine lv_aload_n hx hb dX4_goOn_45 rfl (lv_at hl 3 rfl) ?_
  refine lv_iload hx hb dX4_goOn_46 (lv_at hl 1 rfl) ?_
  refine w_put C G hI hS 12 v1 (hI.at12 rfl h_v1) rfl (fcE_12 g _ _) rfl in_X2 tyX2 tyX2_ok nmX2 3 (by decide) kf_X4_118 (fun _ h => h) rfl (ty := .int) (y := s0) (by decide +kernel) rfl rfl (Nat.le_of_ble_eq_true rfl) rfl dX4_goOn_48 (fun H locs hI hS => ?_)
  obtain ⟨x6, e_x6, h⟩ := lets_some h
  rw [← e_x6] at hI
  exact w_X4_goOn_b51 C G hpf r3 x6 _ _ _  h hI hS (lv_sub hl [0] rfl)
def f_X4_goOn (pf : Int32 → st → Option (Nat × st)) (i1 : Nat) (a2 : Int32) (a3 : Int32) (x : st) : Option (Nat × st) := if inb (x 12 i1 2) 8 = true then if (x 21 ((x 12 i1 2).toNatClampNeg) 2) ≤ a2 then (f_X4_goOn_b25 pf i1 a3 48 x) else (f_X4_goOn_b25 pf i1 a3 a2 x) else none
set_option maxHeartbeats 4000000 in
set_option maxRecDepth 100000 in
theorem w_X4_goOn {p : Program} {l : Launch} {e : Env} {s : State} {m : MethodId} {args : Array Value} {below : List Frame} {meth : Method} {c : Code} {g : gT} {frp lop : Nat} {r : Nat} {x' : st} (C : cxt p s m meth c args cX4_goOn 6 RX4 (some (.object "StepBudgets$Outcome"))) (G : gst g s) {pf : Int32 → st → Option (Nat × st)} (hpf : ∀ (dep : Int32) (x : st) (o : Nat) (x' : st), pf dep x = some (o, x') → Kt l yX4_performFrame cX4_performFrame 6 (some (.object "StepBudgets$Outcome")) frp lop g [.ref (ga g 1 0), .int dep] x (some (.ref (ge g o))) x') (i1 : Nat) (a2 : Int32) (a3 : Int32) (x : st) (H : Heap) (locs : List Loc) (ls : Array Slot) (h_i1 : i1 < 12) (h : f_X4_goOn pf i1 a2 a3 x = some (r, x')) (hI : wst g x H) (hS : va_S (zA (gz g)) s.heap H locs) (hl : lv_has ls 6 [(0, .ref (ga g 1 0)), (1, .ref (ga g 12 i1)), (2, .int a2), (3, .int a3)]) : W p l e (rmC (frp + 6) (lop + 139)) s m args below meth c H locs 0 0 (MQ below (Qx g (some (.ref (ge g r))) x') args s 0 0 (zA (gz g))) (F0 m 0 ls []) := by
  obtain ⟨hx, hb, hml, hown, hts, hlk, hrt⟩ := id C
  unfold f_X4_goOn at h
  refine lv_iload_n hx hb dX4_goOn_0 rfl (lv_at hl 2 rfl) ?_
  refine lv_aload_n hx hb dX4_goOn_1 rfl (lv_at hl 0 rfl) ?_
  refine w_get C G hI 1 0 (hI.at1 rfl) (fcE_1 g _ _) rfl in_X4 2 (by decide) kf_X4_27 (fun _ h => h) (v := .ref (ga g 10 0)) rfl dX4_goOn_2 ?_
  refine lv_aload_n hx hb dX4_goOn_5 rfl (lv_at hl 1 rfl) ?_
  refine w_get C G hI 12 i1 (hI.at12 rfl h_i1) (fcE_12 g _ _) rfl in_X2 2 (by decide) kf_X4_104 (fun _ h => h) (v := .int (x 12 i1 2)) rfl dX4_goOn_6 ?_
  obtain ⟨hn1, h⟩ := need_t h
  refine w_aald C G hI 10 0 (hI.at1 rfl) 4 (fcA_10 g _ _) rfl (inb_in hn1) rfl dX4_goOn_9 ?_
  refine w_get C G hI 15 ((x 12 i1 2).toNatClampNeg) (hI.at8 rfl (inb_lt hn1)) (fcE_15 g _ _) rfl in_X6 0 (by decide) kf_X4_107 (fun _ h => h) (v := .ref (ga g 21 ((x 12 i1 2).toNatClampNeg))) rfl dX4_goOn_10 ?_
  refine w_callV (fr := 0) (lo := 0) C G hI hS 21 ((x 12 i1 2).toNatClampNeg) (hI.at8 rfl (inb_lt hn1)) (fcE_21 g _ _) rfl mv_Jx4a65c_size_8abf5 km_X4_111 [] (k_size_21 l g ((x 12 i1 2).toNatClampNeg) (inb_lt hn1) _) rfl (by first | exact ⟨by decide, by decide⟩ | exact ⟨by show _ ≤ _ + _; omega, by show _ ≤ _ + _; omega⟩) ⟨Nat.zero_le _, Nat.zero_le _⟩ hl.1 rfl (Nat.le_of_ble_eq_true rfl) dX4_goOn_13 (fun H locs hI hS => ?_)
  refine lv_icmp_ge (tgt := 23) hx hb dX4_goOn_16 (by decide) (fun hc => ?_) (fun hc => ?_)
  · replace h := ite_y hc h
    refine lv_bipush (v := 48) hx hb dX4_goOn_23 (by decide) ?_
    exact w_X4_goOn_b25 C G hpf i1 a3 48 x _ _ _ h_i1 h hI hS (lv_sub hl [0, 1, 3] rfl)
  replace h := ite_n hc h
  refine lv_iload_n hx hb dX4_goOn_19 rfl (lv_at hl 2 rfl) ?_
  refine lv_goto (tgt := 25) hx hb dX4_goOn_20 (by decide) ?_
  exact w_X4_goOn_b25 C G hpf i1 a3 a2 x _ _ _ h_i1 h hI hS (lv_sub hl [0, 1, 3] rfl)
theorem k_X4_goOn (l : Launch) (g : gT) {frp lop : Nat} (pf : Int32 → st → Option (Nat × st)) (hpf : ∀ (dep : Int32) (x : st) (o : Nat) (x' : st), pf dep x = some (o, x') → Kt l yX4_performFrame cX4_performFrame 6 (some (.object "StepBudgets$Outcome")) frp lop g [.ref (ga g 1 0), .int dep] x (some (.ref (ge g o))) x') (i1 : Nat) (a2 : Int32) (a3 : Int32) (x : st) (r : Nat) (x' : st) (h_i1 : i1 < 12) (h : f_X4_goOn pf i1 a2 a3 x = some (r, x')) : Kt l yX4_goOn cX4_goOn 6 (some (.object "StepBudgets$Outcome")) (frp + 6) (lop + 139) g [.ref (ga g 1 0), .ref (ga g 12 i1), .int a2, .int a3] x (some (.ref (ge g r))) x' := by
  refine Kt.of (by decide) (fun p e s m below meth c C G hI => ?_)
  have hl := lv_entry ([.ref (ga g 1 0), .ref (ga g 12 i1), .int a2, .int a3]) (n := 6) (Nat.le_of_ble_eq_true rfl)
  rw [lg_entry_eq]
  generalize (lg_sl ([.ref (ga g 1 0), .ref (ga g 12 i1), .int a2, .int a3]) ++ List.replicate (6 - (lg_sl ([.ref (ga g 1 0), .ref (ga g 12 i1), .int a2, .int a3])).length) Slot.unset).toArray = ls at hl ⊢
  have hl : lv_has ls 6 [(0, .ref (ga g 1 0)), (1, .ref (ga g 12 i1)), (2, .int a2), (3, .int a3)] := hl
  exact w_X4_goOn C G hpf i1 a2 a3 x _ _ ls h_i1 h hI va_S.rf hl
theorem mv_X4_goOn : mtV yX4_goOn RX4 cX4_goOn 6 (some (.object "StepBudgets$Outcome")) 3 := ⟨ki_X4_goOn, kl_X4_goOn, kI_X4, kc_X4_goOn, by decide +kernel⟩

/-! X4_giveOut -/
def f_X4_giveOut (pf : Int32 → st → Option (Nat × st)) (i1 : Nat) (a2 : Int32) (a3 : Int32) (x : st) : Option (Nat × st) := bnd (f_X4_leave pf i1 48 a3 x) fun r2 x1 => if r2 < 5 then if r2 = 0 then (lets (sx x1 1 0 5 a2) fun x5 => some (1, x5)) else (some (r2, x1)) else none
set_option maxHeartbeats 4000000 in
set_option maxRecDepth 100000 in
theorem w_X4_giveOut {p : Program} {l : Launch} {e : Env} {s : State} {m : MethodId} {args : Array Value} {below : List Frame} {meth : Method} {c : Code} {g : gT} {frp lop : Nat} {r : Nat} {x' : st} (C : cxt p s m meth c args cX4_giveOut 5 RX4 (some (.object "StepBudgets$Outcome"))) (G : gst g s) {pf : Int32 → st → Option (Nat × st)} (hpf : ∀ (dep : Int32) (x : st) (o : Nat) (x' : st), pf dep x = some (o, x') → Kt l yX4_performFrame cX4_performFrame 6 (some (.object "StepBudgets$Outcome")) frp lop g [.ref (ga g 1 0), .int dep] x (some (.ref (ge g o))) x') (i1 : Nat) (a2 : Int32) (a3 : Int32) (x : st) (H : Heap) (locs : List Loc) (ls : Array Slot) (h_i1 : i1 < 12) (h : f_X4_giveOut pf i1 a2 a3 x = some (r, x')) (hI : wst g x H) (hS : va_S (zA (gz g)) s.heap H locs) (hl : lv_has ls 5 [(0, .ref (ga g 1 0)), (1, .ref (ga g 12 i1)), (2, .int a2), (3, .int a3)]) : W p l e (rmC (frp + 6) (lop + 139)) s m args below meth c H locs 0 0 (MQ below (Qx g (some (.ref (ge g r))) x') args s 0 0 (zA (gz g))) (F0 m 0 ls []) := by
  obtain ⟨hx, hb, hml, hown, hts, hlk, hrt⟩ := id C
  unfold f_X4_giveOut at h
  refine lv_aload_n hx hb dX4_giveOut_0 rfl (lv_at hl 0 rfl) ?_
  refine lv_aload_n hx hb dX4_giveOut_1 rfl (lv_at hl 1 rfl) ?_
  refine lv_bipush (v := 48) hx hb dX4_giveOut_2 (by decide) ?_
  refine lv_iload_n hx hb dX4_giveOut_4 rfl (lv_at hl 3 rfl) ?_
  obtain ⟨r2, x1, hq3, h⟩ := bnd_some h
  refine w_callV (fr := frp + 5) (lo := lop + 112) C G hI hS 1 0 (hI.at1 rfl) (fcE_1 g _ _) rfl mv_X4_leave km_X4_157 [.ref (ga g 12 i1), .int 48, .int a3] (k_X4_leave l g pf hpf i1 48 a3 x _ _ h_i1 hq3) rfl (by first | exact ⟨by decide, by decide⟩ | exact ⟨by show _ ≤ _ + _; omega, by show _ ≤ _ + _; omega⟩) ⟨Nat.zero_le _, Nat.zero_le _⟩ hl.1 rfl (Nat.le_of_ble_eq_true rfl) dX4_giveOut_5 (fun H locs hI hS => ?_)
  refine lv_astore (lv' := [(4, .ref (ge g r2)), (0, .ref (ga g 1 0)), (1, .ref (ga g 12 i1)), (2, .int a2), (3, .int a3)]) hx hb dX4_giveOut_8 hl (by decide) rfl (fun ls hl => ?_)
  refine lv_aload hx hb dX4_giveOut_10 (lv_at hl 0 rfl) ?_
  refine w_out C G hS 0 (by decide) rfl kf_X4_84 dX4_giveOut_12 ?_
  obtain ⟨hn4, h⟩ := need_p h
  refine w_acmp_eq (tgt := 21) C G (a := r2) (b := 0) hn4 (by decide) dX4_giveOut_15 (by decide) (fun hc => ?_) (fun hc => ?_)
  · replace h := ite_y hc h
    refine lv_aload_n hx hb dX4_giveOut_21 rfl (lv_at hl 1 rfl) ?_
    refine lv_iload_n hx hb dX4_giveOut_22 rfl (lv_at hl 3 rfl) ?_
    refine w_put C G hI hS 1 0 (hI.at1 rfl) rfl (fcE_1 g _ _) rfl in_X4 tyX4 tyX4_ok nmX4 5 (by decide) kf_X4_65 (fun _ h => h) rfl (ty := .int) (y := a2) (by decide +kernel) rfl rfl (Nat.le_of_ble_eq_true rfl) rfl dX4_giveOut_23 (fun H locs hI hS => ?_)
    obtain ⟨x5, e_x5, h⟩ := lets_some h
    rw [← e_x5] at hI
    refine w_out C G hS 1 (by decide) rfl kf_X4_59 dX4_giveOut_26 ?_
    cases h
    exact w_aret C hI hS dX4_giveOut_29
  replace h := ite_n hc h
  refine lv_aload hx hb dX4_giveOut_18 (lv_at hl 0 rfl) ?_
  cases h
  exact w_aret C hI hS dX4_giveOut_20
theorem k_X4_giveOut (l : Launch) (g : gT) {frp lop : Nat} (pf : Int32 → st → Option (Nat × st)) (hpf : ∀ (dep : Int32) (x : st) (o : Nat) (x' : st), pf dep x = some (o, x') → Kt l yX4_performFrame cX4_performFrame 6 (some (.object "StepBudgets$Outcome")) frp lop g [.ref (ga g 1 0), .int dep] x (some (.ref (ge g o))) x') (i1 : Nat) (a2 : Int32) (a3 : Int32) (x : st) (r : Nat) (x' : st) (h_i1 : i1 < 12) (h : f_X4_giveOut pf i1 a2 a3 x = some (r, x')) : Kt l yX4_giveOut cX4_giveOut 5 (some (.object "StepBudgets$Outcome")) (frp + 6) (lop + 139) g [.ref (ga g 1 0), .ref (ga g 12 i1), .int a2, .int a3] x (some (.ref (ge g r))) x' := by
  refine Kt.of (by decide) (fun p e s m below meth c C G hI => ?_)
  have hl := lv_entry ([.ref (ga g 1 0), .ref (ga g 12 i1), .int a2, .int a3]) (n := 5) (Nat.le_of_ble_eq_true rfl)
  rw [lg_entry_eq]
  generalize (lg_sl ([.ref (ga g 1 0), .ref (ga g 12 i1), .int a2, .int a3]) ++ List.replicate (5 - (lg_sl ([.ref (ga g 1 0), .ref (ga g 12 i1), .int a2, .int a3])).length) Slot.unset).toArray = ls at hl ⊢
  have hl : lv_has ls 5 [(0, .ref (ga g 1 0)), (1, .ref (ga g 12 i1)), (2, .int a2), (3, .int a3)] := hl
  exact w_X4_giveOut C G hpf i1 a2 a3 x _ _ ls h_i1 h hI va_S.rf hl
theorem mv_X4_giveOut : mtV yX4_giveOut RX4 cX4_giveOut 5 (some (.object "StepBudgets$Outcome")) 3 := ⟨ki_X4_giveOut, kl_X4_giveOut, kI_X4, kc_X4_giveOut, by decide +kernel⟩

/-! X4_throwOut -/
def f_X4_throwOut (pf : Int32 → st → Option (Nat × st)) (i1 : Nat) (a2 : Int32) (a3 : Int32) (x : st) : Option (Nat × st) := bnd (f_X4_leave pf i1 48 a3 x) fun r2 x1 => if r2 < 5 then if r2 = 0 then (lets (sx x1 1 0 6 a2) fun x5 => some (2, x5)) else (some (r2, x1)) else none
set_option maxHeartbeats 4000000 in
set_option maxRecDepth 100000 in
theorem w_X4_throwOut {p : Program} {l : Launch} {e : Env} {s : State} {m : MethodId} {args : Array Value} {below : List Frame} {meth : Method} {c : Code} {g : gT} {frp lop : Nat} {r : Nat} {x' : st} (C : cxt p s m meth c args cX4_throwOut 5 RX4 (some (.object "StepBudgets$Outcome"))) (G : gst g s) {pf : Int32 → st → Option (Nat × st)} (hpf : ∀ (dep : Int32) (x : st) (o : Nat) (x' : st), pf dep x = some (o, x') → Kt l yX4_performFrame cX4_performFrame 6 (some (.object "StepBudgets$Outcome")) frp lop g [.ref (ga g 1 0), .int dep] x (some (.ref (ge g o))) x') (i1 : Nat) (a2 : Int32) (a3 : Int32) (x : st) (H : Heap) (locs : List Loc) (ls : Array Slot) (h_i1 : i1 < 12) (h : f_X4_throwOut pf i1 a2 a3 x = some (r, x')) (hI : wst g x H) (hS : va_S (zA (gz g)) s.heap H locs) (hl : lv_has ls 5 [(0, .ref (ga g 1 0)), (1, .ref (ga g 12 i1)), (2, .int a2), (3, .int a3)]) : W p l e (rmC (frp + 6) (lop + 139)) s m args below meth c H locs 0 0 (MQ below (Qx g (some (.ref (ge g r))) x') args s 0 0 (zA (gz g))) (F0 m 0 ls []) := by
  obtain ⟨hx, hb, hml, hown, hts, hlk, hrt⟩ := id C
  unfold f_X4_throwOut at h
  refine lv_aload_n hx hb dX4_throwOut_0 rfl (lv_at hl 0 rfl) ?_
  refine lv_aload_n hx hb dX4_throwOut_1 rfl (lv_at hl 1 rfl) ?_
  refine lv_bipush (v := 48) hx hb dX4_throwOut_2 (by decide) ?_
  refine lv_iload_n hx hb dX4_throwOut_4 rfl (lv_at hl 3 rfl) ?_
  obtain ⟨r2, x1, hq3, h⟩ := bnd_some h
  refine w_callV (fr := frp + 5) (lo := lop + 112) C G hI hS 1 0 (hI.at1 rfl) (fcE_1 g _ _) rfl mv_X4_leave km_X4_157 [.ref (ga g 12 i1), .int 48, .int a3] (k_X4_leave l g pf hpf i1 48 a3 x _ _ h_i1 hq3) rfl (by first | exact ⟨by decide, by decide⟩ | exact ⟨by show _ ≤ _ + _; omega, by show _ ≤ _ + _; omega⟩) ⟨Nat.zero_le _, Nat.zero_le _⟩ hl.1 rfl (Nat.le_of_ble_eq_true rfl) dX4_throwOut_5 (fun H locs hI hS => ?_)
  refine lv_astore (lv' := [(4, .ref (ge g r2)), (0, .ref (ga g 1 0)), (1, .ref (ga g 12 i1)), (2, .int a2), (3, .int a3)]) hx hb dX4_throwOut_8 hl (by decide) rfl (fun ls hl => ?_)
  refine lv_aload hx hb dX4_throwOut_10 (lv_at hl 0 rfl) ?_
  refine w_out C G hS 0 (by decide) rfl kf_X4_84 dX4_throwOut_12 ?_
  obtain ⟨hn4, h⟩ := need_p h
  refine w_acmp_eq (tgt := 21) C G (a := r2) (b := 0) hn4 (by decide) dX4_throwOut_15 (by decide) (fun hc => ?_) (fun hc => ?_)
  · replace h := ite_y hc h
    refine lv_aload_n hx hb dX4_throwOut_21 rfl (lv_at hl 1 rfl) ?_
    refine lv_iload_n hx hb dX4_throwOut_22 rfl (lv_at hl 3 rfl) ?_
    refine w_put C G hI hS 1 0 (hI.at1 rfl) rfl (fcE_1 g _ _) rfl in_X4 tyX4 tyX4_ok nmX4 6 (by decide) kf_X4_75 (fun _ h => h) rfl (ty := .int) (y := a2) (by decide +kernel) rfl rfl (Nat.le_of_ble_eq_true rfl) rfl dX4_throwOut_23 (fun H locs hI hS => ?_)
    obtain ⟨x5, e_x5, h⟩ := lets_some h
    rw [← e_x5] at hI
    refine w_out C G hS 2 (by decide) rfl kf_X4_72 dX4_throwOut_26 ?_
    cases h
    exact w_aret C hI hS dX4_throwOut_29
  replace h := ite_n hc h
  refine lv_aload hx hb dX4_throwOut_18 (lv_at hl 0 rfl) ?_
  cases h
  exact w_aret C hI hS dX4_throwOut_20
theorem k_X4_throwOut (l : Launch) (g : gT) {frp lop : Nat} (pf : Int32 → st → Option (Nat × st)) (hpf : ∀ (dep : Int32) (x : st) (o : Nat) (x' : st), pf dep x = some (o, x') → Kt l yX4_performFrame cX4_performFrame 6 (some (.object "StepBudgets$Outcome")) frp lop g [.ref (ga g 1 0), .int dep] x (some (.ref (ge g o))) x') (i1 : Nat) (a2 : Int32) (a3 : Int32) (x : st) (r : Nat) (x' : st) (h_i1 : i1 < 12) (h : f_X4_throwOut pf i1 a2 a3 x = some (r, x')) : Kt l yX4_throwOut cX4_throwOut 5 (some (.object "StepBudgets$Outcome")) (frp + 6) (lop + 139) g [.ref (ga g 1 0), .ref (ga g 12 i1), .int a2, .int a3] x (some (.ref (ge g r))) x' := by
  refine Kt.of (by decide) (fun p e s m below meth c C G hI => ?_)
  have hl := lv_entry ([.ref (ga g 1 0), .ref (ga g 12 i1), .int a2, .int a3]) (n := 5) (Nat.le_of_ble_eq_true rfl)
  rw [lg_entry_eq]
  generalize (lg_sl ([.ref (ga g 1 0), .ref (ga g 12 i1), .int a2, .int a3]) ++ List.replicate (5 - (lg_sl ([.ref (ga g 1 0), .ref (ga g 12 i1), .int a2, .int a3])).length) Slot.unset).toArray = ls at hl ⊢
  have hl : lv_has ls 5 [(0, .ref (ga g 1 0)), (1, .ref (ga g 12 i1)), (2, .int a2), (3, .int a3)] := hl
  exact w_X4_throwOut C G hpf i1 a2 a3 x _ _ ls h_i1 h hI va_S.rf hl
theorem mv_X4_throwOut : mtV yX4_throwOut RX4 cX4_throwOut 5 (some (.object "StepBudgets$Outcome")) 3 := ⟨ki_X4_throwOut, kl_X4_throwOut, kI_X4, kc_X4_throwOut, by decide +kernel⟩

/-! X4_answerThrow -/
def f_X4_answerThrow_b111 (pf : Int32 → st → Option (Nat × st)) (v7 : Nat) (x : st) : Option (Nat × st) := some (v7, x)
set_option maxHeartbeats 4000000 in
set_option maxRecDepth 100000 in
theorem w_X4_answerThrow_b111 {p : Program} {l : Launch} {e : Env} {s : State} {m : MethodId} {args : Array Value} {below : List Frame} {meth : Method} {c : Code} {g : gT} {frp lop : Nat} {r : Nat} {x' : st} (C : cxt p s m meth c args cX4_answerThrow 8 RX4 (some (.object "StepBudgets$Outcome"))) (G : gst g s) {pf : Int32 → st → Option (Nat × st)} (hpf : ∀ (dep : Int32) (x : st) (o : Nat) (x' : st), pf dep x = some (o, x') → Kt l yX4_performFrame cX4_performFrame 6 (some (.object "StepBudgets$Outcome")) frp lop g [.ref (ga g 1 0), .int dep] x (some (.ref (ge g o))) x') (v7 : Nat) (x : st) (H : Heap) (locs : List Loc) (ls : Array Slot)  (h : f_X4_answerThrow_b111 pf v7 x = some (r, x')) (hI : wst g x H) (hS : va_S (zA (gz g)) s.heap H locs) (hl : lv_has ls 8 [(7, .ref (ge g v7))]) : W p l e (rmC (frp + 7) (lop + 164)) s m args below meth c H locs 0 0 (MQ below (Qx g (some (.ref (ge g r))) x') args s 0 0 (zA (gz g))) (F0 m 111 ls []) := by
  obtain ⟨hx, hb, hml, hown, hts, hlk, hrt⟩ := id C
  unfold f_X4_answerThrow_b111 at h
  refine lv_aload hx hb dX4_answerThrow_111 (lv_at hl 0 rfl) ?_
  cases h
  exact w_aret C hI hS dX4_answerThrow_113
def f_X4_answerThrow (pf : Int32 → st → Option (Nat × st)) (i1 : Nat) (a2 : Int32) (a3 : Int32) (x : st) : Option (Nat × st) := if inb (x 12 i1 2) 8 = true then bnd (f_X6_guardFor ((x 12 i1 2).toNatClampNeg) (x 12 i1 3) a2 x) fun r3 x2 => if r3 = (-3) then (bnd (f_X4_throwOut pf i1 a2 a3 x2) fun r22 x21 => some (r22, x21)) else (bnd (f_X5_count 1 x2) fun r6 x5 => if r6 < 5 then if r6 = 0 then (lets (sx x5 2 0 4 ((x5 2 0 4) + 1)) fun x9 => if inb r3 (x9 25 ((x 12 i1 2).toNatClampNeg) 0).toNatClampNeg = true then bnd (f_X3_at (6 * ((x 12 i1 2).toNatClampNeg) + r3.toNatClampNeg) x9) fun r13 x12 => bnd (f_X4_goOn pf i1 r13 a3 x12) fun r16 x15 => if r16 < 5 then if r16 = 0 then (if inb 5 6 = true then lets (sx x15 13 i1 (5 : Int32).toNatClampNeg a2) fun x20 => f_X4_answerThrow_b111 pf r16 x20 else none) else (f_X4_answerThrow_b111 pf r16 x15) else none else none) else (some (r6, x5)) else none) else none
set_option maxHeartbeats 4000000 in
set_option maxRecDepth 100000 in
theorem w_X4_answerThrow {p : Program} {l : Launch} {e : Env} {s : State} {m : MethodId} {args : Array Value} {below : List Frame} {meth : Method} {c : Code} {g : gT} {frp lop : Nat} {r : Nat} {x' : st} (C : cxt p s m meth c args cX4_answerThrow 8 RX4 (some (.object "StepBudgets$Outcome"))) (G : gst g s) {pf : Int32 → st → Option (Nat × st)} (hpf : ∀ (dep : Int32) (x : st) (o : Nat) (x' : st), pf dep x = some (o, x') → Kt l yX4_performFrame cX4_performFrame 6 (some (.object "StepBudgets$Outcome")) frp lop g [.ref (ga g 1 0), .int dep] x (some (.ref (ge g o))) x') (i1 : Nat) (a2 : Int32) (a3 : Int32) (x : st) (H : Heap) (locs : List Loc) (ls : Array Slot) (h_i1 : i1 < 12) (h : f_X4_answerThrow pf i1 a2 a3 x = some (r, x')) (hI : wst g x H) (hS : va_S (zA (gz g)) s.heap H locs) (hl : lv_has ls 8 [(0, .ref (ga g 1 0)), (1, .ref (ga g 12 i1)), (2, .int a2), (3, .int a3)]) : W p l e (rmC (frp + 7) (lop + 164)) s m args below meth c H locs 0 0 (MQ below (Qx g (some (.ref (ge g r))) x') args s 0 0 (zA (gz g))) (F0 m 0 ls []) := by
  obtain ⟨hx, hb, hml, hown, hts, hlk, hrt⟩ := id C
  unfold f_X4_answerThrow at h
  refine lv_aload_n hx hb dX4_answerThrow_0 rfl (lv_at hl 0 rfl) ?_
  refine w_get C G hI 1 0 (hI.at1 rfl) (fcE_1 g _ _) rfl in_X4 2 (by decide) kf_X4_27 (fun _ h => h) (v := .ref (ga g 10 0)) rfl dX4_answerThrow_1 ?_
  refine lv_aload_n hx hb dX4_answerThrow_4 rfl (lv_at hl 1 rfl) ?_
  refine w_get C G hI 12 i1 (hI.at12 rfl h_i1) (fcE_12 g _ _) rfl in_X2 2 (by decide) kf_X4_104 (fun _ h => h) (v := .int (x 12 i1 2)) rfl dX4_answerThrow_5 ?_
  obtain ⟨hn1, h⟩ := need_t h
  refine w_aald C G hI 10 0 (hI.at1 rfl) 4 (fcA_10 g _ _) rfl (inb_in hn1) rfl dX4_answerThrow_8 ?_
  refine lv_astore (lv' := [(4, .ref (ga g 15 ((x 12 i1 2).toNatClampNeg))), (0, .ref (ga g 1 0)), (1, .ref (ga g 12 i1)), (2, .int a2), (3, .int a3)]) hx hb dX4_answerThrow_9 hl (by decide) rfl (fun ls hl => ?_)
  refine lv_aload hx hb dX4_answerThrow_11 (lv_at hl 0 rfl) ?_
  refine lv_aload_n hx hb dX4_answerThrow_13 rfl (lv_at hl 2 rfl) ?_
  refine w_get C G hI 12 i1 (hI.at12 rfl h_i1) (fcE_12 g _ _) rfl in_X2 3 (by decide) kf_X4_118 (fun _ h => h) (v := .int (x 12 i1 3)) rfl dX4_answerThrow_14 ?_
  refine lv_iload_n hx hb dX4_answerThrow_17 rfl (lv_at hl 3 rfl) ?_
  obtain ⟨r3, x2, hq4, h⟩ := bnd_some h
  refine w_callV (fr := 3) (lo := 64) C G hI hS 15 ((x 12 i1 2).toNatClampNeg) (hI.at8 rfl (inb_lt hn1)) (fcE_15 g _ _) rfl mv_X6_guardFor km_X4_160 [.int (x 12 i1 3), .int a2] (k_X6_guardFor l g ((x 12 i1 2).toNatClampNeg) (x 12 i1 3) a2 x _ _ (inb_lt hn1) hq4) rfl (by first | exact ⟨by decide, by decide⟩ | exact ⟨by show _ ≤ _ + _; omega, by show _ ≤ _ + _; omega⟩) ⟨Nat.zero_le _, Nat.zero_le _⟩ hl.1 rfl (Nat.le_of_ble_eq_true rfl) dX4_answerThrow_18 (fun H locs hI hS => ?_)
  refine lv_istore (lv' := [(5, .int r3), (4, .ref (ga g 15 ((x 12 i1 2).toNatClampNeg))), (0, .ref (ga g 1 0)), (1, .ref (ga g 12 i1)), (2, .int a2), (3, .int a3)]) hx hb dX4_answerThrow_21 hl (by decide) rfl (fun ls hl => ?_)
  refine lv_iload hx hb dX4_answerThrow_23 (lv_at hl 0 rfl) ?_
  refine lv_bipush (v := (-3)) hx hb dX4_answerThrow_25 (by decide) ?_
  refine lv_icmp_ne (tgt := 38) hx hb dX4_answerThrow_27 (by decide) (fun hc => ?_) (fun hc => ?_)
  · replace h := ite_n hc h
    refine lv_aload_n hx hb dX4_answerThrow_38 rfl (lv_at hl 2 rfl) ?_
    refine w_get C G hI 1 0 (hI.at1 rfl) (fcE_1 g _ _) rfl in_X4 1 (by decide) kf_X4_21 (fun _ h => h) (v := .ref (ga g 4 0)) rfl dX4_answerThrow_39 ?_
    refine lv_iconst (v := 1) hx hb dX4_answerThrow_42 (by decide) ?_
    obtain ⟨r6, x5, hq7, h⟩ := bnd_some h
    refine w_callV (fr := 1) (lo := 20) C G hI hS 4 0 (hI.at1 rfl) (fcE_4 g _ _) rfl mv_X5_count km_X4_91 [.int 1] (k_X5_count l g 1 x2 _ _  hq7) rfl (by first | exact ⟨by decide, by decide⟩ | exact ⟨by show _ ≤ _ + _; omega, by show _ ≤ _ + _; omega⟩) ⟨Nat.zero_le _, Nat.zero_le _⟩ hl.1 rfl (Nat.le_of_ble_eq_true rfl) dX4_answerThrow_43 (fun H locs hI hS => ?_)
    refine lv_astore (lv' := [(6, .ref (ge g r6)), (5, .int r3), (4, .ref (ga g 15 ((x 12 i1 2).toNatClampNeg))), (0, .ref (ga g 1 0)), (1, .ref (ga g 12 i1)), (2, .int a2), (3, .int a3)]) hx hb dX4_answerThrow_46 hl (by decide) rfl (fun ls hl => ?_)
    refine lv_aload hx hb dX4_answerThrow_48 (lv_at hl 0 rfl) ?_
    refine w_out C G hS 0 (by decide) rfl kf_X4_84 dX4_answerThrow_50 ?_
    obtain ⟨hn8, h⟩ := need_p h
    refine w_acmp_eq (tgt := 59) C G (a := r6) (b := 0) hn8 (by decide) dX4_answerThrow_53 (by decide) (fun hc => ?_) (fun hc => ?_)
    · replace h := ite_y hc h
      refine lv_aload_n hx hb dX4_answerThrow_59 rfl (lv_at hl 3 rfl) ?_
      refine w_get C G hI 1 0 (hI.at1 rfl) (fcE_1 g _ _) rfl in_X4 0 (by decide) kf_X4_12 (fun _ h => h) (v := .ref (ga g 2 0)) rfl dX4_answerThrow_60 ?_
      refine lv_dup hx hb dX4_answerThrow_63 rfl ?_
      refine w_get C G hI 2 0 (hI.at1 rfl) (fcE_2 g _ _) rfl in_X8 4 (by decide) kf_X4_167 (fun _ h => h) (v := .int (x5 2 0 4)) rfl dX4_answerThrow_64 ?_
      refine lv_iconst (v := 1) hx hb dX4_answerThrow_67 (by decide) ?_
      refine lv_iadd hx hb dX4_answerThrow_68 ?_
      refine w_put C G hI hS 2 0 (hI.at1 rfl) rfl (fcE_2 g _ _) rfl in_X8 tyX8 tyX8_ok nmX8 4 (by decide) kf_X4_167 (fun _ h => h) rfl (ty := .int) (y := ((x5 2 0 4) + 1)) (by decide +kernel) rfl rfl (Nat.le_of_ble_eq_true rfl) rfl dX4_answerThrow_69 (fun H locs hI hS => ?_)
      obtain ⟨x9, e_x9, h⟩ := lets_some h
      rw [← e_x9] at hI
      refine lv_aload_n hx hb dX4_answerThrow_72 rfl (lv_at hl 3 rfl) ?_
      refine lv_aload_n hx hb dX4_answerThrow_73 rfl (lv_at hl 4 rfl) ?_
      refine lv_aload hx hb dX4_answerThrow_74 (lv_at hl 2 rfl) ?_
      refine w_get C G hI 15 ((x 12 i1 2).toNatClampNeg) (hI.at8 rfl (inb_lt hn1)) (fcE_15 g _ _) rfl in_X6 1 (by decide) kf_X4_170 (fun _ h => h) (v := .ref (ga g 22 ((x 12 i1 2).toNatClampNeg))) rfl dX4_answerThrow_76 ?_
      refine lv_iload hx hb dX4_answerThrow_79 (lv_at hl 1 rfl) ?_
      obtain ⟨hn10, h⟩ := need_t h
      refine w_callV (fr := 2) (lo := 43) C G hI hS 22 ((x 12 i1 2).toNatClampNeg) (hI.at8 rfl (inb_lt hn1)) (fcE_22 g _ _) rfl mv_Jx4a65c_get_915e3 km_X4_137 [.int r3] (k_get_22 l g ((x 12 i1 2).toNatClampNeg) (inb_lt hn1) hI.2 _ hn10) rfl (by first | exact ⟨by decide, by decide⟩ | exact ⟨by show _ ≤ _ + _; omega, by show _ ≤ _ + _; omega⟩) ⟨Nat.zero_le _, Nat.zero_le _⟩ hl.1 rfl (Nat.le_of_ble_eq_true rfl) dX4_answerThrow_81 (fun H locs hI hS => ?_)
      have hg11 := (hI.2.2.2.2.1 ((x 12 i1 2).toNatClampNeg) r3.toNatClampNeg (inb_lt hn1) (inb_lt hn10)).2.1
      refine w_cast C G hI 19 (6 * ((x 12 i1 2).toNatClampNeg) + r3.toNatClampNeg) hg11 (fcE_19 g _ _) rfl kC_X4_172 dX4_answerThrow_84 ?_
      obtain ⟨r13, x12, hq14, h⟩ := bnd_some h
      refine w_callV (fr := 0) (lo := 0) C G hI hS 19 (6 * ((x 12 i1 2).toNatClampNeg) + r3.toNatClampNeg) hg11 (fcE_19 g _ _) rfl mv_X3_at km_X4_174 [] (k_X3_at l g (6 * ((x 12 i1 2).toNatClampNeg) + r3.toNatClampNeg) x9 _ _ hg11 hq14) rfl (by first | exact ⟨by decide, by decide⟩ | exact ⟨by show _ ≤ _ + _; omega, by show _ ≤ _ + _; omega⟩) ⟨Nat.zero_le _, Nat.zero_le _⟩ hl.1 rfl (Nat.le_of_ble_eq_true rfl) dX4_answerThrow_87 (fun H locs hI hS => ?_)
      refine lv_iload_n hx hb dX4_answerThrow_90 rfl (lv_at hl 6 rfl) ?_
      obtain ⟨r16, x15, hq17, h⟩ := bnd_some h
      refine w_callV (fr := frp + 6) (lo := lop + 139) C G hI hS 1 0 (hI.at1 rfl) (fcE_1 g _ _) rfl mv_X4_goOn km_X4_147 [.ref (ga g 12 i1), .int r13, .int a3] (k_X4_goOn l g pf hpf i1 r13 a3 x12 _ _ h_i1 hq17) rfl (by first | exact ⟨by decide, by decide⟩ | exact ⟨by show _ ≤ _ + _; omega, by show _ ≤ _ + _; omega⟩) ⟨Nat.zero_le _, Nat.zero_le _⟩ hl.1 rfl (Nat.le_of_ble_eq_true rfl) dX4_answerThrow_91 (fun H locs hI hS => ?_)
      refine lv_astore (lv' := [(7, .ref (ge g r16)), (6, .ref (ge g r6)), (5, .int r3), (4, .ref (ga g 15 ((x 12 i1 2).toNatClampNeg))), (0, .ref (ga g 1 0)), (1, .ref (ga g 12 i1)), (2, .int a2), (3, .int a3)]) hx hb dX4_answerThrow_94 hl (by decide) rfl (fun ls hl => ?_)
      refine lv_aload hx hb dX4_answerThrow_96 (lv_at hl 0 rfl) ?_
      refine w_out C G hS 0 (by decide) rfl kf_X4_84 dX4_answerThrow_98 ?_
      obtain ⟨hn18, h⟩ := need_p h
      refine w_acmp_ne (tgt := 111) C G (a := r16) (b := 0) hn18 (by decide) dX4_answerThrow_101 (by decide) (fun hc => ?_) (fun hc => ?_)
      · replace h := ite_n hc h
        exact w_X4_answerThrow_b111 C G hpf r16 x15 _ _ _  h hI hS (lv_sub hl [0] rfl)
      replace h := ite_y hc h
      refine lv_aload_n hx hb dX4_answerThrow_104 rfl (lv_at hl 5 rfl) ?_
      refine w_get C G hI 12 i1 (hI.at12 rfl h_i1) (fcE_12 g _ _) rfl in_X2 0 (by decide) kf_X4_176 (fun _ h => h) (v := .ref (ga g 13 i1)) rfl dX4_answerThrow_105 ?_
      refine lv_iconst (v := 5) hx hb dX4_answerThrow_108 (by decide) ?_
      refine lv_iload_n hx hb dX4_answerThrow_109 rfl (lv_at hl 6 rfl) ?_
      obtain ⟨hn19, h⟩ := need_t h
      refine w_iast C G hI hS 13 i1 (hI.at12 rfl h_i1) rfl (fcA_13 g _) (y := a2) (inb_in hn19) dX4_answerThrow_110 (fun H locs hI hS => ?_)
      obtain ⟨x20, e_x20, h⟩ := lets_some h
      rw [← e_x20] at hI
      exact w_X4_answerThrow_b111 C G hpf r16 x20 _ _ _  h hI hS (lv_sub hl [0] rfl)
    replace h := ite_n hc h
    refine lv_aload hx hb dX4_answerThrow_56 (lv_at hl 0 rfl) ?_
    cases h
    exact w_aret C hI hS dX4_answerThrow_58
  replace h := ite_y hc h
  refine lv_aload_n hx hb dX4_answerThrow_30 rfl (lv_at hl 2 rfl) ?_
  refine lv_aload_n hx hb dX4_answerThrow_31 rfl (lv_at hl 3 rfl) ?_
  refine lv_iload_n hx hb dX4_answerThrow_32 rfl (lv_at hl 4 rfl) ?_
  refine lv_iload_n hx hb dX4_answerThrow_33 rfl (lv_at hl 5 rfl) ?_
  obtain ⟨r22, x21, hq23, h⟩ := bnd_some h
  refine w_callV (fr := frp + 6) (lo := lop + 139) C G hI hS 1 0 (hI.at1 rfl) (fcE_1 g _ _) rfl mv_X4_throwOut km_X4_164 [.ref (ga g 12 i1), .int a2, .int a3] (k_X4_throwOut l g pf hpf i1 a2 a3 x2 _ _ h_i1 hq23) rfl (by first | exact ⟨by decide, by decide⟩ | exact ⟨by show _ ≤ _ + _; omega, by show _ ≤ _ + _; omega⟩) ⟨Nat.zero_le _, Nat.zero_le _⟩ hl.1 rfl (Nat.le_of_ble_eq_true rfl) dX4_answerThrow_34 (fun H locs hI hS => ?_)
  cases h
  exact w_aret C hI hS dX4_answerThrow_37
theorem k_X4_answerThrow (l : Launch) (g : gT) {frp lop : Nat} (pf : Int32 → st → Option (Nat × st)) (hpf : ∀ (dep : Int32) (x : st) (o : Nat) (x' : st), pf dep x = some (o, x') → Kt l yX4_performFrame cX4_performFrame 6 (some (.object "StepBudgets$Outcome")) frp lop g [.ref (ga g 1 0), .int dep] x (some (.ref (ge g o))) x') (i1 : Nat) (a2 : Int32) (a3 : Int32) (x : st) (r : Nat) (x' : st) (h_i1 : i1 < 12) (h : f_X4_answerThrow pf i1 a2 a3 x = some (r, x')) : Kt l yX4_answerThrow cX4_answerThrow 8 (some (.object "StepBudgets$Outcome")) (frp + 7) (lop + 164) g [.ref (ga g 1 0), .ref (ga g 12 i1), .int a2, .int a3] x (some (.ref (ge g r))) x' := by
  refine Kt.of (by decide) (fun p e s m below meth c C G hI => ?_)
  have hl := lv_entry ([.ref (ga g 1 0), .ref (ga g 12 i1), .int a2, .int a3]) (n := 8) (Nat.le_of_ble_eq_true rfl)
  rw [lg_entry_eq]
  generalize (lg_sl ([.ref (ga g 1 0), .ref (ga g 12 i1), .int a2, .int a3]) ++ List.replicate (8 - (lg_sl ([.ref (ga g 1 0), .ref (ga g 12 i1), .int a2, .int a3])).length) Slot.unset).toArray = ls at hl ⊢
  have hl : lv_has ls 8 [(0, .ref (ga g 1 0)), (1, .ref (ga g 12 i1)), (2, .int a2), (3, .int a3)] := hl
  exact w_X4_answerThrow C G hpf i1 a2 a3 x _ _ ls h_i1 h hI va_S.rf hl
theorem mv_X4_answerThrow : mtV yX4_answerThrow RX4 cX4_answerThrow 8 (some (.object "StepBudgets$Outcome")) 3 := ⟨ki_X4_answerThrow, kl_X4_answerThrow, kI_X4, kc_X4_answerThrow, by decide +kernel⟩

/-! X4_callFrame -/
def f_X4_callFrame (pf : Int32 → st → Option (Nat × st)) (a1 : Int32) (a2 : Int32) (a3 : Int32) (a4 : Int32) (x : st) : Option (Nat × st) := bnd (f_X4_makeFrame a1 a2 a3 a4 x) fun r2 x1 => if r2 < 5 then if r2 = 0 then (bnd (pf a4 x1) fun r6 x5 => some (r6, x5)) else (some (r2, x1)) else none
set_option maxHeartbeats 4000000 in
set_option maxRecDepth 100000 in
theorem w_X4_callFrame {p : Program} {l : Launch} {e : Env} {s : State} {m : MethodId} {args : Array Value} {below : List Frame} {meth : Method} {c : Code} {g : gT} {frp lop : Nat} {r : Nat} {x' : st} (C : cxt p s m meth c args cX4_callFrame 6 RX4 (some (.object "StepBudgets$Outcome"))) (G : gst g s) {pf : Int32 → st → Option (Nat × st)} (hpf : ∀ (dep : Int32) (x : st) (o : Nat) (x' : st), pf dep x = some (o, x') → Kt l yX4_performFrame cX4_performFrame 6 (some (.object "StepBudgets$Outcome")) frp lop g [.ref (ga g 1 0), .int dep] x (some (.ref (ge g o))) x') (a1 : Int32) (a2 : Int32) (a3 : Int32) (a4 : Int32) (x : st) (H : Heap) (locs : List Loc) (ls : Array Slot)  (h : f_X4_callFrame pf a1 a2 a3 a4 x = some (r, x')) (hI : wst g x H) (hS : va_S (zA (gz g)) s.heap H locs) (hl : lv_has ls 6 [(0, .ref (ga g 1 0)), (1, .int a1), (2, .int a2), (3, .int a3), (4, .int a4)]) : W p l e (rmC (frp + 4) (lop + 87)) s m args below meth c H locs 0 0 (MQ below (Qx g (some (.ref (ge g r))) x') args s 0 0 (zA (gz g))) (F0 m 0 ls []) := by
  obtain ⟨hx, hb, hml, hown, hts, hlk, hrt⟩ := id C
  unfold f_X4_callFrame at h
  refine lv_aload_n hx hb dX4_callFrame_0 rfl (lv_at hl 0 rfl) ?_
  refine lv_iload_n hx hb dX4_callFrame_1 rfl (lv_at hl 1 rfl) ?_
  refine lv_iload_n hx hb dX4_callFrame_2 rfl (lv_at hl 2 rfl) ?_
  refine lv_iload_n hx hb dX4_callFrame_3 rfl (lv_at hl 3 rfl) ?_
  refine lv_iload hx hb dX4_callFrame_4 (lv_at hl 4 rfl) ?_
  obtain ⟨r2, x1, hq3, h⟩ := bnd_some h
  refine w_callV (fr := 3) (lo := 62) C G hI hS 1 0 (hI.at1 rfl) (fcE_1 g _ _) rfl mv_X4_makeFrame km_X4_81 [.int a1, .int a2, .int a3, .int a4] (k_X4_makeFrame l g a1 a2 a3 a4 x _ _  hq3) rfl (by first | exact ⟨by decide, by decide⟩ | exact ⟨by show _ ≤ _ + _; omega, by show _ ≤ _ + _; omega⟩) ⟨Nat.zero_le _, Nat.zero_le _⟩ hl.1 rfl (Nat.le_of_ble_eq_true rfl) dX4_callFrame_6 (fun H locs hI hS => ?_)
  refine lv_astore (lv' := [(5, .ref (ge g r2)), (0, .ref (ga g 1 0)), (1, .int a1), (2, .int a2), (3, .int a3), (4, .int a4)]) hx hb dX4_callFrame_9 hl (by decide) rfl (fun ls hl => ?_)
  refine lv_aload hx hb dX4_callFrame_11 (lv_at hl 0 rfl) ?_
  refine w_out C G hS 0 (by decide) rfl kf_X4_84 dX4_callFrame_13 ?_
  obtain ⟨hn4, h⟩ := need_p h
  refine w_acmp_ne (tgt := 28) C G (a := r2) (b := 0) hn4 (by decide) dX4_callFrame_16 (by decide) (fun hc => ?_) (fun hc => ?_)
  · replace h := ite_n hc h
    refine lv_aload hx hb dX4_callFrame_28 (lv_at hl 0 rfl) ?_
    cases h
    exact w_aret C hI hS dX4_callFrame_30
  replace h := ite_y hc h
  refine lv_aload_n hx hb dX4_callFrame_19 rfl (lv_at hl 1 rfl) ?_
  refine lv_iload hx hb dX4_callFrame_20 (lv_at hl 5 rfl) ?_
  obtain ⟨r6, x5, hq7, h⟩ := bnd_some h
  refine w_callV (fr := frp) (lo := lop) C G hI hS 1 0 (hI.at1 rfl) (fcE_1 g _ _) rfl mv_X4_performFrame km_X4_87 [.int a4] (hpf a4 x1 _ _ hq7) rfl (by first | exact ⟨by decide, by decide⟩ | exact ⟨by show _ ≤ _ + _; omega, by show _ ≤ _ + _; omega⟩) ⟨Nat.zero_le _, Nat.zero_le _⟩ hl.1 rfl (Nat.le_of_ble_eq_true rfl) dX4_callFrame_22 (fun H locs hI hS => ?_)
  refine lv_goto (tgt := 30) hx hb dX4_callFrame_25 (by decide) ?_
  cases h
  exact w_aret C hI hS dX4_callFrame_30
theorem k_X4_callFrame (l : Launch) (g : gT) {frp lop : Nat} (pf : Int32 → st → Option (Nat × st)) (hpf : ∀ (dep : Int32) (x : st) (o : Nat) (x' : st), pf dep x = some (o, x') → Kt l yX4_performFrame cX4_performFrame 6 (some (.object "StepBudgets$Outcome")) frp lop g [.ref (ga g 1 0), .int dep] x (some (.ref (ge g o))) x') (a1 : Int32) (a2 : Int32) (a3 : Int32) (a4 : Int32) (x : st) (r : Nat) (x' : st)  (h : f_X4_callFrame pf a1 a2 a3 a4 x = some (r, x')) : Kt l yX4_callFrame cX4_callFrame 6 (some (.object "StepBudgets$Outcome")) (frp + 4) (lop + 87) g [.ref (ga g 1 0), .int a1, .int a2, .int a3, .int a4] x (some (.ref (ge g r))) x' := by
  refine Kt.of (by decide) (fun p e s m below meth c C G hI => ?_)
  have hl := lv_entry ([.ref (ga g 1 0), .int a1, .int a2, .int a3, .int a4]) (n := 6) (Nat.le_of_ble_eq_true rfl)
  rw [lg_entry_eq]
  generalize (lg_sl ([.ref (ga g 1 0), .int a1, .int a2, .int a3, .int a4]) ++ List.replicate (6 - (lg_sl ([.ref (ga g 1 0), .int a1, .int a2, .int a3, .int a4])).length) Slot.unset).toArray = ls at hl ⊢
  have hl : lv_has ls 6 [(0, .ref (ga g 1 0)), (1, .int a1), (2, .int a2), (3, .int a3), (4, .int a4)] := hl
  exact w_X4_callFrame C G hpf a1 a2 a3 a4 x _ _ ls  h hI va_S.rf hl
theorem mv_X4_callFrame : mtV yX4_callFrame RX4 cX4_callFrame 6 (some (.object "StepBudgets$Outcome")) 4 := ⟨ki_X4_callFrame, kl_X4_callFrame, kI_X4, kc_X4_callFrame, by decide +kernel⟩

/-! X4_callMethod -/
def f_X4_callMethod (pf : Int32 → st → Option (Nat × st)) (i1 : Nat) (i2 : Nat) (a3 : Int32) (x : st) : Option (Nat × st) := bnd (f_X0_b i2 x) fun r2 x1 => bnd (f_X0_d i2 x1) fun r5 x4 => if inb r5 6 = true then bnd (f_X0_c i2 x4) fun r9 x8 => if inb r9 3 = true then bnd (f_X4_callFrame pf r2 (x4 13 i1 r5.toNatClampNeg) (x8 14 i1 r9.toNatClampNeg) (a3 + 1) x8) fun r13 x12 => if r13 < 5 then if r13 = 1 then (bnd (f_X0_a i2 x12) fun r17 x16 => bnd (f_X4_setNumber i1 r17 (x16 1 0 5) x16) fun r20 x19 => some (r20, x19)) else (some (r13, x12)) else none else none else none
set_option maxHeartbeats 4000000 in
set_option maxRecDepth 100000 in
theorem w_X4_callMethod {p : Program} {l : Launch} {e : Env} {s : State} {m : MethodId} {args : Array Value} {below : List Frame} {meth : Method} {c : Code} {g : gT} {frp lop : Nat} {r : Nat} {x' : st} (C : cxt p s m meth c args cX4_callMethod 5 RX4 (some (.object "StepBudgets$Outcome"))) (G : gst g s) {pf : Int32 → st → Option (Nat × st)} (hpf : ∀ (dep : Int32) (x : st) (o : Nat) (x' : st), pf dep x = some (o, x') → Kt l yX4_performFrame cX4_performFrame 6 (some (.object "StepBudgets$Outcome")) frp lop g [.ref (ga g 1 0), .int dep] x (some (.ref (ge g o))) x') (i1 : Nat) (i2 : Nat) (a3 : Int32) (x : st) (H : Heap) (locs : List Loc) (ls : Array Slot) (h_i1 : i1 < 12) (h_i2 : gd g 18 i2) (h : f_X4_callMethod pf i1 i2 a3 x = some (r, x')) (hI : wst g x H) (hS : va_S (zA (gz g)) s.heap H locs) (hl : lv_has ls 5 [(0, .ref (ga g 1 0)), (1, .ref (ga g 12 i1)), (2, .ref (ga g 18 i2)), (3, .int a3)]) : W p l e (rmC (frp + 5) (lop + 112)) s m args below meth c H locs 0 0 (MQ below (Qx g (some (.ref (ge g r))) x') args s 0 0 (zA (gz g))) (F0 m 0 ls []) := by
  obtain ⟨hx, hb, hml, hown, hts, hlk, hrt⟩ := id C
  unfold f_X4_callMethod at h
  refine lv_aload_n hx hb dX4_callMethod_0 rfl (lv_at hl 0 rfl) ?_
  refine lv_aload_n hx hb dX4_callMethod_1 rfl (lv_at hl 2 rfl) ?_
  obtain ⟨r2, x1, hq3, h⟩ := bnd_some h
  refine w_callV (fr := 0) (lo := 0) C G hI hS 18 i2 h_i2 (fcE_18 g _ _) rfl mv_X0_b km_X4_213 [] (k_X0_b l g i2 x _ _ h_i2 hq3) rfl (by first | exact ⟨by decide, by decide⟩ | exact ⟨by show _ ≤ _ + _; omega, by show _ ≤ _ + _; omega⟩) ⟨Nat.zero_le _, Nat.zero_le _⟩ hl.1 rfl (Nat.le_of_ble_eq_true rfl) dX4_callMethod_2 (fun H locs hI hS => ?_)
  refine lv_aload_n hx hb dX4_callMethod_5 rfl (lv_at hl 1 rfl) ?_
  refine w_get C G hI 12 i1 (hI.at12 rfl h_i1) (fcE_12 g _ _) rfl in_X2 0 (by decide) kf_X4_176 (fun _ h => h) (v := .ref (ga g 13 i1)) rfl dX4_callMethod_6 ?_
  refine lv_aload_n hx hb dX4_callMethod_9 rfl (lv_at hl 2 rfl) ?_
  obtain ⟨r5, x4, hq6, h⟩ := bnd_some h
  refine w_callV (fr := 0) (lo := 0) C G hI hS 18 i2 h_i2 (fcE_18 g _ _) rfl mv_X0_d km_X4_257 [] (k_X0_d l g i2 x1 _ _ h_i2 hq6) rfl (by first | exact ⟨by decide, by decide⟩ | exact ⟨by show _ ≤ _ + _; omega, by show _ ≤ _ + _; omega⟩) ⟨Nat.zero_le _, Nat.zero_le _⟩ hl.1 rfl (Nat.le_of_ble_eq_true rfl) dX4_callMethod_10 (fun H locs hI hS => ?_)
  obtain ⟨hn7, h⟩ := need_t h
  refine w_iald C G hI 13 i1 (hI.at12 rfl h_i1) (fcA_13 g _ _) (inb_in hn7) dX4_callMethod_13 ?_
  refine lv_aload_n hx hb dX4_callMethod_14 rfl (lv_at hl 1 rfl) ?_
  refine w_get C G hI 12 i1 (hI.at12 rfl h_i1) (fcE_12 g _ _) rfl in_X2 1 (by decide) kf_X4_198 (fun _ h => h) (v := .ref (ga g 14 i1)) rfl dX4_callMethod_15 ?_
  refine lv_aload_n hx hb dX4_callMethod_18 rfl (lv_at hl 2 rfl) ?_
  obtain ⟨r9, x8, hq10, h⟩ := bnd_some h
  refine w_callV (fr := 0) (lo := 0) C G hI hS 18 i2 h_i2 (fcE_18 g _ _) rfl mv_X0_c km_X4_247 [] (k_X0_c l g i2 x4 _ _ h_i2 hq10) rfl (by first | exact ⟨by decide, by decide⟩ | exact ⟨by show _ ≤ _ + _; omega, by show _ ≤ _ + _; omega⟩) ⟨Nat.zero_le _, Nat.zero_le _⟩ hl.1 rfl (Nat.le_of_ble_eq_true rfl) dX4_callMethod_19 (fun H locs hI hS => ?_)
  obtain ⟨hn11, h⟩ := need_t h
  refine w_iald C G hI 14 i1 (hI.at12 rfl h_i1) (fcA_14 g _ _) (inb_in hn11) dX4_callMethod_22 ?_
  refine lv_iload_n hx hb dX4_callMethod_23 rfl (lv_at hl 3 rfl) ?_
  refine lv_iconst (v := 1) hx hb dX4_callMethod_24 (by decide) ?_
  refine lv_iadd hx hb dX4_callMethod_25 ?_
  obtain ⟨r13, x12, hq14, h⟩ := bnd_some h
  refine w_callV (fr := frp + 4) (lo := lop + 87) C G hI hS 1 0 (hI.at1 rfl) (fcE_1 g _ _) rfl mv_X4_callFrame km_X4_55 [.int r2, .int (x4 13 i1 r5.toNatClampNeg), .int (x8 14 i1 r9.toNatClampNeg), .int (a3 + 1)] (k_X4_callFrame l g pf hpf r2 (x4 13 i1 r5.toNatClampNeg) (x8 14 i1 r9.toNatClampNeg) (a3 + 1) x8 _ _  hq14) rfl (by first | exact ⟨by decide, by decide⟩ | exact ⟨by show _ ≤ _ + _; omega, by show _ ≤ _ + _; omega⟩) ⟨Nat.zero_le _, Nat.zero_le _⟩ hl.1 rfl (Nat.le_of_ble_eq_true rfl) dX4_callMethod_26 (fun H locs hI hS => ?_)
  refine lv_astore (lv' := [(4, .ref (ge g r13)), (0, .ref (ga g 1 0)), (1, .ref (ga g 12 i1)), (2, .ref (ga g 18 i2)), (3, .int a3)]) hx hb dX4_callMethod_29 hl (by decide) rfl (fun ls hl => ?_)
  refine lv_aload hx hb dX4_callMethod_31 (lv_at hl 0 rfl) ?_
  refine w_out C G hS 1 (by decide) rfl kf_X4_59 dX4_callMethod_33 ?_
  obtain ⟨hn15, h⟩ := need_p h
  refine w_acmp_ne (tgt := 55) C G (a := r13) (b := 1) hn15 (by decide) dX4_callMethod_36 (by decide) (fun hc => ?_) (fun hc => ?_)
  · replace h := ite_n hc h
    refine lv_aload hx hb dX4_callMethod_55 (lv_at hl 0 rfl) ?_
    cases h
    exact w_aret C hI hS dX4_callMethod_57
  replace h := ite_y hc h
  refine lv_aload_n hx hb dX4_callMethod_39 rfl (lv_at hl 1 rfl) ?_
  refine lv_aload_n hx hb dX4_callMethod_40 rfl (lv_at hl 2 rfl) ?_
  refine lv_aload_n hx hb dX4_callMethod_41 rfl (lv_at hl 3 rfl) ?_
  obtain ⟨r17, x16, hq18, h⟩ := bnd_some h
  refine w_callV (fr := 0) (lo := 0) C G hI hS 18 i2 h_i2 (fcE_18 g _ _) rfl mv_X0_a km_X4_210 [] (k_X0_a l g i2 x12 _ _ h_i2 hq18) rfl (by first | exact ⟨by decide, by decide⟩ | exact ⟨by show _ ≤ _ + _; omega, by show _ ≤ _ + _; omega⟩) ⟨Nat.zero_le _, Nat.zero_le _⟩ hl.1 rfl (Nat.le_of_ble_eq_true rfl) dX4_callMethod_42 (fun H locs hI hS => ?_)
  refine lv_aload_n hx hb dX4_callMethod_45 rfl (lv_at hl 1 rfl) ?_
  refine w_get C G hI 1 0 (hI.at1 rfl) (fcE_1 g _ _) rfl in_X4 5 (by decide) kf_X4_65 (fun _ h => h) (v := .int (x16 1 0 5)) rfl dX4_callMethod_46 ?_
  obtain ⟨r20, x19, hq21, h⟩ := bnd_some h
  refine w_callV (fr := 0) (lo := 0) C G hI hS 1 0 (hI.at1 rfl) (fcE_1 g _ _) rfl mv_X4_setNumber km_X4_216 [.ref (ga g 12 i1), .int r17, .int (x16 1 0 5)] (k_X4_setNumber l g i1 r17 (x16 1 0 5) x16 _ _ h_i1 hq21) rfl (by first | exact ⟨by decide, by decide⟩ | exact ⟨by show _ ≤ _ + _; omega, by show _ ≤ _ + _; omega⟩) ⟨Nat.zero_le _, Nat.zero_le _⟩ hl.1 rfl (Nat.le_of_ble_eq_true rfl) dX4_callMethod_49 (fun H locs hI hS => ?_)
  refine lv_goto (tgt := 57) hx hb dX4_callMethod_52 (by decide) ?_
  cases h
  exact w_aret C hI hS dX4_callMethod_57
theorem k_X4_callMethod (l : Launch) (g : gT) {frp lop : Nat} (pf : Int32 → st → Option (Nat × st)) (hpf : ∀ (dep : Int32) (x : st) (o : Nat) (x' : st), pf dep x = some (o, x') → Kt l yX4_performFrame cX4_performFrame 6 (some (.object "StepBudgets$Outcome")) frp lop g [.ref (ga g 1 0), .int dep] x (some (.ref (ge g o))) x') (i1 : Nat) (i2 : Nat) (a3 : Int32) (x : st) (r : Nat) (x' : st) (h_i1 : i1 < 12) (h_i2 : gd g 18 i2) (h : f_X4_callMethod pf i1 i2 a3 x = some (r, x')) : Kt l yX4_callMethod cX4_callMethod 5 (some (.object "StepBudgets$Outcome")) (frp + 5) (lop + 112) g [.ref (ga g 1 0), .ref (ga g 12 i1), .ref (ga g 18 i2), .int a3] x (some (.ref (ge g r))) x' := by
  refine Kt.of (by decide) (fun p e s m below meth c C G hI => ?_)
  have hl := lv_entry ([.ref (ga g 1 0), .ref (ga g 12 i1), .ref (ga g 18 i2), .int a3]) (n := 5) (Nat.le_of_ble_eq_true rfl)
  rw [lg_entry_eq]
  generalize (lg_sl ([.ref (ga g 1 0), .ref (ga g 12 i1), .ref (ga g 18 i2), .int a3]) ++ List.replicate (5 - (lg_sl ([.ref (ga g 1 0), .ref (ga g 12 i1), .ref (ga g 18 i2), .int a3])).length) Slot.unset).toArray = ls at hl ⊢
  have hl : lv_has ls 5 [(0, .ref (ga g 1 0)), (1, .ref (ga g 12 i1)), (2, .ref (ga g 18 i2)), (3, .int a3)] := hl
  exact w_X4_callMethod C G hpf i1 i2 a3 x _ _ ls h_i1 h_i2 h hI va_S.rf hl
theorem mv_X4_callMethod : mtV yX4_callMethod RX4 cX4_callMethod 5 (some (.object "StepBudgets$Outcome")) 3 := ⟨ki_X4_callMethod, kl_X4_callMethod, kI_X4, kc_X4_callMethod, by decide +kernel⟩

/-! X4_doAct -/
def f_X4_doAct_b94 (pf : Int32 → st → Option (Nat × st)) (v1 : Nat) (v2 : Nat) (x : st) : Option (Nat × st) := bnd (f_X4_reckon v1 v2 x) fun r14 x13 => some (r14, x13)
set_option maxHeartbeats 4000000 in
set_option maxRecDepth 100000 in
theorem w_X4_doAct_b94 {p : Program} {l : Launch} {e : Env} {s : State} {m : MethodId} {args : Array Value} {below : List Frame} {meth : Method} {c : Code} {g : gT} {frp lop : Nat} {r : Nat} {x' : st} (C : cxt p s m meth c args cX4_doAct 4 RX4 (some (.object "StepBudgets$Outcome"))) (G : gst g s) {pf : Int32 → st → Option (Nat × st)} (hpf : ∀ (dep : Int32) (x : st) (o : Nat) (x' : st), pf dep x = some (o, x') → Kt l yX4_performFrame cX4_performFrame 6 (some (.object "StepBudgets$Outcome")) frp lop g [.ref (ga g 1 0), .int dep] x (some (.ref (ge g o))) x') (v1 : Nat) (v2 : Nat) (x : st) (H : Heap) (locs : List Loc) (ls : Array Slot) (h_v1 : v1 < 12) (h_v2 : gd g 18 v2) (h : f_X4_doAct_b94 pf v1 v2 x = some (r, x')) (hI : wst g x H) (hS : va_S (zA (gz g)) s.heap H locs) (hl : lv_has ls 4 [(0, .ref (ga g 1 0)), (1, .ref (ga g 12 v1)), (2, .ref (ga g 18 v2))]) : W p l e (rmC (frp + 6) (lop + 149)) s m args below meth c H locs 0 0 (MQ below (Qx g (some (.ref (ge g r))) x') args s 0 0 (zA (gz g))) (F0 m 94 ls []) := by
  obtain ⟨hx, hb, hml, hown, hts, hlk, hrt⟩ := id C
  unfold f_X4_doAct_b94 at h
  refine lv_aload_n hx hb dX4_doAct_94 rfl (lv_at hl 0 rfl) ?_
  refine lv_aload_n hx hb dX4_doAct_95 rfl (lv_at hl 1 rfl) ?_
  refine lv_aload_n hx hb dX4_doAct_96 rfl (lv_at hl 2 rfl) ?_
  obtain ⟨r14, x13, hq15, h⟩ := bnd_some h
  refine w_callV (fr := 1) (lo := 23) C G hI hS 1 0 (hI.at1 rfl) (fcE_1 g _ _) rfl mv_X4_reckon km_X4_219 [.ref (ga g 12 v1), .ref (ga g 18 v2)] (k_X4_reckon l g v1 v2 x _ _ h_v1 h_v2 hq15) rfl (by first | exact ⟨by decide, by decide⟩ | exact ⟨by show _ ≤ _ + _; omega, by show _ ≤ _ + _; omega⟩) ⟨Nat.zero_le _, Nat.zero_le _⟩ hl.1 rfl (Nat.le_of_ble_eq_true rfl) dX4_doAct_97 (fun H locs hI hS => ?_)
  cases h
  exact w_aret C hI hS dX4_doAct_100
def f_X4_doAct_b101 (pf : Int32 → st → Option (Nat × st)) (v1 : Nat) (v2 : Nat) (x : st) : Option (Nat × st) := bnd (f_X4_divide v1 v2 x) fun r14 x13 => some (r14, x13)
set_option maxHeartbeats 4000000 in
set_option maxRecDepth 100000 in
theorem w_X4_doAct_b101 {p : Program} {l : Launch} {e : Env} {s : State} {m : MethodId} {args : Array Value} {below : List Frame} {meth : Method} {c : Code} {g : gT} {frp lop : Nat} {r : Nat} {x' : st} (C : cxt p s m meth c args cX4_doAct 4 RX4 (some (.object "StepBudgets$Outcome"))) (G : gst g s) {pf : Int32 → st → Option (Nat × st)} (hpf : ∀ (dep : Int32) (x : st) (o : Nat) (x' : st), pf dep x = some (o, x') → Kt l yX4_performFrame cX4_performFrame 6 (some (.object "StepBudgets$Outcome")) frp lop g [.ref (ga g 1 0), .int dep] x (some (.ref (ge g o))) x') (v1 : Nat) (v2 : Nat) (x : st) (H : Heap) (locs : List Loc) (ls : Array Slot) (h_v1 : v1 < 12) (h_v2 : gd g 18 v2) (h : f_X4_doAct_b101 pf v1 v2 x = some (r, x')) (hI : wst g x H) (hS : va_S (zA (gz g)) s.heap H locs) (hl : lv_has ls 4 [(0, .ref (ga g 1 0)), (1, .ref (ga g 12 v1)), (2, .ref (ga g 18 v2))]) : W p l e (rmC (frp + 6) (lop + 149)) s m args below meth c H locs 0 0 (MQ below (Qx g (some (.ref (ge g r))) x') args s 0 0 (zA (gz g))) (F0 m 101 ls []) := by
  obtain ⟨hx, hb, hml, hown, hts, hlk, hrt⟩ := id C
  unfold f_X4_doAct_b101 at h
  refine lv_aload_n hx hb dX4_doAct_101 rfl (lv_at hl 0 rfl) ?_
  refine lv_aload_n hx hb dX4_doAct_102 rfl (lv_at hl 1 rfl) ?_
  refine lv_aload_n hx hb dX4_doAct_103 rfl (lv_at hl 2 rfl) ?_
  obtain ⟨r14, x13, hq15, h⟩ := bnd_some h
  refine w_callV (fr := 3) (lo := 62) C G hI hS 1 0 (hI.at1 rfl) (fcE_1 g _ _) rfl mv_X4_divide km_X4_223 [.ref (ga g 12 v1), .ref (ga g 18 v2)] (k_X4_divide l g v1 v2 x _ _ h_v1 h_v2 hq15) rfl (by first | exact ⟨by decide, by decide⟩ | exact ⟨by show _ ≤ _ + _; omega, by show _ ≤ _ + _; omega⟩) ⟨Nat.zero_le _, Nat.zero_le _⟩ hl.1 rfl (Nat.le_of_ble_eq_true rfl) dX4_doAct_104 (fun H locs hI hS => ?_)
  cases h
  exact w_aret C hI hS dX4_doAct_107
def f_X4_doAct (pf : Int32 → st → Option (Nat × st)) (i1 : Nat) (i2 : Nat) (a3 : Int32) (x : st) : Option (Nat × st) := bnd (f_X0_kind i2 x) fun r2 x1 => if r2 = 0 then (bnd (f_X0_a i2 x1) fun r5 x4 => bnd (f_X0_b i2 x4) fun r8 x7 => bnd (f_X4_setNumber i1 r5 r8 x7) fun r11 x10 => some (r11, x10)) else if r2 = 1 then (f_X4_doAct_b94 pf i1 i2 x1) else if r2 = 2 then (f_X4_doAct_b94 pf i1 i2 x1) else if r2 = 3 then (f_X4_doAct_b94 pf i1 i2 x1) else if r2 = 4 then (f_X4_doAct_b101 pf i1 i2 x1) else if r2 = 5 then (f_X4_doAct_b101 pf i1 i2 x1) else if r2 = 6 then (bnd (f_X0_b i2 x1) fun r14 x13 => bnd (f_X4_jump i1 r14 x13) fun r17 x16 => some (r17, x16)) else if r2 = 7 then (bnd (f_X0_a i2 x1) fun r20 x19 => if inb r20 6 = true then if (x19 13 i1 r20.toNatClampNeg) ≤ 0 then (some (0, x19)) else (bnd (f_X0_b i2 x19) fun r24 x23 => bnd (f_X4_jump i1 r24 x23) fun r27 x26 => some (r27, x26)) else none) else if r2 = 8 then (bnd (f_X4_newRow i1 i2 x1) fun r30 x29 => some (r30, x29)) else if r2 = 9 then (bnd (f_X4_putPlace i1 i2 x1) fun r33 x32 => some (r33, x32)) else if r2 = 10 then (bnd (f_X4_getPlace i1 i2 x1) fun r36 x35 => some (r36, x35)) else if r2 = 11 then (bnd (f_X4_tellSize i1 i2 x1) fun r39 x38 => some (r39, x38)) else if r2 = 12 then (bnd (f_X4_copyPlaces i1 i2 x1) fun r42 x41 => some (r42, x41)) else if r2 = 13 then (bnd (f_X4_callMethod pf i1 i2 a3 x1) fun r45 x44 => some (r45, x44)) else if r2 = 14 then (bnd (f_X0_a i2 x1) fun r48 x47 => if inb r48 6 = true then lets (sx x47 1 0 5 (x47 13 i1 r48.toNatClampNeg)) fun x51 => some (1, x51) else none) else (bnd (f_X0_b i2 x1) fun r53 x52 => bnd (f_X4_raise r53 x52) fun r56 x55 => some (r56, x55))
set_option maxHeartbeats 4000000 in
set_option maxRecDepth 100000 in
theorem w_X4_doAct {p : Program} {l : Launch} {e : Env} {s : State} {m : MethodId} {args : Array Value} {below : List Frame} {meth : Method} {c : Code} {g : gT} {frp lop : Nat} {r : Nat} {x' : st} (C : cxt p s m meth c args cX4_doAct 4 RX4 (some (.object "StepBudgets$Outcome"))) (G : gst g s) {pf : Int32 → st → Option (Nat × st)} (hpf : ∀ (dep : Int32) (x : st) (o : Nat) (x' : st), pf dep x = some (o, x') → Kt l yX4_performFrame cX4_performFrame 6 (some (.object "StepBudgets$Outcome")) frp lop g [.ref (ga g 1 0), .int dep] x (some (.ref (ge g o))) x') (i1 : Nat) (i2 : Nat) (a3 : Int32) (x : st) (H : Heap) (locs : List Loc) (ls : Array Slot) (h_i1 : i1 < 12) (h_i2 : gd g 18 i2) (h : f_X4_doAct pf i1 i2 a3 x = some (r, x')) (hI : wst g x H) (hS : va_S (zA (gz g)) s.heap H locs) (hl : lv_has ls 4 [(0, .ref (ga g 1 0)), (1, .ref (ga g 12 i1)), (2, .ref (ga g 18 i2)), (3, .int a3)]) : W p l e (rmC (frp + 6) (lop + 149)) s m args below meth c H locs 0 0 (MQ below (Qx g (some (.ref (ge g r))) x') args s 0 0 (zA (gz g))) (F0 m 0 ls []) := by
  obtain ⟨hx, hb, hml, hown, hts, hlk, hrt⟩ := id C
  unfold f_X4_doAct at h
  refine lv_aload_n hx hb dX4_doAct_0 rfl (lv_at hl 2 rfl) ?_
  obtain ⟨r2, x1, hq3, h⟩ := bnd_some h
  refine w_callV (fr := 0) (lo := 0) C G hI hS 18 i2 h_i2 (fcE_18 g _ _) rfl mv_X0_kind km_X4_207 [] (k_X0_kind l g i2 x _ _ h_i2 hq3) rfl (by first | exact ⟨by decide, by decide⟩ | exact ⟨by show _ ≤ _ + _; omega, by show _ ≤ _ + _; omega⟩) ⟨Nat.zero_le _, Nat.zero_le _⟩ hl.1 rfl (Nat.le_of_ble_eq_true rfl) dX4_doAct_1 (fun H locs hI hS => ?_)
  by_cases hc0 : r2 = 0
  · replace h := ite_y hc0 h
    refine lv_tableIn (off := 76) (tgt := 80) hx hb dX4_doAct_4 (by rw [hc0]; decide) (by rw [hc0]; decide) (by rw [hc0]; decide +kernel) (by decide) ?_
    refine lv_aload_n hx hb dX4_doAct_80 rfl (lv_at hl 0 rfl) ?_
    refine lv_aload_n hx hb dX4_doAct_81 rfl (lv_at hl 1 rfl) ?_
    refine lv_aload_n hx hb dX4_doAct_82 rfl (lv_at hl 2 rfl) ?_
    obtain ⟨r5, x4, hq6, h⟩ := bnd_some h
    refine w_callV (fr := 0) (lo := 0) C G hI hS 18 i2 h_i2 (fcE_18 g _ _) rfl mv_X0_a km_X4_210 [] (k_X0_a l g i2 x1 _ _ h_i2 hq6) rfl (by first | exact ⟨by decide, by decide⟩ | exact ⟨by show _ ≤ _ + _; omega, by show _ ≤ _ + _; omega⟩) ⟨Nat.zero_le _, Nat.zero_le _⟩ hl.1 rfl (Nat.le_of_ble_eq_true rfl) dX4_doAct_83 (fun H locs hI hS => ?_)
    refine lv_aload_n hx hb dX4_doAct_86 rfl (lv_at hl 2 rfl) ?_
    obtain ⟨r8, x7, hq9, h⟩ := bnd_some h
    refine w_callV (fr := 0) (lo := 0) C G hI hS 18 i2 h_i2 (fcE_18 g _ _) rfl mv_X0_b km_X4_213 [] (k_X0_b l g i2 x4 _ _ h_i2 hq9) rfl (by first | exact ⟨by decide, by decide⟩ | exact ⟨by show _ ≤ _ + _; omega, by show _ ≤ _ + _; omega⟩) ⟨Nat.zero_le _, Nat.zero_le _⟩ hl.1 rfl (Nat.le_of_ble_eq_true rfl) dX4_doAct_87 (fun H locs hI hS => ?_)
    obtain ⟨r11, x10, hq12, h⟩ := bnd_some h
    refine w_callV (fr := 0) (lo := 0) C G hI hS 1 0 (hI.at1 rfl) (fcE_1 g _ _) rfl mv_X4_setNumber km_X4_216 [.ref (ga g 12 i1), .int r5, .int r8] (k_X4_setNumber l g i1 r5 r8 x7 _ _ h_i1 hq12) rfl (by first | exact ⟨by decide, by decide⟩ | exact ⟨by show _ ≤ _ + _; omega, by show _ ≤ _ + _; omega⟩) ⟨Nat.zero_le _, Nat.zero_le _⟩ hl.1 rfl (Nat.le_of_ble_eq_true rfl) dX4_doAct_90 (fun H locs hI hS => ?_)
    cases h
    exact w_aret C hI hS dX4_doAct_93
  replace h := ite_n hc0 h
  by_cases hc1 : r2 = 1
  · replace h := ite_y hc1 h
    refine lv_tableIn (off := 90) (tgt := 94) hx hb dX4_doAct_4 (by rw [hc1]; decide) (by rw [hc1]; decide) (by rw [hc1]; decide +kernel) (by decide) ?_
    exact w_X4_doAct_b94 C G hpf i1 i2 x1 _ _ _ h_i1 h_i2 h hI hS (lv_sub hl [0, 1, 2] rfl)
  replace h := ite_n hc1 h
  by_cases hc2 : r2 = 2
  · replace h := ite_y hc2 h
    refine lv_tableIn (off := 90) (tgt := 94) hx hb dX4_doAct_4 (by rw [hc2]; decide) (by rw [hc2]; decide) (by rw [hc2]; decide +kernel) (by decide) ?_
    exact w_X4_doAct_b94 C G hpf i1 i2 x1 _ _ _ h_i1 h_i2 h hI hS (lv_sub hl [0, 1, 2] rfl)
  replace h := ite_n hc2 h
  by_cases hc3 : r2 = 3
  · replace h := ite_y hc3 h
    refine lv_tableIn (off := 90) (tgt := 94) hx hb dX4_doAct_4 (by rw [hc3]; decide) (by rw [hc3]; decide) (by rw [hc3]; decide +kernel) (by decide) ?_
    exact w_X4_doAct_b94 C G hpf i1 i2 x1 _ _ _ h_i1 h_i2 h hI hS (lv_sub hl [0, 1, 2] rfl)
  replace h := ite_n hc3 h
  by_cases hc4 : r2 = 4
  · replace h := ite_y hc4 h
    refine lv_tableIn (off := 97) (tgt := 101) hx hb dX4_doAct_4 (by rw [hc4]; decide) (by rw [hc4]; decide) (by rw [hc4]; decide +kernel) (by decide) ?_
    exact w_X4_doAct_b101 C G hpf i1 i2 x1 _ _ _ h_i1 h_i2 h hI hS (lv_sub hl [0, 1, 2] rfl)
  replace h := ite_n hc4 h
  by_cases hc5 : r2 = 5
  · replace h := ite_y hc5 h
    refine lv_tableIn (off := 97) (tgt := 101) hx hb dX4_doAct_4 (by rw [hc5]; decide) (by rw [hc5]; decide) (by rw [hc5]; decide +kernel) (by decide) ?_
    exact w_X4_doAct_b101 C G hpf i1 i2 x1 _ _ _ h_i1 h_i2 h hI hS (lv_sub hl [0, 1, 2] rfl)
  replace h := ite_n hc5 h
  by_cases hc6 : r2 = 6
  · replace h := ite_y hc6 h
    refine lv_tableIn (off := 104) (tgt := 108) hx hb dX4_doAct_4 (by rw [hc6]; decide) (by rw [hc6]; decide) (by rw [hc6]; decide +kernel) (by decide) ?_
    refine lv_aload_n hx hb dX4_doAct_108 rfl (lv_at hl 0 rfl) ?_
    refine lv_aload_n hx hb dX4_doAct_109 rfl (lv_at hl 1 rfl) ?_
    refine lv_aload_n hx hb dX4_doAct_110 rfl (lv_at hl 2 rfl) ?_
    obtain ⟨r14, x13, hq15, h⟩ := bnd_some h
    refine w_callV (fr := 0) (lo := 0) C G hI hS 18 i2 h_i2 (fcE_18 g _ _) rfl mv_X0_b km_X4_213 [] (k_X0_b l g i2 x1 _ _ h_i2 hq15) rfl (by first | exact ⟨by decide, by decide⟩ | exact ⟨by show _ ≤ _ + _; omega, by show _ ≤ _ + _; omega⟩) ⟨Nat.zero_le _, Nat.zero_le _⟩ hl.1 rfl (Nat.le_of_ble_eq_true rfl) dX4_doAct_111 (fun H locs hI hS => ?_)
    obtain ⟨r17, x16, hq18, h⟩ := bnd_some h
    refine w_callV (fr := 2) (lo := 42) C G hI hS 1 0 (hI.at1 rfl) (fcE_1 g _ _) rfl mv_X4_jump km_X4_226 [.ref (ga g 12 i1), .int r14] (k_X4_jump l g i1 r14 x13 _ _ h_i1 hq18) rfl (by first | exact ⟨by decide, by decide⟩ | exact ⟨by show _ ≤ _ + _; omega, by show _ ≤ _ + _; omega⟩) ⟨Nat.zero_le _, Nat.zero_le _⟩ hl.1 rfl (Nat.le_of_ble_eq_true rfl) dX4_doAct_114 (fun H locs hI hS => ?_)
    cases h
    exact w_aret C hI hS dX4_doAct_117
  replace h := ite_n hc6 h
  by_cases hc7 : r2 = 7
  · replace h := ite_y hc7 h
    refine lv_tableIn (off := 114) (tgt := 118) hx hb dX4_doAct_4 (by rw [hc7]; decide) (by rw [hc7]; decide) (by rw [hc7]; decide +kernel) (by decide) ?_
    refine lv_aload_n hx hb dX4_doAct_118 rfl (lv_at hl 1 rfl) ?_
    refine w_get C G hI 12 i1 (hI.at12 rfl h_i1) (fcE_12 g _ _) rfl in_X2 0 (by decide) kf_X4_176 (fun _ h => h) (v := .ref (ga g 13 i1)) rfl dX4_doAct_119 ?_
    refine lv_aload_n hx hb dX4_doAct_122 rfl (lv_at hl 2 rfl) ?_
    obtain ⟨r20, x19, hq21, h⟩ := bnd_some h
    refine w_callV (fr := 0) (lo := 0) C G hI hS 18 i2 h_i2 (fcE_18 g _ _) rfl mv_X0_a km_X4_210 [] (k_X0_a l g i2 x1 _ _ h_i2 hq21) rfl (by first | exact ⟨by decide, by decide⟩ | exact ⟨by show _ ≤ _ + _; omega, by show _ ≤ _ + _; omega⟩) ⟨Nat.zero_le _, Nat.zero_le _⟩ hl.1 rfl (Nat.le_of_ble_eq_true rfl) dX4_doAct_123 (fun H locs hI hS => ?_)
    obtain ⟨hn22, h⟩ := need_t h
    refine w_iald C G hI 13 i1 (hI.at12 rfl h_i1) (fcA_13 g _ _) (inb_in hn22) dX4_doAct_126 ?_
    refine lv_if_le (tgt := 142) hx hb dX4_doAct_127 (by decide) (fun hc => ?_) (fun hc => ?_)
    · replace h := ite_y hc h
      refine w_out C G hS 0 (by decide) rfl kf_X4_84 dX4_doAct_142 ?_
      cases h
      exact w_aret C hI hS dX4_doAct_145
    replace h := ite_n hc h
    refine lv_aload_n hx hb dX4_doAct_130 rfl (lv_at hl 0 rfl) ?_
    refine lv_aload_n hx hb dX4_doAct_131 rfl (lv_at hl 1 rfl) ?_
    refine lv_aload_n hx hb dX4_doAct_132 rfl (lv_at hl 2 rfl) ?_
    obtain ⟨r24, x23, hq25, h⟩ := bnd_some h
    refine w_callV (fr := 0) (lo := 0) C G hI hS 18 i2 h_i2 (fcE_18 g _ _) rfl mv_X0_b km_X4_213 [] (k_X0_b l g i2 x19 _ _ h_i2 hq25) rfl (by first | exact ⟨by decide, by decide⟩ | exact ⟨by show _ ≤ _ + _; omega, by show _ ≤ _ + _; omega⟩) ⟨Nat.zero_le _, Nat.zero_le _⟩ hl.1 rfl (Nat.le_of_ble_eq_true rfl) dX4_doAct_133 (fun H locs hI hS => ?_)
    obtain ⟨r27, x26, hq28, h⟩ := bnd_some h
    refine w_callV (fr := 2) (lo := 42) C G hI hS 1 0 (hI.at1 rfl) (fcE_1 g _ _) rfl mv_X4_jump km_X4_226 [.ref (ga g 12 i1), .int r24] (k_X4_jump l g i1 r24 x23 _ _ h_i1 hq28) rfl (by first | exact ⟨by decide, by decide⟩ | exact ⟨by show _ ≤ _ + _; omega, by show _ ≤ _ + _; omega⟩) ⟨Nat.zero_le _, Nat.zero_le _⟩ hl.1 rfl (Nat.le_of_ble_eq_true rfl) dX4_doAct_136 (fun H locs hI hS => ?_)
    refine lv_goto (tgt := 145) hx hb dX4_doAct_139 (by decide) ?_
    cases h
    exact w_aret C hI hS dX4_doAct_145
  replace h := ite_n hc7 h
  by_cases hc8 : r2 = 8
  · replace h := ite_y hc8 h
    refine lv_tableIn (off := 142) (tgt := 146) hx hb dX4_doAct_4 (by rw [hc8]; decide) (by rw [hc8]; decide) (by rw [hc8]; decide +kernel) (by decide) ?_
    refine lv_aload_n hx hb dX4_doAct_146 rfl (lv_at hl 0 rfl) ?_
    refine lv_aload_n hx hb dX4_doAct_147 rfl (lv_at hl 1 rfl) ?_
    refine lv_aload_n hx hb dX4_doAct_148 rfl (lv_at hl 2 rfl) ?_
    obtain ⟨r30, x29, hq31, h⟩ := bnd_some h
    refine w_callV (fr := 3) (lo := 68) C G hI hS 1 0 (hI.at1 rfl) (fcE_1 g _ _) rfl mv_X4_newRow km_X4_229 [.ref (ga g 12 i1), .ref (ga g 18 i2)] (k_X4_newRow l g i1 i2 x1 _ _ h_i1 h_i2 hq31) rfl (by first | exact ⟨by decide, by decide⟩ | exact ⟨by show _ ≤ _ + _; omega, by show _ ≤ _ + _; omega⟩) ⟨Nat.zero_le _, Nat.zero_le _⟩ hl.1 rfl (Nat.le_of_ble_eq_true rfl) dX4_doAct_149 (fun H locs hI hS => ?_)
    cases h
    exact w_aret C hI hS dX4_doAct_152
  replace h := ite_n hc8 h
  by_cases hc9 : r2 = 9
  · replace h := ite_y hc9 h
    refine lv_tableIn (off := 149) (tgt := 153) hx hb dX4_doAct_4 (by rw [hc9]; decide) (by rw [hc9]; decide) (by rw [hc9]; decide +kernel) (by decide) ?_
    refine lv_aload_n hx hb dX4_doAct_153 rfl (lv_at hl 0 rfl) ?_
    refine lv_aload_n hx hb dX4_doAct_154 rfl (lv_at hl 1 rfl) ?_
    refine lv_aload_n hx hb dX4_doAct_155 rfl (lv_at hl 2 rfl) ?_
    obtain ⟨r33, x32, hq34, h⟩ := bnd_some h
    refine w_callV (fr := 3) (lo := 65) C G hI hS 1 0 (hI.at1 rfl) (fcE_1 g _ _) rfl mv_X4_putPlace km_X4_232 [.ref (ga g 12 i1), .ref (ga g 18 i2)] (k_X4_putPlace l g i1 i2 x1 _ _ h_i1 h_i2 hq34) rfl (by first | exact ⟨by decide, by decide⟩ | exact ⟨by show _ ≤ _ + _; omega, by show _ ≤ _ + _; omega⟩) ⟨Nat.zero_le _, Nat.zero_le _⟩ hl.1 rfl (Nat.le_of_ble_eq_true rfl) dX4_doAct_156 (fun H locs hI hS => ?_)
    cases h
    exact w_aret C hI hS dX4_doAct_159
  replace h := ite_n hc9 h
  by_cases hc10 : r2 = 10
  · replace h := ite_y hc10 h
    refine lv_tableIn (off := 156) (tgt := 160) hx hb dX4_doAct_4 (by rw [hc10]; decide) (by rw [hc10]; decide) (by rw [hc10]; decide +kernel) (by decide) ?_
    refine lv_aload_n hx hb dX4_doAct_160 rfl (lv_at hl 0 rfl) ?_
    refine lv_aload_n hx hb dX4_doAct_161 rfl (lv_at hl 1 rfl) ?_
    refine lv_aload_n hx hb dX4_doAct_162 rfl (lv_at hl 2 rfl) ?_
    obtain ⟨r36, x35, hq37, h⟩ := bnd_some h
    refine w_callV (fr := 3) (lo := 65) C G hI hS 1 0 (hI.at1 rfl) (fcE_1 g _ _) rfl mv_X4_getPlace km_X4_235 [.ref (ga g 12 i1), .ref (ga g 18 i2)] (k_X4_getPlace l g i1 i2 x1 _ _ h_i1 h_i2 hq37) rfl (by first | exact ⟨by decide, by decide⟩ | exact ⟨by show _ ≤ _ + _; omega, by show _ ≤ _ + _; omega⟩) ⟨Nat.zero_le _, Nat.zero_le _⟩ hl.1 rfl (Nat.le_of_ble_eq_true rfl) dX4_doAct_163 (fun H locs hI hS => ?_)
    cases h
    exact w_aret C hI hS dX4_doAct_166
  replace h := ite_n hc10 h
  by_cases hc11 : r2 = 11
  · replace h := ite_y hc11 h
    refine lv_tableIn (off := 163) (tgt := 167) hx hb dX4_doAct_4 (by rw [hc11]; decide) (by rw [hc11]; decide) (by rw [hc11]; decide +kernel) (by decide) ?_
    refine lv_aload_n hx hb dX4_doAct_167 rfl (lv_at hl 0 rfl) ?_
    refine lv_aload_n hx hb dX4_doAct_168 rfl (lv_at hl 1 rfl) ?_
    refine lv_aload_n hx hb dX4_doAct_169 rfl (lv_at hl 2 rfl) ?_
    obtain ⟨r39, x38, hq40, h⟩ := bnd_some h
    refine w_callV (fr := 3) (lo := 63) C G hI hS 1 0 (hI.at1 rfl) (fcE_1 g _ _) rfl mv_X4_tellSize km_X4_238 [.ref (ga g 12 i1), .ref (ga g 18 i2)] (k_X4_tellSize l g i1 i2 x1 _ _ h_i1 h_i2 hq40) rfl (by first | exact ⟨by decide, by decide⟩ | exact ⟨by show _ ≤ _ + _; omega, by show _ ≤ _ + _; omega⟩) ⟨Nat.zero_le _, Nat.zero_le _⟩ hl.1 rfl (Nat.le_of_ble_eq_true rfl) dX4_doAct_170 (fun H locs hI hS => ?_)
    cases h
    exact w_aret C hI hS dX4_doAct_173
  replace h := ite_n hc11 h
  by_cases hc12 : r2 = 12
  · replace h := ite_y hc12 h
    refine lv_tableIn (off := 170) (tgt := 174) hx hb dX4_doAct_4 (by rw [hc12]; decide) (by rw [hc12]; decide) (by rw [hc12]; decide +kernel) (by decide) ?_
    refine lv_aload_n hx hb dX4_doAct_174 rfl (lv_at hl 0 rfl) ?_
    refine lv_aload_n hx hb dX4_doAct_175 rfl (lv_at hl 1 rfl) ?_
    refine lv_aload_n hx hb dX4_doAct_176 rfl (lv_at hl 2 rfl) ?_
    obtain ⟨r42, x41, hq43, h⟩ := bnd_some h
    refine w_callV (fr := 3) (lo := 123) C G hI hS 1 0 (hI.at1 rfl) (fcE_1 g _ _) rfl mv_X4_copyPlaces km_X4_241 [.ref (ga g 12 i1), .ref (ga g 18 i2)] (k_X4_copyPlaces l g i1 i2 x1 _ _ h_i1 h_i2 hq43) rfl (by first | exact ⟨by decide, by decide⟩ | exact ⟨by show _ ≤ _ + _; omega, by show _ ≤ _ + _; omega⟩) ⟨Nat.zero_le _, Nat.zero_le _⟩ hl.1 rfl (Nat.le_of_ble_eq_true rfl) dX4_doAct_177 (fun H locs hI hS => ?_)
    cases h
    exact w_aret C hI hS dX4_doAct_180
  replace h := ite_n hc12 h
  by_cases hc13 : r2 = 13
  · replace h := ite_y hc13 h
    refine lv_tableIn (off := 177) (tgt := 181) hx hb dX4_doAct_4 (by rw [hc13]; decide) (by rw [hc13]; decide) (by rw [hc13]; decide +kernel) (by decide) ?_
    refine lv_aload_n hx hb dX4_doAct_181 rfl (lv_at hl 0 rfl) ?_
    refine lv_aload_n hx hb dX4_doAct_182 rfl (lv_at hl 1 rfl) ?_
    refine lv_aload_n hx hb dX4_doAct_183 rfl (lv_at hl 2 rfl) ?_
    refine lv_iload_n hx hb dX4_doAct_184 rfl (lv_at hl 3 rfl) ?_
    obtain ⟨r45, x44, hq46, h⟩ := bnd_some h
    refine w_callV (fr := frp + 5) (lo := lop + 112) C G hI hS 1 0 (hI.at1 rfl) (fcE_1 g _ _) rfl mv_X4_callMethod km_X4_244 [.ref (ga g 12 i1), .ref (ga g 18 i2), .int a3] (k_X4_callMethod l g pf hpf i1 i2 a3 x1 _ _ h_i1 h_i2 hq46) rfl (by first | exact ⟨by decide, by decide⟩ | exact ⟨by show _ ≤ _ + _; omega, by show _ ≤ _ + _; omega⟩) ⟨Nat.zero_le _, Nat.zero_le _⟩ hl.1 rfl (Nat.le_of_ble_eq_true rfl) dX4_doAct_185 (fun H locs hI hS => ?_)
    cases h
    exact w_aret C hI hS dX4_doAct_188
  replace h := ite_n hc13 h
  by_cases hc14 : r2 = 14
  · replace h := ite_y hc14 h
    refine lv_tableIn (off := 185) (tgt := 189) hx hb dX4_doAct_4 (by rw [hc14]; decide) (by rw [hc14]; decide) (by rw [hc14]; decide +kernel) (by decide) ?_
    refine lv_aload_n hx hb dX4_doAct_189 rfl (lv_at hl 0 rfl) ?_
    refine lv_aload_n hx hb dX4_doAct_190 rfl (lv_at hl 1 rfl) ?_
    refine w_get C G hI 12 i1 (hI.at12 rfl h_i1) (fcE_12 g _ _) rfl in_X2 0 (by decide) kf_X4_176 (fun _ h => h) (v := .ref (ga g 13 i1)) rfl dX4_doAct_191 ?_
    refine lv_aload_n hx hb dX4_doAct_194 rfl (lv_at hl 2 rfl) ?_
    obtain ⟨r48, x47, hq49, h⟩ := bnd_some h
    refine w_callV (fr := 0) (lo := 0) C G hI hS 18 i2 h_i2 (fcE_18 g _ _) rfl mv_X0_a km_X4_210 [] (k_X0_a l g i2 x1 _ _ h_i2 hq49) rfl (by first | exact ⟨by decide, by decide⟩ | exact ⟨by show _ ≤ _ + _; omega, by show _ ≤ _ + _; omega⟩) ⟨Nat.zero_le _, Nat.zero_le _⟩ hl.1 rfl (Nat.le_of_ble_eq_true rfl) dX4_doAct_195 (fun H locs hI hS => ?_)
    obtain ⟨hn50, h⟩ := need_t h
    refine w_iald C G hI 13 i1 (hI.at12 rfl h_i1) (fcA_13 g _ _) (inb_in hn50) dX4_doAct_198 ?_
    refine w_put C G hI hS 1 0 (hI.at1 rfl) rfl (fcE_1 g _ _) rfl in_X4 tyX4 tyX4_ok nmX4 5 (by decide) kf_X4_65 (fun _ h => h) rfl (ty := .int) (y := (x47 13 i1 r48.toNatClampNeg)) (by decide +kernel) rfl rfl (Nat.le_of_ble_eq_true rfl) rfl dX4_doAct_199 (fun H locs hI hS => ?_)
    obtain ⟨x51, e_x51, h⟩ := lets_some h
    rw [← e_x51] at hI
    refine w_out C G hS 1 (by decide) rfl kf_X4_59 dX4_doAct_202 ?_
    cases h
    exact w_aret C hI hS dX4_doAct_205
  replace h := ite_n hc14 h
  refine lv_tableOut (tgt := 206) hx hb dX4_doAct_4 (sw_out 15 (by intro k hk; match k, hk with | 0, _ => exact hc0 | 1, _ => exact hc1 | 2, _ => exact hc2 | 3, _ => exact hc3 | 4, _ => exact hc4 | 5, _ => exact hc5 | 6, _ => exact hc6 | 7, _ => exact hc7 | 8, _ => exact hc8 | 9, _ => exact hc9 | 10, _ => exact hc10 | 11, _ => exact hc11 | 12, _ => exact hc12 | 13, _ => exact hc13 | 14, _ => exact hc14 | k + 15, hk => exact absurd hk (by omega)) (by decide)) (by decide) ?_
  refine lv_aload_n hx hb dX4_doAct_206 rfl (lv_at hl 0 rfl) ?_
  refine lv_aload_n hx hb dX4_doAct_207 rfl (lv_at hl 2 rfl) ?_
  obtain ⟨r53, x52, hq54, h⟩ := bnd_some h
  refine w_callV (fr := 0) (lo := 0) C G hI hS 18 i2 h_i2 (fcE_18 g _ _) rfl mv_X0_b km_X4_213 [] (k_X0_b l g i2 x1 _ _ h_i2 hq54) rfl (by first | exact ⟨by decide, by decide⟩ | exact ⟨by show _ ≤ _ + _; omega, by show _ ≤ _ + _; omega⟩) ⟨Nat.zero_le _, Nat.zero_le _⟩ hl.1 rfl (Nat.le_of_ble_eq_true rfl) dX4_doAct_208 (fun H locs hI hS => ?_)
  obtain ⟨r56, x55, hq57, h⟩ := bnd_some h
  refine w_callV (fr := 2) (lo := 40) C G hI hS 1 0 (hI.at1 rfl) (fcE_1 g _ _) rfl mv_X4_raise km_X4_94 [.int r53] (k_X4_raise l g r53 x52 _ _  hq57) rfl (by first | exact ⟨by decide, by decide⟩ | exact ⟨by show _ ≤ _ + _; omega, by show _ ≤ _ + _; omega⟩) ⟨Nat.zero_le _, Nat.zero_le _⟩ hl.1 rfl (Nat.le_of_ble_eq_true rfl) dX4_doAct_211 (fun H locs hI hS => ?_)
  cases h
  exact w_aret C hI hS dX4_doAct_214
theorem k_X4_doAct (l : Launch) (g : gT) {frp lop : Nat} (pf : Int32 → st → Option (Nat × st)) (hpf : ∀ (dep : Int32) (x : st) (o : Nat) (x' : st), pf dep x = some (o, x') → Kt l yX4_performFrame cX4_performFrame 6 (some (.object "StepBudgets$Outcome")) frp lop g [.ref (ga g 1 0), .int dep] x (some (.ref (ge g o))) x') (i1 : Nat) (i2 : Nat) (a3 : Int32) (x : st) (r : Nat) (x' : st) (h_i1 : i1 < 12) (h_i2 : gd g 18 i2) (h : f_X4_doAct pf i1 i2 a3 x = some (r, x')) : Kt l yX4_doAct cX4_doAct 4 (some (.object "StepBudgets$Outcome")) (frp + 6) (lop + 149) g [.ref (ga g 1 0), .ref (ga g 12 i1), .ref (ga g 18 i2), .int a3] x (some (.ref (ge g r))) x' := by
  refine Kt.of (by decide) (fun p e s m below meth c C G hI => ?_)
  have hl := lv_entry ([.ref (ga g 1 0), .ref (ga g 12 i1), .ref (ga g 18 i2), .int a3]) (n := 4) (Nat.le_of_ble_eq_true rfl)
  rw [lg_entry_eq]
  generalize (lg_sl ([.ref (ga g 1 0), .ref (ga g 12 i1), .ref (ga g 18 i2), .int a3]) ++ List.replicate (4 - (lg_sl ([.ref (ga g 1 0), .ref (ga g 12 i1), .ref (ga g 18 i2), .int a3])).length) Slot.unset).toArray = ls at hl ⊢
  have hl : lv_has ls 4 [(0, .ref (ga g 1 0)), (1, .ref (ga g 12 i1)), (2, .ref (ga g 18 i2)), (3, .int a3)] := hl
  exact w_X4_doAct C G hpf i1 i2 a3 x _ _ ls h_i1 h_i2 h hI va_S.rf hl
theorem mv_X4_doAct : mtV yX4_doAct RX4 cX4_doAct 4 (some (.object "StepBudgets$Outcome")) 3 := ⟨ki_X4_doAct, kl_X4_doAct, kI_X4, kc_X4_doAct, by decide +kernel⟩

/-! X4_performAct -/
def f_X4_performAct (pf : Int32 → st → Option (Nat × st)) (i1 : Nat) (a2 : Int32) (x : st) : Option (Nat × st) := lets (sx x 12 i1 4 ((x 12 i1 3) + 1)) fun x1 => lets (sx x1 12 i1 5 0) fun x2 => if inb (x2 12 i1 2) 8 = true then if inb (x2 12 i1 3) (x2 24 ((x2 12 i1 2).toNatClampNeg) 0).toNatClampNeg = true then bnd (f_X4_doAct pf i1 (48 * ((x2 12 i1 2).toNatClampNeg) + (x2 12 i1 3).toNatClampNeg) a2 x2) fun r7 x6 => if r7 < 5 then if r7 = 0 then (bnd (f_X4_goOn pf i1 (x6 12 i1 4) a2 x6) fun r19 x18 => some (r19, x18)) else (if r7 < 5 then if r7 = 1 then (bnd (f_X4_giveOut pf i1 (x6 1 0 5) a2 x6) fun r16 x15 => some (r16, x15)) else (if r7 < 5 then if r7 = 2 then (bnd (f_X4_answerThrow pf i1 (x6 1 0 6) a2 x6) fun r13 x12 => some (r13, x12)) else (some (r7, x6)) else none) else none) else none else none else none
set_option maxHeartbeats 4000000 in
set_option maxRecDepth 100000 in
theorem w_X4_performAct {p : Program} {l : Launch} {e : Env} {s : State} {m : MethodId} {args : Array Value} {below : List Frame} {meth : Method} {c : Code} {g : gT} {frp lop : Nat} {r : Nat} {x' : st} (C : cxt p s m meth c args cX4_performAct 4 RX4 (some (.object "StepBudgets$Outcome"))) (G : gst g s) {pf : Int32 → st → Option (Nat × st)} (hpf : ∀ (dep : Int32) (x : st) (o : Nat) (x' : st), pf dep x = some (o, x') → Kt l yX4_performFrame cX4_performFrame 6 (some (.object "StepBudgets$Outcome")) frp lop g [.ref (ga g 1 0), .int dep] x (some (.ref (ge g o))) x') (i1 : Nat) (a2 : Int32) (x : st) (H : Heap) (locs : List Loc) (ls : Array Slot) (h_i1 : i1 < 12) (h : f_X4_performAct pf i1 a2 x = some (r, x')) (hI : wst g x H) (hS : va_S (zA (gz g)) s.heap H locs) (hl : lv_has ls 4 [(0, .ref (ga g 1 0)), (1, .ref (ga g 12 i1)), (2, .int a2)]) : W p l e (rmC (frp + 8) (lop + 191)) s m args below meth c H locs 0 0 (MQ below (Qx g (some (.ref (ge g r))) x') args s 0 0 (zA (gz g))) (F0 m 0 ls []) := by
  obtain ⟨hx, hb, hml, hown, hts, hlk, hrt⟩ := id C
  unfold f_X4_performAct at h
  refine lv_aload_n hx hb dX4_performAct_0 rfl (lv_at hl 1 rfl) ?_
  refine lv_aload_n hx hb dX4_performAct_1 rfl (lv_at hl 1 rfl) ?_
  refine w_get C G hI 12 i1 (hI.at12 rfl h_i1) (fcE_12 g _ _) rfl in_X2 3 (by decide) kf_X4_118 (fun _ h => h) (v := .int (x 12 i1 3)) rfl dX4_performAct_2 ?_
  refine lv_iconst (v := 1) hx hb dX4_performAct_5 (by decide) ?_
  refine lv_iadd hx hb dX4_performAct_6 ?_
  refine w_put C G hI hS 12 i1 (hI.at12 rfl h_i1) rfl (fcE_12 g _ _) rfl in_X2 tyX2 tyX2_ok nmX2 4 (by decide) kf_X4_131 (fun _ h => h) rfl (ty := .int) (y := ((x 12 i1 3) + 1)) (by decide +kernel) rfl rfl (Nat.le_of_ble_eq_true rfl) rfl dX4_performAct_7 (fun H locs hI hS => ?_)
  obtain ⟨x1, e_x1, h⟩ := lets_some h
  rw [← e_x1] at hI
  refine lv_aload_n hx hb dX4_performAct_10 rfl (lv_at hl 1 rfl) ?_
  refine lv_iconst (v := 0) hx hb dX4_performAct_11 (by decide) ?_
  refine w_put C G hI hS 12 i1 (hI.at12 rfl h_i1) rfl (fcE_12 g _ _) rfl in_X2 tyX2 tyX2_ok nmX2 5 (by decide) kf_X4_134 (fun _ h => h) rfl (ty := .int) (y := 0) (by decide +kernel) rfl rfl (Nat.le_of_ble_eq_true rfl) rfl dX4_performAct_12 (fun H locs hI hS => ?_)
  obtain ⟨x2, e_x2, h⟩ := lets_some h
  rw [← e_x2] at hI
  refine lv_aload_n hx hb dX4_performAct_15 rfl (lv_at hl 0 rfl) ?_
  refine lv_aload_n hx hb dX4_performAct_16 rfl (lv_at hl 1 rfl) ?_
  refine lv_aload_n hx hb dX4_performAct_17 rfl (lv_at hl 0 rfl) ?_
  refine w_get C G hI 1 0 (hI.at1 rfl) (fcE_1 g _ _) rfl in_X4 2 (by decide) kf_X4_27 (fun _ h => h) (v := .ref (ga g 10 0)) rfl dX4_performAct_18 ?_
  refine lv_aload_n hx hb dX4_performAct_21 rfl (lv_at hl 1 rfl) ?_
  refine w_get C G hI 12 i1 (hI.at12 rfl h_i1) (fcE_12 g _ _) rfl in_X2 2 (by decide) kf_X4_104 (fun _ h => h) (v := .int (x2 12 i1 2)) rfl dX4_performAct_22 ?_
  obtain ⟨hn3, h⟩ := need_t h
  refine w_aald C G hI 10 0 (hI.at1 rfl) 4 (fcA_10 g _ _) rfl (inb_in hn3) rfl dX4_performAct_25 ?_
  refine w_get C G hI 15 ((x2 12 i1 2).toNatClampNeg) (hI.at8 rfl (inb_lt hn3)) (fcE_15 g _ _) rfl in_X6 0 (by decide) kf_X4_107 (fun _ h => h) (v := .ref (ga g 21 ((x2 12 i1 2).toNatClampNeg))) rfl dX4_performAct_26 ?_
  refine lv_aload_n hx hb dX4_performAct_29 rfl (lv_at hl 1 rfl) ?_
  refine w_get C G hI 12 i1 (hI.at12 rfl h_i1) (fcE_12 g _ _) rfl in_X2 3 (by decide) kf_X4_118 (fun _ h => h) (v := .int (x2 12 i1 3)) rfl dX4_performAct_30 ?_
  obtain ⟨hn4, h⟩ := need_t h
  refine w_callV (fr := 2) (lo := 43) C G hI hS 21 ((x2 12 i1 2).toNatClampNeg) (hI.at8 rfl (inb_lt hn3)) (fcE_21 g _ _) rfl mv_Jx4a65c_get_915e3 km_X4_137 [.int (x2 12 i1 3)] (k_get_21 l g ((x2 12 i1 2).toNatClampNeg) (inb_lt hn3) hI.2 _ hn4) rfl (by first | exact ⟨by decide, by decide⟩ | exact ⟨by show _ ≤ _ + _; omega, by show _ ≤ _ + _; omega⟩) ⟨Nat.zero_le _, Nat.zero_le _⟩ hl.1 rfl (Nat.le_of_ble_eq_true rfl) dX4_performAct_33 (fun H locs hI hS => ?_)
  have hg5 := (hI.2.2.2.1 ((x2 12 i1 2).toNatClampNeg) (x2 12 i1 3).toNatClampNeg (inb_lt hn3) (inb_lt hn4)).2.1
  refine w_cast C G hI 18 (48 * ((x2 12 i1 2).toNatClampNeg) + (x2 12 i1 3).toNatClampNeg) hg5 (fcE_18 g _ _) rfl kC_X4_141 dX4_performAct_36 ?_
  refine lv_iload_n hx hb dX4_performAct_39 rfl (lv_at hl 2 rfl) ?_
  obtain ⟨r7, x6, hq8, h⟩ := bnd_some h
  refine w_callV (fr := frp + 6) (lo := lop + 149) C G hI hS 1 0 (hI.at1 rfl) (fcE_1 g _ _) rfl mv_X4_doAct km_X4_143 [.ref (ga g 12 i1), .ref (ga g 18 (48 * ((x2 12 i1 2).toNatClampNeg) + (x2 12 i1 3).toNatClampNeg)), .int a2] (k_X4_doAct l g pf hpf i1 (48 * ((x2 12 i1 2).toNatClampNeg) + (x2 12 i1 3).toNatClampNeg) a2 x2 _ _ h_i1 hg5 hq8) rfl (by first | exact ⟨by decide, by decide⟩ | exact ⟨by show _ ≤ _ + _; omega, by show _ ≤ _ + _; omega⟩) ⟨Nat.zero_le _, Nat.zero_le _⟩ hl.1 rfl (Nat.le_of_ble_eq_true rfl) dX4_performAct_40 (fun H locs hI hS => ?_)
  refine lv_astore_n (lv' := [(3, .ref (ge g r7)), (0, .ref (ga g 1 0)), (1, .ref (ga g 12 i1)), (2, .int a2)]) hx hb dX4_performAct_43 rfl hl (by decide) rfl (fun ls hl => ?_)
  refine lv_aload_n hx hb dX4_performAct_44 rfl (lv_at hl 0 rfl) ?_
  refine w_out C G hS 0 (by decide) rfl kf_X4_84 dX4_performAct_45 ?_
  obtain ⟨hn9, h⟩ := need_p h
  refine w_acmp_ne (tgt := 62) C G (a := r7) (b := 0) hn9 (by decide) dX4_performAct_48 (by decide) (fun hc => ?_) (fun hc => ?_)
  · replace h := ite_n hc h
    refine lv_aload_n hx hb dX4_performAct_62 rfl (lv_at hl 0 rfl) ?_
    refine w_out C G hS 1 (by decide) rfl kf_X4_59 dX4_performAct_63 ?_
    obtain ⟨hn10, h⟩ := need_p h
    refine w_acmp_ne (tgt := 80) C G (a := r7) (b := 1) hn10 (by decide) dX4_performAct_66 (by decide) (fun hc => ?_) (fun hc => ?_)
    · replace h := ite_n hc h
      refine lv_aload_n hx hb dX4_performAct_80 rfl (lv_at hl 0 rfl) ?_
      refine w_out C G hS 2 (by decide) rfl kf_X4_72 dX4_performAct_81 ?_
      obtain ⟨hn11, h⟩ := need_p h
      refine w_acmp_ne (tgt := 100) C G (a := r7) (b := 2) hn11 (by decide) dX4_performAct_84 (by decide) (fun hc => ?_) (fun hc => ?_)
      · replace h := ite_n hc h
        refine lv_aload_n hx hb dX4_performAct_100 rfl (lv_at hl 0 rfl) ?_
        cases h
        exact w_aret C hI hS dX4_performAct_101
      replace h := ite_y hc h
      refine lv_aload_n hx hb dX4_performAct_87 rfl (lv_at hl 1 rfl) ?_
      refine lv_aload_n hx hb dX4_performAct_88 rfl (lv_at hl 2 rfl) ?_
      refine lv_aload_n hx hb dX4_performAct_89 rfl (lv_at hl 1 rfl) ?_
      refine w_get C G hI 1 0 (hI.at1 rfl) (fcE_1 g _ _) rfl in_X4 6 (by decide) kf_X4_75 (fun _ h => h) (v := .int (x6 1 0 6)) rfl dX4_performAct_90 ?_
      refine lv_iload_n hx hb dX4_performAct_93 rfl (lv_at hl 3 rfl) ?_
      obtain ⟨r13, x12, hq14, h⟩ := bnd_some h
      refine w_callV (fr := frp + 7) (lo := lop + 164) C G hI hS 1 0 (hI.at1 rfl) (fcE_1 g _ _) rfl mv_X4_answerThrow km_X4_154 [.ref (ga g 12 i1), .int (x6 1 0 6), .int a2] (k_X4_answerThrow l g pf hpf i1 (x6 1 0 6) a2 x6 _ _ h_i1 hq14) rfl (by first | exact ⟨by decide, by decide⟩ | exact ⟨by show _ ≤ _ + _; omega, by show _ ≤ _ + _; omega⟩) ⟨Nat.zero_le _, Nat.zero_le _⟩ hl.1 rfl (Nat.le_of_ble_eq_true rfl) dX4_performAct_94 (fun H locs hI hS => ?_)
      refine lv_goto (tgt := 101) hx hb dX4_performAct_97 (by decide) ?_
      cases h
      exact w_aret C hI hS dX4_performAct_101
    replace h := ite_y hc h
    refine lv_aload_n hx hb dX4_performAct_69 rfl (lv_at hl 1 rfl) ?_
    refine lv_aload_n hx hb dX4_performAct_70 rfl (lv_at hl 2 rfl) ?_
    refine lv_aload_n hx hb dX4_performAct_71 rfl (lv_at hl 1 rfl) ?_
    refine w_get C G hI 1 0 (hI.at1 rfl) (fcE_1 g _ _) rfl in_X4 5 (by decide) kf_X4_65 (fun _ h => h) (v := .int (x6 1 0 5)) rfl dX4_performAct_72 ?_
    refine lv_iload_n hx hb dX4_performAct_75 rfl (lv_at hl 3 rfl) ?_
    obtain ⟨r16, x15, hq17, h⟩ := bnd_some h
    refine w_callV (fr := frp + 6) (lo := lop + 139) C G hI hS 1 0 (hI.at1 rfl) (fcE_1 g _ _) rfl mv_X4_giveOut km_X4_151 [.ref (ga g 12 i1), .int (x6 1 0 5), .int a2] (k_X4_giveOut l g pf hpf i1 (x6 1 0 5) a2 x6 _ _ h_i1 hq17) rfl (by first | exact ⟨by decide, by decide⟩ | exact ⟨by show _ ≤ _ + _; omega, by show _ ≤ _ + _; omega⟩) ⟨Nat.zero_le _, Nat.zero_le _⟩ hl.1 rfl (Nat.le_of_ble_eq_true rfl) dX4_performAct_76 (fun H locs hI hS => ?_)
    cases h
    exact w_aret C hI hS dX4_performAct_79
  replace h := ite_y hc h
  refine lv_aload_n hx hb dX4_performAct_51 rfl (lv_at hl 1 rfl) ?_
  refine lv_aload_n hx hb dX4_performAct_52 rfl (lv_at hl 2 rfl) ?_
  refine lv_aload_n hx hb dX4_performAct_53 rfl (lv_at hl 2 rfl) ?_
  refine w_get C G hI 12 i1 (hI.at12 rfl h_i1) (fcE_12 g _ _) rfl in_X2 4 (by decide) kf_X4_131 (fun _ h => h) (v := .int (x6 12 i1 4)) rfl dX4_performAct_54 ?_
  refine lv_iload_n hx hb dX4_performAct_57 rfl (lv_at hl 3 rfl) ?_
  obtain ⟨r19, x18, hq20, h⟩ := bnd_some h
  refine w_callV (fr := frp + 6) (lo := lop + 139) C G hI hS 1 0 (hI.at1 rfl) (fcE_1 g _ _) rfl mv_X4_goOn km_X4_147 [.ref (ga g 12 i1), .int (x6 12 i1 4), .int a2] (k_X4_goOn l g pf hpf i1 (x6 12 i1 4) a2 x6 _ _ h_i1 hq20) rfl (by first | exact ⟨by decide, by decide⟩ | exact ⟨by show _ ≤ _ + _; omega, by show _ ≤ _ + _; omega⟩) ⟨Nat.zero_le _, Nat.zero_le _⟩ hl.1 rfl (Nat.le_of_ble_eq_true rfl) dX4_performAct_58 (fun H locs hI hS => ?_)
  cases h
  exact w_aret C hI hS dX4_performAct_61
theorem k_X4_performAct (l : Launch) (g : gT) {frp lop : Nat} (pf : Int32 → st → Option (Nat × st)) (hpf : ∀ (dep : Int32) (x : st) (o : Nat) (x' : st), pf dep x = some (o, x') → Kt l yX4_performFrame cX4_performFrame 6 (some (.object "StepBudgets$Outcome")) frp lop g [.ref (ga g 1 0), .int dep] x (some (.ref (ge g o))) x') (i1 : Nat) (a2 : Int32) (x : st) (r : Nat) (x' : st) (h_i1 : i1 < 12) (h : f_X4_performAct pf i1 a2 x = some (r, x')) : Kt l yX4_performAct cX4_performAct 4 (some (.object "StepBudgets$Outcome")) (frp + 8) (lop + 191) g [.ref (ga g 1 0), .ref (ga g 12 i1), .int a2] x (some (.ref (ge g r))) x' := by
  refine Kt.of (by decide) (fun p e s m below meth c C G hI => ?_)
  have hl := lv_entry ([.ref (ga g 1 0), .ref (ga g 12 i1), .int a2]) (n := 4) (Nat.le_of_ble_eq_true rfl)
  rw [lg_entry_eq]
  generalize (lg_sl ([.ref (ga g 1 0), .ref (ga g 12 i1), .int a2]) ++ List.replicate (4 - (lg_sl ([.ref (ga g 1 0), .ref (ga g 12 i1), .int a2])).length) Slot.unset).toArray = ls at hl ⊢
  have hl : lv_has ls 4 [(0, .ref (ga g 1 0)), (1, .ref (ga g 12 i1)), (2, .int a2)] := hl
  exact w_X4_performAct C G hpf i1 a2 x _ _ ls h_i1 h hI va_S.rf hl
theorem mv_X4_performAct : mtV yX4_performAct RX4 cX4_performAct 4 (some (.object "StepBudgets$Outcome")) 2 := ⟨ki_X4_performAct, kl_X4_performAct, kI_X4, kc_X4_performAct, by decide +kernel⟩

/-! X4_cleanStopped -/
def f_X4_cleanStopped_b92 (pf : Int32 → st → Option (Nat × st)) (lp : Nat → Int32 → Nat → Int32 → Int32 → st → Option (Nat × st)) (v1 : Nat) (v2 : Int32) (v3 : Nat) (v4 : Int32) (v5 : Int32) (x : st) : Option (Nat × st) := lp v1 v2 v3 v4 (v5 + (-1)) x
set_option maxHeartbeats 4000000 in
set_option maxRecDepth 100000 in
theorem w_X4_cleanStopped_b92 {p : Program} {l : Launch} {e : Env} {s : State} {m : MethodId} {args : Array Value} {below : List Frame} {meth : Method} {c : Code} {g : gT} {frp lop : Nat} {r : Nat} {x' : st} (C : cxt p s m meth c args cX4_cleanStopped 7 RX4 (some (.object "StepBudgets$Outcome"))) (G : gst g s) {pf : Int32 → st → Option (Nat × st)} (hpf : ∀ (dep : Int32) (x : st) (o : Nat) (x' : st), pf dep x = some (o, x') → Kt l yX4_performFrame cX4_performFrame 6 (some (.object "StepBudgets$Outcome")) frp lop g [.ref (ga g 1 0), .int dep] x (some (.ref (ge g o))) x') (lp : Nat → Int32 → Nat → Int32 → Int32 → st → Option (Nat × st)) (hlp : ∀ (v1 : Nat) (v2 : Int32) (v3 : Nat) (v4 : Int32) (v5 : Int32) (x : st) (H : Heap) (locs : List Loc) (ls : Array Slot), v1 < 12 → v3 < 8 → lp v1 v2 v3 v4 v5 x = some (r, x') → wst g x H → va_S (zA (gz g)) s.heap H locs → lv_has ls 7 [(0, .ref (ga g 1 0)), (1, .ref (ga g 12 v1)), (2, .int v2), (3, .ref (ga g 23 v3)), (4, .int v4), (5, .int v5)] → W p l e (rmC (frp + 5) (lop + 112)) s m args below meth c H locs 0 0 (MQ below (Qx g (some (.ref (ge g r))) x') args s 0 0 (zA (gz g))) (F0 m 27 ls [])) (v1 : Nat) (v2 : Int32) (v3 : Nat) (v4 : Int32) (v5 : Int32) (x : st) (H : Heap) (locs : List Loc) (ls : Array Slot) (h_v1 : v1 < 12) (h_v3 : v3 < 8) (h : f_X4_cleanStopped_b92 pf lp v1 v2 v3 v4 v5 x = some (r, x')) (hI : wst g x H) (hS : va_S (zA (gz g)) s.heap H locs) (hl : lv_has ls 7 [(0, .ref (ga g 1 0)), (1, .ref (ga g 12 v1)), (2, .int v2), (3, .ref (ga g 23 v3)), (4, .int v4), (5, .int v5)]) : W p l e (rmC (frp + 5) (lop + 112)) s m args below meth c H locs 0 0 (MQ below (Qx g (some (.ref (ge g r))) x') args s 0 0 (zA (gz g))) (F0 m 92 ls []) := by
  obtain ⟨hx, hb, hml, hown, hts, hlk, hrt⟩ := id C
  unfold f_X4_cleanStopped_b92 at h
  refine lv_iinc (v := (v5 + (-1))) (lv' := [(5, .int (v5 + (-1))), (0, .ref (ga g 1 0)), (1, .ref (ga g 12 v1)), (2, .int v2), (3, .ref (ga g 23 v3)), (4, .int v4)]) hx hb dX4_cleanStopped_92 hl (k := 5) rfl rfl (by decide) rfl (fun ls hl => ?_)
  refine lv_goto (tgt := 27) hx hb dX4_cleanStopped_95 (by decide) ?_
  exact hlp v1 v2 v3 v4 (v5 + (-1)) x _ _ _ h_v1 h_v3 h hI hS (lv_sub hl [1, 2, 3, 4, 5, 0] rfl)
def f_X4_cleanStopped_b48 (pf : Int32 → st → Option (Nat × st)) (lp : Nat → Int32 → Nat → Int32 → Int32 → st → Option (Nat × st)) (v1 : Nat) (v2 : Int32) (v3 : Nat) (v4 : Int32) (v5 : Int32) (s0 : Int32) (x : st) : Option (Nat × st) := if s0 = 0 then (if inb v5 (x 26 v3 0).toNatClampNeg = true then bnd (f_X1_holds (6 * v3 + v5.toNatClampNeg) (x 12 v1 3) x) fun r5 x4 => if r5 = 0 then (f_X4_cleanStopped_b92 pf lp v1 v2 v3 v4 v5 x4) else (bnd (f_X4_cleanFrame pf v1 v5 v2 x4) fun r8 x7 => if r8 < 5 then if r8 = 4 then (some (4, x7)) else (f_X4_cleanStopped_b92 pf lp v1 v2 v3 v4 v5 x7) else none) else none) else (f_X4_cleanStopped_b92 pf lp v1 v2 v3 v4 v5 x)
set_option maxHeartbeats 4000000 in
set_option maxRecDepth 100000 in
theorem w_X4_cleanStopped_b48 {p : Program} {l : Launch} {e : Env} {s : State} {m : MethodId} {args : Array Value} {below : List Frame} {meth : Method} {c : Code} {g : gT} {frp lop : Nat} {r : Nat} {x' : st} (C : cxt p s m meth c args cX4_cleanStopped 7 RX4 (some (.object "StepBudgets$Outcome"))) (G : gst g s) {pf : Int32 → st → Option (Nat × st)} (hpf : ∀ (dep : Int32) (x : st) (o : Nat) (x' : st), pf dep x = some (o, x') → Kt l yX4_performFrame cX4_performFrame 6 (some (.object "StepBudgets$Outcome")) frp lop g [.ref (ga g 1 0), .int dep] x (some (.ref (ge g o))) x') (lp : Nat → Int32 → Nat → Int32 → Int32 → st → Option (Nat × st)) (hlp : ∀ (v1 : Nat) (v2 : Int32) (v3 : Nat) (v4 : Int32) (v5 : Int32) (x : st) (H : Heap) (locs : List Loc) (ls : Array Slot), v1 < 12 → v3 < 8 → lp v1 v2 v3 v4 v5 x = some (r, x') → wst g x H → va_S (zA (gz g)) s.heap H locs → lv_has ls 7 [(0, .ref (ga g 1 0)), (1, .ref (ga g 12 v1)), (2, .int v2), (3, .ref (ga g 23 v3)), (4, .int v4), (5, .int v5)] → W p l e (rmC (frp + 5) (lop + 112)) s m args below meth c H locs 0 0 (MQ below (Qx g (some (.ref (ge g r))) x') args s 0 0 (zA (gz g))) (F0 m 27 ls [])) (v1 : Nat) (v2 : Int32) (v3 : Nat) (v4 : Int32) (v5 : Int32) (s0 : Int32) (x : st) (H : Heap) (locs : List Loc) (ls : Array Slot) (h_v1 : v1 < 12) (h_v3 : v3 < 8) (h : f_X4_cleanStopped_b48 pf lp v1 v2 v3 v4 v5 s0 x = some (r, x')) (hI : wst g x H) (hS : va_S (zA (gz g)) s.heap H locs) (hl : lv_has ls 7 [(0, .ref (ga g 1 0)), (1, .ref (ga g 12 v1)), (2, .int v2), (3, .ref (ga g 23 v3)), (4, .int v4), (5, .int v5)]) : W p l e (rmC (frp + 5) (lop + 112)) s m args below meth c H locs 0 0 (MQ below (Qx g (some (.ref (ge g r))) x') args s 0 0 (zA (gz g))) (F0 m 48 ls [.int s0]) := by
  obtain ⟨hx, hb, hml, hown, hts, hlk, hrt⟩ := id C
  unfold f_X4_cleanStopped_b48 at h
  refine lv_istore (lv' := [(6, .int s0), (0, .ref (ga g 1 0)), (1, .ref (ga g 12 v1)), (2, .int v2), (3, .ref (ga g 23 v3)), (4, .int v4), (5, .int v5)]) hx hb dX4_cleanStopped_48 hl (by decide) rfl (fun ls hl => ?_)
  refine lv_iload hx hb dX4_cleanStopped_50 (lv_at hl 0 rfl) ?_
  refine lv_if_ne (tgt := 92) hx hb dX4_cleanStopped_52 (by decide) (fun hc => ?_) (fun hc => ?_)
  · replace h := ite_n hc h
    exact w_X4_cleanStopped_b92 C G hpf lp hlp v1 v2 v3 v4 v5 x _ _ _ h_v1 h_v3 h hI hS (lv_sub hl [1, 2, 3, 4, 5, 6] rfl)
  replace h := ite_y hc h
  refine lv_aload_n hx hb dX4_cleanStopped_55 rfl (lv_at hl 4 rfl) ?_
  refine lv_iload hx hb dX4_cleanStopped_56 (lv_at hl 6 rfl) ?_
  obtain ⟨hn2, h⟩ := need_t h
  refine w_callV (fr := 2) (lo := 43) C G hI hS 23 v3 (hI.at8 rfl h_v3) (fcE_23 g _ _) rfl mv_Jx4a65c_get_915e3 km_X4_137 [.int v5] (k_get_23 l g v3 h_v3 hI.2 _ hn2) rfl (by first | exact ⟨by decide, by decide⟩ | exact ⟨by show _ ≤ _ + _; omega, by show _ ≤ _ + _; omega⟩) ⟨Nat.zero_le _, Nat.zero_le _⟩ hl.1 rfl (Nat.le_of_ble_eq_true rfl) dX4_cleanStopped_58 (fun H locs hI hS => ?_)
  have hg3 := (hI.2.2.2.2.2 v3 v5.toNatClampNeg h_v3 (inb_lt hn2)).2.1
  refine w_cast C G hI 20 (6 * v3 + v5.toNatClampNeg) hg3 (fcE_20 g _ _) rfl kC_X4_183 dX4_cleanStopped_61 ?_
  refine lv_aload_n hx hb dX4_cleanStopped_64 rfl (lv_at hl 2 rfl) ?_
  refine w_get C G hI 12 v1 (hI.at12 rfl h_v1) (fcE_12 g _ _) rfl in_X2 3 (by decide) kf_X4_118 (fun _ h => h) (v := .int (x 12 v1 3)) rfl dX4_cleanStopped_65 ?_
  obtain ⟨r5, x4, hq6, h⟩ := bnd_some h
  refine w_callV (fr := 0) (lo := 0) C G hI hS 20 (6 * v3 + v5.toNatClampNeg) hg3 (fcE_20 g _ _) rfl mv_X1_holds km_X4_185 [.int (x 12 v1 3)] (k_X1_holds l g (6 * v3 + v5.toNatClampNeg) (x 12 v1 3) x _ _ hg3 hq6) rfl (by first | exact ⟨by decide, by decide⟩ | exact ⟨by show _ ≤ _ + _; omega, by show _ ≤ _ + _; omega⟩) ⟨Nat.zero_le _, Nat.zero_le _⟩ hl.1 rfl (Nat.le_of_ble_eq_true rfl) dX4_cleanStopped_68 (fun H locs hI hS => ?_)
  refine lv_if_eq (tgt := 92) hx hb dX4_cleanStopped_71 (by decide) (fun hc => ?_) (fun hc => ?_)
  · replace h := ite_y hc h
    exact w_X4_cleanStopped_b92 C G hpf lp hlp v1 v2 v3 v4 v5 x4 _ _ _ h_v1 h_v3 h hI hS (lv_sub hl [1, 2, 3, 4, 5, 6] rfl)
  replace h := ite_n hc h
  refine lv_aload_n hx hb dX4_cleanStopped_74 rfl (lv_at hl 1 rfl) ?_
  refine lv_aload_n hx hb dX4_cleanStopped_75 rfl (lv_at hl 2 rfl) ?_
  refine lv_iload hx hb dX4_cleanStopped_76 (lv_at hl 6 rfl) ?_
  refine lv_iload_n hx hb dX4_cleanStopped_78 rfl (lv_at hl 3 rfl) ?_
  obtain ⟨r8, x7, hq9, h⟩ := bnd_some h
  refine w_callV (fr := frp + 4) (lo := lop + 87) C G hI hS 1 0 (hI.at1 rfl) (fcE_1 g _ _) rfl mv_X4_cleanFrame km_X4_189 [.ref (ga g 12 v1), .int v5, .int v2] (k_X4_cleanFrame l g pf hpf v1 v5 v2 x4 _ _ h_v1 hq9) rfl (by first | exact ⟨by decide, by decide⟩ | exact ⟨by show _ ≤ _ + _; omega, by show _ ≤ _ + _; omega⟩) ⟨Nat.zero_le _, Nat.zero_le _⟩ hl.1 rfl (Nat.le_of_ble_eq_true rfl) dX4_cleanStopped_79 (fun H locs hI hS => ?_)
  refine w_out C G hS 4 (by decide) rfl kf_X4_192 dX4_cleanStopped_82 ?_
  obtain ⟨hn10, h⟩ := need_p h
  refine w_acmp_ne (tgt := 92) C G (a := r8) (b := 4) hn10 (by decide) dX4_cleanStopped_85 (by decide) (fun hc => ?_) (fun hc => ?_)
  · replace h := ite_n hc h
    exact w_X4_cleanStopped_b92 C G hpf lp hlp v1 v2 v3 v4 v5 x7 _ _ _ h_v1 h_v3 h hI hS (lv_sub hl [1, 2, 3, 4, 5, 6] rfl)
  replace h := ite_y hc h
  refine w_out C G hS 4 (by decide) rfl kf_X4_192 dX4_cleanStopped_88 ?_
  cases h
  exact w_aret C hI hS dX4_cleanStopped_91
def f_X4_cleanStopped_b27 (pf : Int32 → st → Option (Nat × st)) : Nat → Nat → Int32 → Nat → Int32 → Int32 → st → Option (Nat × st)
  | 0, _, _, _, _, _, _ => none
  | n + 1, v1, v2, v3, v4, v5, x => if v5 < 0 then (some (3, x)) else (if ((v4 >>> (v5 &&& 31)) &&& 1) = 1 then (f_X4_cleanStopped_b48 pf (f_X4_cleanStopped_b27 pf n) v1 v2 v3 v4 v5 1 x) else (f_X4_cleanStopped_b48 pf (f_X4_cleanStopped_b27 pf n) v1 v2 v3 v4 v5 0 x))
set_option maxHeartbeats 4000000 in
set_option maxRecDepth 100000 in
theorem w_X4_cleanStopped_b27 {p : Program} {l : Launch} {e : Env} {s : State} {m : MethodId} {args : Array Value} {below : List Frame} {meth : Method} {c : Code} {g : gT} {frp lop : Nat} {r : Nat} {x' : st} (C : cxt p s m meth c args cX4_cleanStopped 7 RX4 (some (.object "StepBudgets$Outcome"))) (G : gst g s) {pf : Int32 → st → Option (Nat × st)} (hpf : ∀ (dep : Int32) (x : st) (o : Nat) (x' : st), pf dep x = some (o, x') → Kt l yX4_performFrame cX4_performFrame 6 (some (.object "StepBudgets$Outcome")) frp lop g [.ref (ga g 1 0), .int dep] x (some (.ref (ge g o))) x') : ∀ (n : Nat) (v1 : Nat) (v2 : Int32) (v3 : Nat) (v4 : Int32) (v5 : Int32) (x : st) (H : Heap) (locs : List Loc) (ls : Array Slot), v1 < 12 → v3 < 8 → f_X4_cleanStopped_b27 pf n v1 v2 v3 v4 v5 x = some (r, x') → wst g x H → va_S (zA (gz g)) s.heap H locs → lv_has ls 7 [(0, .ref (ga g 1 0)), (1, .ref (ga g 12 v1)), (2, .int v2), (3, .ref (ga g 23 v3)), (4, .int v4), (5, .int v5)] → W p l e (rmC (frp + 5) (lop + 112)) s m args below meth c H locs 0 0 (MQ below (Qx g (some (.ref (ge g r))) x') args s 0 0 (zA (gz g))) (F0 m 27 ls []) := by
  obtain ⟨hx, hb, hml, hown, hts, hlk, hrt⟩ := id C
  intro n
  induction n with
  | zero =>
    intro v1 v2 v3 v4 v5 x H locs ls h_v1 h_v3 h hI hS hl
    simp [f_X4_cleanStopped_b27] at h
  | succ n ih =>
    intro v1 v2 v3 v4 v5 x H locs ls h_v1 h_v3 h hI hS hl
    unfold f_X4_cleanStopped_b27 at h
    refine lv_iload hx hb dX4_cleanStopped_27 (lv_at hl 5 rfl) ?_
    refine lv_if_lt (tgt := 98) hx hb dX4_cleanStopped_29 (by decide) (fun hc => ?_) (fun hc => ?_)
    · replace h := ite_y hc h
      refine w_out C G hS 3 (by decide) rfl kf_X4_125 dX4_cleanStopped_98 ?_
      cases h
      exact w_aret C hI hS dX4_cleanStopped_101
    replace h := ite_n hc h
    refine lv_iload hx hb dX4_cleanStopped_32 (lv_at hl 4 rfl) ?_
    refine lv_iload hx hb dX4_cleanStopped_34 (lv_at hl 5 rfl) ?_
    refine lv_ishr hx hb dX4_cleanStopped_36 ?_
    refine lv_iconst (v := 1) hx hb dX4_cleanStopped_37 (by decide) ?_
    refine lv_iand hx hb dX4_cleanStopped_38 ?_
    refine lv_iconst (v := 1) hx hb dX4_cleanStopped_39 (by decide) ?_
    refine lv_icmp_ne (tgt := 47) hx hb dX4_cleanStopped_40 (by decide) (fun hc => ?_) (fun hc => ?_)
    · replace h := ite_n hc h
      refine lv_iconst (v := 0) hx hb dX4_cleanStopped_47 (by decide) ?_
      exact w_X4_cleanStopped_b48 C G hpf (f_X4_cleanStopped_b27 pf n) ih v1 v2 v3 v4 v5 0 x _ _ _ h_v1 h_v3 h hI hS (lv_sub hl [0, 1, 2, 3, 4, 5] rfl)
    replace h := ite_y hc h
    refine lv_iconst (v := 1) hx hb dX4_cleanStopped_43 (by decide) ?_
    refine lv_goto (tgt := 48) hx hb dX4_cleanStopped_44 (by decide) ?_
    exact w_X4_cleanStopped_b48 C G hpf (f_X4_cleanStopped_b27 pf n) ih v1 v2 v3 v4 v5 1 x _ _ _ h_v1 h_v3 h hI hS (lv_sub hl [0, 1, 2, 3, 4, 5] rfl)
def f_X4_cleanStopped (pf : Int32 → st → Option (Nat × st)) (i1 : Nat) (a2 : Int32) (x : st) : Option (Nat × st) := if inb (x 12 i1 2) 8 = true then f_X4_cleanStopped_b27 pf 100 i1 a2 ((x 12 i1 2).toNatClampNeg) (x 12 i1 5) ((x 23 ((x 12 i1 2).toNatClampNeg) 2) - 1) x else none
set_option maxHeartbeats 4000000 in
set_option maxRecDepth 100000 in
theorem w_X4_cleanStopped {p : Program} {l : Launch} {e : Env} {s : State} {m : MethodId} {args : Array Value} {below : List Frame} {meth : Method} {c : Code} {g : gT} {frp lop : Nat} {r : Nat} {x' : st} (C : cxt p s m meth c args cX4_cleanStopped 7 RX4 (some (.object "StepBudgets$Outcome"))) (G : gst g s) {pf : Int32 → st → Option (Nat × st)} (hpf : ∀ (dep : Int32) (x : st) (o : Nat) (x' : st), pf dep x = some (o, x') → Kt l yX4_performFrame cX4_performFrame 6 (some (.object "StepBudgets$Outcome")) frp lop g [.ref (ga g 1 0), .int dep] x (some (.ref (ge g o))) x') (i1 : Nat) (a2 : Int32) (x : st) (H : Heap) (locs : List Loc) (ls : Array Slot) (h_i1 : i1 < 12) (h : f_X4_cleanStopped pf i1 a2 x = some (r, x')) (hI : wst g x H) (hS : va_S (zA (gz g)) s.heap H locs) (hl : lv_has ls 7 [(0, .ref (ga g 1 0)), (1, .ref (ga g 12 i1)), (2, .int a2)]) : W p l e (rmC (frp + 5) (lop + 112)) s m args below meth c H locs 0 0 (MQ below (Qx g (some (.ref (ge g r))) x') args s 0 0 (zA (gz g))) (F0 m 0 ls []) := by
  obtain ⟨hx, hb, hml, hown, hts, hlk, hrt⟩ := id C
  unfold f_X4_cleanStopped at h
  refine lv_aload_n hx hb dX4_cleanStopped_0 rfl (lv_at hl 0 rfl) ?_
  refine w_get C G hI 1 0 (hI.at1 rfl) (fcE_1 g _ _) rfl in_X4 2 (by decide) kf_X4_27 (fun _ h => h) (v := .ref (ga g 10 0)) rfl dX4_cleanStopped_1 ?_
  refine lv_aload_n hx hb dX4_cleanStopped_4 rfl (lv_at hl 1 rfl) ?_
  refine w_get C G hI 12 i1 (hI.at12 rfl h_i1) (fcE_12 g _ _) rfl in_X2 2 (by decide) kf_X4_104 (fun _ h => h) (v := .int (x 12 i1 2)) rfl dX4_cleanStopped_5 ?_
  obtain ⟨hn1, h⟩ := need_t h
  refine w_aald C G hI 10 0 (hI.at1 rfl) 4 (fcA_10 g _ _) rfl (inb_in hn1) rfl dX4_cleanStopped_8 ?_
  refine w_get C G hI 15 ((x 12 i1 2).toNatClampNeg) (hI.at8 rfl (inb_lt hn1)) (fcE_15 g _ _) rfl in_X6 2 (by decide) kf_X4_180 (fun _ h => h) (v := .ref (ga g 23 ((x 12 i1 2).toNatClampNeg))) rfl dX4_cleanStopped_9 ?_
  refine lv_astore_n (lv' := [(3, .ref (ga g 23 ((x 12 i1 2).toNatClampNeg))), (0, .ref (ga g 1 0)), (1, .ref (ga g 12 i1)), (2, .int a2)]) hx hb dX4_cleanStopped_12 rfl hl (by decide) rfl (fun ls hl => ?_)
  refine lv_aload_n hx hb dX4_cleanStopped_13 rfl (lv_at hl 2 rfl) ?_
  refine w_get C G hI 12 i1 (hI.at12 rfl h_i1) (fcE_12 g _ _) rfl in_X2 5 (by decide) kf_X4_134 (fun _ h => h) (v := .int (x 12 i1 5)) rfl dX4_cleanStopped_14 ?_
  refine lv_istore (lv' := [(4, .int (x 12 i1 5)), (3, .ref (ga g 23 ((x 12 i1 2).toNatClampNeg))), (0, .ref (ga g 1 0)), (1, .ref (ga g 12 i1)), (2, .int a2)]) hx hb dX4_cleanStopped_17 hl (by decide) rfl (fun ls hl => ?_)
  refine lv_aload_n hx hb dX4_cleanStopped_19 rfl (lv_at hl 1 rfl) ?_
  refine w_callV (fr := 0) (lo := 0) C G hI hS 23 ((x 12 i1 2).toNatClampNeg) (hI.at8 rfl (inb_lt hn1)) (fcE_23 g _ _) rfl mv_Jx4a65c_size_8abf5 km_X4_111 [] (k_size_23 l g ((x 12 i1 2).toNatClampNeg) (inb_lt hn1) _) rfl (by first | exact ⟨by decide, by decide⟩ | exact ⟨by show _ ≤ _ + _; omega, by show _ ≤ _ + _; omega⟩) ⟨Nat.zero_le _, Nat.zero_le _⟩ hl.1 rfl (Nat.le_of_ble_eq_true rfl) dX4_cleanStopped_20 (fun H locs hI hS => ?_)
  refine lv_iconst (v := 1) hx hb dX4_cleanStopped_23 (by decide) ?_
  refine lv_isub hx hb dX4_cleanStopped_24 ?_
  refine lv_istore (lv' := [(5, .int ((x 23 ((x 12 i1 2).toNatClampNeg) 2) - 1)), (4, .int (x 12 i1 5)), (3, .ref (ga g 23 ((x 12 i1 2).toNatClampNeg))), (0, .ref (ga g 1 0)), (1, .ref (ga g 12 i1)), (2, .int a2)]) hx hb dX4_cleanStopped_25 hl (by decide) rfl (fun ls hl => ?_)
  exact w_X4_cleanStopped_b27 C G hpf 100 i1 a2 ((x 12 i1 2).toNatClampNeg) (x 12 i1 5) ((x 23 ((x 12 i1 2).toNatClampNeg) 2) - 1) x _ _ _ h_i1 (inb_lt hn1) h hI hS (lv_sub hl [3, 4, 5, 2, 1, 0] rfl)
theorem k_X4_cleanStopped (l : Launch) (g : gT) {frp lop : Nat} (pf : Int32 → st → Option (Nat × st)) (hpf : ∀ (dep : Int32) (x : st) (o : Nat) (x' : st), pf dep x = some (o, x') → Kt l yX4_performFrame cX4_performFrame 6 (some (.object "StepBudgets$Outcome")) frp lop g [.ref (ga g 1 0), .int dep] x (some (.ref (ge g o))) x') (i1 : Nat) (a2 : Int32) (x : st) (r : Nat) (x' : st) (h_i1 : i1 < 12) (h : f_X4_cleanStopped pf i1 a2 x = some (r, x')) : Kt l yX4_cleanStopped cX4_cleanStopped 7 (some (.object "StepBudgets$Outcome")) (frp + 5) (lop + 112) g [.ref (ga g 1 0), .ref (ga g 12 i1), .int a2] x (some (.ref (ge g r))) x' := by
  refine Kt.of (by decide) (fun p e s m below meth c C G hI => ?_)
  have hl := lv_entry ([.ref (ga g 1 0), .ref (ga g 12 i1), .int a2]) (n := 7) (Nat.le_of_ble_eq_true rfl)
  rw [lg_entry_eq]
  generalize (lg_sl ([.ref (ga g 1 0), .ref (ga g 12 i1), .int a2]) ++ List.replicate (7 - (lg_sl ([.ref (ga g 1 0), .ref (ga g 12 i1), .int a2])).length) Slot.unset).toArray = ls at hl ⊢
  have hl : lv_has ls 7 [(0, .ref (ga g 1 0)), (1, .ref (ga g 12 i1)), (2, .int a2)] := hl
  exact w_X4_cleanStopped C G hpf i1 a2 x _ _ ls h_i1 h hI va_S.rf hl
theorem mv_X4_cleanStopped : mtV yX4_cleanStopped RX4 cX4_cleanStopped 7 (some (.object "StepBudgets$Outcome")) 2 := ⟨ki_X4_cleanStopped, kl_X4_cleanStopped, kI_X4, kc_X4_cleanStopped, by decide +kernel⟩

/-! X4_performFrame -/
def f_X4_performFrame_b70 (pf : Int32 → st → Option (Nat × st)) (v1 : Int32) (v2 : Nat) (v4 : Nat) (x : st) : Option (Nat × st) := if v4 < 5 then if v4 = 0 then (lets (sx x 1 0 5 0) fun x8 => some (1, x8)) else (if v4 < 5 then if v4 = 3 then (bnd (f_X4_cleanStopped pf v2 v1 x) fun r6 x5 => some (r6, x5)) else (some (v4, x)) else none) else none
set_option maxHeartbeats 4000000 in
set_option maxRecDepth 100000 in
theorem w_X4_performFrame_b70 {p : Program} {l : Launch} {e : Env} {s : State} {m : MethodId} {args : Array Value} {below : List Frame} {meth : Method} {c : Code} {g : gT} {frp lop : Nat} {r : Nat} {x' : st} (C : cxt p s m meth c args cX4_performFrame 6 RX4 (some (.object "StepBudgets$Outcome"))) (G : gst g s) {pf : Int32 → st → Option (Nat × st)} (hpf : ∀ (dep : Int32) (x : st) (o : Nat) (x' : st), pf dep x = some (o, x') → Kt l yX4_performFrame cX4_performFrame 6 (some (.object "StepBudgets$Outcome")) frp lop g [.ref (ga g 1 0), .int dep] x (some (.ref (ge g o))) x') (v1 : Int32) (v2 : Nat) (v4 : Nat) (x : st) (H : Heap) (locs : List Loc) (ls : Array Slot) (h_v2 : v2 < 12) (h : f_X4_performFrame_b70 pf v1 v2 v4 x = some (r, x')) (hI : wst g x H) (hS : va_S (zA (gz g)) s.heap H locs) (hl : lv_has ls 6 [(0, .ref (ga g 1 0)), (1, .int v1), (2, .ref (ga g 12 v2)), (4, .ref (ge g v4))]) : W p l e (rmC (frp + 9) (lop + 214)) s m args below meth c H locs 0 0 (MQ below (Qx g (some (.ref (ge g r))) x') args s 0 0 (zA (gz g))) (F0 m 70 ls []) := by
  obtain ⟨hx, hb, hml, hown, hts, hlk, hrt⟩ := id C
  unfold f_X4_performFrame_b70 at h
  refine lv_aload hx hb dX4_performFrame_70 (lv_at hl 3 rfl) ?_
  refine w_out C G hS 0 (by decide) rfl kf_X4_84 dX4_performFrame_72 ?_
  obtain ⟨hn3, h⟩ := need_p h
  refine w_acmp_ne (tgt := 87) C G (a := v4) (b := 0) hn3 (by decide) dX4_performFrame_75 (by decide) (fun hc => ?_) (fun hc => ?_)
  · replace h := ite_n hc h
    refine lv_aload hx hb dX4_performFrame_87 (lv_at hl 3 rfl) ?_
    refine w_out C G hS 3 (by decide) rfl kf_X4_125 dX4_performFrame_89 ?_
    obtain ⟨hn4, h⟩ := need_p h
    refine w_acmp_ne (tgt := 104) C G (a := v4) (b := 3) hn4 (by decide) dX4_performFrame_92 (by decide) (fun hc => ?_) (fun hc => ?_)
    · replace h := ite_n hc h
      refine lv_aload hx hb dX4_performFrame_104 (lv_at hl 3 rfl) ?_
      cases h
      exact w_aret C hI hS dX4_performFrame_106
    replace h := ite_y hc h
    refine lv_aload_n hx hb dX4_performFrame_95 rfl (lv_at hl 0 rfl) ?_
    refine lv_aload_n hx hb dX4_performFrame_96 rfl (lv_at hl 2 rfl) ?_
    refine lv_iload_n hx hb dX4_performFrame_97 rfl (lv_at hl 1 rfl) ?_
    obtain ⟨r6, x5, hq7, h⟩ := bnd_some h
    refine w_callV (fr := frp + 5) (lo := lop + 112) C G hI hS 1 0 (hI.at1 rfl) (fcE_1 g _ _) rfl mv_X4_cleanStopped km_X4_128 [.ref (ga g 12 v2), .int v1] (k_X4_cleanStopped l g pf hpf v2 v1 x _ _ h_v2 hq7) rfl (by first | exact ⟨by decide, by decide⟩ | exact ⟨by show _ ≤ _ + _; omega, by show _ ≤ _ + _; omega⟩) ⟨Nat.zero_le _, Nat.zero_le _⟩ hl.1 rfl (Nat.le_of_ble_eq_true rfl) dX4_performFrame_98 (fun H locs hI hS => ?_)
    refine lv_goto (tgt := 106) hx hb dX4_performFrame_101 (by decide) ?_
    cases h
    exact w_aret C hI hS dX4_performFrame_106
  replace h := ite_y hc h
  refine lv_aload_n hx hb dX4_performFrame_78 rfl (lv_at hl 0 rfl) ?_
  refine lv_iconst (v := 0) hx hb dX4_performFrame_79 (by decide) ?_
  refine w_put C G hI hS 1 0 (hI.at1 rfl) rfl (fcE_1 g _ _) rfl in_X4 tyX4 tyX4_ok nmX4 5 (by decide) kf_X4_65 (fun _ h => h) rfl (ty := .int) (y := 0) (by decide +kernel) rfl rfl (Nat.le_of_ble_eq_true rfl) rfl dX4_performFrame_80 (fun H locs hI hS => ?_)
  obtain ⟨x8, e_x8, h⟩ := lets_some h
  rw [← e_x8] at hI
  refine w_out C G hS 1 (by decide) rfl kf_X4_59 dX4_performFrame_83 ?_
  cases h
  exact w_aret C hI hS dX4_performFrame_86
def f_X4_performFrame_b33 (pf : Int32 → st → Option (Nat × st)) : Nat → Int32 → Nat → Int32 → Nat → Int32 → st → Option (Nat × st)
  | 0, _, _, _, _, _, _ => none
  | n + 1, v1, v2, v3, v4, v5, x => if 1000000 ≤ v5 then (f_X4_performFrame_b70 pf v1 v2 v4 x) else (if v4 < 5 then if v4 = 0 then (if v3 ≤ (x 12 v2 3) then (f_X4_performFrame_b70 pf v1 v2 v4 x) else (bnd (f_X4_performAct pf v2 v1 x) fun r5 x4 => f_X4_performFrame_b33 pf n v1 v2 v3 r5 (v5 + 1) x4)) else (f_X4_performFrame_b70 pf v1 v2 v4 x) else none)
set_option maxHeartbeats 4000000 in
set_option maxRecDepth 100000 in
theorem w_X4_performFrame_b33 {p : Program} {l : Launch} {e : Env} {s : State} {m : MethodId} {args : Array Value} {below : List Frame} {meth : Method} {c : Code} {g : gT} {frp lop : Nat} {r : Nat} {x' : st} (C : cxt p s m meth c args cX4_performFrame 6 RX4 (some (.object "StepBudgets$Outcome"))) (G : gst g s) {pf : Int32 → st → Option (Nat × st)} (hpf : ∀ (dep : Int32) (x : st) (o : Nat) (x' : st), pf dep x = some (o, x') → Kt l yX4_performFrame cX4_performFrame 6 (some (.object "StepBudgets$Outcome")) frp lop g [.ref (ga g 1 0), .int dep] x (some (.ref (ge g o))) x') : ∀ (n : Nat) (v1 : Int32) (v2 : Nat) (v3 : Int32) (v4 : Nat) (v5 : Int32) (x : st) (H : Heap) (locs : List Loc) (ls : Array Slot), v2 < 12 → f_X4_performFrame_b33 pf n v1 v2 v3 v4 v5 x = some (r, x') → wst g x H → va_S (zA (gz g)) s.heap H locs → lv_has ls 6 [(0, .ref (ga g 1 0)), (1, .int v1), (2, .ref (ga g 12 v2)), (3, .int v3), (4, .ref (ge g v4)), (5, .int v5)] → W p l e (rmC (frp + 9) (lop + 214)) s m args below meth c H locs 0 0 (MQ below (Qx g (some (.ref (ge g r))) x') args s 0 0 (zA (gz g))) (F0 m 33 ls []) := by
  obtain ⟨hx, hb, hml, hown, hts, hlk, hrt⟩ := id C
  intro n
  induction n with
  | zero =>
    intro v1 v2 v3 v4 v5 x H locs ls h_v2 h hI hS hl
    simp [f_X4_performFrame_b33] at h
  | succ n ih =>
    intro v1 v2 v3 v4 v5 x H locs ls h_v2 h hI hS hl
    unfold f_X4_performFrame_b33 at h
    refine lv_iload hx hb dX4_performFrame_33 (lv_at hl 5 rfl) ?_
    refine lv_ldc hx hb hown (hts _ kk_X4_117) dX4_performFrame_35 ?_
    refine lv_icmp_ge (tgt := 70) hx hb dX4_performFrame_37 (by decide) (fun hc => ?_) (fun hc => ?_)
    · replace h := ite_y hc h
      exact w_X4_performFrame_b70 C G hpf v1 v2 v4 x _ _ _ h_v2 h hI hS (lv_sub hl [0, 1, 2, 4] rfl)
    replace h := ite_n hc h
    refine lv_aload hx hb dX4_performFrame_40 (lv_at hl 4 rfl) ?_
    refine w_out C G hS 0 (by decide) rfl kf_X4_84 dX4_performFrame_42 ?_
    obtain ⟨hn3, h⟩ := need_p h
    refine w_acmp_ne (tgt := 70) C G (a := v4) (b := 0) hn3 (by decide) dX4_performFrame_45 (by decide) (fun hc => ?_) (fun hc => ?_)
    · replace h := ite_n hc h
      exact w_X4_performFrame_b70 C G hpf v1 v2 v4 x _ _ _ h_v2 h hI hS (lv_sub hl [0, 1, 2, 4] rfl)
    replace h := ite_y hc h
    refine lv_aload_n hx hb dX4_performFrame_48 rfl (lv_at hl 2 rfl) ?_
    refine w_get C G hI 12 v2 (hI.at12 rfl h_v2) (fcE_12 g _ _) rfl in_X2 3 (by decide) kf_X4_118 (fun _ h => h) (v := .int (x 12 v2 3)) rfl dX4_performFrame_49 ?_
    refine lv_iload_n hx hb dX4_performFrame_52 rfl (lv_at hl 3 rfl) ?_
    refine lv_icmp_ge (tgt := 70) hx hb dX4_performFrame_53 (by decide) (fun hc => ?_) (fun hc => ?_)
    · replace h := ite_y hc h
      exact w_X4_performFrame_b70 C G hpf v1 v2 v4 x _ _ _ h_v2 h hI hS (lv_sub hl [0, 1, 2, 4] rfl)
    replace h := ite_n hc h
    refine lv_aload_n hx hb dX4_performFrame_56 rfl (lv_at hl 0 rfl) ?_
    refine lv_aload_n hx hb dX4_performFrame_57 rfl (lv_at hl 2 rfl) ?_
    refine lv_iload_n hx hb dX4_performFrame_58 rfl (lv_at hl 1 rfl) ?_
    obtain ⟨r5, x4, hq6, h⟩ := bnd_some h
    refine w_callV (fr := frp + 8) (lo := lop + 191) C G hI hS 1 0 (hI.at1 rfl) (fcE_1 g _ _) rfl mv_X4_performAct km_X4_121 [.ref (ga g 12 v2), .int v1] (k_X4_performAct l g pf hpf v2 v1 x _ _ h_v2 hq6) rfl (by first | exact ⟨by decide, by decide⟩ | exact ⟨by show _ ≤ _ + _; omega, by show _ ≤ _ + _; omega⟩) ⟨Nat.zero_le _, Nat.zero_le _⟩ hl.1 rfl (Nat.le_of_ble_eq_true rfl) dX4_performFrame_59 (fun H locs hI hS => ?_)
    refine lv_astore (lv' := [(4, .ref (ge g r5)), (0, .ref (ga g 1 0)), (1, .int v1), (2, .ref (ga g 12 v2)), (3, .int v3), (5, .int v5)]) hx hb dX4_performFrame_62 hl (by decide) rfl (fun ls hl => ?_)
    refine lv_iinc (v := (v5 + 1)) (lv' := [(5, .int (v5 + 1)), (4, .ref (ge g r5)), (0, .ref (ga g 1 0)), (1, .int v1), (2, .ref (ga g 12 v2)), (3, .int v3)]) hx hb dX4_performFrame_64 hl (k := 5) rfl rfl (by decide) rfl (fun ls hl => ?_)
    refine lv_goto (tgt := 33) hx hb dX4_performFrame_67 (by decide) ?_
    exact ih v1 v2 v3 r5 (v5 + 1) x4 _ _ _ h_v2 h hI hS (lv_sub hl [2, 3, 4, 5, 1, 0] rfl)
def f_X4_performFrame (pf : Int32 → st → Option (Nat × st)) (a1 : Int32) (x : st) : Option (Nat × st) := if inb (a1 - 1) 12 = true then if inb (x 12 ((a1 - 1).toNatClampNeg) 2) 8 = true then f_X4_performFrame_b33 pf 1000001 a1 ((a1 - 1).toNatClampNeg) (x 21 ((x 12 ((a1 - 1).toNatClampNeg) 2).toNatClampNeg) 2) 0 0 x else none else none
set_option maxHeartbeats 4000000 in
set_option maxRecDepth 100000 in
theorem w_X4_performFrame {p : Program} {l : Launch} {e : Env} {s : State} {m : MethodId} {args : Array Value} {below : List Frame} {meth : Method} {c : Code} {g : gT} {frp lop : Nat} {r : Nat} {x' : st} (C : cxt p s m meth c args cX4_performFrame 6 RX4 (some (.object "StepBudgets$Outcome"))) (G : gst g s) {pf : Int32 → st → Option (Nat × st)} (hpf : ∀ (dep : Int32) (x : st) (o : Nat) (x' : st), pf dep x = some (o, x') → Kt l yX4_performFrame cX4_performFrame 6 (some (.object "StepBudgets$Outcome")) frp lop g [.ref (ga g 1 0), .int dep] x (some (.ref (ge g o))) x') (a1 : Int32) (x : st) (H : Heap) (locs : List Loc) (ls : Array Slot)  (h : f_X4_performFrame pf a1 x = some (r, x')) (hI : wst g x H) (hS : va_S (zA (gz g)) s.heap H locs) (hl : lv_has ls 6 [(0, .ref (ga g 1 0)), (1, .int a1)]) : W p l e (rmC (frp + 9) (lop + 214)) s m args below meth c H locs 0 0 (MQ below (Qx g (some (.ref (ge g r))) x') args s 0 0 (zA (gz g))) (F0 m 0 ls []) := by
  obtain ⟨hx, hb, hml, hown, hts, hlk, hrt⟩ := id C
  unfold f_X4_performFrame at h
  refine lv_aload_n hx hb dX4_performFrame_0 rfl (lv_at hl 0 rfl) ?_
  refine w_get C G hI 1 0 (hI.at1 rfl) (fcE_1 g _ _) rfl in_X4 4 (by decide) kf_X4_40 (fun _ h => h) (v := .ref (ga g 11 0)) rfl dX4_performFrame_1 ?_
  refine lv_iload_n hx hb dX4_performFrame_4 rfl (lv_at hl 1 rfl) ?_
  refine lv_iconst (v := 1) hx hb dX4_performFrame_5 (by decide) ?_
  refine lv_isub hx hb dX4_performFrame_6 ?_
  obtain ⟨hn1, h⟩ := need_t h
  refine w_aald C G hI 11 0 (hI.at1 rfl) 5 (fcA_11 g _ _) rfl (inb_in hn1) rfl dX4_performFrame_7 ?_
  refine lv_astore_n (lv' := [(2, .ref (ga g 12 ((a1 - 1).toNatClampNeg))), (0, .ref (ga g 1 0)), (1, .int a1)]) hx hb dX4_performFrame_8 rfl hl (by decide) rfl (fun ls hl => ?_)
  refine lv_aload_n hx hb dX4_performFrame_9 rfl (lv_at hl 1 rfl) ?_
  refine w_get C G hI 1 0 (hI.at1 rfl) (fcE_1 g _ _) rfl in_X4 2 (by decide) kf_X4_27 (fun _ h => h) (v := .ref (ga g 10 0)) rfl dX4_performFrame_10 ?_
  refine lv_aload_n hx hb dX4_performFrame_13 rfl (lv_at hl 0 rfl) ?_
  refine w_get C G hI 12 ((a1 - 1).toNatClampNeg) (hI.at12 rfl (inb_lt hn1)) (fcE_12 g _ _) rfl in_X2 2 (by decide) kf_X4_104 (fun _ h => h) (v := .int (x 12 ((a1 - 1).toNatClampNeg) 2)) rfl dX4_performFrame_14 ?_
  obtain ⟨hn2, h⟩ := need_t h
  refine w_aald C G hI 10 0 (hI.at1 rfl) 4 (fcA_10 g _ _) rfl (inb_in hn2) rfl dX4_performFrame_17 ?_
  refine w_get C G hI 15 ((x 12 ((a1 - 1).toNatClampNeg) 2).toNatClampNeg) (hI.at8 rfl (inb_lt hn2)) (fcE_15 g _ _) rfl in_X6 0 (by decide) kf_X4_107 (fun _ h => h) (v := .ref (ga g 21 ((x 12 ((a1 - 1).toNatClampNeg) 2).toNatClampNeg))) rfl dX4_performFrame_18 ?_
  refine w_callV (fr := 0) (lo := 0) C G hI hS 21 ((x 12 ((a1 - 1).toNatClampNeg) 2).toNatClampNeg) (hI.at8 rfl (inb_lt hn2)) (fcE_21 g _ _) rfl mv_Jx4a65c_size_8abf5 km_X4_111 [] (k_size_21 l g ((x 12 ((a1 - 1).toNatClampNeg) 2).toNatClampNeg) (inb_lt hn2) _) rfl (by first | exact ⟨by decide, by decide⟩ | exact ⟨by show _ ≤ _ + _; omega, by show _ ≤ _ + _; omega⟩) ⟨Nat.zero_le _, Nat.zero_le _⟩ hl.1 rfl (Nat.le_of_ble_eq_true rfl) dX4_performFrame_21 (fun H locs hI hS => ?_)
  refine lv_istore_n (lv' := [(3, .int (x 21 ((x 12 ((a1 - 1).toNatClampNeg) 2).toNatClampNeg) 2)), (2, .ref (ga g 12 ((a1 - 1).toNatClampNeg))), (0, .ref (ga g 1 0)), (1, .int a1)]) hx hb dX4_performFrame_24 rfl hl (by decide) rfl (fun ls hl => ?_)
  refine w_out C G hS 0 (by decide) rfl kf_X4_84 dX4_performFrame_25 ?_
  refine lv_astore (lv' := [(4, .ref (ge g 0)), (3, .int (x 21 ((x 12 ((a1 - 1).toNatClampNeg) 2).toNatClampNeg) 2)), (2, .ref (ga g 12 ((a1 - 1).toNatClampNeg))), (0, .ref (ga g 1 0)), (1, .int a1)]) hx hb dX4_performFrame_28 hl (by decide) rfl (fun ls hl => ?_)
  refine lv_iconst (v := 0) hx hb dX4_performFrame_30 (by decide) ?_
  refine lv_istore (lv' := [(5, .int 0), (4, .ref (ge g 0)), (3, .int (x 21 ((x 12 ((a1 - 1).toNatClampNeg) 2).toNatClampNeg) 2)), (2, .ref (ga g 12 ((a1 - 1).toNatClampNeg))), (0, .ref (ga g 1 0)), (1, .int a1)]) hx hb dX4_performFrame_31 hl (by decide) rfl (fun ls hl => ?_)
  exact w_X4_performFrame_b33 C G hpf 1000001 a1 ((a1 - 1).toNatClampNeg) (x 21 ((x 12 ((a1 - 1).toNatClampNeg) 2).toNatClampNeg) 2) 0 0 x _ _ _ (inb_lt hn1) h hI hS (lv_sub hl [4, 5, 3, 2, 1, 0] rfl)
theorem k_X4_performFrame (l : Launch) (g : gT) {frp lop : Nat} (pf : Int32 → st → Option (Nat × st)) (hpf : ∀ (dep : Int32) (x : st) (o : Nat) (x' : st), pf dep x = some (o, x') → Kt l yX4_performFrame cX4_performFrame 6 (some (.object "StepBudgets$Outcome")) frp lop g [.ref (ga g 1 0), .int dep] x (some (.ref (ge g o))) x') (a1 : Int32) (x : st) (r : Nat) (x' : st)  (h : f_X4_performFrame pf a1 x = some (r, x')) : Kt l yX4_performFrame cX4_performFrame 6 (some (.object "StepBudgets$Outcome")) (frp + 9) (lop + 214) g [.ref (ga g 1 0), .int a1] x (some (.ref (ge g r))) x' := by
  refine Kt.of (by decide) (fun p e s m below meth c C G hI => ?_)
  have hl := lv_entry ([.ref (ga g 1 0), .int a1]) (n := 6) (Nat.le_of_ble_eq_true rfl)
  rw [lg_entry_eq]
  generalize (lg_sl ([.ref (ga g 1 0), .int a1]) ++ List.replicate (6 - (lg_sl ([.ref (ga g 1 0), .int a1])).length) Slot.unset).toArray = ls at hl ⊢
  have hl : lv_has ls 6 [(0, .ref (ga g 1 0)), (1, .int a1)] := hl
  exact w_X4_performFrame C G hpf a1 x _ _ ls  h hI va_S.rf hl

