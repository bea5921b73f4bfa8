/-! Machine's and StepBudgets's constructors -/
theorem nobj {g : gT} {Z : Nat → Nat → va_E} {kn : Nat} {A : List Nat} {c b f : va_E} (h1 : 1 ∉ A) (h2 : kn ∉ A) (h3 : ¬ 1 = kn) : up2 (ceL g (up2 (up2 Z 1 0 c) kn 0 b) 0 A) kn 0 f = up2 (up2 (ceL g Z 0 A) kn 0 f) 1 0 c := by
  rw [ceL_up h2, up2_up2, ceL_up h1, up2_comm (fun q => h3 q.1)]
theorem mi_X4_init : mtI yX4_init cX4_init 2 0 := ⟨ki_X4_init, kI_X4, kc_X4_init, by decide +kernel⟩
theorem mi_X10_init : mtI yX10_init cX10_init 1 0 := ⟨ki_X10_init, kI_X10, kc_X10_init, by decide +kernel⟩
/-- where Machine's cells lie, from n on -/
def at4 (g : gT) (n : Nat) : Prop := (ga g 2 0 = n ∧ ga g 3 0 = n + 1 ∧ ga g 4 0 = n + 2 ∧ ga g 10 0 = n + 3 ∧ ga g 5 0 = n + 4 ∧ ga g 6 0 = n + 5 ∧ ga g 7 0 = n + 6 ∧ ga g 8 0 = n + 7 ∧ ga g 9 0 = n + 8 ∧ ga g 11 0 = n + 9) ∧
  (∀ i, i < 8 → ga g 15 i = n + 10 + 4 * i ∧ ga g 21 i = n + 10 + 4 * i + 1 ∧ ga g 22 i = n + 10 + 4 * i + 2 ∧ ga g 23 i = n + 10 + 4 * i + 3 ∧ ga g 24 i = ge g 20 ∧ ga g 25 i = ge g 20 ∧ ga g 26 i = ge g 20) ∧
  (∀ i, i < 12 → ga g 12 i = n + 42 + 3 * i ∧ ga g 13 i = n + 42 + 3 * i + 1 ∧ ga g 14 i = n + 42 + 3 * i + 2)
def ce5 (g : gT) (ce : Nat → Nat → va_E) : Nat → Nat → va_E := up2 (up2 (ceL g (up2 (ceL g ce 0 [4, 2, 3]) 10 0 (e10 g 0)) 0 [5, 9, 8, 7, 6]) 11 0 (e11 g 0)) 1 0 (fz g 1 0)
def ce4 (g : gT) (ce : Nat → Nat → va_E) : Nat → Nat → va_E := ceX g (ceX g (ce5 g ce) 15 [23, 22, 21] 10 (e10 g) 8) 12 [14, 13] 11 (e11 g) 12
def dm4 (dm : Nat → Nat → Prop) : Nat → Nat → Prop := dmX (dmX (dmL dm 0 [11, 9, 8, 7, 6, 5, 10, 4, 3, 2]) 15 [23, 22, 21] 8) 12 [14, 13] 12
set_option maxHeartbeats 8000000 in
set_option maxRecDepth 100000 in
theorem k_X4_init (l : Launch) (g : gT) {dm : Nat → Nat → Prop} {ce : Nat → Nat → va_E} (hd : dm 1 0) (he : ce 1 0 = .inr (5, [.null, .null, .null, .null, .null, .int 0, .int 0])) (n0 : Nat) (hat : at4 g n0) :
    Kr l yX4_init cX4_init 2 none 5 92 78 7216 g [.ref (ga g 1 0)] (fun H => iw (gD g) (gz g) (ga g) dm ce H ∧ H.size = n0) (fun v H => v = none ∧ iw (gD g) (gz g) (ga g) (dm4 dm) (ce4 g ce) H ∧ H.size = n0 + 78) := by
  refine Kr.of (by decide) (fun p e s m below meth c C hnm G hP => ?_)
  have hl := lv_entry ([.ref (ga g 1 0)]) (n := 2) (Nat.le_of_ble_eq_true rfl)
  rw [lg_entry_eq]
  generalize (lg_sl ([.ref (ga g 1 0)]) ++ List.replicate (2 - (lg_sl ([.ref (ga g 1 0)])).length) Slot.unset).toArray = ls at hl ⊢
  have hl : lv_has ls 2 [(0, .ref (ga g 1 0))] := hl
  obtain ⟨hx, hb, hml, hown, hts, hlk, hrt⟩ := id C
  obtain ⟨⟨a2, a3, a4, a10, a5, a6, a7, a8, a9, a11⟩, haM, haF⟩ := hat
  have hI : iw (gD g) (gz g) (ga g) dm (up2 ce 1 0 (.inr (5, [.null, .null, .null, .null, .null, .int 0, .int 0]))) s.heap ∧ s.heap.size = n0 := ⟨by rw [up2_nop he]; exact hP.1, hP.2⟩
  have hS : va_S (zA (gz g)) s.heap s.heap [] := va_S.rf
  clear hP
  refine lv_aload_n hx hb dX4_init_0 rfl (lv_at hl 0 rfl) ?_
  refine r_obj C km_X4_3 (ga g 1 0) hl.1 (by decide) dX4_init_1 ?_
  -- report
  refine lv_aload_n hx hb dX4_init_4 rfl (lv_at hl 0 rfl) ?_
  refine r_new C G hI.1 hS 2 0 (hI.2.trans a2.symm) (ci := 8) rfl in_X8 tyX8 tyX8_ok kC_X4_9 kN_X8 kI_X8 (fs := [.int 0, .int 0, .int 0, .int 0, .int 0, .int 0, .null]) (by decide) (by decide) (by decide) dX4_init_5 (fun H1 hI1 hS1 hz1 => ?_)
  refine lv_dup hx hb dX4_init_8 rfl ?_
  refine r_callIN (P := fun H => iw (gD g) (gz g) (ga g) (up2 dm 2 0 True) (up2 (up2 ce 1 0 (.inr (5, [.null, .null, .null, .null, .null, .int 0, .int 0]))) 2 0 (.inr (8, [.int 0, .int 0, .int 0, .int 0, .int 0, .int 0, .null]))) H ∧ H.size = n0 + 1) C G ⟨hI1, by rw [hz1, hI.2]⟩ hS1 mi_X8_init (host := "StepBudgets") (index := 11) (by decide) (ga g 2 0) [] (k_X8_init l g (by rw [up2_same]; trivial) (up2_same _ _ _ _) (n0 + 1) a3) rfl ⟨by decide, by decide⟩ ⟨by decide, by decide⟩ hl.1 rfl (Nat.le_of_ble_eq_true rfl) dX4_init_9 (fun v H2 locs2 hp hS2 => ?_)
  obtain ⟨rfl, hI2, hz2⟩ := hp
  rw [nobj (by decide) (by decide) (by decide)] at hI2
  refine r_putF C G hI2 hS2 1 0 (dmL_iff.mpr (Or.inl (by rw [up2_ne _ _ (by decide)]; exact hd))) (up2_same _ _ _ _) rfl in_X4 tyX4 tyX4_ok nmX4 0 (by decide) kf_X4_12 (fun _ h => h) rfl hnm rfl (ty := .object "StepBudgets$Report") (y := .ref (ga g 2 0)) (by decide +kernel) rfl rfl (Nat.le_of_ble_eq_true rfl) dX4_init_12 (fun H locs hI3 hS hz3 => ?_)
  rw [up2_up2] at hI3
  have hI : iw (gD g) (gz g) (ga g) (dmL dm 0 [3, 2]) (up2 (ceL g ce 0 [2, 3]) 1 0 (.inr (5, [.ref (ga g 2 0), .null, .null, .null, .null, .int 0, .int 0]))) H ∧ H.size = n0 + 2 := ⟨hI3, by rw [hz3, hz2]⟩
  clear hI1 hI2 hI3 hS1 hS2 hz1 hz2 hz3
  -- meter
  refine lv_aload_n hx hb dX4_init_15 rfl (lv_at hl 0 rfl) ?_
  refine r_new C G hI.1 hS 4 0 (hI.2.trans a4.symm) (ci := 6) rfl in_X5 tyX5 tyX5_ok kC_X4_18 kN_X5 kI_X5 (fs := [.int 0, .int 0, .int 0, .int 0, .int 0, .int 0, .int 0]) (by decide) (by decide) (by decide) dX4_init_16 (fun H1 hI1 hS1 hz1 => ?_)
  refine lv_dup hx hb dX4_init_19 rfl ?_
  refine r_callIN (P := fun H => iw (gD g) (gz g) (ga g) (up2 (dmL dm 0 [3, 2]) 4 0 True) (up2 (up2 (ceL g ce 0 [2, 3]) 1 0 (.inr (5, [.ref (ga g 2 0), .null, .null, .null, .null, .int 0, .int 0]))) 4 0 (.inr (6, [.int 0, .int 0, .int 0, .int 0, .int 0, .int 0, .int 0]))) H ∧ H.size = n0 + 3) C G ⟨hI1, by rw [hz1, hI.2]⟩ hS1 mi_X5_init (host := "StepBudgets") (index := 20) (by decide) (ga g 4 0) [] (k_X5_init l g (by rw [up2_same]; trivial) (up2_same _ _ _ _) (n0 + 3)) rfl ⟨by decide, by decide⟩ ⟨by decide, by decide⟩ hl.1 rfl (Nat.le_of_ble_eq_true rfl) dX4_init_20 (fun v H2 locs2 hp hS2 => ?_)
  obtain ⟨rfl, hI2, hz2⟩ := hp
  rw [nobj (by decide) (by decide) (by decide)] at hI2
  refine r_putF C G hI2 hS2 1 0 (dmL_iff.mpr (Or.inl (by rw [up2_ne _ _ (by decide)]; exact dmL_iff.mpr (Or.inl hd)))) (up2_same _ _ _ _) rfl in_X4 tyX4 tyX4_ok nmX4 1 (by decide) kf_X4_21 (fun _ h => h) rfl hnm rfl (ty := .object "StepBudgets$Meter") (y := .ref (ga g 4 0)) (by decide +kernel) rfl rfl (Nat.le_of_ble_eq_true rfl) dX4_init_23 (fun H locs hI3 hS hz3 => ?_)
  rw [up2_up2] at hI3
  have hI : iw (gD g) (gz g) (ga g) (dmL dm 0 [4, 3, 2]) (up2 (ceL g ce 0 [4, 2, 3]) 1 0 (.inr (5, [.ref (ga g 2 0), .ref (ga g 4 0), .null, .null, .null, .int 0, .int 0]))) H ∧ H.size = n0 + 3 := ⟨hI3, by rw [hz3, hz2]⟩
  clear hI1 hI2 hI3 hS1 hS2 hz1 hz2 hz3
  -- methods
  refine lv_aload_n hx hb dX4_init_26 rfl (lv_at hl 0 rfl) ?_
  refine lv_bipush (v := 8) hx hb dX4_init_27 (by decide) ?_
  refine r_newq C G hI.1 hS 10 0 (hI.2.trans a10.symm) kC_X4_25 G.2.2.2.2.2.2.1.2.1 4 (cA := gy g 4) rfl (N' := 8) (by decide) (by decide) (by decide) (by decide) (by decide) dX4_init_29 (fun H1 hI1 hS1 hz1 => ?_)
  rw [up2_comm (by decide)] at hI1
  refine r_putF C G hI1 hS1 1 0 (by rw [up2_ne _ _ (by decide)]; exact dmL_iff.mpr (Or.inl hd)) (up2_same _ _ _ _) rfl in_X4 tyX4 tyX4_ok nmX4 2 (by decide) kf_X4_27 (fun _ h => h) rfl hnm rfl (ty := .array (.object "StepBudgets$Method")) (y := .ref (ga g 10 0)) (by decide +kernel) rfl rfl (Nat.le_of_ble_eq_true rfl) dX4_init_32 (fun H locs hI3 hS hz3 => ?_)
  rw [up2_up2] at hI3
  have hI : iw (gD g) (gz g) (ga g) (dmL dm 0 [10, 4, 3, 2]) (up2 (up2 (ceL g ce 0 [4, 2, 3]) 10 0 (e10 g 0)) 1 0 (.inr (5, [.ref (ga g 2 0), .ref (ga g 4 0), .ref (ga g 10 0), .null, .null, .int 0, .int 0]))) H ∧ H.size = n0 + 4 := by
    refine ⟨?_, by rw [hz3, hz1, hI.2]⟩
    rw [show e10 g 0 = .inl (gy g 4, 8, qa (fun _ => none)) from by unfold e10; simp]
    exact hI3
  clear hI1 hI3 hS1 hz1 hz3
  -- rows
  refine lv_aload_n hx hb dX4_init_35 rfl (lv_at hl 0 rfl) ?_
  refine r_new C G hI.1 hS 5 0 (hI.2.trans a5.symm) (ci := 9) rfl in_X9 tyX9 tyX9_ok kC_X4_31 kN_X9 kI_X9 (fs := [.null, .null, .null, .null, .int 0, .int 0]) (by decide) (by decide) (by decide) dX4_init_36 (fun H1 hI1 hS1 hz1 => ?_)
  refine lv_dup hx hb dX4_init_39 rfl ?_
  refine r_callIN (P := fun H => iw (gD g) (gz g) (ga g) (up2 (dmL dm 0 [10, 4, 3, 2]) 5 0 True) (up2 (up2 (up2 (ceL g ce 0 [4, 2, 3]) 10 0 (e10 g 0)) 1 0 (.inr (5, [.ref (ga g 2 0), .ref (ga g 4 0), .ref (ga g 10 0), .null, .null, .int 0, .int 0]))) 5 0 (.inr (9, [.null, .null, .null, .null, .int 0, .int 0]))) H ∧ H.size = n0 + 5) C G ⟨hI1, by rw [hz1, hI.2]⟩ hS1 mi_X9_init (host := "StepBudgets") (index := 33) (by decide) (ga g 5 0) [] (k_X9_init l g (by rw [up2_same]; trivial) (up2_same _ _ _ _) (n0 + 5) a6 a7 a8 a9) rfl ⟨by decide, by decide⟩ ⟨by decide, by decide⟩ hl.1 rfl (Nat.le_of_ble_eq_true rfl) dX4_init_40 (fun v H2 locs2 hp hS2 => ?_)
  obtain ⟨rfl, hI2, hz2⟩ := hp
  rw [nobj (by decide) (by decide) (by decide)] at hI2
  refine r_putF C G hI2 hS2 1 0 (dmL_iff.mpr (Or.inl (by rw [up2_ne _ _ (by decide)]; exact dmL_iff.mpr (Or.inl hd)))) (up2_same _ _ _ _) rfl in_X4 tyX4 tyX4_ok nmX4 3 (by decide) kf_X4_34 (fun _ h => h) rfl hnm rfl (ty := .object "StepBudgets$Rows") (y := .ref (ga g 5 0)) (by decide +kernel) rfl rfl (Nat.le_of_ble_eq_true rfl) dX4_init_43 (fun H locs hI3 hS hz3 => ?_)
  rw [up2_up2] at hI3
  have hI : iw (gD g) (gz g) (ga g) (dmL dm 0 [9, 8, 7, 6, 5, 10, 4, 3, 2]) (up2 (ceL g (up2 (ceL g ce 0 [4, 2, 3]) 10 0 (e10 g 0)) 0 [5, 9, 8, 7, 6]) 1 0 (.inr (5, [.ref (ga g 2 0), .ref (ga g 4 0), .ref (ga g 10 0), .ref (ga g 5 0), .null, .int 0, .int 0]))) H ∧ H.size = n0 + 9 := ⟨hI3, by rw [hz3, hz2]⟩
  clear hI1 hI2 hI3 hS1 hS2 hz1 hz2 hz3
  -- frames
  refine lv_aload_n hx hb dX4_init_46 rfl (lv_at hl 0 rfl) ?_
  refine lv_bipush (v := 12) hx hb dX4_init_47 (by decide) ?_
  refine r_newq C G hI.1 hS 11 0 (hI.2.trans a11.symm) kC_X4_38 G.2.2.2.2.2.2.1.2.2 5 (cA := gy g 5) rfl (N' := 12) (by decide) (by decide) (by decide) (by decide) (by decide) dX4_init_49 (fun H1 hI1 hS1 hz1 => ?_)
  rw [up2_comm (by decide)] at hI1
  refine r_putF C G hI1 hS1 1 0 (by rw [up2_ne _ _ (by decide)]; exact dmL_iff.mpr (Or.inl hd)) (up2_same _ _ _ _) rfl in_X4 tyX4 tyX4_ok nmX4 4 (by decide) kf_X4_40 (fun _ h => h) rfl hnm rfl (ty := .array (.object "StepBudgets$Frame")) (y := .ref (ga g 11 0)) (by decide +kernel) rfl rfl (Nat.le_of_ble_eq_true rfl) dX4_init_52 (fun H locs hI3 hS hz3 => ?_)
  rw [up2_up2] at hI3
  have hI : iw (gD g) (gz g) (ga g) (dmL dm 0 [11, 9, 8, 7, 6, 5, 10, 4, 3, 2]) (ce5 g ce) H ∧ H.size = n0 + 10 := by
    refine ⟨?_, by rw [hz3, hz1, hI.2]⟩
    unfold ce5
    rw [show e11 g 0 = .inl (gy g 5, 12, qa (fun _ => none)) from by unfold e11; simp]
    exact hI3
  clear hI1 hI3 hS1 hz1 hz3
  refine lv_iconst (v := 0) hx hb dX4_init_55 (by decide) ?_
  refine lv_istore_n (lv' := [(1, .int (nI 0)), (0, .ref (ga g 1 0))]) hx hb dX4_init_56 rfl hl (by decide) rfl (fun ls hl => ?_)
  have hd1 : dmL dm 0 [11, 9, 8, 7, 6, 5, 10, 4, 3, 2] 1 0 := dmL_iff.mpr (Or.inl hd)
  have hd10 : dmL dm 0 [11, 9, 8, 7, 6, 5, 10, 4, 3, 2] 10 0 := dmL_iff.mpr (Or.inr ⟨rfl, by decide⟩)
  have hd11 : dmL dm 0 [11, 9, 8, 7, 6, 5, 10, 4, 3, 2] 11 0 := dmL_iff.mpr (Or.inr ⟨rfl, by decide⟩)
  have he5 : ce5 g ce 1 0 = fz g 1 0 := by unfold ce5; rw [up2_same]
  have he510 : ce5 g ce 10 0 = e10 g 0 := by
    unfold ce5
    rw [up2_ne _ _ (by decide), up2_ne _ _ (by decide), ceL_ne (by decide), up2_same]
  have he511 : ce5 g ce 11 0 = e11 g 0 := by
    unfold ce5
    rw [up2_ne _ _ (by decide), up2_same]
  refine x4_M C G (n0 + 10) hd1 he5 hd10 haM (by decide) (by decide) (by decide) (fun H locs ls hI hS hl => ?_) 8 0 rfl H locs ls ⟨conv0 he510 hI.1, hI.2⟩ hS (lv_sub hl [1, 0] rfl)
  refine lv_iconst (v := 0) hx hb dX4_init_82 (by decide) ?_
  refine lv_istore_n (lv' := [(1, .int (nI 0)), (0, .ref (ga g 1 0))]) hx hb dX4_init_83 rfl hl (by decide) rfl (fun ls hl => ?_)
  have he6 : ceX g (ce5 g ce) 15 [23, 22, 21] 10 (e10 g) 8 1 0 = fz g 1 0 := by
    unfold ceX
    rw [if_neg (by decide), if_neg (by decide)]
    exact he5
  have he611 : ceX g (ce5 g ce) 15 [23, 22, 21] 10 (e10 g) 8 11 0 = e11 g 0 := by
    unfold ceX
    rw [if_neg (by decide), if_neg (by decide)]
    exact he511
  refine x4_F C G (n0 + 42) (Or.inl hd1) he6 (Or.inl hd11) haF (by decide) (by decide) (by decide) (fun H locs ls hI hS hl => ?_) 12 0 rfl H locs ls ⟨conv0 he611 hI.1, hI.2⟩ hS (lv_sub hl [1, 0] rfl)
  exact r_vret C ⟨rfl, hI⟩ hS (by decide) (by decide) dX4_init_109
set_option maxHeartbeats 4000000 in
theorem k_X10_init (l : Launch) (g : gT) {dm : Nat → Nat → Prop} {ce : Nat → Nat → va_E} (hd : dm 0 0) (he : ce 0 0 = .inr (10, [.null, .int 0])) (n0 : Nat) (h1 : ga g 1 0 = n0) (hat : at4 g (n0 + 1)) :
    Kr l yX10_init cX10_init 1 none 6 113 79 7223 g [.ref (ga g 0 0)] (fun H => iw (gD g) (gz g) (ga g) dm ce H ∧ H.size = n0) (fun v H => v = none ∧ iw (gD g) (gz g) (ga g) (dm4 (up2 dm 1 0 True)) (up2 (ce4 g (up2 ce 1 0 (.inr (5, [.null, .null, .null, .null, .null, .int 0, .int 0])))) 0 0 (.inr (10, [.ref (ga g 1 0), .int 10]))) H ∧ H.size = n0 + 79) := by
  refine Kr.of (by decide) (fun p e s m below meth c C hnm G hP => ?_)
  have hl := lv_entry ([.ref (ga g 0 0)]) (n := 1) (Nat.le_of_ble_eq_true rfl)
  rw [lg_entry_eq]
  generalize (lg_sl ([.ref (ga g 0 0)]) ++ List.replicate (1 - (lg_sl ([.ref (ga g 0 0)])).length) Slot.unset).toArray = ls at hl ⊢
  have hl : lv_has ls 1 [(0, .ref (ga g 0 0))] := hl
  obtain ⟨hx, hb, hml, hown, hts, hlk, hrt⟩ := id C
  have hI := hP
  have hS : va_S (zA (gz g)) s.heap s.heap [] := va_S.rf
  clear hP
  refine lv_aload_n hx hb dX10_init_0 rfl (lv_at hl 0 rfl) ?_
  refine r_obj C km_X10_3 (ga g 0 0) hl.1 (by decide) dX10_init_1 ?_
  refine lv_aload_n hx hb dX10_init_4 rfl (lv_at hl 0 rfl) ?_
  refine r_new C G hI.1 hS 1 0 (hI.2.trans h1.symm) (ci := 5) rfl in_X4 tyX4 tyX4_ok kC_X10_9 kN_X4 kI_X4 (fs := [.null, .null, .null, .null, .null, .int 0, .int 0]) (by decide) (by decide) (by decide) dX10_init_5 (fun H1 hI1 hS1 hz1 => ?_)
  refine lv_dup hx hb dX10_init_8 rfl ?_
  refine r_callI (P := fun H => iw (gD g) (gz g) (ga g) (up2 dm 1 0 True) (up2 ce 1 0 (.inr (5, [.null, .null, .null, .null, .null, .int 0, .int 0]))) H ∧ H.size = n0 + 1) C G ⟨hI1, by rw [hz1, hI.2]⟩ hS1 mi_X4_init km_X10_11 (ga g 1 0) [] (k_X4_init l g (by rw [up2_same]; trivial) (up2_same _ _ _ _) (n0 + 1) hat) rfl ⟨by decide, by decide⟩ ⟨by decide, by decide⟩ hl.1 rfl (Nat.le_of_ble_eq_true rfl) dX10_init_9 (fun v H2 locs2 hp hS2 => ?_)
  obtain ⟨rfl, hI2, hz2⟩ := hp
  have hd0 : dm4 (up2 dm 1 0 True) 0 0 := Or.inl (Or.inl (dmL_iff.mpr (Or.inl (by rw [up2_ne _ _ (by decide)]; exact hd))))
  have he0 : ce4 g (up2 ce 1 0 (.inr (5, [.null, .null, .null, .null, .null, .int 0, .int 0]))) 0 0 = .inr (10, [.null, .int 0]) := by
    unfold ce4 ceX
    rw [if_neg (by decide), if_neg (by decide), if_neg (by decide), if_neg (by decide)]
    unfold ce5
    rw [up2_ne _ _ (by decide), up2_ne _ _ (by decide), ceL_ne (by decide), up2_ne _ _ (by decide), ceL_ne (by decide), up2_ne _ _ (by decide)]
    exact he
  refine r_putF C G hI2 hS2 0 0 hd0 he0 rfl in_X10 tyX10 tyX10_ok nmX10 0 (by decide) kf_X10_12 (fun _ h => h) rfl hnm rfl (ty := .object "StepBudgets$Machine") (y := .ref (ga g 1 0)) (by decide +kernel) rfl rfl (Nat.le_of_ble_eq_true rfl) dX10_init_12 (fun H locs hI3 hS hz3 => ?_)
  refine lv_aload_n hx hb dX10_init_15 rfl (lv_at hl 0 rfl) ?_
  refine lv_bipush (v := 10) hx hb dX10_init_16 (by decide) ?_
  refine r_put C G hI3 hS 0 0 hd0 (up2_same _ _ _ _) rfl in_X10 tyX10 tyX10_ok nmX10 1 (by decide) kf_X10_16 (fun _ h => h) rfl (ty := .int) (y := .int 10) (by decide +kernel) rfl rfl (Nat.le_of_ble_eq_true rfl) dX10_init_18 (fun H locs hI4 hS hz4 => ?_)
  rw [up2_up2] at hI4
  exact r_vret C ⟨rfl, hI4, by rw [hz4, hz3, hz2]⟩ hS (by decide) (by decide) dX10_init_21
