/-! constructors of the records -/
theorem mi_X0_init : mtI yX0_init cX0_init 6 5 := ⟨ki_X0_init, kI_X0, kc_X0_init, by decide +kernel⟩
set_option maxHeartbeats 4000000 in
theorem k_X0_init (l : Launch) (g : gT) {ad : Nat → Nat → Nat} {dm : Nat → Nat → Prop} {ce : Nat → Nat → va_E} {k i : Nat} (hd : dm k i) (he : ce k i = .inr (1, [.int 0, .int 0, .int 0, .int 0, .int 0])) (n0 : Nat) (a1 a2 a3 a4 a5 : Int32) :
    Kr l yX0_init cX0_init 6 none 2 32 0 0 g [.ref (ad k i), .int a1, .int a2, .int a3, .int a4, .int a5] (fun H => iw (gD g) (gz g) ad dm ce H ∧ H.size = n0) (fun v H => v = none ∧ iw (gD g) (gz g) ad dm (up2 ce k i (.inr (1, [.int a1, .int a2, .int a3, .int a4, .int a5]))) H ∧ H.size = n0) := by
  refine Kr.of (by decide) (fun p e s m below meth c C hnm G hP => ?_)
  have hl := lv_entry ([.ref (ad k i), .int a1, .int a2, .int a3, .int a4, .int a5]) (n := 6) (Nat.le_of_ble_eq_true rfl)
  rw [lg_entry_eq]
  generalize (lg_sl ([.ref (ad k i), .int a1, .int a2, .int a3, .int a4, .int a5]) ++ List.replicate (6 - (lg_sl ([.ref (ad k i), .int a1, .int a2, .int a3, .int a4, .int a5])).length) Slot.unset).toArray = ls at hl ⊢
  have hl : lv_has ls 6 [(0, .ref (ad k i)), (1, .int a1), (2, .int a2), (3, .int a3), (4, .int a4), (5, .int a5)] := hl
  obtain ⟨hx, hb, hml, hown, hts, hlk, hrt⟩ := id C
  refine lv_aload_n hx hb dX0_init_0 rfl (lv_at hl 0 rfl) ?_
  refine r_callI (P := fun H => iw (gD g) (gz g) ad dm ce H ∧ H.size = n0) C G hP va_S.rf mi_Jxe7f93_init km_X0_3 (ad k i) [] (k_Jxe7f93_init l g _ _) rfl (by decide) (by decide) hl.1 rfl (by decide) dX0_init_1 (fun v H locs hp hS => ?_)
  obtain ⟨rfl, hI, hz⟩ := hp
  refine lv_aload_n hx hb dX0_init_4 rfl (lv_at hl 0 rfl) ?_
  refine lv_iload_n hx hb dX0_init_5 rfl (lv_at hl 1 rfl) ?_
  refine r_putF C G hI hS k i hd he rfl in_X0 tyX0 tyX0_ok nmX0 0 (by decide) kf_X0_9 (fun _ h => h) rfl hnm rfl (ty := .int) (y := .int a1) (by decide +kernel) rfl rfl (Nat.le_of_ble_eq_true rfl) dX0_init_6 (fun H locs hI hS hz2 => ?_)
  replace hz := hz2.trans hz
  clear hz2
  refine lv_aload_n hx hb dX0_init_9 rfl (lv_at hl 0 rfl) ?_
  refine lv_iload_n hx hb dX0_init_10 rfl (lv_at hl 2 rfl) ?_
  refine r_putF C G hI hS k i hd (up2_same _ _ _ _) rfl in_X0 tyX0 tyX0_ok nmX0 1 (by decide) kf_X0_15 (fun _ h => h) rfl hnm rfl (ty := .int) (y := .int a2) (by decide +kernel) rfl rfl (Nat.le_of_ble_eq_true rfl) dX0_init_11 (fun H locs hI hS hz2 => ?_)
  rw [up2_up2] at hI
  replace hz := hz2.trans hz
  clear hz2
  refine lv_aload_n hx hb dX0_init_14 rfl (lv_at hl 0 rfl) ?_
  refine lv_iload_n hx hb dX0_init_15 rfl (lv_at hl 3 rfl) ?_
  refine r_putF C G hI hS k i hd (up2_same _ _ _ _) rfl in_X0 tyX0 tyX0_ok nmX0 2 (by decide) kf_X0_18 (fun _ h => h) rfl hnm rfl (ty := .int) (y := .int a3) (by decide +kernel) rfl rfl (Nat.le_of_ble_eq_true rfl) dX0_init_16 (fun H locs hI hS hz2 => ?_)
  rw [up2_up2] at hI
  replace hz := hz2.trans hz
  clear hz2
  refine lv_aload_n hx hb dX0_init_19 rfl (lv_at hl 0 rfl) ?_
  refine lv_iload hx hb dX0_init_20 (lv_at hl 4 rfl) ?_
  refine r_putF C G hI hS k i hd (up2_same _ _ _ _) rfl in_X0 tyX0 tyX0_ok nmX0 3 (by decide) kf_X0_21 (fun _ h => h) rfl hnm rfl (ty := .int) (y := .int a4) (by decide +kernel) rfl rfl (Nat.le_of_ble_eq_true rfl) dX0_init_22 (fun H locs hI hS hz2 => ?_)
  rw [up2_up2] at hI
  replace hz := hz2.trans hz
  clear hz2
  refine lv_aload_n hx hb dX0_init_25 rfl (lv_at hl 0 rfl) ?_
  refine lv_iload hx hb dX0_init_26 (lv_at hl 5 rfl) ?_
  refine r_putF C G hI hS k i hd (up2_same _ _ _ _) rfl in_X0 tyX0 tyX0_ok nmX0 4 (by decide) kf_X0_24 (fun _ h => h) rfl hnm rfl (ty := .int) (y := .int a5) (by decide +kernel) rfl rfl (Nat.le_of_ble_eq_true rfl) dX0_init_28 (fun H locs hI hS hz2 => ?_)
  rw [up2_up2] at hI
  replace hz := hz2.trans hz
  clear hz2
  exact r_vret C ⟨rfl, hI, hz⟩ hS (Nat.le_refl _) (Nat.le_refl _) dX0_init_31
theorem mi_X3_init : mtI yX3_init cX3_init 5 4 := ⟨ki_X3_init, kI_X3, kc_X3_init, by decide +kernel⟩
set_option maxHeartbeats 4000000 in
theorem k_X3_init (l : Launch) (g : gT) {ad : Nat → Nat → Nat} {dm : Nat → Nat → Prop} {ce : Nat → Nat → va_E} {k i : Nat} (hd : dm k i) (he : ce k i = .inr (4, [.int 0, .int 0, .int 0, .int 0])) (n0 : Nat) (a1 a2 a3 a4 : Int32) :
    Kr l yX3_init cX3_init 5 none 2 32 0 0 g [.ref (ad k i), .int a1, .int a2, .int a3, .int a4] (fun H => iw (gD g) (gz g) ad dm ce H ∧ H.size = n0) (fun v H => v = none ∧ iw (gD g) (gz g) ad dm (up2 ce k i (.inr (4, [.int a1, .int a2, .int a3, .int a4]))) H ∧ H.size = n0) := by
  refine Kr.of (by decide) (fun p e s m below meth c C hnm G hP => ?_)
  have hl := lv_entry ([.ref (ad k i), .int a1, .int a2, .int a3, .int a4]) (n := 5) (Nat.le_of_ble_eq_true rfl)
  rw [lg_entry_eq]
  generalize (lg_sl ([.ref (ad k i), .int a1, .int a2, .int a3, .int a4]) ++ List.replicate (5 - (lg_sl ([.ref (ad k i), .int a1, .int a2, .int a3, .int a4])).length) Slot.unset).toArray = ls at hl ⊢
  have hl : lv_has ls 5 [(0, .ref (ad k i)), (1, .int a1), (2, .int a2), (3, .int a3), (4, .int a4)] := hl
  obtain ⟨hx, hb, hml, hown, hts, hlk, hrt⟩ := id C
  refine lv_aload_n hx hb dX3_init_0 rfl (lv_at hl 0 rfl) ?_
  refine r_callI (P := fun H => iw (gD g) (gz g) ad dm ce H ∧ H.size = n0) C G hP va_S.rf mi_Jxe7f93_init km_X3_1 (ad k i) [] (k_Jxe7f93_init l g _ _) rfl (by decide) (by decide) hl.1 rfl (by decide) dX3_init_1 (fun v H locs hp hS => ?_)
  obtain ⟨rfl, hI, hz⟩ := hp
  refine lv_aload_n hx hb dX3_init_4 rfl (lv_at hl 0 rfl) ?_
  refine lv_iload_n hx hb dX3_init_5 rfl (lv_at hl 1 rfl) ?_
  refine r_putF C G hI hS k i hd he rfl in_X3 tyX3 tyX3_ok nmX3 0 (by decide) kf_X3_7 (fun _ h => h) rfl hnm rfl (ty := .int) (y := .int a1) (by decide +kernel) rfl rfl (Nat.le_of_ble_eq_true rfl) dX3_init_6 (fun H locs hI hS hz2 => ?_)
  replace hz := hz2.trans hz
  clear hz2
  refine lv_aload_n hx hb dX3_init_9 rfl (lv_at hl 0 rfl) ?_
  refine lv_iload_n hx hb dX3_init_10 rfl (lv_at hl 2 rfl) ?_
  refine r_putF C G hI hS k i hd (up2_same _ _ _ _) rfl in_X3 tyX3 tyX3_ok nmX3 1 (by decide) kf_X3_13 (fun _ h => h) rfl hnm rfl (ty := .int) (y := .int a2) (by decide +kernel) rfl rfl (Nat.le_of_ble_eq_true rfl) dX3_init_11 (fun H locs hI hS hz2 => ?_)
  rw [up2_up2] at hI
  replace hz := hz2.trans hz
  clear hz2
  refine lv_aload_n hx hb dX3_init_14 rfl (lv_at hl 0 rfl) ?_
  refine lv_iload_n hx hb dX3_init_15 rfl (lv_at hl 3 rfl) ?_
  refine r_putF C G hI hS k i hd (up2_same _ _ _ _) rfl in_X3 tyX3 tyX3_ok nmX3 2 (by decide) kf_X3_16 (fun _ h => h) rfl hnm rfl (ty := .int) (y := .int a3) (by decide +kernel) rfl rfl (Nat.le_of_ble_eq_true rfl) dX3_init_16 (fun H locs hI hS hz2 => ?_)
  rw [up2_up2] at hI
  replace hz := hz2.trans hz
  clear hz2
  refine lv_aload_n hx hb dX3_init_19 rfl (lv_at hl 0 rfl) ?_
  refine lv_iload hx hb dX3_init_20 (lv_at hl 4 rfl) ?_
  refine r_putF C G hI hS k i hd (up2_same _ _ _ _) rfl in_X3 tyX3 tyX3_ok nmX3 3 (by decide) kf_X3_19 (fun _ h => h) rfl hnm rfl (ty := .int) (y := .int a4) (by decide +kernel) rfl rfl (Nat.le_of_ble_eq_true rfl) dX3_init_22 (fun H locs hI hS hz2 => ?_)
  rw [up2_up2] at hI
  replace hz := hz2.trans hz
  clear hz2
  exact r_vret C ⟨rfl, hI, hz⟩ hS (Nat.le_refl _) (Nat.le_refl _) dX3_init_25
theorem mi_X1_init : mtI yX1_init cX1_init 4 3 := ⟨ki_X1_init, kI_X1, kc_X1_init, by decide +kernel⟩
set_option maxHeartbeats 4000000 in
theorem k_X1_init (l : Launch) (g : gT) {ad : Nat → Nat → Nat} {dm : Nat → Nat → Prop} {ce : Nat → Nat → va_E} {k i : Nat} (hd : dm k i) (he : ce k i = .inr (2, [.int 0, .int 0, .int 0])) (n0 : Nat) (a1 a2 a3 : Int32) :
    Kr l yX1_init cX1_init 4 none 2 32 0 0 g [.ref (ad k i), .int a1, .int a2, .int a3] (fun H => iw (gD g) (gz g) ad dm ce H ∧ H.size = n0) (fun v H => v = none ∧ iw (gD g) (gz g) ad dm (up2 ce k i (.inr (2, [.int a1, .int a2, .int a3]))) H ∧ H.size = n0) := by
  refine Kr.of (by decide) (fun p e s m below meth c C hnm G hP => ?_)
  have hl := lv_entry ([.ref (ad k i), .int a1, .int a2, .int a3]) (n := 4) (Nat.le_of_ble_eq_true rfl)
  rw [lg_entry_eq]
  generalize (lg_sl ([.ref (ad k i), .int a1, .int a2, .int a3]) ++ List.replicate (4 - (lg_sl ([.ref (ad k i), .int a1, .int a2, .int a3])).length) Slot.unset).toArray = ls at hl ⊢
  have hl : lv_has ls 4 [(0, .ref (ad k i)), (1, .int a1), (2, .int a2), (3, .int a3)] := hl
  obtain ⟨hx, hb, hml, hown, hts, hlk, hrt⟩ := id C
  refine lv_aload_n hx hb dX1_init_0 rfl (lv_at hl 0 rfl) ?_
  refine r_callI (P := fun H => iw (gD g) (gz g) ad dm ce H ∧ H.size = n0) C G hP va_S.rf mi_Jxe7f93_init km_X1_1 (ad k i) [] (k_Jxe7f93_init l g _ _) rfl (by decide) (by decide) hl.1 rfl (by decide) dX1_init_1 (fun v H locs hp hS => ?_)
  obtain ⟨rfl, hI, hz⟩ := hp
  refine lv_aload_n hx hb dX1_init_4 rfl (lv_at hl 0 rfl) ?_
  refine lv_iload_n hx hb dX1_init_5 rfl (lv_at hl 1 rfl) ?_
  refine r_putF C G hI hS k i hd he rfl in_X1 tyX1 tyX1_ok nmX1 0 (by decide) kf_X1_7 (fun _ h => h) rfl hnm rfl (ty := .int) (y := .int a1) (by decide +kernel) rfl rfl (Nat.le_of_ble_eq_true rfl) dX1_init_6 (fun H locs hI hS hz2 => ?_)
  replace hz := hz2.trans hz
  clear hz2
  refine lv_aload_n hx hb dX1_init_9 rfl (lv_at hl 0 rfl) ?_
  refine lv_iload_n hx hb dX1_init_10 rfl (lv_at hl 2 rfl) ?_
  refine r_putF C G hI hS k i hd (up2_same _ _ _ _) rfl in_X1 tyX1 tyX1_ok nmX1 1 (by decide) kf_X1_13 (fun _ h => h) rfl hnm rfl (ty := .int) (y := .int a2) (by decide +kernel) rfl rfl (Nat.le_of_ble_eq_true rfl) dX1_init_11 (fun H locs hI hS hz2 => ?_)
  rw [up2_up2] at hI
  replace hz := hz2.trans hz
  clear hz2
  refine lv_aload_n hx hb dX1_init_14 rfl (lv_at hl 0 rfl) ?_
  refine lv_iload_n hx hb dX1_init_15 rfl (lv_at hl 3 rfl) ?_
  refine r_putF C G hI hS k i hd (up2_same _ _ _ _) rfl in_X1 tyX1 tyX1_ok nmX1 2 (by decide) kf_X1_16 (fun _ h => h) rfl hnm rfl (ty := .int) (y := .int a3) (by decide +kernel) rfl rfl (Nat.le_of_ble_eq_true rfl) dX1_init_16 (fun H locs hI hS hz2 => ?_)
  rw [up2_up2] at hI
  replace hz := hz2.trans hz
  clear hz2
  exact r_vret C ⟨rfl, hI, hz⟩ hS (Nat.le_refl _) (Nat.le_refl _) dX1_init_19
