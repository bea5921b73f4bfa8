/-! constructors of the JDK's classes -/
section LI
variable {p : Program} {l : Launch} {e : Env} {R : Room} {s : State} {m : MethodId} {args : Array Value} {below : List Frame} {meth : Method} {c : Code} {H : Heap} {locs : List Loc} {cells slots : Nat} {Q : State → Prop}
variable {cc : ByteArray} {nL : Nat} {own : String} {ret : Option FieldType} {pc : Nat} {ls : Array Slot} {rest : List Value} {g : gT}
theorem r_obj (C : cxt p s m meth c args cc nL own ret) {index : Nat} (hl : Cond.methodLink own index objectInit ∈ Tg) (a : Nat) (hsz : ls.size = nL) (hfr : 1 ≤ R.frames ∧ (rest.map fun v => v.category).sum + 12 ≤ R.locals) (hdg : decode cc pc = .ok (.invokespecial index, 3))
    (kk : W p l e R s m args below meth c H locs cells slots Q (F0 m (pc + 3) ls rest)) : W p l e R s m args below meth c H locs cells slots Q (F0 m pc ls (.ref a :: rest)) :=
  W.objInit C.1 C.2.1 C.2.2.2.1 (C.2.2.2.2.1 _ hl) (C.2.2.2.2.1 _ ki_objectInit) (C.2.2.2.2.1 _ kc_objectInit) rfl (hsz.trans C.2.2.1.symm) rfl hdg hfr.1 (by show 2 * 0 + _ + 12 ≤ _; omega) kk
end LI
theorem mi_Jxe7f93_init : mtI yJxe7f93_init_da8c8 cJxe7f93_init_da8c8 1 0 := ⟨ki_Jxe7f93_init_da8c8, kI_Jxe7f93, kc_Jxe7f93_init_da8c8, by decide +kernel⟩
theorem mi_Jxa1e45_init : mtI yJxa1e45_init_da8c8 cJxa1e45_init_da8c8 1 0 := ⟨ki_Jxa1e45_init_da8c8, kI_Jxa1e45, kc_Jxa1e45_init_da8c8, by decide +kernel⟩
theorem mi_Jxc12de_init : mtI yJxc12de_init_da8c8 cJxc12de_init_da8c8 1 0 := ⟨ki_Jxc12de_init_da8c8, kI_Jxc12de, kc_Jxc12de_init_da8c8, by decide +kernel⟩
theorem mi_Jx4a65c_init : mtI yJx4a65c_init_da8c8 cJx4a65c_init_da8c8 1 0 := ⟨ki_Jx4a65c_init_da8c8, kI_Jx4a65c, kc_Jx4a65c_init_da8c8, by decide +kernel⟩
/-- Record's -/
theorem k_Jxe7f93_init (l : Launch) (g : gT) (a : Nat) (P : Heap → Prop) : Kr l yJxe7f93_init_da8c8 cJxe7f93_init_da8c8 1 none 1 12 0 0 g [.ref a] P (fun v H => v = none ∧ P H) := by
  refine Kr.of (by decide) (fun p e s m below meth c C hnm G hP => ?_)
  have hl := lv_entry ([.ref a]) (n := 1) (Nat.le_of_ble_eq_true rfl)
  rw [lg_entry_eq]
  generalize (lg_sl ([.ref a]) ++ List.replicate (1 - (lg_sl ([.ref a])).length) Slot.unset).toArray = ls at hl ⊢
  have hl : lv_has ls 1 [(0, .ref a)] := hl
  obtain ⟨hx, hb, hml, hown, hts, hlk, hrt⟩ := id C
  refine lv_aload_n hx hb dJxe7f93_init_da8c8_0 rfl (lv_at hl 0 rfl) ?_
  refine r_obj C km_Jxe7f93_1 a hl.1 (by decide) dJxe7f93_init_da8c8_1 ?_
  exact r_vret C ⟨rfl, hP⟩ va_S.rf (Nat.le_refl _) (Nat.le_refl _) dJxe7f93_init_da8c8_4
/-- AbstractCollection's -/
theorem k_Jxa1e45_init (l : Launch) (g : gT) (a : Nat) (P : Heap → Prop) : Kr l yJxa1e45_init_da8c8 cJxa1e45_init_da8c8 1 none 1 12 0 0 g [.ref a] P (fun v H => v = none ∧ P H) := by
  refine Kr.of (by decide) (fun p e s m below meth c C hnm G hP => ?_)
  have hl := lv_entry ([.ref a]) (n := 1) (Nat.le_of_ble_eq_true rfl)
  rw [lg_entry_eq]
  generalize (lg_sl ([.ref a]) ++ List.replicate (1 - (lg_sl ([.ref a])).length) Slot.unset).toArray = ls at hl ⊢
  have hl : lv_has ls 1 [(0, .ref a)] := hl
  obtain ⟨hx, hb, hml, hown, hts, hlk, hrt⟩ := id C
  refine lv_aload_n hx hb dJxa1e45_init_da8c8_0 rfl (lv_at hl 0 rfl) ?_
  refine r_obj C km_Jxa1e45_1 a hl.1 (by decide) dJxa1e45_init_da8c8_1 ?_
  exact r_vret C ⟨rfl, hP⟩ va_S.rf (Nat.le_refl _) (Nat.le_refl _) dJxa1e45_init_da8c8_4
theorem iw.nop {D : va_G} {z : Nat} {ad : Nat → Nat → Nat} {dm : Nat → Nat → Prop} {ce : Nat → Nat → va_E} {H : Heap} {k i : Nat} {e : va_E} (h : iw D z ad dm (up2 ce k i e) H) (he : ce k i = e) : iw D z ad dm ce H :=
  h.cg (fun k' i' _ => by
    by_cases c : k' = k ∧ i' = i
    · obtain ⟨rfl, rfl⟩ := c; rw [up2_same, he]
    · rw [up2_ne _ _ c])
/-- AbstractList's, of a new ArrayList -/
theorem k_Jxc12de_init (l : Launch) (g : gT) {ad : Nat → Nat → Nat} {dm : Nat → Nat → Prop} {ce : Nat → Nat → va_E} {k i : Nat} (hd : dm k i) (he : ce k i = .inr (0, [.int 0, .null, .int 0])) (n0 : Nat) :
    Kr l yJxc12de_init_da8c8 cJxc12de_init_da8c8 1 none 2 32 0 0 g [.ref (ad k i)] (fun H => iw (gD g) (gz g) ad dm ce H ∧ H.size = n0) (fun v H => v = none ∧ iw (gD g) (gz g) ad dm ce H ∧ H.size = n0) := by
  refine Kr.of (by decide) (fun p e s m below meth c C hnm G hP => ?_)
  have hl := lv_entry ([.ref (ad k i)]) (n := 1) (Nat.le_of_ble_eq_true rfl)
  rw [lg_entry_eq]
  generalize (lg_sl ([.ref (ad k i)]) ++ List.replicate (1 - (lg_sl ([.ref (ad k i)])).length) Slot.unset).toArray = ls at hl ⊢
  have hl : lv_has ls 1 [(0, .ref (ad k i))] := hl
  obtain ⟨hx, hb, hml, hown, hts, hlk, hrt⟩ := id C
  refine lv_aload_n hx hb dJxc12de_init_da8c8_0 rfl (lv_at hl 0 rfl) ?_
  refine r_callI (P := fun H => iw (gD g) (gz g) ad dm ce H ∧ H.size = n0) C G hP va_S.rf mi_Jxa1e45_init km_Jxc12de_1 (ad k i) [] (k_Jxa1e45_init l g _ _) rfl (by decide) (by decide) hl.1 rfl (by decide) dJxc12de_init_da8c8_1 (fun v H locs hp hS => ?_)
  obtain ⟨rfl, hI, hz⟩ := hp
  refine lv_aload_n hx hb dJxc12de_init_da8c8_4 rfl (lv_at hl 0 rfl) ?_
  refine lv_iconst (v := 0) hx hb dJxc12de_init_da8c8_5 (by decide) ?_
  refine r_put C G hI hS k i hd he rfl in_Jx4a65c tyJx4a65c tyJx4a65c_ok nmJx4a65c 0 (by decide) kf_Jxc12de_7 (fun _ h => h) rfl (ty := .int) (y := .int 0) (by decide +kernel) rfl rfl (Nat.le_of_ble_eq_true rfl) dJxc12de_init_da8c8_6 (fun H locs hI hS hz2 => ?_)
  exact r_vret C ⟨rfl, hI.nop he, hz2.trans hz⟩ hS (Nat.le_refl _) (Nat.le_refl _) dJxc12de_init_da8c8_9
/-- ArrayList's -/
theorem k_Jx4a65c_init (l : Launch) (g : gT) {ad : Nat → Nat → Nat} {dm : Nat → Nat → Prop} {ce : Nat → Nat → va_E} {k i : Nat} (hd : dm k i) (he : ce k i = .inr (0, [.int 0, .null, .int 0])) (n0 : Nat) :
    Kr l yJx4a65c_init_da8c8 cJx4a65c_init_da8c8 1 none 3 52 0 0 g [.ref (ad k i)] (fun H => iw (gD g) (gz g) ad dm ce H ∧ H.size = n0) (fun v H => v = none ∧ iw (gD g) (gz g) ad dm (up2 ce k i (.inr (0, [.int 0, .ref (ge g 20), .int 0]))) H ∧ H.size = n0) := by
  refine Kr.of (by decide) (fun p e s m below meth c C hnm G hP => ?_)
  have hl := lv_entry ([.ref (ad k i)]) (n := 1) (Nat.le_of_ble_eq_true rfl)
  rw [lg_entry_eq]
  generalize (lg_sl ([.ref (ad k i)]) ++ List.replicate (1 - (lg_sl ([.ref (ad k i)])).length) Slot.unset).toArray = ls at hl ⊢
  have hl : lv_has ls 1 [(0, .ref (ad k i))] := hl
  obtain ⟨hx, hb, hml, hown, hts, hlk, hrt⟩ := id C
  refine lv_aload_n hx hb dJx4a65c_init_da8c8_0 rfl (lv_at hl 0 rfl) ?_
  refine r_callI (P := fun H => iw (gD g) (gz g) ad dm ce H ∧ H.size = n0) C G hP va_S.rf mi_Jxc12de_init km_Jx4a65c_1 (ad k i) [] (k_Jxc12de_init l g hd he n0) rfl (by decide) (by decide) hl.1 rfl (by decide) dJx4a65c_init_da8c8_1 (fun v H locs hp hS => ?_)
  obtain ⟨rfl, hI, hz⟩ := hp
  refine lv_aload_n hx hb dJx4a65c_init_da8c8_4 rfl (lv_at hl 0 rfl) ?_
  refine va_gets hx hb G.2.2.2.2.2.1.1 hS hown (hts _ kf_Jx4a65c_39) (fun _ h => h) dJx4a65c_init_da8c8_5 ?_
  refine r_put C G hI hS k i hd he rfl in_Jx4a65c tyJx4a65c tyJx4a65c_ok nmJx4a65c 1 (by decide) kf_Jx4a65c_9 (fun _ h => h) rfl (ty := .array (.object "java/lang/Object")) (y := .ref (ge g 20)) (by decide +kernel) rfl rfl (Nat.le_of_ble_eq_true rfl) dJx4a65c_init_da8c8_8 (fun H locs hI hS hz2 => ?_)
  exact r_vret C ⟨rfl, hI, hz2.trans hz⟩ hS (Nat.le_refl _) (Nat.le_refl _) dJx4a65c_init_da8c8_11
