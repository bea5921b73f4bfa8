/-! constructors -/
def fz (g : gT) (k i : Nat) : va_E := fc g k i (fun _ => 0)
def dmL (dm : Nat → Nat → Prop) (i : Nat) : List Nat → Nat → Nat → Prop
  | [] => dm
  | k :: ks => up2 (dmL dm i ks) k i True
def ceL (g : gT) (ce : Nat → Nat → va_E) (i : Nat) : List Nat → Nat → Nat → va_E
  | [] => ce
  | k :: ks => up2 (ceL g ce i ks) k i (fz g k i)
theorem up2_up2 {α : Type} {f : Nat → Nat → α} {k i : Nat} {a b : α} : up2 (up2 f k i a) k i b = up2 f k i b := by
  funext k' i'
  by_cases c : k' = k ∧ i' = i
  · obtain ⟨rfl, rfl⟩ := c; rw [up2_same, up2_same]
  · rw [up2_ne _ _ c, up2_ne _ _ c, up2_ne _ _ c]
theorem up2_comm {α : Type} {f : Nat → Nat → α} {k i k2 i2 : Nat} {a b : α} (h : ¬ (k = k2 ∧ i = i2)) : up2 (up2 f k i a) k2 i2 b = up2 (up2 f k2 i2 b) k i a := by
  funext k' i'
  by_cases c : k' = k ∧ i' = i
  · obtain ⟨rfl, rfl⟩ := c
    rw [up2_ne _ _ h, up2_same, up2_same]
  · by_cases d : k' = k2 ∧ i' = i2
    · obtain ⟨rfl, rfl⟩ := d
      rw [up2_same, up2_ne _ _ c, up2_same]
    · rw [up2_ne _ _ d, up2_ne _ _ c, up2_ne _ _ c, up2_ne _ _ d]
theorem up2_th {α : Type} {f : Nat → Nat → α} {k i k2 i2 : Nat} {a b c : α} (h : ¬ (k = k2 ∧ i = i2)) : up2 (up2 (up2 f k i a) k2 i2 b) k i c = up2 (up2 f k2 i2 b) k i c := by
  rw [up2_comm h, up2_up2]
theorem up2_nop {α : Type} {f : Nat → Nat → α} {k i : Nat} {a : α} (h : f k i = a) : up2 f k i a = f := by
  funext k' i'
  by_cases c : k' = k ∧ i' = i
  · obtain ⟨rfl, rfl⟩ := c; rw [up2_same, h]
  · rw [up2_ne _ _ c]
theorem ceL_ne {g : gT} {ce : Nat → Nat → va_E} {i k j : Nat} : ∀ {ks : List Nat}, k ∉ ks → ceL g ce i ks k j = ce k j
  | [], _ => rfl
  | k' :: ks, h => by
    unfold ceL
    rw [up2_ne _ _ (fun c => h (by rw [c.1]; exact List.mem_cons_self)), ceL_ne (fun c => h (List.mem_cons_of_mem _ c))]
theorem ceL_in {g : gT} {ce : Nat → Nat → va_E} {i k : Nat} : ∀ {ks : List Nat}, k ∈ ks → ceL g ce i ks k i = fz g k i
  | [], h => by cases h
  | k' :: ks, h => by
    unfold ceL
    by_cases c : k = k'
    · subst c; rw [up2_same]
    · rw [up2_ne _ _ (fun q => c q.1)]
      exact ceL_in ((List.mem_cons.mp h).resolve_left c)
theorem ceL_j {g : gT} {ce : Nat → Nat → va_E} {i k j : Nat} (hj : j ≠ i) : ∀ {ks : List Nat}, ceL g ce i ks k j = ce k j
  | [] => rfl
  | k' :: ks => by
    unfold ceL
    rw [up2_ne _ _ (fun q => hj q.2), ceL_j hj]
theorem dmL_iff {dm : Nat → Nat → Prop} {i k j : Nat} : ∀ {ks : List Nat}, dmL dm i ks k j ↔ (dm k j ∨ (j = i ∧ k ∈ ks))
  | [] => ⟨fun h => Or.inl h, fun h => h.elim id (fun c => by cases c.2)⟩
  | k' :: ks => by
    unfold dmL
    by_cases c : k = k' ∧ j = i
    · obtain ⟨rfl, rfl⟩ := c
      rw [up2_same]
      exact ⟨fun _ => Or.inr ⟨rfl, List.mem_cons_self⟩, fun _ => trivial⟩
    · rw [up2_ne _ _ c, dmL_iff]
      refine ⟨fun h => h.imp id (fun q => ⟨q.1, List.mem_cons_of_mem _ q.2⟩), fun h => h.imp id (fun q => ⟨q.1, ?_⟩)⟩
      rcases List.mem_cons.mp q.2 with h | h
      · exact absurd ⟨h, q.1⟩ c
      · exact h
theorem ceL_up {g : gT} {ce : Nat → Nat → va_E} {i kt it : Nat} {x : va_E} : ∀ {ks : List Nat}, kt ∉ ks → ceL g (up2 ce kt it x) i ks = up2 (ceL g ce i ks) kt it x
  | [], _ => rfl
  | k :: ks, h => by
    unfold ceL
    rw [ceL_up (fun c => h (List.mem_cons_of_mem _ c)), up2_comm (fun c => h (by rw [c.1]; exact List.mem_cons_self))]
section LF
variable {p : Program} {l : Launch} {e : Env} {R : Room} {s : State} {m : MethodId} {args : Array Value} {below : List Frame} {meth : Method} {c : Code} {H : Heap} {locs : List Loc} {cells slots : Nat} {Q : State → Prop}
variable {cc : ByteArray} {nL : Nat} {own : String} {ret : Option FieldType} {pc : Nat} {ls : Array Slot} {rest : List Value} {g : gT}
variable {dm : Nat → Nat → Prop} {ce : Nat → Nat → va_E}
/-- a new array goes into a final field -/
theorem r_fld (C : cxt p s m meth c args cc nL own ret) (hin2 : meth.name = "<init>") (G : gst g s) (kt i ci : Nat) {ks : List Nat} {fs : List Value} {n0 : Nat} (hI : iw (gD g) (gz g) (ga g) (dmL dm i ks) (up2 (ceL g ce i ks) kt i (.inr (ci, fs))) H ∧ H.size = n0) (hS : va_S (zA (gz g)) s.heap H locs) (hd : dm kt i) (kA : Nat) (hkA : ¬ kt = kA) (hq : ga g kA i = n0) {atype : ArrayType} {ty : FieldType} (harr : Cond.arrayClass ty ∈ Tg) (hty : newarray.typeOf atype = ty) (t : Nat) {cA : ClassId} (ht : (tyl g)[t]? = some (cA, ty)) (hRA : va_RA s cA ty → s.vm.findClass ("[" ++ ty.toString) = some cA)
    {n : Int32} {N' : Nat} {a0 : vp_A} (ha : ∀ cA : ClassId, vp_cell cA a0 = arrV cA N' (fun _ => defaultValue ty)) (hfz : fz g kA i = .inl (cA, a0)) (hn : ¬ n < 0) (hN : n.toNatClampNeg = N') (hbytes : N' * componentBytes ty ≤ 536870912) (hcells : cells + 1 ≤ R.cells) (hslots : slots + N' ≤ R.slots) (hdg : decode cc pc = .ok (.newarray atype, 2))
    {Cn ref : String} {T : u_T} {N index : Nat} (hc : vwCl[ci]? = some (Cn, T, N)) (hin : ∀ w ∈ u_ws Cn T N, w ∈ Tg) (ty0 : Nat → FieldType) (hty0 : ∀ k, k < N → parseFieldDescriptor (T k).2.2.1 = some (ty0 k)) (hnm : ∀ a, a < N → ∀ b, b < N → a ≠ b → (T a).2.1 ≠ (T b).2.1) (j : Nat) (hj : j < N) (hl : Cond.fieldLink own index ref (T j).2.1 (T j).2.2.1 ∈ Tg) (hsame : ∀ y, s.fieldFound? (T j).1 (T j).2.1 (T j).2.2.1 = some y → s.fieldFound? ref (T j).2.1 (T j).2.2.1 = some y) (hfin : (T j).2.2.2 = true) (hdecl : (T j).1 = own) {tyf : FieldType} (hdc : parseFieldDescriptor (T j).2.2.1 = some tyf) (hnr : ∀ a, narrow tyf (.ref a) = .ref a) (hfit : ∀ a, fits tyf (.ref a) = true) (hlen : j < fs.length) (hdg2 : decode cc (pc + 2) = .ok (.putfield index, 3))
    (kk : ∀ (H1 : Heap) (locs1 : List Loc), iw (gD g) (gz g) (ga g) (dmL dm i (kA :: ks)) (up2 (ceL g ce i (kA :: ks)) kt i (.inr (ci, fs.set j (.ref (ga g kA i))))) H1 ∧ H1.size = n0 + 1 → va_S (zA (gz g)) s.heap H1 locs1 → W p l e R s m args below meth c H1 locs1 (cells + 1) (slots + N') Q (F0 m (pc + 5) ls rest)) : W p l e R s m args below meth c H locs cells slots Q (F0 m pc ls (.int n :: .ref (ga g kt i) :: rest)) := by
  obtain ⟨hI, hz⟩ := hI
  refine r_newa C G hI hS kA i (hz.trans hq.symm) harr hty t ht hRA ha hn hN hbytes hcells hslots hdg (fun H1 hI1 hS1 hz1 => ?_)
  rw [up2_comm (fun c => hkA c.1)] at hI1
  refine r_putF C G hI1 hS1 kt i ?_ (up2_same _ _ _ _) hc hin ty0 hty0 hnm j hj hl hsame hfin hin2 hdecl hdc (hnr _) (hfit _) hlen hdg2 (fun H2 locs2 hI2 hS2 hz2 => ?_)
  · rw [up2_ne _ _ (fun c => hkA c.1)]
    exact dmL_iff.mpr (Or.inl hd)
  · rw [up2_up2] at hI2
    refine kk H2 locs2 ⟨?_, by rw [hz2, hz1, hz]⟩ hS2
    unfold dmL ceL
    rw [hfz]
    exact hI2
end LF

theorem mi_X5_init : mtI yX5_init cX5_init 1 0 := ⟨ki_X5_init, kI_X5, kc_X5_init, by decide +kernel⟩
set_option maxHeartbeats 8000000 in
set_option maxRecDepth 100000 in
theorem k_X5_init (l : Launch) (g : gT) {dm : Nat → Nat → Prop} {ce : Nat → Nat → va_E} (hd : dm 4 0) (he : ce 4 0 = .inr (6, [.int 0, .int 0, .int 0, .int 0, .int 0, .int 0, .int 0])) (n0 : Nat)  :
    Kr l yX5_init cX5_init 1 none 1 12 0 0 g [.ref (ga g 4 0)] (fun H => iw (gD g) (gz g) (ga g) dm ce H ∧ H.size = n0) (fun v H => v = none ∧ iw (gD g) (gz g) (ga g) (dmL dm 0 []) (up2 (ceL g ce 0 []) 4 0 (fz g 4 0)) H ∧ H.size = n0 + 0) := by
  refine Kr.of (by decide) (fun p e s m below meth c C hnm G hP => ?_)
  have hl := lv_entry ([.ref (ga g 4 0)]) (n := 1) (Nat.le_of_ble_eq_true rfl)
  rw [lg_entry_eq]
  generalize (lg_sl ([.ref (ga g 4 0)]) ++ List.replicate (1 - (lg_sl ([.ref (ga g 4 0)])).length) Slot.unset).toArray = ls at hl ⊢
  have hl : lv_has ls 1 [(0, .ref (ga g 4 0))] := hl
  obtain ⟨hx, hb, hml, hown, hts, hlk, hrt⟩ := id C
  have hI : iw (gD g) (gz g) (ga g) (dmL dm 0 []) (up2 (ceL g ce 0 []) 4 0 (.inr (6, [.int 0, .int 0, .int 0, .int 0, .int 0, .int 0, .int 0]))) s.heap ∧ s.heap.size = n0 := ⟨by show iw _ _ _ dm (up2 ce 4 0 _) _; rw [up2_nop he]; exact hP.1, hP.2⟩
  have hS : va_S (zA (gz g)) s.heap s.heap [] := va_S.rf
  clear hP
  refine lv_aload_n hx hb dX5_init_0 rfl (lv_at hl 0 rfl) ?_
  refine r_obj C km_X5_1 (ga g 4 0) hl.1 (by decide) dX5_init_1 ?_
  exact r_vret C ⟨rfl, hI⟩ hS (by decide) (by decide) dX5_init_4

theorem mi_X8_init : mtI yX8_init cX8_init 1 0 := ⟨ki_X8_init, kI_X8, kc_X8_init, by decide +kernel⟩
set_option maxHeartbeats 8000000 in
set_option maxRecDepth 100000 in
theorem k_X8_init (l : Launch) (g : gT) {dm : Nat → Nat → Prop} {ce : Nat → Nat → va_E} (hd : dm 2 0) (he : ce 2 0 = .inr (8, [.int 0, .int 0, .int 0, .int 0, .int 0, .int 0, .null])) (n0 : Nat) (hq0 : ga g 3 0 = n0 + 0) :
    Kr l yX8_init cX8_init 1 none 1 12 1 300 g [.ref (ga g 2 0)] (fun H => iw (gD g) (gz g) (ga g) dm ce H ∧ H.size = n0) (fun v H => v = none ∧ iw (gD g) (gz g) (ga g) (dmL dm 0 [3]) (up2 (ceL g ce 0 [3]) 2 0 (fz g 2 0)) H ∧ H.size = n0 + 1) := by
  refine Kr.of (by decide) (fun p e s m below meth c C hnm G hP => ?_)
  have hl := lv_entry ([.ref (ga g 2 0)]) (n := 1) (Nat.le_of_ble_eq_true rfl)
  rw [lg_entry_eq]
  generalize (lg_sl ([.ref (ga g 2 0)]) ++ List.replicate (1 - (lg_sl ([.ref (ga g 2 0)])).length) Slot.unset).toArray = ls at hl ⊢
  have hl : lv_has ls 1 [(0, .ref (ga g 2 0))] := hl
  obtain ⟨hx, hb, hml, hown, hts, hlk, hrt⟩ := id C
  have hI : iw (gD g) (gz g) (ga g) (dmL dm 0 []) (up2 (ceL g ce 0 []) 2 0 (.inr (8, [.int 0, .int 0, .int 0, .int 0, .int 0, .int 0, .null]))) s.heap ∧ s.heap.size = n0 := ⟨by show iw _ _ _ dm (up2 ce 2 0 _) _; rw [up2_nop he]; exact hP.1, hP.2⟩
  have hS : va_S (zA (gz g)) s.heap s.heap [] := va_S.rf
  clear hP
  refine lv_aload_n hx hb dX8_init_0 rfl (lv_at hl 0 rfl) ?_
  refine r_obj C km_X8_3 (ga g 2 0) hl.1 (by decide) dX8_init_1 ?_
  refine lv_aload_n hx hb dX8_init_4 rfl (lv_at hl 0 rfl) ?_
  refine lv_sipush (v := 300) hx hb dX8_init_5 (by decide) ?_
  refine r_fld C hnm G 2 0 8 hI hS hd 3 (by decide) hq0 (ty := .int) kA_int rfl 0 (cA := gy g 0) rfl (fun h => h) (N' := 300) (a0 := (300, .inl (fun _ => 0))) (fun _ => rfl) rfl (by decide) (by decide) (by decide) (by decide) (by decide) dX8_init_8 rfl in_X8 tyX8 tyX8_ok nmX8 6 (by decide) kf_X8_11 (fun _ h => h) rfl rfl (tyf := .array .int) (by decide +kernel) (fun _ => rfl) (fun _ => rfl) (Nat.le_of_ble_eq_true rfl) dX8_init_10 (fun H locs hI hS => ?_)
  have hI : iw (gD g) (gz g) (ga g) (dmL dm 0 [3]) (up2 (ceL g ce 0 [3]) 2 0 (.inr (8, [.int 0, .int 0, .int 0, .int 0, .int 0, .int 0, .ref (ga g 3 0)]))) H ∧ H.size = n0 + 1 := hI
  exact r_vret C ⟨rfl, hI⟩ hS (by decide) (by decide) dX8_init_13

theorem mi_X9_init : mtI yX9_init cX9_init 1 0 := ⟨ki_X9_init, kI_X9, kc_X9_init, by decide +kernel⟩
set_option maxHeartbeats 8000000 in
set_option maxRecDepth 100000 in
theorem k_X9_init (l : Launch) (g : gT) {dm : Nat → Nat → Prop} {ce : Nat → Nat → va_E} (hd : dm 5 0) (he : ce 5 0 = .inr (9, [.null, .null, .null, .null, .int 0, .int 0])) (n0 : Nat) (hq0 : ga g 6 0 = n0 + 0) (hq1 : ga g 7 0 = n0 + 1) (hq2 : ga g 8 0 = n0 + 2) (hq3 : ga g 9 0 = n0 + 3) :
    Kr l yX9_init cX9_init 1 none 1 12 4 6600 g [.ref (ga g 5 0)] (fun H => iw (gD g) (gz g) (ga g) dm ce H ∧ H.size = n0) (fun v H => v = none ∧ iw (gD g) (gz g) (ga g) (dmL dm 0 [9, 8, 7, 6]) (up2 (ceL g ce 0 [9, 8, 7, 6]) 5 0 (fz g 5 0)) H ∧ H.size = n0 + 4) := by
  refine Kr.of (by decide) (fun p e s m below meth c C hnm G hP => ?_)
  have hl := lv_entry ([.ref (ga g 5 0)]) (n := 1) (Nat.le_of_ble_eq_true rfl)
  rw [lg_entry_eq]
  generalize (lg_sl ([.ref (ga g 5 0)]) ++ List.replicate (1 - (lg_sl ([.ref (ga g 5 0)])).length) Slot.unset).toArray = ls at hl ⊢
  have hl : lv_has ls 1 [(0, .ref (ga g 5 0))] := hl
  obtain ⟨hx, hb, hml, hown, hts, hlk, hrt⟩ := id C
  have hI : iw (gD g) (gz g) (ga g) (dmL dm 0 []) (up2 (ceL g ce 0 []) 5 0 (.inr (9, [.null, .null, .null, .null, .int 0, .int 0]))) s.heap ∧ s.heap.size = n0 := ⟨by show iw _ _ _ dm (up2 ce 5 0 _) _; rw [up2_nop he]; exact hP.1, hP.2⟩
  have hS : va_S (zA (gz g)) s.heap s.heap [] := va_S.rf
  clear hP
  refine lv_aload_n hx hb dX9_init_0 rfl (lv_at hl 0 rfl) ?_
  refine r_obj C km_X9_5 (ga g 5 0) hl.1 (by decide) dX9_init_1 ?_
  refine lv_aload_n hx hb dX9_init_4 rfl (lv_at hl 0 rfl) ?_
  refine lv_sipush (v := 4800) hx hb dX9_init_5 (by decide) ?_
  refine r_fld C hnm G 5 0 9 hI hS hd 6 (by decide) hq0 (ty := .int) kA_int rfl 0 (cA := gy g 0) rfl (fun h => h) (N' := 4800) (a0 := (4800, .inl (fun _ => 0))) (fun _ => rfl) rfl (by decide) (by decide) (by decide) (by decide) (by decide) dX9_init_8 rfl in_X9 tyX9 tyX9_ok nmX9 0 (by decide) kf_X9_11 (fun _ h => h) rfl rfl (tyf := .array .int) (by decide +kernel) (fun _ => rfl) (fun _ => rfl) (Nat.le_of_ble_eq_true rfl) dX9_init_10 (fun H locs hI hS => ?_)
  have hI : iw (gD g) (gz g) (ga g) (dmL dm 0 [6]) (up2 (ceL g ce 0 [6]) 5 0 (.inr (9, [.ref (ga g 6 0), .null, .null, .null, .int 0, .int 0]))) H ∧ H.size = n0 + 1 := hI
  refine lv_aload_n hx hb dX9_init_13 rfl (lv_at hl 0 rfl) ?_
  refine lv_sipush (v := 600) hx hb dX9_init_14 (by decide) ?_
  refine r_fld C hnm G 5 0 9 hI hS hd 7 (by decide) hq1 (ty := .int) kA_int rfl 0 (cA := gy g 0) rfl (fun h => h) (N' := 600) (a0 := (600, .inl (fun _ => 0))) (fun _ => rfl) rfl (by decide) (by decide) (by decide) (by decide) (by decide) dX9_init_17 rfl in_X9 tyX9 tyX9_ok nmX9 1 (by decide) kf_X9_15 (fun _ h => h) rfl rfl (tyf := .array .int) (by decide +kernel) (fun _ => rfl) (fun _ => rfl) (Nat.le_of_ble_eq_true rfl) dX9_init_19 (fun H locs hI hS => ?_)
  have hI : iw (gD g) (gz g) (ga g) (dmL dm 0 [7, 6]) (up2 (ceL g ce 0 [7, 6]) 5 0 (.inr (9, [.ref (ga g 6 0), .ref (ga g 7 0), .null, .null, .int 0, .int 0]))) H ∧ H.size = n0 + 2 := hI
  refine lv_aload_n hx hb dX9_init_22 rfl (lv_at hl 0 rfl) ?_
  refine lv_sipush (v := 600) hx hb dX9_init_23 (by decide) ?_
  refine r_fld C hnm G 5 0 9 hI hS hd 8 (by decide) hq2 (ty := .int) kA_int rfl 0 (cA := gy g 0) rfl (fun h => h) (N' := 600) (a0 := (600, .inl (fun _ => 0))) (fun _ => rfl) rfl (by decide) (by decide) (by decide) (by decide) (by decide) dX9_init_26 rfl in_X9 tyX9 tyX9_ok nmX9 2 (by decide) kf_X9_18 (fun _ h => h) rfl rfl (tyf := .array .int) (by decide +kernel) (fun _ => rfl) (fun _ => rfl) (Nat.le_of_ble_eq_true rfl) dX9_init_28 (fun H locs hI hS => ?_)
  have hI : iw (gD g) (gz g) (ga g) (dmL dm 0 [8, 7, 6]) (up2 (ceL g ce 0 [8, 7, 6]) 5 0 (.inr (9, [.ref (ga g 6 0), .ref (ga g 7 0), .ref (ga g 8 0), .null, .int 0, .int 0]))) H ∧ H.size = n0 + 3 := hI
  refine lv_aload_n hx hb dX9_init_31 rfl (lv_at hl 0 rfl) ?_
  refine lv_sipush (v := 600) hx hb dX9_init_32 (by decide) ?_
  refine r_fld C hnm G 5 0 9 hI hS hd 9 (by decide) hq3 (ty := .int) kA_int rfl 0 (cA := gy g 0) rfl (fun h => h) (N' := 600) (a0 := (600, .inl (fun _ => 0))) (fun _ => rfl) rfl (by decide) (by decide) (by decide) (by decide) (by decide) dX9_init_35 rfl in_X9 tyX9 tyX9_ok nmX9 3 (by decide) kf_X9_21 (fun _ h => h) rfl rfl (tyf := .array .int) (by decide +kernel) (fun _ => rfl) (fun _ => rfl) (Nat.le_of_ble_eq_true rfl) dX9_init_37 (fun H locs hI hS => ?_)
  have hI : iw (gD g) (gz g) (ga g) (dmL dm 0 [9, 8, 7, 6]) (up2 (ceL g ce 0 [9, 8, 7, 6]) 5 0 (.inr (9, [.ref (ga g 6 0), .ref (ga g 7 0), .ref (ga g 8 0), .ref (ga g 9 0), .int 0, .int 0]))) H ∧ H.size = n0 + 4 := hI
  exact r_vret C ⟨rfl, hI⟩ hS (by decide) (by decide) dX9_init_40

theorem mi_X2_init : mtI yX2_init cX2_init 1 0 := ⟨ki_X2_init, kI_X2, kc_X2_init, by decide +kernel⟩
set_option maxHeartbeats 8000000 in
set_option maxRecDepth 100000 in
theorem k_X2_init (l : Launch) (g : gT) (i : Nat) {dm : Nat → Nat → Prop} {ce : Nat → Nat → va_E} (hd : dm 12 i) (he : ce 12 i = .inr (3, [.null, .null, .int 0, .int 0, .int 0, .int 0])) (n0 : Nat) (hq0 : ga g 13 i = n0 + 0) (hq1 : ga g 14 i = n0 + 1) :
    Kr l yX2_init cX2_init 1 none 1 12 2 9 g [.ref (ga g 12 i)] (fun H => iw (gD g) (gz g) (ga g) dm ce H ∧ H.size = n0) (fun v H => v = none ∧ iw (gD g) (gz g) (ga g) (dmL dm i [14, 13]) (up2 (ceL g ce i [14, 13]) 12 i (fz g 12 i)) H ∧ H.size = n0 + 2) := by
  refine Kr.of (by decide) (fun p e s m below meth c C hnm G hP => ?_)
  have hl := lv_entry ([.ref (ga g 12 i)]) (n := 1) (Nat.le_of_ble_eq_true rfl)
  rw [lg_entry_eq]
  generalize (lg_sl ([.ref (ga g 12 i)]) ++ List.replicate (1 - (lg_sl ([.ref (ga g 12 i)])).length) Slot.unset).toArray = ls at hl ⊢
  have hl : lv_has ls 1 [(0, .ref (ga g 12 i))] := hl
  obtain ⟨hx, hb, hml, hown, hts, hlk, hrt⟩ := id C
  have hI : iw (gD g) (gz g) (ga g) (dmL dm i []) (up2 (ceL g ce i []) 12 i (.inr (3, [.null, .null, .int 0, .int 0, .int 0, .int 0]))) s.heap ∧ s.heap.size = n0 := ⟨by show iw _ _ _ dm (up2 ce 12 i _) _; rw [up2_nop he]; exact hP.1, hP.2⟩
  have hS : va_S (zA (gz g)) s.heap s.heap [] := va_S.rf
  clear hP
  refine lv_aload_n hx hb dX2_init_0 rfl (lv_at hl 0 rfl) ?_
  refine r_obj C km_X2_3 (ga g 12 i) hl.1 (by decide) dX2_init_1 ?_
  refine lv_aload_n hx hb dX2_init_4 rfl (lv_at hl 0 rfl) ?_
  refine lv_bipush (v := 6) hx hb dX2_init_5 (by decide) ?_
  refine r_fld C hnm G 12 i 3 hI hS hd 13 (by decide) hq0 (ty := .int) kA_int rfl 0 (cA := gy g 0) rfl (fun h => h) (N' := 6) (a0 := (6, .inl (fun _ => 0))) (fun _ => rfl) rfl (by decide) (by decide) (by decide) (by decide) (by decide) dX2_init_7 rfl in_X2 tyX2 tyX2_ok nmX2 0 (by decide) kf_X2_9 (fun _ h => h) rfl rfl (tyf := .array .int) (by decide +kernel) (fun _ => rfl) (fun _ => rfl) (Nat.le_of_ble_eq_true rfl) dX2_init_9 (fun H locs hI hS => ?_)
  have hI : iw (gD g) (gz g) (ga g) (dmL dm i [13]) (up2 (ceL g ce i [13]) 12 i (.inr (3, [.ref (ga g 13 i), .null, .int 0, .int 0, .int 0, .int 0]))) H ∧ H.size = n0 + 1 := hI
  refine lv_aload_n hx hb dX2_init_12 rfl (lv_at hl 0 rfl) ?_
  refine lv_iconst (v := 3) hx hb dX2_init_13 (by decide) ?_
  refine r_fld C hnm G 12 i 3 hI hS hd 14 (by decide) hq1 (ty := .int) kA_int rfl 0 (cA := gy g 0) rfl (fun h => h) (N' := 3) (a0 := (3, .inl (fun _ => 0))) (fun _ => rfl) rfl (by decide) (by decide) (by decide) (by decide) (by decide) dX2_init_14 rfl in_X2 tyX2 tyX2_ok nmX2 1 (by decide) kf_X2_15 (fun _ h => h) rfl rfl (tyf := .array .int) (by decide +kernel) (fun _ => rfl) (fun _ => rfl) (Nat.le_of_ble_eq_true rfl) dX2_init_16 (fun H locs hI hS => ?_)
  have hI : iw (gD g) (gz g) (ga g) (dmL dm i [14, 13]) (up2 (ceL g ce i [14, 13]) 12 i (.inr (3, [.ref (ga g 13 i), .ref (ga g 14 i), .int 0, .int 0, .int 0, .int 0]))) H ∧ H.size = n0 + 2 := hI
  exact r_vret C ⟨rfl, hI⟩ hS (by decide) (by decide) dX2_init_19

