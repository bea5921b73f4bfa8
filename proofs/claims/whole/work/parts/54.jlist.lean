/-! arrays of references are copied; the JDK's growing of a list -/
theorem ki_getClass : Cond.instanceMethod ⟨"java/lang/Object", "getClass", "()Ljava/lang/Class;"⟩ ∈ Tg := List.mem_filter.mpr ⟨List.mem_of_getElem? (i := 376) (by decide +kernel), by decide +kernel⟩
theorem kl_getClass : Cond.selects "[Ljava/lang/Object;" ⟨"java/lang/Object", "getClass", "()Ljava/lang/Class;"⟩ ⟨"java/lang/Object", "getClass", "()Ljava/lang/Class;"⟩ ∈ Tg := List.mem_filter.mpr ⟨List.mem_of_getElem? (i := 1038) (by decide +kernel), by decide +kernel⟩
theorem kn_getClass : Cond.native ⟨"java/lang/Object", "getClass", "()Ljava/lang/Class;"⟩ ∈ Tg := List.mem_filter.mpr ⟨List.mem_of_getElem? (i := 391) (by decide +kernel), by decide +kernel⟩
section LQ
variable {p : Program} {l : Launch} {e : Env} {R : Room} {s : State} {m : MethodId} {args : Array Value} {below : List Frame} {meth : Method} {c : Code} {H : Heap} {locs : List Loc} {cells slots : Nat} {Q : State → Prop}
variable {cc : ByteArray} {nL : Nat} {own : String} {ret : Option FieldType} {pc : Nat} {ls : Array Slot} {rest : List Value} {g : gT}
variable {ad : Nat → Nat → Nat} {dm : Nat → Nat → Prop} {ce : Nat → Nat → va_E} {post : Option Value → Heap → Prop}
theorem r_alen (C : cxt p s m meth c args cc nL own ret) (G : gst g s) (hI : iw (gD g) (gz g) ad dm ce H) (k i : Nat) (hd : dm k i) (t0 : Nat) {cA : ClassId} {y : vp_A} {ty : FieldType} (he : ce k i = .inl (cA, y)) (ht : (tyl g)[t0]? = some (cA, ty)) {v : Int32} (hv : Int32.ofNat y.1 = v) (hdg : decode cc pc = .ok (.arraylength, 1))
    (kk : W p l e R s m args below meth c H locs cells slots Q (F0 m (pc + 1) ls (.int v :: rest))) : W p l e R s m args below meth c H locs cells slots Q (F0 m pc ls (.ref (ad k i) :: rest)) :=
  va_alen C.1 C.2.1 G.2.1 (hI.at k i hd he) 0 t0 rfl ht hv hdg kk
/-- System.arraycopy between two arrays of Objects -/
theorem r_copyq (C : cxt p s m meth c args cc nL own ret) (G : gst g s) (hI : iw (gD g) (gz g) ad dm ce H) (hS : va_S (zA (gz g)) s.heap H locs) (ks is kd id_ : Nat) (hds : dm ks is) (hdd : dm kd id_) {n0 n1 : Nat} {f f1 : Nat → Option Nat} (hes : ce ks is = .inl (gy g 3, n0, qa f)) (hed : ce kd id_ = .inl (gy g 3, n1, qa f1)) {Cn : String} {index : Nat} (hl : Cond.methodLink own index arraycopyName ∈ Tg) (hml : nL = ls.size) {sp dp n : Int32} (h1 : ¬ sp < 0) (h2 : ¬ dp < 0) (h3 : ¬ n < 0) (h4 : sp.toNatClampNeg + n.toNatClampNeg ≤ n0) (h5 : dp.toNatClampNeg + n.toNatClampNeg ≤ n1) (hel : ∀ i : Nat, i < n.toNatClampNeg → ∀ y : Nat, f (sp.toNatClampNeg + i) = some y → ∃ cellV : Cell, H[y]? = some cellV ∧ cellV.vm.isStatics = false ∧ s.vm.findClass Cn = some cellV.cls) (hasg : ∀ comp c0 : ClassId, s.vm.findClass "java/lang/Object" = some comp → s.vm.findClass Cn = some c0 → s.vm.assignable c0 comp = true)
    (hframes : 1 ≤ R.frames) (hlocals : (rest.map fun v => v.category).sum + (nativeFrameWords "java/lang/System" "arraycopy" 5 + 11) ≤ R.locals) (hdg : decode cc pc = .ok (.invokestatic index, 3))
    (kk : ∀ (H1 : Heap) (locs1 : List Loc), iw (gD g) (gz g) ad dm (up2 ce kd id_ (.inl (gy g 3, n1, qa (va_cpy f f1 sp.toNatClampNeg dp.toNatClampNeg n.toNatClampNeg)))) H1 → va_S (zA (gz g)) s.heap H1 locs1 → H1.size = H.size → W p l e R s m args below meth c H1 locs1 cells slots Q (F0 m (pc + 3) ls rest)) : W p l e R s m args below meth c H locs cells slots Q (F0 m pc ls (.int n :: .int dp :: .ref (ad kd id_) :: .int sp :: .ref (ad ks is) :: rest)) := by
  have hts := C.2.2.2.2.1
  have nn : ∀ z : Int32, ¬ z < 0 → z.toInt = (z.toNatClampNeg : Int) := by
    intro z hz
    have hz0 : (0 : Int) ≤ z.toInt := by
      have := Int32.not_lt.mp hz
      simpa using Int32.le_iff_toInt_le.mp this
    show z.toInt = ((z.toInt.toNat : Nat) : Int)
    omega
  intro T hT X
  have hc0 : H[ad ks is]? = some (vp_cell (gy g 3) (n0, qa f)) := hI.at ks is hds hes 0 _ rfl
  have hc1 : H[ad kd id_]? = some (vp_cell (gy g 3) (n1, qa f1)) := hI.at kd id_ hdd hed 0 _ rfl
  obtain ⟨-, k0, hk0, cm0, hkk0⟩ := (G.2.1.2 3 (gy g 3, .object "java/lang/Object") rfl).1 n0 (fun j => va_rf (f j))
  obtain ⟨-, k1, hk1, cm1, hkk1⟩ := (G.2.1.2 3 (gy g 3, .object "java/lang/Object") rfl).1 n1 (fun j => va_rf (f1 j))
  obtain ⟨vm', X', step⟩ := X.arraycopy C.1 C.2.2.2.1 (hts _ hl) (hts _ kn_arraycopy) (hts _ ks_arraycopy) (hts _ kI_J10) (src := ad ks is) (dst := ad kd id_) (cs := vp_cell (gy g 3) (n0, qa f)) (cd := vp_cell (gy g 3) (n1, qa f1)) (srcPos := sp) (destPos := dp) (n := n) (by rw [hT]; exact hc0) (by rw [hT]; exact hc1)
    (fun _ h => by cases h) (fun _ h => by cases h) (fun h => by cases h) (fun h => by cases h) hk0 hk1 hkk0 hkk1 rfl h1 h2 h3
    (by rw [nn sp h1, nn n h3]; show ¬ _ > ((arrV (gy g 3) n0 (fun j => va_rf (f j))).slots.size : Int); rw [arrV_size]; omega)
    (by rw [nn dp h2, nn n h3]; show ¬ _ > ((arrV (gy g 3) n1 (fun j => va_rf (f1 j))).slots.size : Int); rw [arrV_size]; omega)
    (fun vm₁ hal i hi => by
      have e : (vp_cell (gy g 3) (n0, qa f)).slots.getD (sp.toNatClampNeg + i) .null = va_rf (f (sp.toNatClampNeg + i)) := by
        show (arrV (gy g 3) n0 (fun j => va_rf (f j))).slots.getD _ _ = _
        rw [Array.getD_eq_getD_getElem?, arrV_read _ _ (by omega)]
        rfl
      rw [e]
      cases hy : f (sp.toNatClampNeg + i) with
      | none => exact ⟨rfl, trivial⟩
      | some y =>
        obtain ⟨cellV, g1, g2, g3⟩ := hel i hi y hy
        obtain ⟨kA, comp, r1, r2, r3, -⟩ := (G.2.1.2 3 (gy g 3, .object "java/lang/Object") rfl).2
        cases hk1.symm.trans r1
        cases hkk1.symm.trans r2
        obtain ⟨kC, hkC, -⟩ := Vm.findClass_spec g3
        obtain ⟨kE, hkE, -⟩ := Vm.findClass_spec r3
        obtain ⟨kC', hkC', -⟩ := hal.2.2 _ _ hkC
        obtain ⟨kE', hkE', -⟩ := hal.2.2 _ _ hkE
        refine ⟨rfl, cellV, (show T.heap[y]? = some cellV by rw [hT]; exact g1), (fun q h => by rw [h] at g2; cases g2), ⟨kC', hkC'⟩, ?_, ?_⟩
        · exact ⟨kE', hkE'⟩
        · show vm₁.assignable _ _ = true
          rw [hal.assignable]
          exact hasg _ _ r3 g3)
    (g := F0 m pc ls (.int n :: .int dp :: .ref (ad kd id_) :: .int sp :: .ref (ad ks is) :: rest)) rfl (by rw [C.2.2.1]; exact hml.symm) (rest := rest) rfl (by rw [C.2.1]; exact hdg) hframes (by show 2 * 0 + _ + _ ≤ _; omega)
  have e1 : copied (vp_cell (gy g 3) (n0, qa f)) (vp_cell (gy g 3) (n1, qa f1)) sp dp n = vp_cell (gy g 3) (n1, qa (va_cpy f f1 sp.toNatClampNeg dp.toNatClampNeg n.toNatClampNeg)) := by
    rw [vp_cell_q, vp_cell_q, vp_cell_q]
    exact va_copied (fun z => va_rf z) (gy g 3) (gy g 3) f f1 h4
  rw [e1] at X' step
  have hl : ad kd id_ < H.size := (Array.getElem?_eq_some_iff.mp hc1).1
  have hheap : ((T.setVm vm').setCell (ad kd id_) (vp_cell (gy g 3) (n1, qa (va_cpy f f1 sp.toNatClampNeg dp.toNatClampNeg n.toNatClampNeg)))).heap = H.setIfInBounds (ad kd id_) (vp_cell (gy g 3) (n1, qa (va_cpy f f1 sp.toNatClampNeg dp.toNatClampNeg n.toNatClampNeg))) := by rw [← hT]; rfl
  have oq : ∀ q : Nat, q ≠ ad kd id_ → (H.setIfInBounds (ad kd id_) (vp_cell (gy g 3) (n1, qa (va_cpy f f1 sp.toNatClampNeg dp.toNatClampNeg n.toNatClampNeg))))[q]? = H[q]? := fun q hq => by simp [Array.getElem?_setIfInBounds, Ne.symm hq]
  obtain ⟨t, a1, b1⟩ := kk _ _ (hI.set hdd (show (H.setIfInBounds (ad kd id_) _)[ad kd id_]? = some _ by simp [Array.getElem?_setIfInBounds, hl]) oq) ⟨by simp; exact hS.1, fun q g1 g2 => by
      rw [oq q (fun e => g2 (by rw [e]; exact hI.2.2 kd id_ hdd))]
      exact hS.2.1 q g1 g2, fun q hq => by
      rcases List.mem_append.mp hq with h | h
      · exact hS.2.2 q h
      · obtain ⟨z, -, hz⟩ := List.mem_map.mp h
        rw [← hz]
        exact hI.2.2 kd id_ hdd⟩ (by simp) _ hheap X'
  exact ⟨t, step t a1, b1⟩
theorem r_ireti {mc ms : Nat} {r : Int32} (C : cxt p s m meth c args cc nL own (some .int)) (hp : post (some (.int r)) H) (hS : va_S (zA (gz g)) s.heap H locs) (h1 : cells ≤ mc) (h2 : slots ≤ ms) (hdg : decode cc pc = .ok (.ireturn, 1)) : W p l e R s m args below meth c H locs cells slots (MQ below (Qr g post) args s mc ms (zA (gz g))) (F0 m pc ls [.int r]) :=
  W.widen h1 h2 (W.iret C.1 C.2.1 C.2.2.2.2.2.2 (fun t ht _ => ⟨⟨_, rfl, by rw [ht]; exact hp⟩, hS.F ht⟩) hS.2.2 hdg C.2.2.2.2.2.1)
theorem r_iretz {mc ms : Nat} {r : Int32} (C : cxt p s m meth c args cc nL own (some .boolean)) (hz : r = 0 ∨ r = 1) (hp : post (some (.int r)) H) (hS : va_S (zA (gz g)) s.heap H locs) (h1 : cells ≤ mc) (h2 : slots ≤ ms) (hdg : decode cc pc = .ok (.ireturn, 1)) : W p l e R s m args below meth c H locs cells slots (MQ below (Qr g post) args s mc ms (zA (gz g))) (F0 m pc ls [.int r]) :=
  W.widen h1 h2 (W.zret C.1 C.2.1 C.2.2.2.2.2.2 (by rcases hz with rfl | rfl <;> rfl) (fun t ht _ => ⟨⟨_, rfl, by rw [ht]; exact hp⟩, hS.F ht⟩) hS.2.2 hdg C.2.2.2.2.2.1)
theorem r_aret {mc ms : Nat} {a : Nat} {rt : FieldType} (C : cxt p s m meth c args cc nL own (some rt)) (hrt : (∃ on, rt = .object on) ∨ ∃ on, rt = .array on) (hp : post (some (.ref a)) H) (hS : va_S (zA (gz g)) s.heap H locs) (h1 : cells ≤ mc) (h2 : slots ≤ ms) (hdg : decode cc pc = .ok (.areturn, 1)) : W p l e R s m args below meth c H locs cells slots (MQ below (Qr g post) args s mc ms (zA (gz g))) (F0 m pc ls [.ref a]) :=
  W.widen h1 h2 (W.aret C.1 C.2.1 C.2.2.2.2.2.2 hrt (Or.inr ⟨_, rfl⟩) (fun t ht _ => ⟨⟨_, rfl, by rw [ht]; exact hp⟩, hS.F ht⟩) hS.2.2 hdg C.2.2.2.2.2.1)
end LQ
theorem mv_getd {n : Nat} : True := trivial
theorem ms_J8_newLength : mtS yJ8_newLength_cabcc RJ8 cJ8_newLength_cabcc 4 (some .int) 3 := ⟨ks_J8_newLength_cabcc, kI_J8, kc_J8_newLength_cabcc, by decide +kernel⟩
theorem ms_J7_copyOf3 : mtS yJ7_copyOf_6403c RJ7 cJ7_copyOf_6403c 4 (some (.array (.object "java/lang/Object"))) 3 := ⟨ks_J7_copyOf_6403c, kI_J7, kc_J7_copyOf_6403c, by decide +kernel⟩
theorem ms_J7_copyOf2 : mtS yJ7_copyOf_1904c RJ7 cJ7_copyOf_1904c 2 (some (.array (.object "java/lang/Object"))) 2 := ⟨ks_J7_copyOf_1904c, kI_J7, kc_J7_copyOf_1904c, by decide +kernel⟩
theorem k_newLength (l : Launch) (g : gT) (a b c0 : Nat) (hb0 : 0 < b) (hr : a + b + c0 < 1000) (P : Heap → Prop) : Kr l yJ8_newLength_cabcc cJ8_newLength_cabcc 4 (some .int) 1 14 0 0 g [.int (nI a), .int (nI b), .int (nI c0)] P (fun v H => v = some (.int (nI (a + (if b < c0 then c0 else b)))) ∧ P H) := by
  refine Kr.of (by decide) (fun p e s m below meth c C hnm G hP => ?_)
  have hl := lv_entry ([.int (nI a), .int (nI b), .int (nI c0)]) (n := 4) (Nat.le_of_ble_eq_true rfl)
  rw [lg_entry_eq]
  generalize (lg_sl ([.int (nI a), .int (nI b), .int (nI c0)]) ++ List.replicate (4 - (lg_sl ([.int (nI a), .int (nI b), .int (nI c0)])).length) Slot.unset).toArray = ls at hl ⊢
  have hl : lv_has ls 4 [(0, .int (nI a)), (1, .int (nI b)), (2, .int (nI c0))] := hl
  obtain ⟨hx, hb, hml, hown, hts, hlk, hrt⟩ := id C
  have hmx : (if nI b < nI c0 then nI c0 else nI b) = nI (if b < c0 then c0 else b) := by
    by_cases h : b < c0
    · rw [if_pos ((nI_ltI (by omega) (by omega)).mpr h), if_pos h]
    · rw [if_neg (fun q => h ((nI_ltI (by omega) (by omega)).mp q)), if_neg h]
  have hle : (if b < c0 then c0 else b) ≤ b + c0 := by split <;> omega
  have hpos : 0 < (if b < c0 then c0 else b) := by split <;> omega
  refine lv_iload_n hx hb dJ8_newLength_cabcc_0 rfl (lv_at hl 0 rfl) ?_
  refine lv_iload_n hx hb dJ8_newLength_cabcc_1 rfl (lv_at hl 1 rfl) ?_
  refine lv_iload_n hx hb dJ8_newLength_cabcc_2 rfl (lv_at hl 2 rfl) ?_
  refine w_max C km_J8_194 hl.1.symm (by decide) (Nat.le_of_ble_eq_true rfl) (Nat.zero_le _) (Nat.zero_le _) dJ8_newLength_cabcc_3 ?_
  rw [hmx]
  refine lv_iadd hx hb dJ8_newLength_cabcc_6 ?_
  rw [nI_add]
  generalize hM : a + (if b < c0 then c0 else b) = M
  have hM1 : 0 < M ∧ M < 1000 := by omega
  refine lv_istore_n (lv' := [(3, .int (nI M)), (0, .int (nI a)), (1, .int (nI b)), (2, .int (nI c0))]) hx hb dJ8_newLength_cabcc_7 rfl hl (by decide) rfl (fun ls hl => ?_)
  refine lv_iconst (v := 0) hx hb dJ8_newLength_cabcc_8 (by decide) ?_
  refine lv_iload_n hx hb dJ8_newLength_cabcc_9 rfl (lv_at hl 0 rfl) ?_
  refine lv_icmp_ge (tgt := 21) hx hb dJ8_newLength_cabcc_10 (by decide) (fun hc => absurd hc (nI_nle hM1.1 (by omega))) (fun hc => ?_)
  refine lv_iload_n hx hb dJ8_newLength_cabcc_13 rfl (lv_at hl 0 rfl) ?_
  refine lv_ldc hx hb hown (hts _ kk_J8_200) dJ8_newLength_cabcc_14 ?_
  refine lv_icmp_gt (tgt := 21) hx hb dJ8_newLength_cabcc_16 (by decide) (fun hc => absurd hc ?_) (fun hc => ?_)
  · rw [show (2147483639 : Int32) = nI 2147483639 from rfl]
    exact nI_nlt (by omega) (by decide)
  refine lv_iload_n hx hb dJ8_newLength_cabcc_19 rfl (lv_at hl 0 rfl) ?_
  exact r_ireti C ⟨rfl, hP⟩ va_S.rf (Nat.le_refl _) (Nat.le_refl _) dJ8_newLength_cabcc_20
