/-! a list grows -/
theorem asg_cast {g : gT} {s : State} (G : gst g s) {Cn : String} (hca : Cond.castable Cn "java/lang/Object" ∈ nestL) : ∀ comp c0 : ClassId, s.vm.findClass "java/lang/Object" = some comp → s.vm.findClass Cn = some c0 → s.vm.assignable c0 comp = true := by
  intro comp c0 h1 h2
  obtain ⟨c1, t1, f1, f2, f3⟩ := Cond.castable_spec (va_Nw.use (A := #[]) rfl (G.2.2.1 _ hca))
  cases h2.symm.trans f1
  cases h1.symm.trans f2
  exact f3
set_option maxHeartbeats 4000000 in
theorem k_copyOf3 (l : Launch) (g : gT) {ad : Nat → Nat → Nat} {dm : Nat → Nat → Prop} {ce : Nat → Nat → va_E} (ks is kn in_ : Nat) (hne : ¬ (ks = kn ∧ is = in_)) (hds : dm ks is) {n N : Nat} {f : Nat → Option Nat} (hes : ce ks is = .inl (gy g 3, n, qa f)) (hnN : n ≤ N) (hN : N < 1000) (n0 : Nat) (hq : ad kn in_ = n0) {ci Nf : Nat} {Cn : String} {T : u_T} (hc : vwCl[ci]? = some (Cn, T, Nf)) (hca : Cond.castable Cn "java/lang/Object" ∈ nestL) (hel : ∀ i y, i < n → f i = some y → ∃ kv iv vs, dm kv iv ∧ ad kv iv = y ∧ ce kv iv = .inr (ci, vs)) :
    Kr l yJ7_copyOf_6403c cJ7_copyOf_6403c 4 (some (.array (.object "java/lang/Object"))) 1 100 1 N g [.ref (ad ks is), .int (nI N), .ref (ge g 21)] (fun H => iw (gD g) (gz g) ad dm ce H ∧ H.size = n0) (fun v H => v = some (.ref (ad kn in_)) ∧ iw (gD g) (gz g) ad (up2 dm kn in_ True) (up2 ce kn in_ (.inl (gy g 3, N, qa (fun j => if j < n then f j else none)))) H ∧ H.size = n0 + 1) := by
  refine Kr.of (by decide) (fun p e s m below meth c C hnm G hP => ?_)
  have hl := lv_entry ([.ref (ad ks is), .int (nI N), .ref (ge g 21)]) (n := 4) (Nat.le_of_ble_eq_true rfl)
  rw [lg_entry_eq]
  generalize (lg_sl ([.ref (ad ks is), .int (nI N), .ref (ge g 21)]) ++ List.replicate (4 - (lg_sl ([.ref (ad ks is), .int (nI N), .ref (ge g 21)])).length) Slot.unset).toArray = ls at hl ⊢
  have hl : lv_has ls 4 [(0, .ref (ad ks is)), (1, .int (nI N)), (2, .ref (ge g 21))] := hl
  obtain ⟨hx, hb, hml, hown, hts, hlk, hrt⟩ := id C
  obtain ⟨hI, hz⟩ := hP
  refine lv_aload_n hx hb dJ7_copyOf_6403c_0 rfl (lv_at hl 2 rfl) ?_
  refine va_ldcM hx hb hown (hts _ kC_J7_110) G.2.2.2.2.2.2.2 dJ7_copyOf_6403c_1 ?_
  refine lv_acmp_ne (rx := some (ge g 21)) (ry := some (ge g 21)) (tgt := 13) hx hb dJ7_copyOf_6403c_3 (by decide) (fun hc => absurd rfl hc) (fun _ => ?_)
  refine lv_iload_n hx hb dJ7_copyOf_6403c_6 rfl (lv_at hl 1 rfl) ?_
  refine r_newq C G hI va_S.rf kn in_ (hz.trans hq.symm) kC_J7_2 G.2.2.2.2.2.2.1.1 3 (cA := gy g 3) rfl (N' := N) (nI_pos (by omega)) (nI_clamp (by omega)) (by omega) (Nat.le_of_ble_eq_true rfl) (by show 0 + N ≤ N; omega) dJ7_copyOf_6403c_7 (fun H1 hI1 hS1 hz1 => ?_)
  refine lv_goto (tgt := 24) hx hb dJ7_copyOf_6403c_10 (by decide) ?_
  refine lv_astore_n (lv' := [(3, .ref (ad kn in_)), (0, .ref (ad ks is)), (1, .int (nI N)), (2, .ref (ge g 21))]) hx hb dJ7_copyOf_6403c_24 rfl hl (by decide) rfl (fun ls hl => ?_)
  refine lv_aload_n hx hb dJ7_copyOf_6403c_25 rfl (lv_at hl 1 rfl) ?_
  refine lv_iconst (v := 0) hx hb dJ7_copyOf_6403c_26 (by decide) ?_
  refine lv_aload_n hx hb dJ7_copyOf_6403c_27 rfl (lv_at hl 0 rfl) ?_
  refine lv_iconst (v := 0) hx hb dJ7_copyOf_6403c_28 (by decide) ?_
  refine lv_aload_n hx hb dJ7_copyOf_6403c_29 rfl (lv_at hl 1 rfl) ?_
  have hds' : up2 dm kn in_ True ks is := by rw [up2_ne _ _ hne]; exact hds
  have hes' : up2 ce kn in_ (.inl (gy g 3, N, qa (fun _ => none))) ks is = .inl (gy g 3, n, qa f) := by rw [up2_ne _ _ hne]; exact hes
  refine r_alen C G hI1 ks is hds' 3 hes' rfl (v := nI n) rfl dJ7_copyOf_6403c_30 ?_
  refine lv_iload_n hx hb dJ7_copyOf_6403c_31 rfl (lv_at hl 2 rfl) ?_
  refine w_min C km_J7_304 hl.1.symm (Nat.le_of_ble_eq_true rfl) (Nat.le_of_ble_eq_true rfl) (Nat.le_of_ble_eq_true rfl) (by show 0 + N ≤ N; omega) dJ7_copyOf_6403c_32 ?_
  rw [if_neg (nI_nlt hnN (by omega))]
  refine r_copyq C G hI1 hS1 ks is kn in_ hds' (by rw [up2_same]; trivial) hes' (up2_same _ _ _ _) (Cn := Cn) km_J7_150 hl.1.symm (by decide) (by decide) (nI_pos (by omega)) (by rw [nI_clamp (by omega), c0]; omega) (by rw [nI_clamp (by omega), c0]; omega) ?_ (asg_cast G hca) (Nat.le_of_ble_eq_true rfl) (Nat.le_of_ble_eq_true rfl) dJ7_copyOf_6403c_35 (fun H2 locs2 hI2 hS2 hz2 => ?_)
  · intro i hi y hy
    rw [nI_clamp (by omega)] at hi
    rw [c0, Nat.zero_add] at hy
    obtain ⟨kv, iv, vs, d1, d2, d3⟩ := hel i y hi hy
    have hnv : ¬ (kv = kn ∧ iv = in_) := by
      intro q
      have := hI.lt d1
      rw [q.1, q.2, hq, hz] at this
      omega
    rw [← d2]
    exact r_recv G hI1 kv iv (by rw [up2_ne _ _ hnv]; exact d1) (by rw [up2_ne _ _ hnv]; exact d3) hc
  · rw [up2_up2, nI_clamp (by omega), c0] at hI2
    have ef : va_cpy f (fun _ => none) 0 0 n = fun j => if j < n then f j else none := by
      funext j
      unfold va_cpy
      by_cases h : j < n
      · rw [if_pos ⟨Nat.zero_le _, by omega⟩, if_pos h]; simp
      · rw [if_neg (fun q => h (by omega)), if_neg h]
    rw [ef] at hI2
    refine lv_aload_n hx hb dJ7_copyOf_6403c_38 rfl (lv_at hl 0 rfl) ?_
    exact r_aret C (Or.inr ⟨_, rfl⟩) ⟨rfl, hI2, by rw [hz2, hz1, hz]⟩ hS2 (Nat.le_of_ble_eq_true rfl) (by show 0 + N ≤ N; omega) dJ7_copyOf_6403c_39
set_option maxHeartbeats 4000000 in
theorem k_copyOf2 (l : Launch) (g : gT) {ad : Nat → Nat → Nat} {dm : Nat → Nat → Prop} {ce : Nat → Nat → va_E} (ks is kn in_ : Nat) (hne : ¬ (ks = kn ∧ is = in_)) (hds : dm ks is) {n N : Nat} {f : Nat → Option Nat} (hes : ce ks is = .inl (gy g 3, n, qa f)) (hnN : n ≤ N) (hN : N < 1000) (n0 : Nat) (hq : ad kn in_ = n0) {ci Nf : Nat} {Cn : String} {T : u_T} (hc : vwCl[ci]? = some (Cn, T, Nf)) (hca : Cond.castable Cn "java/lang/Object" ∈ nestL) (hel : ∀ i y, i < n → f i = some y → ∃ kv iv vs, dm kv iv ∧ ad kv iv = y ∧ ce kv iv = .inr (ci, vs)) :
    Kr l yJ7_copyOf_1904c cJ7_copyOf_1904c 2 (some (.array (.object "java/lang/Object"))) 2 123 1 N g [.ref (ad ks is), .int (nI N)] (fun H => iw (gD g) (gz g) ad dm ce H ∧ H.size = n0) (fun v H => v = some (.ref (ad kn in_)) ∧ iw (gD g) (gz g) ad (up2 dm kn in_ True) (up2 ce kn in_ (.inl (gy g 3, N, qa (fun j => if j < n then f j else none)))) H ∧ H.size = n0 + 1) := by
  refine Kr.of (by decide) (fun p e s m below meth c C hnm G hP => ?_)
  have hl := lv_entry ([.ref (ad ks is), .int (nI N)]) (n := 2) (Nat.le_of_ble_eq_true rfl)
  rw [lg_entry_eq]
  generalize (lg_sl ([.ref (ad ks is), .int (nI N)]) ++ List.replicate (2 - (lg_sl ([.ref (ad ks is), .int (nI N)])).length) Slot.unset).toArray = ls at hl ⊢
  have hl : lv_has ls 2 [(0, .ref (ad ks is)), (1, .int (nI N))] := hl
  obtain ⟨hx, hb, hml, hown, hts, hlk, hrt⟩ := id C
  have hrc : ∃ cell : Cell, s.heap[ad ks is]? = some cell ∧ cell.vm.isStatics = false ∧ s.vm.findClass "[Ljava/lang/Object;" = some cell.cls :=
    ⟨_, hP.1.at ks is hds hes 0 _ rfl, rfl, va_nmO (G.2.1.2 3 (gy g 3, .object "java/lang/Object") rfl).2 (by decide)⟩
  refine lv_aload_n hx hb dJ7_copyOf_1904c_0 rfl (lv_at hl 0 rfl) ?_
  refine lv_iload_n hx hb dJ7_copyOf_1904c_1 rfl (lv_at hl 1 rfl) ?_
  refine lv_aload_n hx hb dJ7_copyOf_1904c_2 rfl (lv_at hl 0 rfl) ?_
  refine va_getC hx hb (hml.trans hl.1.symm) hown (hts _ km_J7_86) (va_Nw.use rfl (G.2.2.1 _ (by decide))) (hts _ kl_getClass) (hts _ ki_getClass) (hts _ kn_getClass) G.2.2.2.2.2.2.2 hrc (Nat.le_of_ble_eq_true rfl) (Nat.le_of_ble_eq_true rfl) dJ7_copyOf_1904c_3 ?_
  refine r_callS (P := fun H => iw (gD g) (gz g) ad dm ce H ∧ H.size = n0) C G hP va_S.rf ms_J7_copyOf3 km_J7_300 [.ref (ad ks is), .int (nI N), .ref (ge g 21)] (k_copyOf3 l g ks is kn in_ hne hds hes hnN hN n0 hq hc hca hel) rfl ⟨Nat.le_of_ble_eq_true rfl, Nat.le_of_ble_eq_true rfl⟩ ⟨Nat.le_of_ble_eq_true rfl, by show 0 + N ≤ N; omega⟩ hl.1 rfl (Nat.le_of_ble_eq_true rfl) dJ7_copyOf_1904c_6 (fun v H1 locs1 hp hS1 => ?_)
  obtain ⟨rfl, hI1, hz1⟩ := hp
  exact r_aret C (Or.inr ⟨_, rfl⟩) ⟨rfl, hI1, hz1⟩ hS1 (Nat.le_of_ble_eq_true rfl) (by show 0 + N ≤ N; omega) dJ7_copyOf_1904c_9
theorem mv_grow1 : mtV yJx4a65c_grow_92f84 RJx4a65c cJx4a65c_grow_92f84 4 (some (.array (.object "java/lang/Object"))) 1 := ⟨ki_Jx4a65c_grow_92f84, kl_Jx4a65c_grow_92f84, kI_Jx4a65c, kc_Jx4a65c_grow_92f84, by decide +kernel⟩
theorem mv_grow0 : mtV yJx4a65c_grow_d5877 RJx4a65c cJx4a65c_grow_d5877 1 (some (.array (.object "java/lang/Object"))) 0 := ⟨ki_Jx4a65c_grow_d5877, kl_Jx4a65c_grow_d5877, kI_Jx4a65c, kc_Jx4a65c_grow_d5877, by decide +kernel⟩
/-- a list whose array is full: it has none yet, or that of key (ka, i), of n places; the new one has N -/
def full (g : gT) (ad : Nat → Nat → Nat) (dm : Nat → Nat → Prop) (ce : Nat → Nat → va_E) (ka i n N ea ci : Nat) (f : Nat → Option Nat) : Prop :=
  (n = 0 ∧ ea = ge g 20 ∧ N = 10) ∨ (0 < n ∧ n < 100 ∧ dm ka i ∧ ea = ad ka i ∧ ce ka i = .inl (gy g 3, n, qa f) ∧ N = n + (if 1 < n / 2 then n / 2 else 1) ∧ ∀ j y, j < n → f j = some y → ∃ kv iv vs, dm kv iv ∧ ad kv iv = y ∧ ce kv iv = .inr (ci, vs))
theorem full.N {g : gT} {ad : Nat → Nat → Nat} {dm : Nat → Nat → Prop} {ce : Nat → Nat → va_E} {ka i n N ea ci : Nat} {f : Nat → Option Nat} (h : full g ad dm ce ka i n N ea ci f) : n < N ∧ N < 200 ∧ n < 100 := by
  rcases h with ⟨h1, -, h3⟩ | ⟨h1, h2, -, -, -, h3, -⟩
  · omega
  · split at h3 <;> omega
set_option maxHeartbeats 4000000 in
theorem k_grow1 (l : Launch) (g : gT) {ad : Nat → Nat → Nat} {dm : Nat → Nat → Prop} {ce : Nat → Nat → va_E} (kl ka i : Nat) (h90 : ¬ kl = 90 ∧ ¬ ka = 90 ∧ ¬ kl = ka) (hd : dm kl i) {c0 : Int32} {n N ea : Nat} (he : ce kl i = .inr (0, [.int c0, .ref ea, .int (nI n)])) {f : Nat → Option Nat} {ci Nf : Nat} {Cn : String} {T : u_T} (hc : vwCl[ci]? = some (Cn, T, Nf)) (hca : Cond.castable Cn "java/lang/Object" ∈ nestL) (hf : full g ad dm ce ka i n N ea ci f) (n0 : Nat) (hq : ad 90 0 = n0) :
    Kr l yJx4a65c_grow_92f84 cJx4a65c_grow_92f84 4 (some (.array (.object "java/lang/Object"))) 3 144 1 N g [.ref (ad kl i), .int (nI (n + 1))] (fun H => iw (gD g) (gz g) ad dm ce H ∧ H.size = n0) (fun v H => v = some (.ref (ad 90 0)) ∧ iw (gD g) (gz g) ad (up2 dm 90 0 True) (up2 (up2 ce 90 0 (.inl (gy g 3, N, qa (fun j => if j < n then f j else none)))) kl i (.inr (0, [.int c0, .ref (ad 90 0), .int (nI n)]))) H ∧ H.size = n0 + 1) := by
  refine Kr.of (by decide) (fun p e s m below meth c C hnm G hP => ?_)
  have hl := lv_entry ([.ref (ad kl i), .int (nI (n + 1))]) (n := 4) (Nat.le_of_ble_eq_true rfl)
  rw [lg_entry_eq]
  generalize (lg_sl ([.ref (ad kl i), .int (nI (n + 1))]) ++ List.replicate (4 - (lg_sl ([.ref (ad kl i), .int (nI (n + 1))])).length) Slot.unset).toArray = ls at hl ⊢
  have hl : lv_has ls 4 [(0, .ref (ad kl i)), (1, .int (nI (n + 1)))] := hl
  obtain ⟨hx, hb, hml, hown, hts, hlk, hrt⟩ := id C
  obtain ⟨hI, hz⟩ := hP
  obtain ⟨hnN, hN2, hn1⟩ := hf.N
  refine lv_aload_n hx hb dJx4a65c_grow_92f84_0 rfl (lv_at hl 0 rfl) ?_
  refine r_get C G hI kl i hd he rfl in_Jx4a65c 1 (by decide) kf_Jx4a65c_9 (fun _ h => h) (v := .ref ea) rfl dJx4a65c_grow_92f84_1 ?_
  rcases hf with ⟨h1, h2, h3⟩ | ⟨h1, h2, h3, h4, h5, h6, h7⟩
  · subst h1
    subst h2
    refine va_tlen hx hb G.2.2.2.2.2.1.2 va_S.rf (v := 0) rfl dJx4a65c_grow_92f84_4 ?_
    refine lv_istore_n (lv' := [(2, .int 0), (0, .ref (ad kl i)), (1, .int (nI (0 + 1)))]) hx hb dJx4a65c_grow_92f84_5 rfl hl (by decide) rfl (fun ls hl => ?_)
    refine lv_iload_n hx hb dJx4a65c_grow_92f84_6 rfl (lv_at hl 0 rfl) ?_
    refine lv_if_gt (tgt := 20) hx hb dJx4a65c_grow_92f84_7 (by decide) (fun hc => absurd hc (by decide)) (fun _ => ?_)
    refine lv_aload_n hx hb dJx4a65c_grow_92f84_10 rfl (lv_at hl 1 rfl) ?_
    refine r_get C G hI kl i hd he rfl in_Jx4a65c 1 (by decide) kf_Jx4a65c_9 (fun _ h => h) (v := .ref (ge g 20)) rfl dJx4a65c_grow_92f84_11 ?_
    refine va_gets hx hb G.2.2.2.2.2.1.1 va_S.rf hown (hts _ kf_Jx4a65c_39) (fun _ h => h) dJx4a65c_grow_92f84_14 ?_
    refine lv_acmp_eq (rx := some (ge g 20)) (ry := some (ge g 20)) (tgt := 45) hx hb dJx4a65c_grow_92f84_17 (by decide) (fun _ => ?_) (fun hc => absurd rfl hc)
    refine lv_aload_n hx hb dJx4a65c_grow_92f84_45 rfl (lv_at hl 1 rfl) ?_
    refine lv_bipush (v := 10) hx hb dJx4a65c_grow_92f84_46 (by decide) ?_
    refine lv_iload_n hx hb dJx4a65c_grow_92f84_48 rfl (lv_at hl 2 rfl) ?_
    refine w_max C km_Jx4a65c_79 hl.1.symm (Nat.le_of_ble_eq_true rfl) (Nat.le_of_ble_eq_true rfl) (Nat.zero_le _) (Nat.zero_le _) dJx4a65c_grow_92f84_49 ?_
    rw [show (if (10 : Int32) < nI (0 + 1) then nI (0 + 1) else 10) = 10 from by decide]
    refine r_newq C G hI va_S.rf 90 0 (hz.trans hq.symm) kC_Jx4a65c_7 G.2.2.2.2.2.2.1.1 3 (cA := gy g 3) rfl (N' := N) (by decide) (by rw [h3]; decide) (by omega) (Nat.le_of_ble_eq_true rfl) (by show 0 + N ≤ N; omega) dJx4a65c_grow_92f84_52 (fun H1 hI1 hS1 hz1 => ?_)
    refine lv_dup_x1 hx hb dJx4a65c_grow_92f84_55 rfl rfl ?_
    refine r_put C G hI1 hS1 kl i (by rw [up2_ne _ _ (fun q => h90.1 q.1)]; exact hd) (by rw [up2_ne _ _ (fun q => h90.1 q.1)]; exact he) rfl in_Jx4a65c tyJx4a65c tyJx4a65c_ok nmJx4a65c 1 (by decide) kf_Jx4a65c_9 (fun _ h => h) rfl (ty := .array (.object "java/lang/Object")) (y := .ref (ad 90 0)) (by decide +kernel) rfl rfl (Nat.le_of_ble_eq_true rfl) dJx4a65c_grow_92f84_56 (fun H2 locs2 hI2 hS2 hz2 => ?_)
    refine r_aret C (Or.inr ⟨_, rfl⟩) ⟨rfl, ?_, by rw [hz2, hz1, hz]⟩ hS2 (Nat.le_of_ble_eq_true rfl) (by show 0 + N ≤ N; omega) dJx4a65c_grow_92f84_59
    rw [show (fun j => if j < 0 then f j else none) = (fun _ => none : Nat → Option Nat) from by funext j; simp]
    exact hI2
  · subst h4
    have hsh : nI n >>> ((1 : Int32) &&& 31) = nI (n / 2) := pk_shrN (by omega) _ 1 (by decide)
    refine r_alen C G hI ka i h3 3 h5 rfl (v := nI n) rfl dJx4a65c_grow_92f84_4 ?_
    refine lv_istore_n (lv' := [(2, .int (nI n)), (0, .ref (ad kl i)), (1, .int (nI (n + 1)))]) hx hb dJx4a65c_grow_92f84_5 rfl hl (by decide) rfl (fun ls hl => ?_)
    refine lv_iload_n hx hb dJx4a65c_grow_92f84_6 rfl (lv_at hl 0 rfl) ?_
    refine lv_if_gt (tgt := 20) hx hb dJx4a65c_grow_92f84_7 (by decide) (fun _ => ?_) (fun hc => absurd (show (0 : Int32) < nI n from by rw [show (0 : Int32) = nI 0 from rfl]; exact (nI_ltI (by decide) (by omega)).mpr h1) hc)
    refine lv_iload_n hx hb dJx4a65c_grow_92f84_20 rfl (lv_at hl 0 rfl) ?_
    refine lv_iload_n hx hb dJx4a65c_grow_92f84_21 rfl (lv_at hl 2 rfl) ?_
    refine lv_iload_n hx hb dJx4a65c_grow_92f84_22 rfl (lv_at hl 0 rfl) ?_
    refine lv_isub hx hb dJx4a65c_grow_92f84_23 ?_
    rw [pk_sub (by omega), show n + 1 - n = 1 by omega]
    refine lv_iload_n hx hb dJx4a65c_grow_92f84_24 rfl (lv_at hl 0 rfl) ?_
    refine lv_iconst (v := 1) hx hb dJx4a65c_grow_92f84_25 (by decide) ?_
    refine lv_ishr hx hb dJx4a65c_grow_92f84_26 ?_
    rw [hsh]
    refine r_callS (P := fun H => iw (gD g) (gz g) ad dm ce H ∧ H.size = n0) C G ⟨hI, hz⟩ va_S.rf ms_J8_newLength km_Jx4a65c_73 [.int (nI n), .int (nI 1), .int (nI (n / 2))] (k_newLength l g n 1 (n / 2) (by omega) (by omega) _) rfl ⟨Nat.le_of_ble_eq_true rfl, Nat.le_of_ble_eq_true rfl⟩ ⟨Nat.le_of_ble_eq_true rfl, by show 0 + 0 ≤ N; omega⟩ hl.1 rfl (Nat.le_of_ble_eq_true rfl) dJx4a65c_grow_92f84_27 (fun v H1 locs1 hp hS1 => ?_)
    obtain ⟨rfl, hI1, hz1⟩ := hp
    rw [← h6]
    refine lv_istore_n (lv' := [(3, .int (nI N)), (2, .int (nI n)), (0, .ref (ad kl i)), (1, .int (nI (n + 1)))]) hx hb dJx4a65c_grow_92f84_30 rfl hl (by decide) rfl (fun ls hl => ?_)
    refine lv_aload_n hx hb dJx4a65c_grow_92f84_31 rfl (lv_at hl 2 rfl) ?_
    refine lv_aload_n hx hb dJx4a65c_grow_92f84_32 rfl (lv_at hl 2 rfl) ?_
    refine r_get C G hI1 kl i hd he rfl in_Jx4a65c 1 (by decide) kf_Jx4a65c_9 (fun _ h => h) (v := .ref (ad ka i)) rfl dJx4a65c_grow_92f84_33 ?_
    refine lv_iload_n hx hb dJx4a65c_grow_92f84_36 rfl (lv_at hl 0 rfl) ?_
    refine r_callS (P := fun H => iw (gD g) (gz g) ad dm ce H ∧ H.size = n0) C G ⟨hI1, hz1⟩ hS1 ms_J7_copyOf2 km_Jx4a65c_66 [.ref (ad ka i), .int (nI N)] (k_copyOf2 l g ka i 90 0 (fun q => h90.2.1 q.1) h3 h5 (by omega) (by omega) n0 hq hc hca h7) rfl ⟨Nat.le_of_ble_eq_true rfl, Nat.le_of_ble_eq_true rfl⟩ ⟨Nat.le_of_ble_eq_true rfl, by show 0 + 0 + N ≤ N; omega⟩ hl.1 rfl (Nat.le_of_ble_eq_true rfl) dJx4a65c_grow_92f84_37 (fun v H2 locs2 hp hS2 => ?_)
    obtain ⟨rfl, hI2, hz2⟩ := hp
    refine lv_dup_x1 hx hb dJx4a65c_grow_92f84_40 rfl rfl ?_
    refine r_put C G hI2 hS2 kl i (by rw [up2_ne _ _ (fun q => h90.1 q.1)]; exact hd) (by rw [up2_ne _ _ (fun q => h90.1 q.1)]; exact he) rfl in_Jx4a65c tyJx4a65c tyJx4a65c_ok nmJx4a65c 1 (by decide) kf_Jx4a65c_9 (fun _ h => h) rfl (ty := .array (.object "java/lang/Object")) (y := .ref (ad 90 0)) (by decide +kernel) rfl rfl (Nat.le_of_ble_eq_true rfl) dJx4a65c_grow_92f84_41 (fun H3 locs3 hI3 hS3 hz3 => ?_)
    exact r_aret C (Or.inr ⟨_, rfl⟩) ⟨rfl, hI3, by rw [hz3, hz2]⟩ hS3 (Nat.le_of_ble_eq_true rfl) (by show 0 + 0 + N ≤ N; omega) dJx4a65c_grow_92f84_44
set_option maxHeartbeats 4000000 in
theorem k_grow0 (l : Launch) (g : gT) {ad : Nat → Nat → Nat} {dm : Nat → Nat → Prop} {ce : Nat → Nat → va_E} (kl ka i : Nat) (h90 : ¬ kl = 90 ∧ ¬ ka = 90 ∧ ¬ kl = ka) (hd : dm kl i) {c0 : Int32} {n N ea : Nat} (he : ce kl i = .inr (0, [.int c0, .ref ea, .int (nI n)])) {f : Nat → Option Nat} {ci Nf : Nat} {Cn : String} {T : u_T} (hc : vwCl[ci]? = some (Cn, T, Nf)) (hca : Cond.castable Cn "java/lang/Object" ∈ nestL) (hf : full g ad dm ce ka i n N ea ci f) (n0 : Nat) (hq : ad 90 0 = n0) :
    Kr l yJx4a65c_grow_d5877 cJx4a65c_grow_d5877 1 (some (.array (.object "java/lang/Object"))) 4 167 1 N g [.ref (ad kl i)] (fun H => iw (gD g) (gz g) ad dm ce H ∧ H.size = n0) (fun v H => v = some (.ref (ad 90 0)) ∧ iw (gD g) (gz g) ad (up2 dm 90 0 True) (up2 (up2 ce 90 0 (.inl (gy g 3, N, qa (fun j => if j < n then f j else none)))) kl i (.inr (0, [.int c0, .ref (ad 90 0), .int (nI n)]))) H ∧ H.size = n0 + 1) := by
  refine Kr.of (by decide) (fun p e s m below meth c C hnm G hP => ?_)
  have hl := lv_entry ([.ref (ad kl i)]) (n := 1) (Nat.le_of_ble_eq_true rfl)
  rw [lg_entry_eq]
  generalize (lg_sl ([.ref (ad kl i)]) ++ List.replicate (1 - (lg_sl ([.ref (ad kl i)])).length) Slot.unset).toArray = ls at hl ⊢
  have hl : lv_has ls 1 [(0, .ref (ad kl i))] := hl
  obtain ⟨hx, hb, hml, hown, hts, hlk, hrt⟩ := id C
  refine lv_aload_n hx hb dJx4a65c_grow_d5877_0 rfl (lv_at hl 0 rfl) ?_
  refine lv_aload_n hx hb dJx4a65c_grow_d5877_1 rfl (lv_at hl 0 rfl) ?_
  refine r_get C G hP.1 kl i hd he rfl in_Jx4a65c 2 (by decide) kf_Jx4a65c_48 (fun _ h => h) (v := .int (nI n)) rfl dJx4a65c_grow_d5877_2 ?_
  refine lv_iconst (v := 1) hx hb dJx4a65c_grow_d5877_5 (by decide) ?_
  refine lv_iadd hx hb dJx4a65c_grow_d5877_6 ?_
  rw [nI_add1]
  refine r_callV (P := fun H => iw (gD g) (gz g) ad dm ce H ∧ H.size = n0) C G hP va_S.rf (ad kl i) (r_recv G hP.1 kl i hd he rfl) mv_grow1 km_Jx4a65c_69 [.int (nI (n + 1))] (k_grow1 l g kl ka i h90 hd he hc hca hf n0 hq) rfl ⟨Nat.le_of_ble_eq_true rfl, Nat.le_of_ble_eq_true rfl⟩ ⟨Nat.le_of_ble_eq_true rfl, by show 0 + N ≤ N; omega⟩ hl.1 rfl (Nat.le_of_ble_eq_true rfl) dJx4a65c_grow_d5877_7 (fun v H1 locs1 hp hS1 => ?_)
  obtain ⟨rfl, hI1, hz1⟩ := hp
  exact r_aret C (Or.inr ⟨_, rfl⟩) ⟨rfl, hI1, hz1⟩ hS1 (Nat.le_of_ble_eq_true rfl) (by show 0 + N ≤ N; omega) dJx4a65c_grow_d5877_10
