/-! a list's add and clear -/
theorem kS_modCount : Cond.sameField "java/util/ArrayList" "java/util/AbstractList" "modCount" "I" ∈ Tg := List.mem_filter.mpr ⟨List.mem_of_getElem? (i := 209) (by decide +kernel), by decide +kernel⟩
theorem mv_add3 : mtV yJx4a65c_add_72be8 RJx4a65c cJx4a65c_add_72be8 4 none 3 := ⟨ki_Jx4a65c_add_72be8, kl_Jx4a65c_add_72be8, kI_Jx4a65c, kc_Jx4a65c_add_72be8, by decide +kernel⟩
theorem mv_add : mtV yJx4a65c_add_9ea2d RJx4a65c cJx4a65c_add_9ea2d 2 (some .boolean) 1 := ⟨ki_Jx4a65c_add_9ea2d, kl_Jx4a65c_add_9ea2d, kI_Jx4a65c, kc_Jx4a65c_add_9ea2d, by decide +kernel⟩
theorem mv_clear : mtV yJx4a65c_clear_da8c8 RJx4a65c cJx4a65c_clear_da8c8 4 none 0 := ⟨ki_Jx4a65c_clear_da8c8, kl_Jx4a65c_clear_da8c8, kI_Jx4a65c, kc_Jx4a65c_clear_da8c8, by decide +kernel⟩
section LA
variable {p : Program} {l : Launch} {e : Env} {R : Room} {s : State} {m : MethodId} {args : Array Value} {below : List Frame} {meth : Method} {c : Code} {H : Heap} {locs : List Loc} {cells slots : Nat}
variable {ls : Array Slot} {g : gT} {ad : Nat → Nat → Nat} {dm : Nat → Nat → Prop} {ce : Nat → Nat → va_E} {post : Option Value → Heap → Prop}
theorem add3_tail (C : cxt p s m meth c args cJx4a65c_add_72be8 4 RJx4a65c none) (G : gst g s) {n1 : Nat} (hI : iw (gD g) (gz g) ad dm ce H ∧ H.size = n1) (hS : va_S (zA (gz g)) s.heap H locs) (kl i kx ix kv iv : Nat) (hne : ¬ (kl = kx ∧ i = ix)) (hd : dm kl i) {c0 : Int32} {ea n cap : Nat} {f : Nat → Option Nat} (he : ce kl i = .inr (0, [.int c0, .ref ea, .int (nI n)])) (hdx : dm kx ix) (hex : ce kx ix = .inl (gy g 3, cap, qa f)) (hn : n < cap) (hcap : cap < 1000) {ci Nf : Nat} {vs : List Value} {Cn : String} {T : u_T} (hdv : dm kv iv) (hev : ce kv iv = .inr (ci, vs)) (hc : vwCl[ci]? = some (Cn, T, Nf)) (hca : Cond.castable Cn "java/lang/Object" ∈ nestL) (hl : lv_has ls 4 [(2, .ref (ad kx ix)), (0, .ref (ad kl i)), (1, .ref (ad kv iv)), (3, .int (nI n))]) {mc ms : Nat} (h1 : cells ≤ mc) (h2 : slots ≤ ms)
    (hpost : ∀ H' : Heap, iw (gD g) (gz g) ad dm (up2 (up2 ce kx ix (.inl (gy g 3, cap, qa (va_up f n (some (ad kv iv)))))) kl i (.inr (0, [.int c0, .ref ea, .int (nI (n + 1))]))) H' → H'.size = n1 → post none H') : W p l e R s m args below meth c H locs cells slots (MQ below (Qr g post) args s mc ms (zA (gz g))) (F0 m 11 ls []) := by
  obtain ⟨hx, hb, hml, hown, hts, hlk, hrt⟩ := id C
  refine lv_aload_n hx hb dJx4a65c_add_72be8_11 rfl (lv_at hl 0 rfl) ?_
  refine lv_iload_n hx hb dJx4a65c_add_72be8_12 rfl (lv_at hl 3 rfl) ?_
  refine lv_aload_n hx hb dJx4a65c_add_72be8_13 rfl (lv_at hl 2 rfl) ?_
  refine r_astq C G hI.1 hS kx ix hdx 3 hex (E := "java/lang/Object") rfl (Cn := Cn) (r_recv G hI.1 kv iv hdv hev hc) (asg_cast G hca) (vp_in_nI hn (by omega)) dJx4a65c_add_72be8_14 (fun H1 locs1 hI1 hS1 hz1 => ?_)
  rw [nI_clamp (by omega)] at hI1
  refine lv_aload_n hx hb dJx4a65c_add_72be8_15 rfl (lv_at hl 1 rfl) ?_
  refine lv_iload_n hx hb dJx4a65c_add_72be8_16 rfl (lv_at hl 3 rfl) ?_
  refine lv_iconst (v := 1) hx hb dJx4a65c_add_72be8_17 (by decide) ?_
  refine lv_iadd hx hb dJx4a65c_add_72be8_18 ?_
  rw [nI_add1]
  refine r_put C G hI1 hS1 kl i hd (by rw [up2_ne _ _ hne]; exact he) rfl in_Jx4a65c tyJx4a65c tyJx4a65c_ok nmJx4a65c 2 (by decide) kf_Jx4a65c_48 (fun _ h => h) rfl (ty := .int) (y := .int (nI (n + 1))) (by decide +kernel) rfl rfl (Nat.le_of_ble_eq_true rfl) dJx4a65c_add_72be8_19 (fun H2 locs2 hI2 hS2 hz2 => ?_)
  exact r_vret C (hpost H2 hI2 (by rw [hz2, hz1, hI.2])) hS2 h1 h2 dJx4a65c_add_72be8_22
theorem r_lenF {Q : State → Prop} {cc : ByteArray} {nL : Nat} {own : String} {ret : Option FieldType} {pc : Nat} {rest : List Value} (C : cxt p s m meth c args cc nL own ret) (G : gst g s) (hI : iw (gD g) (gz g) ad dm ce H) (hS : va_S (zA (gz g)) s.heap H locs) {ka i n N ea ci : Nat} {f : Nat → Option Nat} (hf : full g ad dm ce ka i n N ea ci f) (hdg : decode cc pc = .ok (.arraylength, 1))
    (kk : W p l e R s m args below meth c H locs cells slots Q (F0 m (pc + 1) ls (.int (nI n) :: rest))) : W p l e R s m args below meth c H locs cells slots Q (F0 m pc ls (.ref ea :: rest)) := by
  rcases hf with ⟨h1, h2, h3⟩ | ⟨h1, h2, h3, h4, h5, h6, h7⟩
  · subst h1
    subst h2
    exact va_tlen C.1 C.2.1 G.2.2.2.2.2.1.2 hS (v := nI 0) rfl hdg kk
  · subst h4
    exact r_alen C G hI ka i h3 3 h5 rfl (v := nI n) rfl hdg kk
end LA
set_option maxHeartbeats 4000000 in
theorem k_add3A (l : Launch) (g : gT) {ad : Nat → Nat → Nat} {dm : Nat → Nat → Prop} {ce : Nat → Nat → va_E} (kl ka i kv iv : Nat) (hka : ¬ kl = ka) (hd : dm kl i) {c0 : Int32} {n cap : Nat} {f : Nat → Option Nat} (he : ce kl i = .inr (0, [.int c0, .ref (ad ka i), .int (nI n)])) (hda : dm ka i) (hea : ce ka i = .inl (gy g 3, cap, qa f)) (hn : n < cap) (hcap : cap < 1000) {ci Nf : Nat} {vs : List Value} {Cn : String} {T : u_T} (hdv : dm kv iv) (hev : ce kv iv = .inr (ci, vs)) (hc : vwCl[ci]? = some (Cn, T, Nf)) (hca : Cond.castable Cn "java/lang/Object" ∈ nestL) (n0 : Nat) :
    Kr l yJx4a65c_add_72be8 cJx4a65c_add_72be8 4 none 5 187 1 200 g [.ref (ad kl i), .ref (ad kv iv), .ref (ad ka i), .int (nI n)] (fun H => iw (gD g) (gz g) ad dm ce H ∧ H.size = n0) (fun v H => v = none ∧ iw (gD g) (gz g) ad dm (up2 (up2 ce ka i (.inl (gy g 3, cap, qa (va_up f n (some (ad kv iv)))))) kl i (.inr (0, [.int c0, .ref (ad ka i), .int (nI (n + 1))]))) H) := by
  refine Kr.of (by decide) (fun p e s m below meth c C hnm G hP => ?_)
  have hl := lv_entry ([.ref (ad kl i), .ref (ad kv iv), .ref (ad ka i), .int (nI n)]) (n := 4) (Nat.le_of_ble_eq_true rfl)
  rw [lg_entry_eq]
  generalize (lg_sl ([.ref (ad kl i), .ref (ad kv iv), .ref (ad ka i), .int (nI n)]) ++ List.replicate (4 - (lg_sl ([.ref (ad kl i), .ref (ad kv iv), .ref (ad ka i), .int (nI n)])).length) Slot.unset).toArray = ls at hl ⊢
  have hl : lv_has ls 4 [(0, .ref (ad kl i)), (1, .ref (ad kv iv)), (2, .ref (ad ka i)), (3, .int (nI n))] := hl
  obtain ⟨hx, hb, hml, hown, hts, hlk, hrt⟩ := id C
  refine lv_iload_n hx hb dJx4a65c_add_72be8_0 rfl (lv_at hl 3 rfl) ?_
  refine lv_aload_n hx hb dJx4a65c_add_72be8_1 rfl (lv_at hl 2 rfl) ?_
  refine r_alen C G hP.1 ka i hda 3 hea rfl (v := nI cap) rfl dJx4a65c_add_72be8_2 ?_
  refine lv_icmp_ne (tgt := 11) hx hb dJx4a65c_add_72be8_3 (by decide) (fun _ => ?_) (fun hc => absurd ((nI_eq (by omega) (by omega)).mp hc) (by omega))
  exact add3_tail C G hP va_S.rf kl i ka i kv iv (fun q => hka q.1) hd he hda hea hn hcap hdv hev hc hca (lv_sub hl [2, 0, 1, 3] rfl) (by decide) (by decide) (fun H' h1 _ => ⟨rfl, h1⟩)
set_option maxHeartbeats 4000000 in
theorem k_add3G (l : Launch) (g : gT) {ad : Nat → Nat → Nat} {dm : Nat → Nat → Prop} {ce : Nat → Nat → va_E} (kl ka i kv iv : Nat) (h90 : ¬ kl = 90 ∧ ¬ ka = 90 ∧ ¬ kl = ka) (hkv : ¬ kv = 90) (hd : dm kl i) {c0 : Int32} {n N ea : Nat} {f : Nat → Option Nat} (he : ce kl i = .inr (0, [.int c0, .ref ea, .int (nI n)])) {ci Nf : Nat} {vs : List Value} {Cn : String} {T : u_T} (hci : ¬ ci = 0) (hdv : dm kv iv) (hev : ce kv iv = .inr (ci, vs)) (hc : vwCl[ci]? = some (Cn, T, Nf)) (hca : Cond.castable Cn "java/lang/Object" ∈ nestL) (hf : full g ad dm ce ka i n N ea ci f) (n0 : Nat) (hq : ad 90 0 = n0) :
    Kr l yJx4a65c_add_72be8 cJx4a65c_add_72be8 4 none 5 187 1 200 g [.ref (ad kl i), .ref (ad kv iv), .ref ea, .int (nI n)] (fun H => iw (gD g) (gz g) ad dm ce H ∧ H.size = n0) (fun v H => v = none ∧ iw (gD g) (gz g) ad (up2 dm 90 0 True) (up2 (up2 ce 90 0 (.inl (gy g 3, N, qa (va_up (fun j => if j < n then f j else none) n (some (ad kv iv)))))) kl i (.inr (0, [.int c0, .ref (ad 90 0), .int (nI (n + 1))]))) H) := by
  refine Kr.of (by decide) (fun p e s m below meth c C hnm G hP => ?_)
  have hl := lv_entry ([.ref (ad kl i), .ref (ad kv iv), .ref ea, .int (nI n)]) (n := 4) (Nat.le_of_ble_eq_true rfl)
  rw [lg_entry_eq]
  generalize (lg_sl ([.ref (ad kl i), .ref (ad kv iv), .ref ea, .int (nI n)]) ++ List.replicate (4 - (lg_sl ([.ref (ad kl i), .ref (ad kv iv), .ref ea, .int (nI n)])).length) Slot.unset).toArray = ls at hl ⊢
  have hl : lv_has ls 4 [(0, .ref (ad kl i)), (1, .ref (ad kv iv)), (2, .ref ea), (3, .int (nI n))] := hl
  obtain ⟨hx, hb, hml, hown, hts, hlk, hrt⟩ := id C
  obtain ⟨hnN, hN2, hn1⟩ := hf.N
  have hvl : ¬ (kv = kl ∧ iv = i) := by
    intro q
    rw [q.1, q.2, he] at hev
    cases hev
    exact hci rfl
  refine lv_iload_n hx hb dJx4a65c_add_72be8_0 rfl (lv_at hl 3 rfl) ?_
  refine lv_aload_n hx hb dJx4a65c_add_72be8_1 rfl (lv_at hl 2 rfl) ?_
  refine r_lenF C G hP.1 va_S.rf hf dJx4a65c_add_72be8_2 ?_
  refine lv_icmp_ne (tgt := 11) hx hb dJx4a65c_add_72be8_3 (by decide) (fun hc => absurd rfl hc) (fun _ => ?_)
  refine lv_aload_n hx hb dJx4a65c_add_72be8_6 rfl (lv_at hl 0 rfl) ?_
  refine r_callV (P := fun H => iw (gD g) (gz g) ad dm ce H ∧ H.size = n0) C G hP va_S.rf (ad kl i) (r_recv G hP.1 kl i hd he rfl) mv_grow0 km_Jx4a65c_129 [] (k_grow0 l g kl ka i h90 hd he hc hca hf n0 hq) rfl ⟨by decide, by decide⟩ ⟨by decide, by show 0 + N ≤ 200; omega⟩ hl.1 rfl (Nat.le_of_ble_eq_true rfl) dJx4a65c_add_72be8_7 (fun v H1 locs1 hp hS1 => ?_)
  obtain ⟨rfl, hI1, hz1⟩ := hp
  refine lv_astore_n (lv' := [(2, .ref (ad 90 0)), (0, .ref (ad kl i)), (1, .ref (ad kv iv)), (3, .int (nI n))]) hx hb dJx4a65c_add_72be8_10 rfl hl (by decide) rfl (fun ls hl => ?_)
  have hn90 : ¬ (kl = 90 ∧ i = 0) := fun q => h90.1 q.1
  refine add3_tail C G ⟨hI1, hz1⟩ hS1 kl i 90 0 kv iv hn90 (by rw [up2_ne _ _ hn90]; exact hd) (up2_same _ _ _ _) (by rw [up2_same]; trivial) (by rw [up2_ne _ _ (fun q => hn90 ⟨q.1.symm, q.2.symm⟩), up2_same]) hnN (by omega) (by rw [up2_ne _ _ (fun q => hkv q.1)]; exact hdv) (by rw [up2_ne _ _ hvl, up2_ne _ _ (fun q => hkv q.1)]; exact hev) hc hca hl (by decide) (by show 0 + N ≤ 200; omega) (fun H' h1 _ => ⟨rfl, ?_⟩)
  rw [up2_th hn90, up2_up2] at h1
  exact h1
theorem full.up {g : gT} {ad : Nat → Nat → Nat} {dm : Nat → Nat → Prop} {ce : Nat → Nat → va_E} {kl ka i n N ea ci : Nat} {f : Nat → Option Nat} {L L0 : List Value} (h : full g ad dm ce ka i n N ea ci f) (hka : ¬ kl = ka) (hci : ¬ ci = 0) (he : ce kl i = .inr (0, L0)) : full g ad dm (up2 ce kl i (.inr (0, L))) ka i n N ea ci f := by
  rcases h with h | ⟨h1, h2, h3, h4, h5, h6, h7⟩
  · exact Or.inl h
  · refine Or.inr ⟨h1, h2, h3, h4, by rw [up2_ne _ _ (fun q => hka q.1.symm)]; exact h5, h6, fun j y hj hy => ?_⟩
    obtain ⟨kv, iv, vs, d1, d2, d3⟩ := h7 j y hj hy
    refine ⟨kv, iv, vs, d1, d2, ?_⟩
    rw [up2_ne _ _ (fun q => ?_)]
    · exact d3
    · rw [q.1, q.2, he] at d3
      cases d3
      exact hci rfl
set_option maxHeartbeats 4000000 in
theorem k_addA (l : Launch) (g : gT) {ad : Nat → Nat → Nat} {dm : Nat → Nat → Prop} {ce : Nat → Nat → va_E} (kl ka i kv iv : Nat) (hka : ¬ kl = ka) (hd : dm kl i) {c0 : Int32} {n cap : Nat} {f : Nat → Option Nat} (he : ce kl i = .inr (0, [.int c0, .ref (ad ka i), .int (nI n)])) (hda : dm ka i) (hea : ce ka i = .inl (gy g 3, cap, qa f)) (hn : n < cap) (hcap : cap < 1000) {ci Nf : Nat} {vs : List Value} {Cn : String} {T : u_T} (hci : ¬ ci = 0) (hdv : dm kv iv) (hev : ce kv iv = .inr (ci, vs)) (hc : vwCl[ci]? = some (Cn, T, Nf)) (hca : Cond.castable Cn "java/lang/Object" ∈ nestL) (n0 : Nat) :
    Kr l yJx4a65c_add_9ea2d cJx4a65c_add_9ea2d 2 (some .boolean) 6 210 1 200 g [.ref (ad kl i), .ref (ad kv iv)] (fun H => iw (gD g) (gz g) ad dm ce H ∧ H.size = n0) (fun v H => v = some (.int 1) ∧ iw (gD g) (gz g) ad dm (up2 (up2 ce ka i (.inl (gy g 3, cap, qa (va_up f n (some (ad kv iv)))))) kl i (.inr (0, [.int (c0 + 1), .ref (ad ka i), .int (nI (n + 1))]))) H) := by
  refine Kr.of (by decide) (fun p e s m below meth c C hnm G hP => ?_)
  have hl := lv_entry ([.ref (ad kl i), .ref (ad kv iv)]) (n := 2) (Nat.le_of_ble_eq_true rfl)
  rw [lg_entry_eq]
  generalize (lg_sl ([.ref (ad kl i), .ref (ad kv iv)]) ++ List.replicate (2 - (lg_sl ([.ref (ad kl i), .ref (ad kv iv)])).length) Slot.unset).toArray = ls at hl ⊢
  have hl : lv_has ls 2 [(0, .ref (ad kl i)), (1, .ref (ad kv iv))] := hl
  obtain ⟨hx, hb, hml, hown, hts, hlk, hrt⟩ := id C
  have hvl : ¬ (kv = kl ∧ iv = i) := by
    intro q
    rw [q.1, q.2, he] at hev
    cases hev
    exact hci rfl
  refine lv_aload_n hx hb dJx4a65c_add_9ea2d_0 rfl (lv_at hl 0 rfl) ?_
  refine lv_dup hx hb dJx4a65c_add_9ea2d_1 rfl ?_
  refine r_get C G hP.1 kl i hd he rfl in_Jx4a65c 0 (by decide) kf_Jx4a65c_63 (fun y h => u_same (hts _ kS_modCount) y h) (v := .int c0) rfl dJx4a65c_add_9ea2d_2 ?_
  refine lv_iconst (v := 1) hx hb dJx4a65c_add_9ea2d_5 (by decide) ?_
  refine lv_iadd hx hb dJx4a65c_add_9ea2d_6 ?_
  refine r_put C G hP.1 va_S.rf kl i hd he rfl in_Jx4a65c tyJx4a65c tyJx4a65c_ok nmJx4a65c 0 (by decide) kf_Jx4a65c_63 (fun y h => u_same (hts _ kS_modCount) y h) rfl (ty := .int) (y := .int (c0 + 1)) (by decide +kernel) rfl rfl (Nat.le_of_ble_eq_true rfl) dJx4a65c_add_9ea2d_7 (fun H1 locs1 hI1 hS1 hz1 => ?_)
  refine lv_aload_n hx hb dJx4a65c_add_9ea2d_10 rfl (lv_at hl 0 rfl) ?_
  refine lv_aload_n hx hb dJx4a65c_add_9ea2d_11 rfl (lv_at hl 1 rfl) ?_
  refine lv_aload_n hx hb dJx4a65c_add_9ea2d_12 rfl (lv_at hl 0 rfl) ?_
  refine r_get C G hI1 kl i hd (up2_same _ _ _ _) rfl in_Jx4a65c 1 (by decide) kf_Jx4a65c_9 (fun _ h => h) (v := .ref (ad ka i)) rfl dJx4a65c_add_9ea2d_13 ?_
  refine lv_aload_n hx hb dJx4a65c_add_9ea2d_16 rfl (lv_at hl 0 rfl) ?_
  refine r_get C G hI1 kl i hd (up2_same _ _ _ _) rfl in_Jx4a65c 2 (by decide) kf_Jx4a65c_48 (fun _ h => h) (v := .int (nI n)) rfl dJx4a65c_add_9ea2d_17 ?_
  refine r_callV (P := fun H => iw (gD g) (gz g) ad dm (up2 ce kl i (.inr (0, [.int (c0 + 1), .ref (ad ka i), .int (nI n)]))) H ∧ H.size = n0) C G ⟨hI1, by rw [hz1, hP.2]⟩ hS1 (ad kl i) (r_recv G hI1 kl i hd (up2_same _ _ _ _) rfl) mv_add3 km_Jx4a65c_131 [.ref (ad kv iv), .ref (ad ka i), .int (nI n)] (k_add3A l g kl ka i kv iv hka hd (up2_same _ _ _ _) hda (by rw [up2_ne _ _ (fun q => hka q.1.symm)]; exact hea) hn hcap hdv (by rw [up2_ne _ _ hvl]; exact hev) hc hca n0) rfl ⟨by decide, by decide⟩ ⟨by decide, by decide⟩ hl.1 rfl (Nat.le_of_ble_eq_true rfl) dJx4a65c_add_9ea2d_20 (fun v H2 locs2 hp hS2 => ?_)
  obtain ⟨rfl, hI2⟩ := hp
  rw [up2_th (fun q => hka q.1)] at hI2
  refine lv_iconst (v := 1) hx hb dJx4a65c_add_9ea2d_23 (by decide) ?_
  exact r_iretz C (Or.inr rfl) ⟨rfl, hI2⟩ hS2 (by decide) (by decide) dJx4a65c_add_9ea2d_24
set_option maxHeartbeats 4000000 in
theorem k_addG (l : Launch) (g : gT) {ad : Nat → Nat → Nat} {dm : Nat → Nat → Prop} {ce : Nat → Nat → va_E} (kl ka i kv iv : Nat) (h90 : ¬ kl = 90 ∧ ¬ ka = 90 ∧ ¬ kl = ka) (hkv : ¬ kv = 90) (hd : dm kl i) {c0 : Int32} {n N ea : Nat} {f : Nat → Option Nat} (he : ce kl i = .inr (0, [.int c0, .ref ea, .int (nI n)])) {ci Nf : Nat} {vs : List Value} {Cn : String} {T : u_T} (hci : ¬ ci = 0) (hdv : dm kv iv) (hev : ce kv iv = .inr (ci, vs)) (hc : vwCl[ci]? = some (Cn, T, Nf)) (hca : Cond.castable Cn "java/lang/Object" ∈ nestL) (hf : full g ad dm ce ka i n N ea ci f) (n0 : Nat) (hq : ad 90 0 = n0) :
    Kr l yJx4a65c_add_9ea2d cJx4a65c_add_9ea2d 2 (some .boolean) 6 210 1 200 g [.ref (ad kl i), .ref (ad kv iv)] (fun H => iw (gD g) (gz g) ad dm ce H ∧ H.size = n0) (fun v H => v = some (.int 1) ∧ iw (gD g) (gz g) ad (up2 dm 90 0 True) (up2 (up2 ce 90 0 (.inl (gy g 3, N, qa (va_up (fun j => if j < n then f j else none) n (some (ad kv iv)))))) kl i (.inr (0, [.int (c0 + 1), .ref (ad 90 0), .int (nI (n + 1))]))) H) := by
  refine Kr.of (by decide) (fun p e s m below meth c C hnm G hP => ?_)
  have hl := lv_entry ([.ref (ad kl i), .ref (ad kv iv)]) (n := 2) (Nat.le_of_ble_eq_true rfl)
  rw [lg_entry_eq]
  generalize (lg_sl ([.ref (ad kl i), .ref (ad kv iv)]) ++ List.replicate (2 - (lg_sl ([.ref (ad kl i), .ref (ad kv iv)])).length) Slot.unset).toArray = ls at hl ⊢
  have hl : lv_has ls 2 [(0, .ref (ad kl i)), (1, .ref (ad kv iv))] := hl
  obtain ⟨hx, hb, hml, hown, hts, hlk, hrt⟩ := id C
  have hvl : ¬ (kv = kl ∧ iv = i) := by
    intro q
    rw [q.1, q.2, he] at hev
    cases hev
    exact hci rfl
  refine lv_aload_n hx hb dJx4a65c_add_9ea2d_0 rfl (lv_at hl 0 rfl) ?_
  refine lv_dup hx hb dJx4a65c_add_9ea2d_1 rfl ?_
  refine r_get C G hP.1 kl i hd he rfl in_Jx4a65c 0 (by decide) kf_Jx4a65c_63 (fun y h => u_same (hts _ kS_modCount) y h) (v := .int c0) rfl dJx4a65c_add_9ea2d_2 ?_
  refine lv_iconst (v := 1) hx hb dJx4a65c_add_9ea2d_5 (by decide) ?_
  refine lv_iadd hx hb dJx4a65c_add_9ea2d_6 ?_
  refine r_put C G hP.1 va_S.rf kl i hd he rfl in_Jx4a65c tyJx4a65c tyJx4a65c_ok nmJx4a65c 0 (by decide) kf_Jx4a65c_63 (fun y h => u_same (hts _ kS_modCount) y h) rfl (ty := .int) (y := .int (c0 + 1)) (by decide +kernel) rfl rfl (Nat.le_of_ble_eq_true rfl) dJx4a65c_add_9ea2d_7 (fun H1 locs1 hI1 hS1 hz1 => ?_)
  refine lv_aload_n hx hb dJx4a65c_add_9ea2d_10 rfl (lv_at hl 0 rfl) ?_
  refine lv_aload_n hx hb dJx4a65c_add_9ea2d_11 rfl (lv_at hl 1 rfl) ?_
  refine lv_aload_n hx hb dJx4a65c_add_9ea2d_12 rfl (lv_at hl 0 rfl) ?_
  refine r_get C G hI1 kl i hd (up2_same _ _ _ _) rfl in_Jx4a65c 1 (by decide) kf_Jx4a65c_9 (fun _ h => h) (v := .ref ea) rfl dJx4a65c_add_9ea2d_13 ?_
  refine lv_aload_n hx hb dJx4a65c_add_9ea2d_16 rfl (lv_at hl 0 rfl) ?_
  refine r_get C G hI1 kl i hd (up2_same _ _ _ _) rfl in_Jx4a65c 2 (by decide) kf_Jx4a65c_48 (fun _ h => h) (v := .int (nI n)) rfl dJx4a65c_add_9ea2d_17 ?_
  refine r_callV (P := fun H => iw (gD g) (gz g) ad dm (up2 ce kl i (.inr (0, [.int (c0 + 1), .ref ea, .int (nI n)]))) H ∧ H.size = n0) C G ⟨hI1, by rw [hz1, hP.2]⟩ hS1 (ad kl i) (r_recv G hI1 kl i hd (up2_same _ _ _ _) rfl) mv_add3 km_Jx4a65c_131 [.ref (ad kv iv), .ref ea, .int (nI n)] (k_add3G l g kl ka i kv iv h90 hkv hd (up2_same _ _ _ _) hci hdv (by rw [up2_ne _ _ hvl]; exact hev) hc hca (hf.up h90.2.2 hci he) n0 hq) rfl ⟨by decide, by decide⟩ ⟨by decide, by decide⟩ hl.1 rfl (Nat.le_of_ble_eq_true rfl) dJx4a65c_add_9ea2d_20 (fun v H2 locs2 hp hS2 => ?_)
  obtain ⟨rfl, hI2⟩ := hp
  rw [up2_th (fun q => h90.1 q.1)] at hI2
  refine lv_iconst (v := 1) hx hb dJx4a65c_add_9ea2d_23 (by decide) ?_
  exact r_iretz C (Or.inr rfl) ⟨rfl, hI2⟩ hS2 (by decide) (by decide) dJx4a65c_add_9ea2d_24
