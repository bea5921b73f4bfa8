/-! a list's clear -/
def clA (g : gT) (cap q : Nat) (f : Nat → Option Nat) : va_E := .inl (gy g 3, cap, qa (fun j => if j < q then none else f j))
theorem clr_up {f : Nat → Option Nat} {q : Nat} : va_up (fun j => if j < q then none else f j) q none = fun j => if j < q + 1 then none else f j := by
  funext j
  unfold va_up
  by_cases h : j = q
  · subst h; rw [if_pos rfl, if_pos (by omega)]
  · rw [if_neg h]
    show (if j < q then none else f j) = _
    by_cases h2 : j < q
    · rw [if_pos h2, if_pos (by omega)]
    · rw [if_neg h2, if_neg (by omega)]
section LCl
variable {p : Program} {l : Launch} {e : Env} {s : State} {m : MethodId} {args : Array Value} {below : List Frame} {meth : Method} {c : Code}
variable {g : gT} {ad : Nat → Nat → Nat} {dm : Nat → Nat → Prop} {ce : Nat → Nat → va_E} {post : Option Value → Heap → Prop}
theorem clear_loop (C : cxt p s m meth c args cJx4a65c_clear_da8c8 4 RJx4a65c none) (G : gst g s) (kl ka i : Nat) (hka : ¬ kl = ka) {ea n cap : Nat} {f : Nat → Option Nat} {L : va_E} (hn : 0 < n → dm ka i ∧ ea = ad ka i) (hcap : dm ka i → n ≤ cap ∧ cap < 1000) (hn1 : n < 1000)
    (hpost : ∀ H' : Heap, iw (gD g) (gz g) ad dm (up2 (up2 ce ka i (clA g cap n f)) kl i L) H' → post none H') :
    ∀ (r q : Nat), q + r = n → ∀ (H : Heap) (locs : List Loc) (ls : Array Slot), iw (gD g) (gz g) ad dm (up2 (up2 ce ka i (clA g cap q f)) kl i L) H → va_S (zA (gz g)) s.heap H locs → lv_has ls 4 [(3, .int (nI q)), (2, .int (nI n)), (1, .ref ea), (0, .ref (ad kl i))] → W p l e (rmA 0 0 0 0) s m args below meth c H locs 0 0 (MQ below (Qr g post) args s 0 0 (zA (gz g))) (F0 m 27 ls []) := by
  obtain ⟨hx, hb, hml, hown, hts, hlk, hrt⟩ := id C
  intro r
  induction r with
  | zero =>
    intro q hq H locs ls hI hS hl
    have h8 : q = n := by omega
    subst h8
    refine lv_iload_n hx hb dJx4a65c_clear_da8c8_27 rfl (lv_at hl 0 rfl) ?_
    refine lv_iload_n hx hb dJx4a65c_clear_da8c8_28 rfl (lv_at hl 1 rfl) ?_
    refine lv_icmp_ge (tgt := 42) hx hb dJx4a65c_clear_da8c8_29 (by decide) (fun hc => ?_) (fun hc => absurd (nI_le (Nat.le_refl _) (by omega)) hc)
    exact r_vret C (hpost H hI) hS (Nat.le_refl _) (Nat.le_refl _) dJx4a65c_clear_da8c8_42
  | succ r ih =>
    intro q hq H locs ls hI hS hl
    obtain ⟨hda, hea⟩ := hn (by omega)
    obtain ⟨hc1, hc2⟩ := hcap hda
    subst hea
    refine lv_iload_n hx hb dJx4a65c_clear_da8c8_27 rfl (lv_at hl 0 rfl) ?_
    refine lv_iload_n hx hb dJx4a65c_clear_da8c8_28 rfl (lv_at hl 1 rfl) ?_
    refine lv_icmp_ge (tgt := 42) hx hb dJx4a65c_clear_da8c8_29 (by decide) (fun hc => absurd hc (nI_ge (by omega) (by omega))) (fun hc => ?_)
    refine lv_aload_n hx hb dJx4a65c_clear_da8c8_32 rfl (lv_at hl 2 rfl) ?_
    refine lv_iload_n hx hb dJx4a65c_clear_da8c8_33 rfl (lv_at hl 0 rfl) ?_
    refine lv_null hx hb dJx4a65c_clear_da8c8_34 ?_
    refine r_astN C G hI hS ka i hda 3 (by rw [up2_ne _ _ (fun q => hka q.1.symm), up2_same]; rfl) (E := "java/lang/Object") rfl (vp_in_nI (show q < cap by omega) (by omega)) dJx4a65c_clear_da8c8_35 (fun H1 locs1 hI1 hS1 _ => ?_)
    rw [nI_clamp (by omega), clr_up, up2_comm (fun q => hka q.1), up2_up2] at hI1
    refine lv_iinc (v := nI (q + 1)) (lv' := [(3, .int (nI (q + 1))), (2, .int (nI n)), (1, .ref (ad ka i)), (0, .ref (ad kl i))]) hx hb dJx4a65c_clear_da8c8_36 hl (k := 0) rfl (nI_add1 q) (by decide) rfl (fun ls hl => ?_)
    refine lv_goto (tgt := 27) hx hb dJx4a65c_clear_da8c8_39 (by decide) ?_
    exact ih (q + 1) (by omega) H1 locs1 ls hI1 hS1 hl
end LCl
set_option maxHeartbeats 4000000 in
theorem k_clear (l : Launch) (g : gT) {ad : Nat → Nat → Nat} {dm : Nat → Nat → Prop} {ce : Nat → Nat → va_E} (kl ka i : Nat) (hka : ¬ kl = ka) (hd : dm kl i) {c0 : Int32} {ea n cap : Nat} {f : Nat → Option Nat} (he : ce kl i = .inr (0, [.int c0, .ref ea, .int (nI n)])) (hea : dm ka i → ce ka i = .inl (gy g 3, cap, qa f)) (hn : 0 < n → dm ka i ∧ ea = ad ka i) (hcap : dm ka i → n ≤ cap ∧ cap < 1000) (hn1 : n < 1000) :
    Kr l yJx4a65c_clear_da8c8 cJx4a65c_clear_da8c8 4 none 0 0 0 0 g [.ref (ad kl i)] (fun H => iw (gD g) (gz g) ad dm ce H) (fun v H => v = none ∧ iw (gD g) (gz g) ad dm (up2 (up2 ce ka i (clA g cap n f)) kl i (.inr (0, [.int (c0 + 1), .ref ea, .int 0]))) H) := by
  refine Kr.of (by decide) (fun p e s m below meth c C hnm G hP => ?_)
  have hl := lv_entry ([.ref (ad kl i)]) (n := 4) (Nat.le_of_ble_eq_true rfl)
  rw [lg_entry_eq]
  generalize (lg_sl ([.ref (ad kl i)]) ++ List.replicate (4 - (lg_sl ([.ref (ad kl i)])).length) Slot.unset).toArray = ls at hl ⊢
  have hl : lv_has ls 4 [(0, .ref (ad kl i))] := hl
  obtain ⟨hx, hb, hml, hown, hts, hlk, hrt⟩ := id C
  refine lv_aload_n hx hb dJx4a65c_clear_da8c8_0 rfl (lv_at hl 0 rfl) ?_
  refine lv_dup hx hb dJx4a65c_clear_da8c8_1 rfl ?_
  refine r_get C G hP kl i hd he rfl in_Jx4a65c 0 (by decide) kf_Jx4a65c_63 (fun y h => u_same (hts _ kS_modCount) y h) (v := .int c0) rfl dJx4a65c_clear_da8c8_2 ?_
  refine lv_iconst (v := 1) hx hb dJx4a65c_clear_da8c8_5 (by decide) ?_
  refine lv_iadd hx hb dJx4a65c_clear_da8c8_6 ?_
  refine r_put C G hP va_S.rf kl i hd he rfl in_Jx4a65c tyJx4a65c tyJx4a65c_ok nmJx4a65c 0 (by decide) kf_Jx4a65c_63 (fun y h => u_same (hts _ kS_modCount) y h) rfl (ty := .int) (y := .int (c0 + 1)) (by decide +kernel) rfl rfl (Nat.le_of_ble_eq_true rfl) dJx4a65c_clear_da8c8_7 (fun H1 locs1 hI1 hS1 _ => ?_)
  refine lv_aload_n hx hb dJx4a65c_clear_da8c8_10 rfl (lv_at hl 0 rfl) ?_
  refine r_get C G hI1 kl i hd (up2_same _ _ _ _) rfl in_Jx4a65c 1 (by decide) kf_Jx4a65c_9 (fun _ h => h) (v := .ref ea) rfl dJx4a65c_clear_da8c8_11 ?_
  refine lv_astore_n (lv' := [(1, .ref ea), (0, .ref (ad kl i))]) hx hb dJx4a65c_clear_da8c8_14 rfl hl (by decide) rfl (fun ls hl => ?_)
  refine lv_aload_n hx hb dJx4a65c_clear_da8c8_15 rfl (lv_at hl 1 rfl) ?_
  refine r_get C G hI1 kl i hd (up2_same _ _ _ _) rfl in_Jx4a65c 2 (by decide) kf_Jx4a65c_48 (fun _ h => h) (v := .int (nI n)) rfl dJx4a65c_clear_da8c8_16 ?_
  refine lv_istore_n (lv' := [(2, .int (nI n)), (1, .ref ea), (0, .ref (ad kl i))]) hx hb dJx4a65c_clear_da8c8_19 rfl hl (by decide) rfl (fun ls hl => ?_)
  refine lv_aload_n hx hb dJx4a65c_clear_da8c8_20 rfl (lv_at hl 2 rfl) ?_
  refine lv_iconst (v := 0) hx hb dJx4a65c_clear_da8c8_21 (by decide) ?_
  refine lv_dup_x1 hx hb dJx4a65c_clear_da8c8_22 rfl rfl ?_
  refine r_put C G hI1 hS1 kl i hd (up2_same _ _ _ _) rfl in_Jx4a65c tyJx4a65c tyJx4a65c_ok nmJx4a65c 2 (by decide) kf_Jx4a65c_48 (fun _ h => h) rfl (ty := .int) (y := .int 0) (by decide +kernel) rfl rfl (Nat.le_of_ble_eq_true rfl) dJx4a65c_clear_da8c8_23 (fun H2 locs2 hI2 hS2 _ => ?_)
  rw [up2_up2] at hI2
  refine lv_istore_n (lv' := [(3, .int (nI 0)), (2, .int (nI n)), (1, .ref ea), (0, .ref (ad kl i))]) hx hb dJx4a65c_clear_da8c8_26 rfl hl (by decide) rfl (fun ls hl => ?_)
  refine clear_loop C G kl ka i hka hn hcap hn1 (fun H' h => ⟨rfl, h⟩) n 0 (by omega) H2 locs2 ls (hI2.cg (fun k' i' hd' => ?_)) hS2 hl
  by_cases c1 : k' = kl ∧ i' = i
  · rw [c1.1, c1.2, up2_same, up2_same]; rfl
  · rw [up2_ne _ _ c1, up2_ne _ _ c1]
    by_cases c2 : k' = ka ∧ i' = i
    · obtain ⟨rfl, rfl⟩ := c2
      rw [up2_same, hea hd']
      unfold clA
      simp
    · rw [up2_ne _ _ c2]
