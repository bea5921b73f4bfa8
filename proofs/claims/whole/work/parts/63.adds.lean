/-! act, guard, clean: the class -/
def addR (x : st) (kl ka ke mul t : Nat) (F : Nat → Int32) : Int32 × st := if nv (x kl t 2) < mul then (x kl t 2, addX x kl ka ke mul t (nv (x kl t 2)) F) else (-2, x)
def f_X10_act (a1 a2 a3 a4 a5 a6 : Int32) (x : st) : Option (Int32 × st) := if a1 < 0 ∨ 8 ≤ a1 then some (-1, x) else bnd (f_X0_isAsTold a2 a3 a4 a5 a6 x) fun r x => if r = 0 then some (-1, x) else some (addR x 21 24 18 48 (nv a1) (F5 a2 a3 a4 a5 a6))
def f_X10_guard (a1 a2 a3 a4 a5 : Int32) (x : st) : Option (Int32 × st) := if a1 < 0 ∨ 8 ≤ a1 then some (-1, x) else bnd (f_X10_isSpan a2 a3 x) fun r x => if r = 0 then some (-1, x) else if a4 < 0 ∨ 10 ≤ a4 then some (-1, x) else if a5 < 0 ∨ 49 ≤ a5 then some (-1, x) else some (addR x 22 25 19 6 (nv a1) (F4 a2 a3 a4 a5))
def f_X10_clean (a1 a2 a3 a4 : Int32) (x : st) : Option (Int32 × st) := if a1 < 0 ∨ 8 ≤ a1 then some (-1, x) else bnd (f_X10_isSpan a2 a3 x) fun r x => if r = 0 then some (-1, x) else if a4 < 0 ∨ 8 ≤ a4 then some (-1, x) else some (addR x 23 26 20 6 (nv a1) (F3 a2 a3 a4))
def postG (g : gT) (r : Int32) (x' : st) : Option Value → Heap → Prop := fun v H => v = some (.int r) ∧ ∃ g', gx g g' ∧ wst g' x' H ∧ gok2 g' x'
def span_v (a b : Int32) : Int32 := if wi a 49 = 0 then 0 else if wi b 49 = 0 then 0 else if b ≤ a then 0 else 1
theorem span_eq {a b : Int32} {x : st} : f_X10_isSpan a b x = some (span_v a b, x) := by
  unfold f_X10_isSpan f_X10_isSpan_b27 span_v
  rw [bnd_of within_eq]
  show (if wi a 49 = 0 then _ else _) = _
  by_cases h1 : wi a 49 = 0
  · rw [if_pos h1, if_pos h1]
  · rw [if_neg h1, if_neg h1, bnd_of within_eq]
    show (if wi b 49 = 0 then _ else _) = _
    by_cases h2 : wi b 49 = 0
    · rw [if_pos h2, if_pos h2]
    · rw [if_neg h2, if_neg h2]
      by_cases h3 : b ≤ a
      · rw [if_pos h3, if_pos h3]
      · rw [if_neg h3, if_neg h3]
theorem addX_sz {x : st} {kl ka ke mul t n : Nat} {F : Nat → Int32} : addX x kl ka ke mul t n F kl t 2 = nI (n + 1) := by
  rw [addX_app, if_pos ⟨rfl, rfl⟩]; rfl
theorem re0 {g : gT} {x : st} {H : Heap} (h : wst g x H) (hk2 : gok2 g x) (ke e q : Nat) : iw (gD g) (gz g) (adA g ke e q) (dmA0 g ke e) (fcs g x) H :=
  h.1.re (fun k i hd => ⟨hd.1, adA_n (fun c => (hk2.1 i).1 (by rw [← c]; exact hd.1)) hd.2, rfl⟩)
theorem in8 {a : Int32} (h : ¬ (a < 0 ∨ 8 ≤ a)) : ∃ t, t < 8 ∧ a = nI t := by
  obtain ⟨j, hj, e⟩ := inc (a := 7) (by decide) h
  exact ⟨j, by omega, e⟩

theorem mv_X10_act : mtV yX10_act RX10 cX10_act 8 (some .int) 6 := ⟨ki_X10_act, kl_X10_act, kI_X10, kc_X10_act, by decide +kernel⟩
section LActact
variable {p : Program} {l : Launch} {e : Env} {s : State} {m : MethodId} {args : Array Value} {below : List Frame} {meth : Method} {c : Code} {g : gT}
set_option maxHeartbeats 8000000 in
set_option maxRecDepth 100000 in
theorem t_X10_act (C : cxt p s m meth c args cX10_act 8 RX10 (some .int)) (G : gst g s) {t : Nat} (ht : t < 8) (a2 a3 a4 a5 a6 : Int32) {x x' : st} {r : Int32} (h : addR x 21 24 18 48 t (F5 a2 a3 a4 a5 a6) = (r, x')) (H : Heap) (locs : List Loc) (ls : Array Slot) (hI : wst g x H) (hk2 : gok2 g x) (hS : va_S (zA (gz g)) s.heap H locs) (hl : lv_has ls 8 [(0, .ref (ga g 0 0)), (1, .int (nI t)), (2, .int a2), (3, .int a3), (4, .int a4), (5, .int a5), (6, .int a6)]) : W p l e (rmA 7 231 2 205) s m args below meth c H locs 0 0 (MQ below (Qr g (postG g r x')) args s 2 205 (zA (gz g))) (F0 m 25 ls []) := by
  obtain ⟨hx, hb, hml, hown, hts, hlk, hrt⟩ := id C
  have hL : LK 21 24 18 48 1 := by unfold LK; decide
  obtain ⟨hlo, hN⟩ := hL.lok hk2 ht
  have hgl := (hL.gl hI.2 ht).1
  refine lv_aload_n hx hb dX10_act_25 rfl (lv_at hl 0 rfl) ?_
  refine w_get C G hI 0 0 (hI.at1 rfl) (fcE_0 g _ _) rfl in_X10 0 (by decide) kf_X10_12 (fun _ h => h) (v := .ref (ga g 1 0)) rfl dX10_act_26 ?_
  refine w_get C G hI 1 0 (hI.at1 rfl) (fcE_1 g _ _) rfl in_X4 2 (by decide) kf_X10_30 (fun _ h => h) (v := .ref (ga g 10 0)) rfl dX10_act_29 ?_
  refine lv_iload_n hx hb dX10_act_32 rfl (lv_at hl 1 rfl) ?_
  refine w_aald C G hI 10 0 (hI.at1 rfl) 4 (fcA_10 g _ _) rfl (vp_in_nI ht (by decide)) (a := ga g 15 t) (by rw [nI_clamp (by omega)]) dX10_act_33 ?_
  refine w_get C G hI 15 t (hI.at8 rfl ht) (fcE_15 g _ _) rfl in_X6 0 (by decide) kf_X10_34 (fun _ h => h) (v := .ref (ga g 21 t)) rfl dX10_act_34 ?_
  refine lv_astore (lv' := [(7, .ref (ga g 21 t)), (0, .ref (ga g 0 0)), (1, .int (nI t)), (2, .int a2), (3, .int a3), (4, .int a4), (5, .int a5), (6, .int a6)]) hx hb dX10_act_37 hl (by decide) rfl (fun ls hl => ?_)
  refine lv_aload hx hb dX10_act_39 (lv_at hl 0 rfl) ?_
  refine w_callV (g := g) (fr := 0) (lo := 0) C G hI hS 21 t (hI.at8 rfl ht) (fcE_21 _ _ _) rfl mv_Jx4a65c_size_8abf5 km_X10_40 [] (k_size_21 l _ t ht _) rfl (by decide) (by decide) hl.1 rfl (Nat.le_of_ble_eq_true rfl) dX10_act_41 (fun H locs hI hS => ?_)
  refine lv_bipush (v := 48) hx hb dX10_act_44 (by decide) ?_
  obtain ⟨hn, hnB⟩ : isN (x 21 t 2) 48 := by rw [hgl]; exact hN
  unfold addR at h
  generalize hnn : nv (x 21 t 2) = n at h hn hnB
  refine lv_icmp_lt (tgt := 52) hx hb dX10_act_46 (by decide) (fun hc => ?_) (fun hc => ?_)
  rotate_left
  · have hge : ¬ n < 48 := fun c => hc (by show x 21 t 2 < 48; rw [hn]; exact nI_lt c (by decide))
    rw [if_neg hge] at h
    refine lv_bipush (v := (-2)) hx hb dX10_act_49 (by decide) ?_
    cases h
    exact r_ireti C ⟨rfl, g, gx.rf, hI, hk2⟩ hS (by decide) (by decide) dX10_act_51
  have hlt : n < 48 := by
    have : x 21 t 2 < nI 48 := hc
    rw [hn, nI_ltI (by omega) (by decide)] at this
    exact this
  rw [if_pos hlt] at h
  have hI0 := re0 hI hk2 18 (48 * t + n) H.size
  generalize hq : H.size = q at hI0
  refine lv_aload hx hb dX10_act_52 (lv_at hl 0 rfl) ?_
  refine r_new C G hI0 hS 18 (48 * t + n) (hq.trans (adA_e (by decide)).symm) (ci := 1) rfl in_X0 tyX0 tyX0_ok kC_X10_25 kN_X0 kI_X0 (fs := [.int 0, .int 0, .int 0, .int 0, .int 0]) (by decide) (by decide) (by decide) dX10_act_54 (fun H1 hI1 hS1 hz1 => ?_)
  refine lv_dup hx hb dX10_act_57 rfl ?_
  refine lv_iload_n hx hb dX10_act_58 rfl (lv_at hl 3 rfl) ?_
  refine lv_iload_n hx hb dX10_act_59 rfl (lv_at hl 4 rfl) ?_
  refine lv_iload hx hb dX10_act_60 (lv_at hl 5 rfl) ?_
  refine lv_iload hx hb dX10_act_62 (lv_at hl 6 rfl) ?_
  refine lv_iload hx hb dX10_act_64 (lv_at hl 7 rfl) ?_
  refine r_callIN (P := fun H => iw (gD g) (gz g) (adA g 18 (48 * t + n) q) (up2 (dmA0 g 18 (48 * t + n)) 18 (48 * t + n) True) (up2 (fcs g x) 18 (48 * t + n) (.inr (1, [.int 0, .int 0, .int 0, .int 0, .int 0]))) H ∧ H.size = q + 1) C G ⟨hI1, by rw [hz1, hq]⟩ hS1 mi_X0_init (host := "StepBudgets") (index := 46) (by decide) (adA g 18 (48 * t + n) q 18 (48 * t + n)) [.int a2, .int a3, .int a4, .int a5, .int a6] (k_X0_init l g (ad := adA g 18 (48 * t + n) q) (k := 18) (i := 48 * t + n) (by rw [up2_same]; trivial) (up2_same _ _ _ _) (q + 1) a2 a3 a4 a5 a6) rfl (by decide) (by decide) hl.1 rfl (Nat.le_of_ble_eq_true rfl) dX10_act_66 (fun v H2 locs2 hp hS2 => ?_)
  obtain ⟨rfl, hI2, hz2⟩ := hp
  rw [up2_up2] at hI2
  rw [adA_e (show ¬ (18 : Nat) = 90 by decide)]
  refine r_add C G hL (t := t) (n := n) (q := q) (F := F5 a2 a3 a4 a5 a6) (vs := [.int a2, .int a3, .int a4, .int a5, .int a6]) (Nf := 5) rfl (by decide) (fun _ => rfl) ht hI.2 hk2 (by rw [← hgl]; exact hn) hlt ⟨hI2, hz2⟩ hS2 km_X10_49 (by decide) (by decide) hl.1 (Nat.le_of_ble_eq_true rfl) dX10_act_69 (fun q2 H3 locs3 hw hk3 hgx hS3 => ?_)
  refine lv_pop hx hb dX10_act_72 rfl ?_
  refine lv_aload hx hb dX10_act_73 (lv_at hl 0 rfl) ?_
  have ea : ga (addG g 24 18 (48 * t + n) t q q2) 21 t = ga g 21 t := (addG_n (by simp) (by simp)).2
  rw [← ea]
  clear hI
  have hI := hw
  refine w_callV (g := addG g 24 18 (48 * t + n) t q q2) (fr := 0) (lo := 0) C (hgx.gst G) hw (by rw [hgx.z]; exact hS3) 21 t (hI.at8 rfl ht) (fcE_21 _ _ _) rfl mv_Jx4a65c_size_8abf5 km_X10_40 [] (k_size_21 l _ t ht _) rfl (by decide) (by decide) hl.1 rfl (Nat.le_of_ble_eq_true rfl) dX10_act_75 (fun H locs hI hS => ?_)
  rw [hgx.z] at hS
  refine lv_iconst (v := 1) hx hb dX10_act_78 (by decide) ?_
  refine lv_isub hx hb dX10_act_79 ?_
  rw [addX_sz, nI_sub1 (by omega), show n + 1 - 1 = n from rfl]
  cases h
  rw [hn]
  exact r_ireti C ⟨rfl, _, hgx, hI, hk3⟩ hS (by decide) (by decide) dX10_act_80
set_option maxHeartbeats 8000000 in
set_option maxRecDepth 100000 in
theorem k_X10_act (l : Launch) (g : gT) (a1 a2 a3 a4 a5 a6 : Int32) {x x' : st} {r : Int32} (h : f_X10_act a1 a2 a3 a4 a5 a6 x = some (r, x')) (hk2 : gok2 g x) : Kr l yX10_act cX10_act 8 (some .int) 7 231 2 205 g [.ref (ga g 0 0), .int a1, .int a2, .int a3, .int a4, .int a5, .int a6] (fun H => wst g x H) (postG g r x') := by
  refine Kr.of (by decide) (fun p e s m below meth c C hnm G hI => ?_)
  have hl := lv_entry ([.ref (ga g 0 0), .int a1, .int a2, .int a3, .int a4, .int a5, .int a6]) (n := 8) (Nat.le_of_ble_eq_true rfl)
  rw [lg_entry_eq]
  generalize (lg_sl ([.ref (ga g 0 0), .int a1, .int a2, .int a3, .int a4, .int a5, .int a6]) ++ List.replicate (8 - (lg_sl ([.ref (ga g 0 0), .int a1, .int a2, .int a3, .int a4, .int a5, .int a6])).length) Slot.unset).toArray = ls at hl ⊢
  have hl : lv_has ls 8 [(0, .ref (ga g 0 0)), (1, .int a1), (2, .int a2), (3, .int a3), (4, .int a4), (5, .int a5), (6, .int a6)] := hl
  obtain ⟨hx, hb, hml, hown, hts, hlk, hrt⟩ := id C
  have hS : va_S (zA (gz g)) s.heap s.heap [] := va_S.rf
  unfold f_X10_act at h
  refine lv_iload_n hx hb dX10_act_0 rfl (lv_at hl 1 rfl) ?_
  refine lv_bipush (v := 8) hx hb dX10_act_1 (by decide) ?_
  refine w_callS (fr := 0) (lo := 0) C G hI hS ms_X10_within km_X10_20 [.int a1, .int 8] (k_X10_within l g a1 8 x _ _ within_eq) rfl (by decide) (by decide) hl.1 rfl (Nat.le_of_ble_eq_true rfl) dX10_act_3 (fun H locs hI hS => ?_)
  refine lv_if_eq (tgt := 23) hx hb dX10_act_6 (by decide) (fun hc => ?_) (fun hc => ?_)
  · rw [if_pos (Classical.byContradiction (fun c => by rw [if_neg c] at hc; exact absurd hc (by decide)))] at h
    refine lv_iconst (v := (-1)) hx hb dX10_act_23 (by decide) ?_
    cases h
    exact r_ireti C ⟨rfl, g, gx.rf, hI, hk2⟩ hS (by decide) (by decide) dX10_act_24
  have hc8 : ¬ (a1 < 0 ∨ 8 ≤ a1) := fun c => hc (by rw [if_pos c])
  rw [if_neg hc8] at h
  obtain ⟨t, ht, rfl⟩ := in8 hc8
  rw [nv_nI (by omega)] at h
  obtain ⟨r0, hr, -⟩ := told_ex a2 a3 a4 a5 a6
  rw [bnd_of (hr x)] at h
  refine lv_iload_n hx hb dX10_act_9 rfl (lv_at hl 2 rfl) ?_
  refine lv_iload_n hx hb dX10_act_10 rfl (lv_at hl 3 rfl) ?_
  refine lv_iload hx hb dX10_act_11 (lv_at hl 4 rfl) ?_
  refine lv_iload hx hb dX10_act_13 (lv_at hl 5 rfl) ?_
  refine lv_iload hx hb dX10_act_15 (lv_at hl 6 rfl) ?_
  refine w_callS (fr := 2) (lo := 42) C G hI hS ms_X0_isAsTold km_X10_24 [.int a2, .int a3, .int a4, .int a5, .int a6] (k_X0_isAsTold l g a2 a3 a4 a5 a6 x _ _ (hr x)) rfl (by decide) (by decide) hl.1 rfl (Nat.le_of_ble_eq_true rfl) dX10_act_17 (fun H locs hI hS => ?_)
  refine lv_if_ne (tgt := 25) hx hb dX10_act_20 (by decide) (fun hc => ?_) (fun hc => ?_)
  · rw [if_neg hc] at h
    exact t_X10_act C G ht a2 a3 a4 a5 a6 (Option.some.inj h) _ _ ls hI hk2 hS hl
  · rw [if_pos hc] at h
    refine lv_iconst (v := (-1)) hx hb dX10_act_23 (by decide) ?_
    cases h
    exact r_ireti C ⟨rfl, g, gx.rf, hI, hk2⟩ hS (by decide) (by decide) dX10_act_24
end LActact
theorem mv_X10_guard : mtV yX10_guard RX10 cX10_guard 7 (some .int) 5 := ⟨ki_X10_guard, kl_X10_guard, kI_X10, kc_X10_guard, by decide +kernel⟩
section LActguard
variable {p : Program} {l : Launch} {e : Env} {s : State} {m : MethodId} {args : Array Value} {below : List Frame} {meth : Method} {c : Code} {g : gT}
set_option maxHeartbeats 8000000 in
set_option maxRecDepth 100000 in
theorem t_X10_guard (C : cxt p s m meth c args cX10_guard 7 RX10 (some .int)) (G : gst g s) {t : Nat} (ht : t < 8) (a2 a3 a4 a5 : Int32) {x x' : st} {r : Int32} (h : addR x 22 25 19 6 t (F4 a2 a3 a4 a5) = (r, x')) (H : Heap) (locs : List Loc) (ls : Array Slot) (hI : wst g x H) (hk2 : gok2 g x) (hS : va_S (zA (gz g)) s.heap H locs) (hl : lv_has ls 7 [(0, .ref (ga g 0 0)), (1, .int (nI t)), (2, .int a2), (3, .int a3), (4, .int a4), (5, .int a5)]) : W p l e (rmA 7 231 2 204) s m args below meth c H locs 0 0 (MQ below (Qr g (postG g r x')) args s 2 204 (zA (gz g))) (F0 m 41 ls []) := by
  obtain ⟨hx, hb, hml, hown, hts, hlk, hrt⟩ := id C
  have hL : LK 22 25 19 6 4 := by unfold LK; decide
  obtain ⟨hlo, hN⟩ := hL.lok hk2 ht
  have hgl := (hL.gl hI.2 ht).1
  refine lv_aload_n hx hb dX10_guard_41 rfl (lv_at hl 0 rfl) ?_
  refine w_get C G hI 0 0 (hI.at1 rfl) (fcE_0 g _ _) rfl in_X10 0 (by decide) kf_X10_12 (fun _ h => h) (v := .ref (ga g 1 0)) rfl dX10_guard_42 ?_
  refine w_get C G hI 1 0 (hI.at1 rfl) (fcE_1 g _ _) rfl in_X4 2 (by decide) kf_X10_30 (fun _ h => h) (v := .ref (ga g 10 0)) rfl dX10_guard_45 ?_
  refine lv_iload_n hx hb dX10_guard_48 rfl (lv_at hl 1 rfl) ?_
  refine w_aald C G hI 10 0 (hI.at1 rfl) 4 (fcA_10 g _ _) rfl (vp_in_nI ht (by decide)) (a := ga g 15 t) (by rw [nI_clamp (by omega)]) dX10_guard_49 ?_
  refine w_get C G hI 15 t (hI.at8 rfl ht) (fcE_15 g _ _) rfl in_X6 1 (by decide) kf_X10_56 (fun _ h => h) (v := .ref (ga g 22 t)) rfl dX10_guard_50 ?_
  refine lv_astore (lv' := [(6, .ref (ga g 22 t)), (0, .ref (ga g 0 0)), (1, .int (nI t)), (2, .int a2), (3, .int a3), (4, .int a4), (5, .int a5)]) hx hb dX10_guard_53 hl (by decide) rfl (fun ls hl => ?_)
  refine lv_aload hx hb dX10_guard_55 (lv_at hl 0 rfl) ?_
  refine w_callV (g := g) (fr := 0) (lo := 0) C G hI hS 22 t (hI.at8 rfl ht) (fcE_22 _ _ _) rfl mv_Jx4a65c_size_8abf5 km_X10_40 [] (k_size_22 l _ t ht _) rfl (by decide) (by decide) hl.1 rfl (Nat.le_of_ble_eq_true rfl) dX10_guard_57 (fun H locs hI hS => ?_)
  refine lv_bipush (v := 6) hx hb dX10_guard_60 (by decide) ?_
  obtain ⟨hn, hnB⟩ : isN (x 22 t 2) 6 := by rw [hgl]; exact hN
  unfold addR at h
  generalize hnn : nv (x 22 t 2) = n at h hn hnB
  refine lv_icmp_lt (tgt := 68) hx hb dX10_guard_62 (by decide) (fun hc => ?_) (fun hc => ?_)
  rotate_left
  · have hge : ¬ n < 6 := fun c => hc (by show x 22 t 2 < 6; rw [hn]; exact nI_lt c (by decide))
    rw [if_neg hge] at h
    refine lv_bipush (v := (-2)) hx hb dX10_guard_65 (by decide) ?_
    cases h
    exact r_ireti C ⟨rfl, g, gx.rf, hI, hk2⟩ hS (by decide) (by decide) dX10_guard_67
  have hlt : n < 6 := by
    have : x 22 t 2 < nI 6 := hc
    rw [hn, nI_ltI (by omega) (by decide)] at this
    exact this
  rw [if_pos hlt] at h
  have hI0 := re0 hI hk2 19 (6 * t + n) H.size
  generalize hq : H.size = q at hI0
  refine lv_aload hx hb dX10_guard_68 (lv_at hl 0 rfl) ?_
  refine r_new C G hI0 hS 19 (6 * t + n) (hq.trans (adA_e (by decide)).symm) (ci := 4) rfl in_X3 tyX3 tyX3_ok kC_X10_59 kN_X3 kI_X3 (fs := [.int 0, .int 0, .int 0, .int 0]) (by decide) (by decide) (by decide) dX10_guard_70 (fun H1 hI1 hS1 hz1 => ?_)
  refine lv_dup hx hb dX10_guard_73 rfl ?_
  refine lv_iload_n hx hb dX10_guard_74 rfl (lv_at hl 3 rfl) ?_
  refine lv_iload_n hx hb dX10_guard_75 rfl (lv_at hl 4 rfl) ?_
  refine lv_iload hx hb dX10_guard_76 (lv_at hl 5 rfl) ?_
  refine lv_iload hx hb dX10_guard_78 (lv_at hl 6 rfl) ?_
  refine r_callIN (P := fun H => iw (gD g) (gz g) (adA g 19 (6 * t + n) q) (up2 (dmA0 g 19 (6 * t + n)) 19 (6 * t + n) True) (up2 (fcs g x) 19 (6 * t + n) (.inr (4, [.int 0, .int 0, .int 0, .int 0]))) H ∧ H.size = q + 1) C G ⟨hI1, by rw [hz1, hq]⟩ hS1 mi_X3_init (host := "StepBudgets") (index := 61) (by decide) (adA g 19 (6 * t + n) q 19 (6 * t + n)) [.int a2, .int a3, .int a4, .int a5] (k_X3_init l g (ad := adA g 19 (6 * t + n) q) (k := 19) (i := 6 * t + n) (by rw [up2_same]; trivial) (up2_same _ _ _ _) (q + 1) a2 a3 a4 a5) rfl (by decide) (by decide) hl.1 rfl (Nat.le_of_ble_eq_true rfl) dX10_guard_80 (fun v H2 locs2 hp hS2 => ?_)
  obtain ⟨rfl, hI2, hz2⟩ := hp
  rw [up2_up2] at hI2
  rw [adA_e (show ¬ (19 : Nat) = 90 by decide)]
  refine r_add C G hL (t := t) (n := n) (q := q) (F := F4 a2 a3 a4 a5) (vs := [.int a2, .int a3, .int a4, .int a5]) (Nf := 4) rfl (by decide) (fun _ => rfl) ht hI.2 hk2 (by rw [← hgl]; exact hn) hlt ⟨hI2, hz2⟩ hS2 km_X10_49 (by decide) (by decide) hl.1 (Nat.le_of_ble_eq_true rfl) dX10_guard_83 (fun q2 H3 locs3 hw hk3 hgx hS3 => ?_)
  refine lv_pop hx hb dX10_guard_86 rfl ?_
  refine lv_aload hx hb dX10_guard_87 (lv_at hl 0 rfl) ?_
  have ea : ga (addG g 25 19 (6 * t + n) t q q2) 22 t = ga g 22 t := (addG_n (by simp) (by simp)).2
  rw [← ea]
  clear hI
  have hI := hw
  refine w_callV (g := addG g 25 19 (6 * t + n) t q q2) (fr := 0) (lo := 0) C (hgx.gst G) hw (by rw [hgx.z]; exact hS3) 22 t (hI.at8 rfl ht) (fcE_22 _ _ _) rfl mv_Jx4a65c_size_8abf5 km_X10_40 [] (k_size_22 l _ t ht _) rfl (by decide) (by decide) hl.1 rfl (Nat.le_of_ble_eq_true rfl) dX10_guard_89 (fun H locs hI hS => ?_)
  rw [hgx.z] at hS
  refine lv_iconst (v := 1) hx hb dX10_guard_92 (by decide) ?_
  refine lv_isub hx hb dX10_guard_93 ?_
  rw [addX_sz, nI_sub1 (by omega), show n + 1 - 1 = n from rfl]
  cases h
  rw [hn]
  exact r_ireti C ⟨rfl, _, hgx, hI, hk3⟩ hS (by decide) (by decide) dX10_guard_94
set_option maxHeartbeats 8000000 in
set_option maxRecDepth 100000 in
theorem k_X10_guard (l : Launch) (g : gT) (a1 a2 a3 a4 a5 : Int32) {x x' : st} {r : Int32} (h : f_X10_guard a1 a2 a3 a4 a5 x = some (r, x')) (hk2 : gok2 g x) : Kr l yX10_guard cX10_guard 7 (some .int) 7 231 2 204 g [.ref (ga g 0 0), .int a1, .int a2, .int a3, .int a4, .int a5] (fun H => wst g x H) (postG g r x') := by
  refine Kr.of (by decide) (fun p e s m below meth c C hnm G hI => ?_)
  have hl := lv_entry ([.ref (ga g 0 0), .int a1, .int a2, .int a3, .int a4, .int a5]) (n := 7) (Nat.le_of_ble_eq_true rfl)
  rw [lg_entry_eq]
  generalize (lg_sl ([.ref (ga g 0 0), .int a1, .int a2, .int a3, .int a4, .int a5]) ++ List.replicate (7 - (lg_sl ([.ref (ga g 0 0), .int a1, .int a2, .int a3, .int a4, .int a5])).length) Slot.unset).toArray = ls at hl ⊢
  have hl : lv_has ls 7 [(0, .ref (ga g 0 0)), (1, .int a1), (2, .int a2), (3, .int a3), (4, .int a4), (5, .int a5)] := hl
  obtain ⟨hx, hb, hml, hown, hts, hlk, hrt⟩ := id C
  have hS : va_S (zA (gz g)) s.heap s.heap [] := va_S.rf
  unfold f_X10_guard at h
  refine lv_iload_n hx hb dX10_guard_0 rfl (lv_at hl 1 rfl) ?_
  refine lv_bipush (v := 8) hx hb dX10_guard_1 (by decide) ?_
  refine w_callS (fr := 0) (lo := 0) C G hI hS ms_X10_within km_X10_20 [.int a1, .int 8] (k_X10_within l g a1 8 x _ _ within_eq) rfl (by decide) (by decide) hl.1 rfl (Nat.le_of_ble_eq_true rfl) dX10_guard_3 (fun H locs hI hS => ?_)
  refine lv_if_eq (tgt := 17) hx hb dX10_guard_6 (by decide) (fun hc => ?_) (fun hc => ?_)
  · rw [if_pos (Classical.byContradiction (fun c => by rw [if_neg c] at hc; exact absurd hc (by decide)))] at h
    refine lv_iconst (v := (-1)) hx hb dX10_guard_17 (by decide) ?_
    cases h
    exact r_ireti C ⟨rfl, g, gx.rf, hI, hk2⟩ hS (by decide) (by decide) dX10_guard_18
  have hc8 : ¬ (a1 < 0 ∨ 8 ≤ a1) := fun c => hc (by rw [if_pos c])
  rw [if_neg hc8] at h
  obtain ⟨t, ht, rfl⟩ := in8 hc8
  rw [nv_nI (by omega), bnd_of span_eq] at h
  refine lv_iload_n hx hb dX10_guard_9 rfl (lv_at hl 2 rfl) ?_
  refine lv_iload_n hx hb dX10_guard_10 rfl (lv_at hl 3 rfl) ?_
  refine w_callS (fr := 1) (lo := 21) C G hI hS ms_X10_isSpan km_X10_53 [.int a2, .int a3] (k_X10_isSpan l g a2 a3 x _ _ span_eq) rfl (by decide) (by decide) hl.1 rfl (Nat.le_of_ble_eq_true rfl) dX10_guard_11 (fun H locs hI hS => ?_)
  refine lv_if_ne (tgt := 19) hx hb dX10_guard_14 (by decide) (fun hc => ?_) (fun hc => ?_)
  rotate_left
  · rw [if_pos hc] at h
    refine lv_iconst (v := (-1)) hx hb dX10_guard_17 (by decide) ?_
    cases h
    exact r_ireti C ⟨rfl, g, gx.rf, hI, hk2⟩ hS (by decide) (by decide) dX10_guard_18
  rw [if_neg hc] at h
  refine lv_iload hx hb dX10_guard_19 (lv_at hl 4 rfl) ?_
  refine lv_bipush (v := 10) hx hb dX10_guard_21 (by decide) ?_
  refine w_callS (fr := 0) (lo := 0) C G hI hS ms_X10_within km_X10_20 [.int a4, .int 10] (k_X10_within l g a4 10 x _ _ within_eq) rfl (by decide) (by decide) hl.1 rfl (Nat.le_of_ble_eq_true rfl) dX10_guard_23 (fun H locs hI hS => ?_)
  refine lv_if_eq (tgt := 39) hx hb dX10_guard_26 (by decide) (fun hc => ?_) (fun hc => ?_)
  · rw [if_pos (Classical.byContradiction (fun c => by rw [if_neg c] at hc; exact absurd hc (by decide)))] at h
    refine lv_iconst (v := (-1)) hx hb dX10_guard_39 (by decide) ?_
    cases h
    exact r_ireti C ⟨rfl, g, gx.rf, hI, hk2⟩ hS (by decide) (by decide) dX10_guard_40
  rw [if_neg (fun c => hc (by rw [if_pos c]))] at h
  refine lv_iload hx hb dX10_guard_29 (lv_at hl 5 rfl) ?_
  refine lv_bipush (v := 49) hx hb dX10_guard_31 (by decide) ?_
  refine w_callS (fr := 0) (lo := 0) C G hI hS ms_X10_within km_X10_20 [.int a5, .int 49] (k_X10_within l g a5 49 x _ _ within_eq) rfl (by decide) (by decide) hl.1 rfl (Nat.le_of_ble_eq_true rfl) dX10_guard_33 (fun H locs hI hS => ?_)
  refine lv_if_ne (tgt := 41) hx hb dX10_guard_36 (by decide) (fun hc => ?_) (fun hc => ?_)
  · rw [if_neg (fun c => hc (by rw [if_pos c]))] at h
    exact t_X10_guard C G ht a2 a3 a4 a5 (Option.some.inj h) _ _ ls hI hk2 hS hl
  · rw [if_pos (Classical.byContradiction (fun c => by rw [if_neg c] at hc; exact absurd hc (by decide)))] at h
    refine lv_iconst (v := (-1)) hx hb dX10_guard_39 (by decide) ?_
    cases h
    exact r_ireti C ⟨rfl, g, gx.rf, hI, hk2⟩ hS (by decide) (by decide) dX10_guard_40
end LActguard
theorem mv_X10_clean : mtV yX10_clean RX10 cX10_clean 6 (some .int) 4 := ⟨ki_X10_clean, kl_X10_clean, kI_X10, kc_X10_clean, by decide +kernel⟩
section LActclean
variable {p : Program} {l : Launch} {e : Env} {s : State} {m : MethodId} {args : Array Value} {below : List Frame} {meth : Method} {c : Code} {g : gT}
set_option maxHeartbeats 8000000 in
set_option maxRecDepth 100000 in
theorem t_X10_clean (C : cxt p s m meth c args cX10_clean 6 RX10 (some .int)) (G : gst g s) {t : Nat} (ht : t < 8) (a2 a3 a4 : Int32) {x x' : st} {r : Int32} (h : addR x 23 26 20 6 t (F3 a2 a3 a4) = (r, x')) (H : Heap) (locs : List Loc) (ls : Array Slot) (hI : wst g x H) (hk2 : gok2 g x) (hS : va_S (zA (gz g)) s.heap H locs) (hl : lv_has ls 6 [(0, .ref (ga g 0 0)), (1, .int (nI t)), (2, .int a2), (3, .int a3), (4, .int a4)]) : W p l e (rmA 7 231 2 203) s m args below meth c H locs 0 0 (MQ below (Qr g (postG g r x')) args s 2 203 (zA (gz g))) (F0 m 29 ls []) := by
  obtain ⟨hx, hb, hml, hown, hts, hlk, hrt⟩ := id C
  have hL : LK 23 26 20 6 2 := by unfold LK; decide
  obtain ⟨hlo, hN⟩ := hL.lok hk2 ht
  have hgl := (hL.gl hI.2 ht).1
  refine lv_aload_n hx hb dX10_clean_29 rfl (lv_at hl 0 rfl) ?_
  refine w_get C G hI 0 0 (hI.at1 rfl) (fcE_0 g _ _) rfl in_X10 0 (by decide) kf_X10_12 (fun _ h => h) (v := .ref (ga g 1 0)) rfl dX10_clean_30 ?_
  refine w_get C G hI 1 0 (hI.at1 rfl) (fcE_1 g _ _) rfl in_X4 2 (by decide) kf_X10_30 (fun _ h => h) (v := .ref (ga g 10 0)) rfl dX10_clean_33 ?_
  refine lv_iload_n hx hb dX10_clean_36 rfl (lv_at hl 1 rfl) ?_
  refine w_aald C G hI 10 0 (hI.at1 rfl) 4 (fcA_10 g _ _) rfl (vp_in_nI ht (by decide)) (a := ga g 15 t) (by rw [nI_clamp (by omega)]) dX10_clean_37 ?_
  refine w_get C G hI 15 t (hI.at8 rfl ht) (fcE_15 g _ _) rfl in_X6 2 (by decide) kf_X10_64 (fun _ h => h) (v := .ref (ga g 23 t)) rfl dX10_clean_38 ?_
  refine lv_astore (lv' := [(5, .ref (ga g 23 t)), (0, .ref (ga g 0 0)), (1, .int (nI t)), (2, .int a2), (3, .int a3), (4, .int a4)]) hx hb dX10_clean_41 hl (by decide) rfl (fun ls hl => ?_)
  refine lv_aload hx hb dX10_clean_43 (lv_at hl 0 rfl) ?_
  refine w_callV (g := g) (fr := 0) (lo := 0) C G hI hS 23 t (hI.at8 rfl ht) (fcE_23 _ _ _) rfl mv_Jx4a65c_size_8abf5 km_X10_40 [] (k_size_23 l _ t ht _) rfl (by decide) (by decide) hl.1 rfl (Nat.le_of_ble_eq_true rfl) dX10_clean_45 (fun H locs hI hS => ?_)
  refine lv_bipush (v := 6) hx hb dX10_clean_48 (by decide) ?_
  obtain ⟨hn, hnB⟩ : isN (x 23 t 2) 6 := by rw [hgl]; exact hN
  unfold addR at h
  generalize hnn : nv (x 23 t 2) = n at h hn hnB
  refine lv_icmp_lt (tgt := 56) hx hb dX10_clean_50 (by decide) (fun hc => ?_) (fun hc => ?_)
  rotate_left
  · have hge : ¬ n < 6 := fun c => hc (by show x 23 t 2 < 6; rw [hn]; exact nI_lt c (by decide))
    rw [if_neg hge] at h
    refine lv_bipush (v := (-2)) hx hb dX10_clean_53 (by decide) ?_
    cases h
    exact r_ireti C ⟨rfl, g, gx.rf, hI, hk2⟩ hS (by decide) (by decide) dX10_clean_55
  have hlt : n < 6 := by
    have : x 23 t 2 < nI 6 := hc
    rw [hn, nI_ltI (by omega) (by decide)] at this
    exact this
  rw [if_pos hlt] at h
  have hI0 := re0 hI hk2 20 (6 * t + n) H.size
  generalize hq : H.size = q at hI0
  refine lv_aload hx hb dX10_clean_56 (lv_at hl 0 rfl) ?_
  refine r_new C G hI0 hS 20 (6 * t + n) (hq.trans (adA_e (by decide)).symm) (ci := 2) rfl in_X1 tyX1 tyX1_ok kC_X10_67 kN_X1 kI_X1 (fs := [.int 0, .int 0, .int 0]) (by decide) (by decide) (by decide) dX10_clean_58 (fun H1 hI1 hS1 hz1 => ?_)
  refine lv_dup hx hb dX10_clean_61 rfl ?_
  refine lv_iload_n hx hb dX10_clean_62 rfl (lv_at hl 3 rfl) ?_
  refine lv_iload_n hx hb dX10_clean_63 rfl (lv_at hl 4 rfl) ?_
  refine lv_iload hx hb dX10_clean_64 (lv_at hl 5 rfl) ?_
  refine r_callIN (P := fun H => iw (gD g) (gz g) (adA g 20 (6 * t + n) q) (up2 (dmA0 g 20 (6 * t + n)) 20 (6 * t + n) True) (up2 (fcs g x) 20 (6 * t + n) (.inr (2, [.int 0, .int 0, .int 0]))) H ∧ H.size = q + 1) C G ⟨hI1, by rw [hz1, hq]⟩ hS1 mi_X1_init (host := "StepBudgets") (index := 69) (by decide) (adA g 20 (6 * t + n) q 20 (6 * t + n)) [.int a2, .int a3, .int a4] (k_X1_init l g (ad := adA g 20 (6 * t + n) q) (k := 20) (i := 6 * t + n) (by rw [up2_same]; trivial) (up2_same _ _ _ _) (q + 1) a2 a3 a4) rfl (by decide) (by decide) hl.1 rfl (Nat.le_of_ble_eq_true rfl) dX10_clean_66 (fun v H2 locs2 hp hS2 => ?_)
  obtain ⟨rfl, hI2, hz2⟩ := hp
  rw [up2_up2] at hI2
  rw [adA_e (show ¬ (20 : Nat) = 90 by decide)]
  refine r_add C G hL (t := t) (n := n) (q := q) (F := F3 a2 a3 a4) (vs := [.int a2, .int a3, .int a4]) (Nf := 3) rfl (by decide) (fun _ => rfl) ht hI.2 hk2 (by rw [← hgl]; exact hn) hlt ⟨hI2, hz2⟩ hS2 km_X10_49 (by decide) (by decide) hl.1 (Nat.le_of_ble_eq_true rfl) dX10_clean_69 (fun q2 H3 locs3 hw hk3 hgx hS3 => ?_)
  refine lv_pop hx hb dX10_clean_72 rfl ?_
  refine lv_aload hx hb dX10_clean_73 (lv_at hl 0 rfl) ?_
  have ea : ga (addG g 26 20 (6 * t + n) t q q2) 23 t = ga g 23 t := (addG_n (by simp) (by simp)).2
  rw [← ea]
  clear hI
  have hI := hw
  refine w_callV (g := addG g 26 20 (6 * t + n) t q q2) (fr := 0) (lo := 0) C (hgx.gst G) hw (by rw [hgx.z]; exact hS3) 23 t (hI.at8 rfl ht) (fcE_23 _ _ _) rfl mv_Jx4a65c_size_8abf5 km_X10_40 [] (k_size_23 l _ t ht _) rfl (by decide) (by decide) hl.1 rfl (Nat.le_of_ble_eq_true rfl) dX10_clean_75 (fun H locs hI hS => ?_)
  rw [hgx.z] at hS
  refine lv_iconst (v := 1) hx hb dX10_clean_78 (by decide) ?_
  refine lv_isub hx hb dX10_clean_79 ?_
  rw [addX_sz, nI_sub1 (by omega), show n + 1 - 1 = n from rfl]
  cases h
  rw [hn]
  exact r_ireti C ⟨rfl, _, hgx, hI, hk3⟩ hS (by decide) (by decide) dX10_clean_80
set_option maxHeartbeats 8000000 in
set_option maxRecDepth 100000 in
theorem k_X10_clean (l : Launch) (g : gT) (a1 a2 a3 a4 : Int32) {x x' : st} {r : Int32} (h : f_X10_clean a1 a2 a3 a4 x = some (r, x')) (hk2 : gok2 g x) : Kr l yX10_clean cX10_clean 6 (some .int) 7 231 2 203 g [.ref (ga g 0 0), .int a1, .int a2, .int a3, .int a4] (fun H => wst g x H) (postG g r x') := by
  refine Kr.of (by decide) (fun p e s m below meth c C hnm G hI => ?_)
  have hl := lv_entry ([.ref (ga g 0 0), .int a1, .int a2, .int a3, .int a4]) (n := 6) (Nat.le_of_ble_eq_true rfl)
  rw [lg_entry_eq]
  generalize (lg_sl ([.ref (ga g 0 0), .int a1, .int a2, .int a3, .int a4]) ++ List.replicate (6 - (lg_sl ([.ref (ga g 0 0), .int a1, .int a2, .int a3, .int a4])).length) Slot.unset).toArray = ls at hl ⊢
  have hl : lv_has ls 6 [(0, .ref (ga g 0 0)), (1, .int a1), (2, .int a2), (3, .int a3), (4, .int a4)] := hl
  obtain ⟨hx, hb, hml, hown, hts, hlk, hrt⟩ := id C
  have hS : va_S (zA (gz g)) s.heap s.heap [] := va_S.rf
  unfold f_X10_clean at h
  refine lv_iload_n hx hb dX10_clean_0 rfl (lv_at hl 1 rfl) ?_
  refine lv_bipush (v := 8) hx hb dX10_clean_1 (by decide) ?_
  refine w_callS (fr := 0) (lo := 0) C G hI hS ms_X10_within km_X10_20 [.int a1, .int 8] (k_X10_within l g a1 8 x _ _ within_eq) rfl (by decide) (by decide) hl.1 rfl (Nat.le_of_ble_eq_true rfl) dX10_clean_3 (fun H locs hI hS => ?_)
  refine lv_if_eq (tgt := 27) hx hb dX10_clean_6 (by decide) (fun hc => ?_) (fun hc => ?_)
  · rw [if_pos (Classical.byContradiction (fun c => by rw [if_neg c] at hc; exact absurd hc (by decide)))] at h
    refine lv_iconst (v := (-1)) hx hb dX10_clean_27 (by decide) ?_
    cases h
    exact r_ireti C ⟨rfl, g, gx.rf, hI, hk2⟩ hS (by decide) (by decide) dX10_clean_28
  have hc8 : ¬ (a1 < 0 ∨ 8 ≤ a1) := fun c => hc (by rw [if_pos c])
  rw [if_neg hc8] at h
  obtain ⟨t, ht, rfl⟩ := in8 hc8
  rw [nv_nI (by omega), bnd_of span_eq] at h
  refine lv_iload_n hx hb dX10_clean_9 rfl (lv_at hl 2 rfl) ?_
  refine lv_iload_n hx hb dX10_clean_10 rfl (lv_at hl 3 rfl) ?_
  refine w_callS (fr := 1) (lo := 21) C G hI hS ms_X10_isSpan km_X10_53 [.int a2, .int a3] (k_X10_isSpan l g a2 a3 x _ _ span_eq) rfl (by decide) (by decide) hl.1 rfl (Nat.le_of_ble_eq_true rfl) dX10_clean_11 (fun H locs hI hS => ?_)
  refine lv_if_eq (tgt := 27) hx hb dX10_clean_14 (by decide) (fun hc => ?_) (fun hc => ?_)
  · rw [if_pos hc] at h
    refine lv_iconst (v := (-1)) hx hb dX10_clean_27 (by decide) ?_
    cases h
    exact r_ireti C ⟨rfl, g, gx.rf, hI, hk2⟩ hS (by decide) (by decide) dX10_clean_28
  rw [if_neg hc] at h
  refine lv_iload hx hb dX10_clean_17 (lv_at hl 4 rfl) ?_
  refine lv_bipush (v := 8) hx hb dX10_clean_19 (by decide) ?_
  refine w_callS (fr := 0) (lo := 0) C G hI hS ms_X10_within km_X10_20 [.int a4, .int 8] (k_X10_within l g a4 8 x _ _ within_eq) rfl (by decide) (by decide) hl.1 rfl (Nat.le_of_ble_eq_true rfl) dX10_clean_21 (fun H locs hI hS => ?_)
  refine lv_if_ne (tgt := 29) hx hb dX10_clean_24 (by decide) (fun hc => ?_) (fun hc => ?_)
  · rw [if_neg (fun c => hc (by rw [if_pos c]))] at h
    exact t_X10_clean C G ht a2 a3 a4 (Option.some.inj h) _ _ ls hI hk2 hS hl
  · rw [if_pos (Classical.byContradiction (fun c => by rw [if_neg c] at hc; exact absurd hc (by decide)))] at h
    refine lv_iconst (v := (-1)) hx hb dX10_clean_27 (by decide) ?_
    cases h
    exact r_ireti C ⟨rfl, g, gx.rf, hI, hk2⟩ hS (by decide) (by decide) dX10_clean_28
end LActclean
