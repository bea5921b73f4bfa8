/-! X11_over -/
def f_X11_over_b77 (lp : Int32 → st → Option (st)) (v1 : Int32) (s0 : Int32) (s1 : Int32) (x : st) : Option (st) := if inb s1 13 = true then lets (sx x 66 0 s1.toNatClampNeg s0) fun x6 => if inb v1 13 = true then if inb (x6 57 0 v1.toNatClampNeg) 8 = true then if inb v1 13 = true then lets (sx x6 67 0 v1.toNatClampNeg ((x6 51 0 (x6 57 0 v1.toNatClampNeg).toNatClampNeg) - 1)) fun x10 => lp (v1 + 1) x10 else none else none else none else none
set_option maxHeartbeats 4000000 in
set_option maxRecDepth 100000 in
theorem w_X11_over_b77 {p : Program} {l : Launch} {e : Env} {s : State} {m : MethodId} {args : Array Value} {below : List Frame} {meth : Method} {c : Code} {g : gT} {x' : st} (C : cxt p s m meth c args cX11_over 2 RX11 none) (G : gst g s) (lp : Int32 → st → Option (st)) (hlp : ∀ (v1 : Int32) (x : st) (H : Heap) (locs : List Loc) (ls : Array Slot), lp v1 x = some x' → wst g x H → va_S (zA (gz g)) s.heap H locs → lv_has ls 2 [(0, .ref (ga g 30 0)), (1, .int v1)] → W p l e (rmC 0 0) s m args below meth c H locs 0 0 (MQ below (Qx g none x') args s 0 0 (zA (gz g))) (F0 m 45 ls [])) (v1 : Int32) (s0 : Int32) (s1 : Int32) (x : st) (H : Heap) (locs : List Loc) (ls : Array Slot)  (h : f_X11_over_b77 lp v1 s0 s1 x = some x') (hI : wst g x H) (hS : va_S (zA (gz g)) s.heap H locs) (hl : lv_has ls 2 [(0, .ref (ga g 30 0)), (1, .int v1)]) : W p l e (rmC 0 0) s m args below meth c H locs 0 0 (MQ below (Qx g none x') args s 0 0 (zA (gz g))) (F0 m 77 ls [.int s0, .int s1, .ref (ga g 66 0)]) := by
  obtain ⟨hx, hb, hml, hown, hts, hlk, hrt⟩ := id C
  unfold f_X11_over_b77 at h
  obtain ⟨hn5, h⟩ := need_t h
  refine w_iast C G hI hS 66 0 (hI.at1 rfl) rfl (fcA_66 g _) (y := s0) (inb_in hn5) dX11_over_77 (fun H locs hI hS => ?_)
  obtain ⟨x6, e_x6, h⟩ := lets_some h
  rw [← e_x6] at hI
  refine lv_aload_n hx hb dX11_over_78 rfl (lv_at hl 0 rfl) ?_
  refine w_get C G hI 30 0 (hI.at1 rfl) (fcE_30 g _ _) rfl in_X11 27 (by decide) kf_X11_90 (fun _ h => h) (v := .ref (ga g 67 0)) rfl dX11_over_79 ?_
  refine lv_iload_n hx hb dX11_over_82 rfl (lv_at hl 1 rfl) ?_
  refine lv_aload_n hx hb dX11_over_83 rfl (lv_at hl 0 rfl) ?_
  refine w_get C G hI 30 0 (hI.at1 rfl) (fcE_30 g _ _) rfl in_X11 11 (by decide) kf_X11_43 (fun _ h => h) (v := .ref (ga g 51 0)) rfl dX11_over_84 ?_
  refine lv_aload_n hx hb dX11_over_87 rfl (lv_at hl 0 rfl) ?_
  refine w_get C G hI 30 0 (hI.at1 rfl) (fcE_30 g _ _) rfl in_X11 17 (by decide) kf_X11_59 (fun _ h => h) (v := .ref (ga g 57 0)) rfl dX11_over_88 ?_
  refine lv_iload_n hx hb dX11_over_91 rfl (lv_at hl 1 rfl) ?_
  obtain ⟨hn7, h⟩ := need_t h
  refine w_iald C G hI 57 0 (hI.at1 rfl) (fcA_57 g _ _) (inb_in hn7) dX11_over_92 ?_
  obtain ⟨hn8, h⟩ := need_t h
  refine w_iald C G hI 51 0 (hI.at1 rfl) (fcA_51 g _ _) (inb_in hn8) dX11_over_93 ?_
  refine lv_iconst (v := 1) hx hb dX11_over_94 (by decide) ?_
  refine lv_isub hx hb dX11_over_95 ?_
  obtain ⟨hn9, h⟩ := need_t h
  refine w_iast C G hI hS 67 0 (hI.at1 rfl) rfl (fcA_67 g _) (y := ((x6 51 0 (x6 57 0 v1.toNatClampNeg).toNatClampNeg) - 1)) (inb_in hn9) dX11_over_96 (fun H locs hI hS => ?_)
  obtain ⟨x10, e_x10, h⟩ := lets_some h
  rw [← e_x10] at hI
  refine lv_iinc (v := (v1 + 1)) (lv' := [(1, .int (v1 + 1)), (0, .ref (ga g 30 0))]) hx hb dX11_over_97 hl (k := 1) rfl rfl (by decide) rfl (fun ls hl => ?_)
  refine lv_goto (tgt := 45) hx hb dX11_over_100 (by decide) ?_
  exact hlp (v1 + 1) x10 _ _ _  h hI hS (lv_sub hl [1, 0] rfl)
def f_X11_over_b45 : Nat → Int32 → st → Option (st)
  | 0, _, _ => none
  | n + 1, v1, x => if (x 30 0 16) ≤ v1 then (some x) else (if inb v1 13 = true then if (x 62 0 v1.toNatClampNeg) = 0 then (f_X11_over_b77 (f_X11_over_b45 n) v1 0 v1 x) else (if inb v1 13 = true then f_X11_over_b77 (f_X11_over_b45 n) v1 (x 66 0 v1.toNatClampNeg) v1 x else none) else none)
set_option maxHeartbeats 4000000 in
set_option maxRecDepth 100000 in
theorem w_X11_over_b45 {p : Program} {l : Launch} {e : Env} {s : State} {m : MethodId} {args : Array Value} {below : List Frame} {meth : Method} {c : Code} {g : gT} {x' : st} (C : cxt p s m meth c args cX11_over 2 RX11 none) (G : gst g s) : ∀ (n : Nat) (v1 : Int32) (x : st) (H : Heap) (locs : List Loc) (ls : Array Slot), f_X11_over_b45 n v1 x = some x' → wst g x H → va_S (zA (gz g)) s.heap H locs → lv_has ls 2 [(0, .ref (ga g 30 0)), (1, .int v1)] → W p l e (rmC 0 0) s m args below meth c H locs 0 0 (MQ below (Qx g none x') args s 0 0 (zA (gz g))) (F0 m 45 ls []) := by
  obtain ⟨hx, hb, hml, hown, hts, hlk, hrt⟩ := id C
  intro n
  induction n with
  | zero =>
    intro v1 x H locs ls h hI hS hl
    simp [f_X11_over_b45] at h
  | succ n ih =>
    intro v1 x H locs ls h hI hS hl
    unfold f_X11_over_b45 at h
    refine lv_iload_n hx hb dX11_over_45 rfl (lv_at hl 1 rfl) ?_
    refine lv_aload_n hx hb dX11_over_46 rfl (lv_at hl 0 rfl) ?_
    refine w_get C G hI 30 0 (hI.at1 rfl) (fcE_30 g _ _) rfl in_X11 16 (by decide) kf_X11_119 (fun _ h => h) (v := .int (x 30 0 16)) rfl dX11_over_47 ?_
    refine lv_icmp_ge (tgt := 103) hx hb dX11_over_50 (by decide) (fun hc => ?_) (fun hc => ?_)
    · replace h := ite_y hc h
      cases h
      exact w_vret C hI hS dX11_over_103
    replace h := ite_n hc h
    refine lv_aload_n hx hb dX11_over_53 rfl (lv_at hl 0 rfl) ?_
    refine w_get C G hI 30 0 (hI.at1 rfl) (fcE_30 g _ _) rfl in_X11 26 (by decide) kf_X11_87 (fun _ h => h) (v := .ref (ga g 66 0)) rfl dX11_over_54 ?_
    refine lv_iload_n hx hb dX11_over_57 rfl (lv_at hl 1 rfl) ?_
    refine lv_aload_n hx hb dX11_over_58 rfl (lv_at hl 0 rfl) ?_
    refine w_get C G hI 30 0 (hI.at1 rfl) (fcE_30 g _ _) rfl in_X11 22 (by decide) kf_X11_75 (fun _ h => h) (v := .ref (ga g 62 0)) rfl dX11_over_59 ?_
    refine lv_iload_n hx hb dX11_over_62 rfl (lv_at hl 1 rfl) ?_
    obtain ⟨hn4, h⟩ := need_t h
    refine w_zald C G hI 62 0 (hI.at1 rfl) (fcA_62 g _ _) (inb_in hn4) dX11_over_63 ?_
    refine lv_if_eq (tgt := 76) hx hb dX11_over_64 (by decide) (fun hc => ?_) (fun hc => ?_)
    · replace h := ite_y hc h
      refine lv_iconst (v := 0) hx hb dX11_over_76 (by decide) ?_
      exact w_X11_over_b77 C G (f_X11_over_b45 n) ih v1 0 v1 x _ _ _  h hI hS (lv_sub hl [0, 1] rfl)
    replace h := ite_n hc h
    refine lv_aload_n hx hb dX11_over_67 rfl (lv_at hl 0 rfl) ?_
    refine w_get C G hI 30 0 (hI.at1 rfl) (fcE_30 g _ _) rfl in_X11 26 (by decide) kf_X11_87 (fun _ h => h) (v := .ref (ga g 66 0)) rfl dX11_over_68 ?_
    refine lv_iload_n hx hb dX11_over_71 rfl (lv_at hl 1 rfl) ?_
    obtain ⟨hn5, h⟩ := need_t h
    refine w_iald C G hI 66 0 (hI.at1 rfl) (fcA_66 g _ _) (inb_in hn5) dX11_over_72 ?_
    refine lv_goto (tgt := 77) hx hb dX11_over_73 (by decide) ?_
    exact w_X11_over_b77 C G (f_X11_over_b45 n) ih v1 (x 66 0 v1.toNatClampNeg) v1 x _ _ _  h hI hS (lv_sub hl [0, 1] rfl)
def f_X11_over  (x : st) : Option (st) := if (x 30 0 37) = 0 then (lets (sx x 30 0 37 1) fun x1 => lets (sx x1 30 0 38 ((x1 30 0 16) - 1)) fun x2 => lets (sx x2 30 0 35 1) fun x3 => f_X11_over_b45 100 0 x3) else (if inb 7 9 = true then lets (sx x 80 0 (7 : Int32).toNatClampNeg 1) fun x5 => lets (sx x5 30 0 36 1) fun x6 => some x6 else none)
set_option maxHeartbeats 4000000 in
set_option maxRecDepth 100000 in
theorem w_X11_over {p : Program} {l : Launch} {e : Env} {s : State} {m : MethodId} {args : Array Value} {below : List Frame} {meth : Method} {c : Code} {g : gT} {x' : st} (C : cxt p s m meth c args cX11_over 2 RX11 none) (G : gst g s)  (x : st) (H : Heap) (locs : List Loc) (ls : Array Slot)  (h : f_X11_over  x = some x') (hI : wst g x H) (hS : va_S (zA (gz g)) s.heap H locs) (hl : lv_has ls 2 [(0, .ref (ga g 30 0))]) : W p l e (rmC 0 0) s m args below meth c H locs 0 0 (MQ below (Qx g none x') args s 0 0 (zA (gz g))) (F0 m 0 ls []) := by
  obtain ⟨hx, hb, hml, hown, hts, hlk, hrt⟩ := id C
  unfold f_X11_over at h
  refine lv_aload_n hx hb dX11_over_0 rfl (lv_at hl 0 rfl) ?_
  refine w_get C G hI 30 0 (hI.at1 rfl) (fcE_30 g _ _) rfl in_X11 37 (by decide) kf_X11_149 (fun _ h => h) (v := .int (x 30 0 37)) rfl dX11_over_1 ?_
  refine lv_if_eq (tgt := 23) hx hb dX11_over_4 (by decide) (fun hc => ?_) (fun hc => ?_)
  · replace h := ite_y hc h
    refine lv_aload_n hx hb dX11_over_23 rfl (lv_at hl 0 rfl) ?_
    refine lv_iconst (v := 1) hx hb dX11_over_24 (by decide) ?_
    refine w_put C G hI hS 30 0 (hI.at1 rfl) rfl (fcE_30 g _ _) rfl in_X11 tyX11 tyX11_ok nmX11 37 (by decide) kf_X11_149 (fun _ h => h) rfl (ty := .boolean) (y := 1) (by decide +kernel) rfl rfl (Nat.le_of_ble_eq_true rfl) (m44_set_37 g _ _) dX11_over_25 (fun H locs hI hS => ?_)
    obtain ⟨x1, e_x1, h⟩ := lets_some h
    rw [← e_x1] at hI
    refine lv_aload_n hx hb dX11_over_28 rfl (lv_at hl 0 rfl) ?_
    refine lv_aload_n hx hb dX11_over_29 rfl (lv_at hl 0 rfl) ?_
    refine w_get C G hI 30 0 (hI.at1 rfl) (fcE_30 g _ _) rfl in_X11 16 (by decide) kf_X11_119 (fun _ h => h) (v := .int (x1 30 0 16)) rfl dX11_over_30 ?_
    refine lv_iconst (v := 1) hx hb dX11_over_33 (by decide) ?_
    refine lv_isub hx hb dX11_over_34 ?_
    refine w_put C G hI hS 30 0 (hI.at1 rfl) rfl (fcE_30 g _ _) rfl in_X11 tyX11 tyX11_ok nmX11 38 (by decide) kf_X11_162 (fun _ h => h) rfl (ty := .int) (y := ((x1 30 0 16) - 1)) (by decide +kernel) rfl rfl (Nat.le_of_ble_eq_true rfl) (m44_set_38 g _ _) dX11_over_35 (fun H locs hI hS => ?_)
    obtain ⟨x2, e_x2, h⟩ := lets_some h
    rw [← e_x2] at hI
    refine lv_aload_n hx hb dX11_over_38 rfl (lv_at hl 0 rfl) ?_
    refine lv_iconst (v := 1) hx hb dX11_over_39 (by decide) ?_
    refine w_put C G hI hS 30 0 (hI.at1 rfl) rfl (fcE_30 g _ _) rfl in_X11 tyX11 tyX11_ok nmX11 35 (by decide) kf_X11_165 (fun _ h => h) rfl (ty := .int) (y := 1) (by decide +kernel) rfl rfl (Nat.le_of_ble_eq_true rfl) (m44_set_35 g _ _) dX11_over_40 (fun H locs hI hS => ?_)
    obtain ⟨x3, e_x3, h⟩ := lets_some h
    rw [← e_x3] at hI
    refine lv_iconst (v := 0) hx hb dX11_over_43 (by decide) ?_
    refine lv_istore_n (lv' := [(1, .int 0), (0, .ref (ga g 30 0))]) hx hb dX11_over_44 rfl hl (by decide) rfl (fun ls hl => ?_)
    exact w_X11_over_b45 C G 100 0 x3 _ _ _  h hI hS (lv_sub hl [1, 0] rfl)
  replace h := ite_n hc h
  refine lv_aload_n hx hb dX11_over_7 rfl (lv_at hl 0 rfl) ?_
  refine w_get C G hI 30 0 (hI.at1 rfl) (fcE_30 g _ _) rfl in_X11 40 (by decide) kf_X11_107 (fun _ h => h) (v := .ref (ga g 80 0)) rfl dX11_over_8 ?_
  refine lv_bipush (v := 7) hx hb dX11_over_11 (by decide) ?_
  refine lv_iconst (v := 1) hx hb dX11_over_13 (by decide) ?_
  obtain ⟨hn4, h⟩ := need_t h
  refine w_iast C G hI hS 80 0 (hI.at1 rfl) rfl (fcA_80 g _) (y := 1) (inb_in hn4) dX11_over_14 (fun H locs hI hS => ?_)
  obtain ⟨x5, e_x5, h⟩ := lets_some h
  rw [← e_x5] at hI
  refine lv_aload_n hx hb dX11_over_15 rfl (lv_at hl 0 rfl) ?_
  refine lv_iconst (v := 1) hx hb dX11_over_16 (by decide) ?_
  refine w_put C G hI hS 30 0 (hI.at1 rfl) rfl (fcE_30 g _ _) rfl in_X11 tyX11 tyX11_ok nmX11 36 (by decide) kf_X11_159 (fun _ h => h) rfl (ty := .boolean) (y := 1) (by decide +kernel) rfl rfl (Nat.le_of_ble_eq_true rfl) (m44_set_36 g _ _) dX11_over_17 (fun H locs hI hS => ?_)
  obtain ⟨x6, e_x6, h⟩ := lets_some h
  rw [← e_x6] at hI
  refine lv_goto (tgt := 103) hx hb dX11_over_20 (by decide) ?_
  cases h
  exact w_vret C hI hS dX11_over_103
theorem k_X11_over (l : Launch) (g : gT)  (x : st) (x' : st)  (h : f_X11_over  x = some x') : Kt l yX11_over cX11_over 2 none 0 0 g [.ref (ga g 30 0)] x none x' := by
  refine Kt.of (by decide) (fun p e s m below meth c C G hI => ?_)
  have hl := lv_entry ([.ref (ga g 30 0)]) (n := 2) (Nat.le_of_ble_eq_true rfl)
  rw [lg_entry_eq]
  generalize (lg_sl ([.ref (ga g 30 0)]) ++ List.replicate (2 - (lg_sl ([.ref (ga g 30 0)])).length) Slot.unset).toArray = ls at hl ⊢
  have hl : lv_has ls 2 [(0, .ref (ga g 30 0))] := hl
  exact w_X11_over C G  x _ _ ls  h hI va_S.rf hl
theorem mv_X11_over : mtV yX11_over RX11 cX11_over 2 none 0 := ⟨ki_X11_over, kl_X11_over, kI_X11, kc_X11_over, by decide +kernel⟩

/-! X11_take -/
def f_X11_take_b39 (v1 : Int32) (v2 : Int32) (s0 : Int32) (s1 : Int32) (x : st) : Option (Int32 × st) := if s0 < s1 then (bnv (f_X11_over  x) fun x2 => some (0, x2)) else (if inb v2 9 = true then if inb v2 9 = true then lets (sx x 80 0 v2.toNatClampNeg ((x 80 0 v2.toNatClampNeg) + v1)) fun x7 => some (1, x7) else none else none)
set_option maxHeartbeats 4000000 in
set_option maxRecDepth 100000 in
theorem w_X11_take_b39 {p : Program} {l : Launch} {e : Env} {s : State} {m : MethodId} {args : Array Value} {below : List Frame} {meth : Method} {c : Code} {g : gT} {r : Int32} {x' : st} (C : cxt p s m meth c args cX11_take 3 RX11 (some .boolean)) (G : gst g s) (v1 : Int32) (v2 : Int32) (s0 : Int32) (s1 : Int32) (x : st) (H : Heap) (locs : List Loc) (ls : Array Slot)  (h : f_X11_take_b39 v1 v2 s0 s1 x = some (r, x')) (hI : wst g x H) (hS : va_S (zA (gz g)) s.heap H locs) (hl : lv_has ls 3 [(0, .ref (ga g 30 0)), (1, .int v1), (2, .int v2)]) : W p l e (rmC 1 21) s m args below meth c H locs 0 0 (MQ below (Qx g (some (.int r)) x') args s 0 0 (zA (gz g))) (F0 m 39 ls [.int s0, .int s1]) := by
  obtain ⟨hx, hb, hml, hown, hts, hlk, hrt⟩ := id C
  unfold f_X11_take_b39 at h
  refine lv_icmp_gt (tgt := 54) hx hb dX11_take_39 (by decide) (fun hc => ?_) (fun hc => ?_)
  · replace h := ite_y hc h
    refine lv_aload_n hx hb dX11_take_54 rfl (lv_at hl 0 rfl) ?_
    obtain ⟨x2, hq4, h⟩ := bnv_some h
    refine w_callV (fr := 0) (lo := 0) C G hI hS 30 0 (hI.at1 rfl) (fcE_30 g _ _) rfl mv_X11_over km_X11_156 [] (k_X11_over l g  x _  hq4) rfl (by first | exact ⟨by decide, by decide⟩ | exact ⟨by show _ ≤ _ + _; omega, by show _ ≤ _ + _; omega⟩) ⟨Nat.zero_le _, Nat.zero_le _⟩ hl.1 rfl (Nat.le_of_ble_eq_true rfl) dX11_take_55 (fun H locs hI hS => ?_)
    refine lv_iconst (v := 0) hx hb dX11_take_58 (by decide) ?_
    cases h
    exact w_iretz C hI hS (by decide) dX11_take_59
  replace h := ite_n hc h
  refine lv_aload_n hx hb dX11_take_42 rfl (lv_at hl 0 rfl) ?_
  refine w_get C G hI 30 0 (hI.at1 rfl) (fcE_30 g _ _) rfl in_X11 40 (by decide) kf_X11_107 (fun _ h => h) (v := .ref (ga g 80 0)) rfl dX11_take_43 ?_
  refine lv_iload_n hx hb dX11_take_46 rfl (lv_at hl 2 rfl) ?_
  refine lv_dup2_11 hx hb dX11_take_47 rfl rfl ?_
  obtain ⟨hn5, h⟩ := need_t h
  refine w_iald C G hI 80 0 (hI.at1 rfl) (fcA_80 g _ _) (inb_in hn5) dX11_take_48 ?_
  refine lv_iload_n hx hb dX11_take_49 rfl (lv_at hl 1 rfl) ?_
  refine lv_iadd hx hb dX11_take_50 ?_
  obtain ⟨hn6, h⟩ := need_t h
  refine w_iast C G hI hS 80 0 (hI.at1 rfl) rfl (fcA_80 g _) (y := ((x 80 0 v2.toNatClampNeg) + v1)) (inb_in hn6) dX11_take_51 (fun H locs hI hS => ?_)
  obtain ⟨x7, e_x7, h⟩ := lets_some h
  rw [← e_x7] at hI
  refine lv_iconst (v := 1) hx hb dX11_take_52 (by decide) ?_
  cases h
  exact w_iretz C hI hS (by decide) dX11_take_53
def f_X11_take_b12 (v1 : Int32) (s0 : Int32) (x : st) : Option (Int32 × st) := if inb s0 9 = true then if (x 30 0 37) = 0 then (f_X11_take_b39 v1 s0 (x 30 0 34) ((x 80 0 s0.toNatClampNeg) + v1) x) else (f_X11_take_b39 v1 s0 (x 30 0 15) ((x 80 0 s0.toNatClampNeg) + v1) x) else none
set_option maxHeartbeats 4000000 in
set_option maxRecDepth 100000 in
theorem w_X11_take_b12 {p : Program} {l : Launch} {e : Env} {s : State} {m : MethodId} {args : Array Value} {below : List Frame} {meth : Method} {c : Code} {g : gT} {r : Int32} {x' : st} (C : cxt p s m meth c args cX11_take 3 RX11 (some .boolean)) (G : gst g s) (v1 : Int32) (s0 : Int32) (x : st) (H : Heap) (locs : List Loc) (ls : Array Slot)  (h : f_X11_take_b12 v1 s0 x = some (r, x')) (hI : wst g x H) (hS : va_S (zA (gz g)) s.heap H locs) (hl : lv_has ls 3 [(0, .ref (ga g 30 0)), (1, .int v1)]) : W p l e (rmC 1 21) s m args below meth c H locs 0 0 (MQ below (Qx g (some (.int r)) x') args s 0 0 (zA (gz g))) (F0 m 12 ls [.int s0]) := by
  obtain ⟨hx, hb, hml, hown, hts, hlk, hrt⟩ := id C
  unfold f_X11_take_b12 at h
  refine lv_istore_n (lv' := [(2, .int s0), (0, .ref (ga g 30 0)), (1, .int v1)]) hx hb dX11_take_12 rfl hl (by decide) rfl (fun ls hl => ?_)
  refine lv_aload_n hx hb dX11_take_13 rfl (lv_at hl 1 rfl) ?_
  refine w_get C G hI 30 0 (hI.at1 rfl) (fcE_30 g _ _) rfl in_X11 40 (by decide) kf_X11_107 (fun _ h => h) (v := .ref (ga g 80 0)) rfl dX11_take_14 ?_
  refine lv_iload_n hx hb dX11_take_17 rfl (lv_at hl 0 rfl) ?_
  obtain ⟨hn1, h⟩ := need_t h
  refine w_iald C G hI 80 0 (hI.at1 rfl) (fcA_80 g _ _) (inb_in hn1) dX11_take_18 ?_
  refine lv_iload_n hx hb dX11_take_19 rfl (lv_at hl 2 rfl) ?_
  refine lv_iadd hx hb dX11_take_20 ?_
  refine lv_aload_n hx hb dX11_take_21 rfl (lv_at hl 1 rfl) ?_
  refine w_get C G hI 30 0 (hI.at1 rfl) (fcE_30 g _ _) rfl in_X11 37 (by decide) kf_X11_149 (fun _ h => h) (v := .int (x 30 0 37)) rfl dX11_take_22 ?_
  refine lv_if_eq (tgt := 35) hx hb dX11_take_25 (by decide) (fun hc => ?_) (fun hc => ?_)
  · replace h := ite_y hc h
    refine lv_aload_n hx hb dX11_take_35 rfl (lv_at hl 1 rfl) ?_
    refine w_get C G hI 30 0 (hI.at1 rfl) (fcE_30 g _ _) rfl in_X11 34 (by decide) kf_X11_153 (fun _ h => h) (v := .int (x 30 0 34)) rfl dX11_take_36 ?_
    exact w_X11_take_b39 C G v1 s0 (x 30 0 34) ((x 80 0 s0.toNatClampNeg) + v1) x _ _ _  h hI hS (lv_sub hl [1, 2, 0] rfl)
  replace h := ite_n hc h
  refine lv_aload_n hx hb dX11_take_28 rfl (lv_at hl 1 rfl) ?_
  refine w_get C G hI 30 0 (hI.at1 rfl) (fcE_30 g _ _) rfl in_X11 15 (by decide) kf_X11_55 (fun _ h => h) (v := .int (x 30 0 15)) rfl dX11_take_29 ?_
  refine lv_goto (tgt := 39) hx hb dX11_take_32 (by decide) ?_
  exact w_X11_take_b39 C G v1 s0 (x 30 0 15) ((x 80 0 s0.toNatClampNeg) + v1) x _ _ _  h hI hS (lv_sub hl [1, 2, 0] rfl)
def f_X11_take (a1 : Int32) (x : st) : Option (Int32 × st) := if (x 30 0 37) = 0 then (f_X11_take_b12 a1 2 x) else (f_X11_take_b12 a1 3 x)
set_option maxHeartbeats 4000000 in
set_option maxRecDepth 100000 in
theorem w_X11_take {p : Program} {l : Launch} {e : Env} {s : State} {m : MethodId} {args : Array Value} {below : List Frame} {meth : Method} {c : Code} {g : gT} {r : Int32} {x' : st} (C : cxt p s m meth c args cX11_take 3 RX11 (some .boolean)) (G : gst g s) (a1 : Int32) (x : st) (H : Heap) (locs : List Loc) (ls : Array Slot)  (h : f_X11_take a1 x = some (r, x')) (hI : wst g x H) (hS : va_S (zA (gz g)) s.heap H locs) (hl : lv_has ls 3 [(0, .ref (ga g 30 0)), (1, .int a1)]) : W p l e (rmC 1 21) s m args below meth c H locs 0 0 (MQ below (Qx g (some (.int r)) x') args s 0 0 (zA (gz g))) (F0 m 0 ls []) := by
  obtain ⟨hx, hb, hml, hown, hts, hlk, hrt⟩ := id C
  unfold f_X11_take at h
  refine lv_aload_n hx hb dX11_take_0 rfl (lv_at hl 0 rfl) ?_
  refine w_get C G hI 30 0 (hI.at1 rfl) (fcE_30 g _ _) rfl in_X11 37 (by decide) kf_X11_149 (fun _ h => h) (v := .int (x 30 0 37)) rfl dX11_take_1 ?_
  refine lv_if_eq (tgt := 11) hx hb dX11_take_4 (by decide) (fun hc => ?_) (fun hc => ?_)
  · replace h := ite_y hc h
    refine lv_iconst (v := 2) hx hb dX11_take_11 (by decide) ?_
    exact w_X11_take_b12 C G a1 2 x _ _ _  h hI hS (lv_sub hl [0, 1] rfl)
  replace h := ite_n hc h
  refine lv_iconst (v := 3) hx hb dX11_take_7 (by decide) ?_
  refine lv_goto (tgt := 12) hx hb dX11_take_8 (by decide) ?_
  exact w_X11_take_b12 C G a1 3 x _ _ _  h hI hS (lv_sub hl [0, 1] rfl)
theorem k_X11_take (l : Launch) (g : gT) (a1 : Int32) (x : st) (r : Int32) (x' : st)  (h : f_X11_take a1 x = some (r, x')) : Kt l yX11_take cX11_take 3 (some .boolean) 1 21 g [.ref (ga g 30 0), .int a1] x (some (.int r)) x' := by
  refine Kt.of (by decide) (fun p e s m below meth c C G hI => ?_)
  have hl := lv_entry ([.ref (ga g 30 0), .int a1]) (n := 3) (Nat.le_of_ble_eq_true rfl)
  rw [lg_entry_eq]
  generalize (lg_sl ([.ref (ga g 30 0), .int a1]) ++ List.replicate (3 - (lg_sl ([.ref (ga g 30 0), .int a1])).length) Slot.unset).toArray = ls at hl ⊢
  have hl : lv_has ls 3 [(0, .ref (ga g 30 0)), (1, .int a1)] := hl
  exact w_X11_take C G a1 x _ _ ls  h hI va_S.rf hl
theorem mv_X11_take : mtV yX11_take RX11 cX11_take 3 (some .boolean) 1 := ⟨ki_X11_take, kl_X11_take, kI_X11, kc_X11_take, by decide +kernel⟩

/-! X11_counts -/
def f_X11_counts  (x : st) : Option (Int32 × st) := bnd (f_X11_take 1 x) fun r2 x1 => if isz r2 = true then some (r2, x1) else none
set_option maxHeartbeats 4000000 in
set_option maxRecDepth 100000 in
theorem w_X11_counts {p : Program} {l : Launch} {e : Env} {s : State} {m : MethodId} {args : Array Value} {below : List Frame} {meth : Method} {c : Code} {g : gT} {r : Int32} {x' : st} (C : cxt p s m meth c args cX11_counts 1 RX11 (some .boolean)) (G : gst g s)  (x : st) (H : Heap) (locs : List Loc) (ls : Array Slot)  (h : f_X11_counts  x = some (r, x')) (hI : wst g x H) (hS : va_S (zA (gz g)) s.heap H locs) (hl : lv_has ls 1 [(0, .ref (ga g 30 0))]) : W p l e (rmC 2 43) s m args below meth c H locs 0 0 (MQ below (Qx g (some (.int r)) x') args s 0 0 (zA (gz g))) (F0 m 0 ls []) := by
  obtain ⟨hx, hb, hml, hown, hts, hlk, hrt⟩ := id C
  unfold f_X11_counts at h
  refine lv_aload_n hx hb dX11_counts_0 rfl (lv_at hl 0 rfl) ?_
  refine lv_iconst (v := 1) hx hb dX11_counts_1 (by decide) ?_
  obtain ⟨r2, x1, hq3, h⟩ := bnd_some h
  refine w_callV (fr := 1) (lo := 21) C G hI hS 30 0 (hI.at1 rfl) (fcE_30 g _ _) rfl mv_X11_take km_X11_146 [.int 1] (k_X11_take l g 1 x _ _  hq3) rfl (by first | exact ⟨by decide, by decide⟩ | exact ⟨by show _ ≤ _ + _; omega, by show _ ≤ _ + _; omega⟩) ⟨Nat.zero_le _, Nat.zero_le _⟩ hl.1 rfl (Nat.le_of_ble_eq_true rfl) dX11_counts_2 (fun H locs hI hS => ?_)
  obtain ⟨hn4, h⟩ := need_t h
  cases h
  exact w_iretz C hI hS (isz_or hn4) dX11_counts_5
theorem k_X11_counts (l : Launch) (g : gT)  (x : st) (r : Int32) (x' : st)  (h : f_X11_counts  x = some (r, x')) : Kt l yX11_counts cX11_counts 1 (some .boolean) 2 43 g [.ref (ga g 30 0)] x (some (.int r)) x' := by
  refine Kt.of (by decide) (fun p e s m below meth c C G hI => ?_)
  have hl := lv_entry ([.ref (ga g 30 0)]) (n := 1) (Nat.le_of_ble_eq_true rfl)
  rw [lg_entry_eq]
  generalize (lg_sl ([.ref (ga g 30 0)]) ++ List.replicate (1 - (lg_sl ([.ref (ga g 30 0)])).length) Slot.unset).toArray = ls at hl ⊢
  have hl : lv_has ls 1 [(0, .ref (ga g 30 0))] := hl
  exact w_X11_counts C G  x _ _ ls  h hI va_S.rf hl
theorem mv_X11_counts : mtV yX11_counts RX11 cX11_counts 1 (some .boolean) 0 := ⟨ki_X11_counts, kl_X11_counts, kI_X11, kc_X11_counts, by decide +kernel⟩

/-! X11_holds -/
def f_X11_holds_b20  (x : st) : Option (Int32 × st) := some (0, x)
set_option maxHeartbeats 4000000 in
set_option maxRecDepth 100000 in
theorem w_X11_holds_b20 {p : Program} {l : Launch} {e : Env} {s : State} {m : MethodId} {args : Array Value} {below : List Frame} {meth : Method} {c : Code} {g : gT} {r : Int32} {x' : st} (C : cxt p s m meth c args cX11_holds 3 RX11 (some .boolean)) (G : gst g s)  (x : st) (H : Heap) (locs : List Loc) (ls : Array Slot)  (h : f_X11_holds_b20  x = some (r, x')) (hI : wst g x H) (hS : va_S (zA (gz g)) s.heap H locs) (hl : lv_has ls 3 []) : W p l e (rmC 0 0) s m args below meth c H locs 0 0 (MQ below (Qx g (some (.int r)) x') args s 0 0 (zA (gz g))) (F0 m 20 ls []) := by
  obtain ⟨hx, hb, hml, hown, hts, hlk, hrt⟩ := id C
  unfold f_X11_holds_b20 at h
  refine lv_iconst (v := 0) hx hb dX11_holds_20 (by decide) ?_
  cases h
  exact w_iretz C hI hS (by decide) dX11_holds_21
def f_X11_holds (a1 : Int32) (a2 : Int32) (a3 : Int32) (x : st) : Option (Int32 × st) := if a3 = 99 then (f_X11_holds_b20  x) else (if a3 < a1 then (f_X11_holds_b20  x) else (if a2 ≤ a3 then (f_X11_holds_b20  x) else (some (1, x))))
set_option maxHeartbeats 4000000 in
set_option maxRecDepth 100000 in
theorem w_X11_holds {p : Program} {l : Launch} {e : Env} {s : State} {m : MethodId} {args : Array Value} {below : List Frame} {meth : Method} {c : Code} {g : gT} {r : Int32} {x' : st} (C : cxt p s m meth c args cX11_holds 3 RX11 (some .boolean)) (G : gst g s) (a1 : Int32) (a2 : Int32) (a3 : Int32) (x : st) (H : Heap) (locs : List Loc) (ls : Array Slot)  (h : f_X11_holds a1 a2 a3 x = some (r, x')) (hI : wst g x H) (hS : va_S (zA (gz g)) s.heap H locs) (hl : lv_has ls 3 [(0, .int a1), (1, .int a2), (2, .int a3)]) : W p l e (rmC 0 0) s m args below meth c H locs 0 0 (MQ below (Qx g (some (.int r)) x') args s 0 0 (zA (gz g))) (F0 m 0 ls []) := by
  obtain ⟨hx, hb, hml, hown, hts, hlk, hrt⟩ := id C
  unfold f_X11_holds at h
  refine lv_iload_n hx hb dX11_holds_0 rfl (lv_at hl 2 rfl) ?_
  refine lv_bipush (v := 99) hx hb dX11_holds_1 (by decide) ?_
  refine lv_icmp_eq (tgt := 20) hx hb dX11_holds_3 (by decide) (fun hc => ?_) (fun hc => ?_)
  · replace h := ite_y hc h
    exact w_X11_holds_b20 C G  x _ _ _  h hI hS (lv_sub hl [] rfl)
  replace h := ite_n hc h
  refine lv_iload_n hx hb dX11_holds_6 rfl (lv_at hl 2 rfl) ?_
  refine lv_iload_n hx hb dX11_holds_7 rfl (lv_at hl 0 rfl) ?_
  refine lv_icmp_lt (tgt := 20) hx hb dX11_holds_8 (by decide) (fun hc => ?_) (fun hc => ?_)
  · replace h := ite_y hc h
    exact w_X11_holds_b20 C G  x _ _ _  h hI hS (lv_sub hl [] rfl)
  replace h := ite_n hc h
  refine lv_iload_n hx hb dX11_holds_11 rfl (lv_at hl 2 rfl) ?_
  refine lv_iload_n hx hb dX11_holds_12 rfl (lv_at hl 1 rfl) ?_
  refine lv_icmp_ge (tgt := 20) hx hb dX11_holds_13 (by decide) (fun hc => ?_) (fun hc => ?_)
  · replace h := ite_y hc h
    exact w_X11_holds_b20 C G  x _ _ _  h hI hS (lv_sub hl [] rfl)
  replace h := ite_n hc h
  refine lv_iconst (v := 1) hx hb dX11_holds_16 (by decide) ?_
  refine lv_goto (tgt := 21) hx hb dX11_holds_17 (by decide) ?_
  cases h
  exact w_iretz C hI hS (by decide) dX11_holds_21
theorem k_X11_holds (l : Launch) (g : gT) (a1 : Int32) (a2 : Int32) (a3 : Int32) (x : st) (r : Int32) (x' : st)  (h : f_X11_holds a1 a2 a3 x = some (r, x')) : Kt l yX11_holds cX11_holds 3 (some .boolean) 0 0 g [.int a1, .int a2, .int a3] x (some (.int r)) x' := by
  refine Kt.of (by decide) (fun p e s m below meth c C G hI => ?_)
  have hl := lv_entry ([.int a1, .int a2, .int a3]) (n := 3) (Nat.le_of_ble_eq_true rfl)
  rw [lg_entry_eq]
  generalize (lg_sl ([.int a1, .int a2, .int a3]) ++ List.replicate (3 - (lg_sl ([.int a1, .int a2, .int a3])).length) Slot.unset).toArray = ls at hl ⊢
  have hl : lv_has ls 3 [(0, .int a1), (1, .int a2), (2, .int a3)] := hl
  exact w_X11_holds C G a1 a2 a3 x _ _ ls  h hI va_S.rf hl
theorem ms_X11_holds : mtS yX11_holds RX11 cX11_holds 3 (some .boolean) 3 := ⟨ks_X11_holds, kI_X11, kc_X11_holds, by decide +kernel⟩

/-! X11_leave -/
def f_X11_leave_b33 (v1 : Int32) (v3 : Int32) (v4 : Int32) (s0 : Int32) (s1 : Int32) (x : st) : Option (st) := if inb s1 13 = true then lets (sx x 63 0 s1.toNatClampNeg s0) fun x6 => if inb v1 13 = true then lets (sx x6 64 0 v1.toNatClampNeg v3) fun x8 => if inb v1 13 = true then lets (sx x8 65 0 v1.toNatClampNeg v4) fun x10 => if inb v1 13 = true then lets (sx x10 66 0 v1.toNatClampNeg 0) fun x12 => if inb v1 13 = true then if inb (x12 57 0 v1.toNatClampNeg) 8 = true then if inb v1 13 = true then lets (sx x12 67 0 v1.toNatClampNeg ((x12 51 0 (x12 57 0 v1.toNatClampNeg).toNatClampNeg) - 1)) fun x16 => some x16 else none else none else none else none else none else none else none
set_option maxHeartbeats 4000000 in
set_option maxRecDepth 100000 in
theorem w_X11_leave_b33 {p : Program} {l : Launch} {e : Env} {s : State} {m : MethodId} {args : Array Value} {below : List Frame} {meth : Method} {c : Code} {g : gT} {x' : st} (C : cxt p s m meth c args cX11_leave 5 RX11 none) (G : gst g s) (v1 : Int32) (v3 : Int32) (v4 : Int32) (s0 : Int32) (s1 : Int32) (x : st) (H : Heap) (locs : List Loc) (ls : Array Slot)  (h : f_X11_leave_b33 v1 v3 v4 s0 s1 x = some x') (hI : wst g x H) (hS : va_S (zA (gz g)) s.heap H locs) (hl : lv_has ls 5 [(0, .ref (ga g 30 0)), (1, .int v1), (3, .int v3), (4, .int v4)]) : W p l e (rmC 0 0) s m args below meth c H locs 0 0 (MQ below (Qx g none x') args s 0 0 (zA (gz g))) (F0 m 33 ls [.int s0, .int s1, .ref (ga g 63 0)]) := by
  obtain ⟨hx, hb, hml, hown, hts, hlk, hrt⟩ := id C
  unfold f_X11_leave_b33 at h
  obtain ⟨hn5, h⟩ := need_t h
  refine w_iast C G hI hS 63 0 (hI.at1 rfl) rfl (fcA_63 g _) (y := s0) (inb_in hn5) dX11_leave_33 (fun H locs hI hS => ?_)
  obtain ⟨x6, e_x6, h⟩ := lets_some h
  rw [← e_x6] at hI
  refine lv_aload_n hx hb dX11_leave_34 rfl (lv_at hl 0 rfl) ?_
  refine w_get C G hI 30 0 (hI.at1 rfl) (fcE_30 g _ _) rfl in_X11 24 (by decide) kf_X11_81 (fun _ h => h) (v := .ref (ga g 64 0)) rfl dX11_leave_35 ?_
  refine lv_iload_n hx hb dX11_leave_38 rfl (lv_at hl 1 rfl) ?_
  refine lv_iload_n hx hb dX11_leave_39 rfl (lv_at hl 2 rfl) ?_
  obtain ⟨hn7, h⟩ := need_t h
  refine w_iast C G hI hS 64 0 (hI.at1 rfl) rfl (fcA_64 g _) (y := v3) (inb_in hn7) dX11_leave_40 (fun H locs hI hS => ?_)
  obtain ⟨x8, e_x8, h⟩ := lets_some h
  rw [← e_x8] at hI
  refine lv_aload_n hx hb dX11_leave_41 rfl (lv_at hl 0 rfl) ?_
  refine w_get C G hI 30 0 (hI.at1 rfl) (fcE_30 g _ _) rfl in_X11 25 (by decide) kf_X11_84 (fun _ h => h) (v := .ref (ga g 65 0)) rfl dX11_leave_42 ?_
  refine lv_iload_n hx hb dX11_leave_45 rfl (lv_at hl 1 rfl) ?_
  refine lv_iload hx hb dX11_leave_46 (lv_at hl 3 rfl) ?_
  obtain ⟨hn9, h⟩ := need_t h
  refine w_iast C G hI hS 65 0 (hI.at1 rfl) rfl (fcA_65 g _) (y := v4) (inb_in hn9) dX11_leave_48 (fun H locs hI hS => ?_)
  obtain ⟨x10, e_x10, h⟩ := lets_some h
  rw [← e_x10] at hI
  refine lv_aload_n hx hb dX11_leave_49 rfl (lv_at hl 0 rfl) ?_
  refine w_get C G hI 30 0 (hI.at1 rfl) (fcE_30 g _ _) rfl in_X11 26 (by decide) kf_X11_87 (fun _ h => h) (v := .ref (ga g 66 0)) rfl dX11_leave_50 ?_
  refine lv_iload_n hx hb dX11_leave_53 rfl (lv_at hl 1 rfl) ?_
  refine lv_iconst (v := 0) hx hb dX11_leave_54 (by decide) ?_
  obtain ⟨hn11, h⟩ := need_t h
  refine w_iast C G hI hS 66 0 (hI.at1 rfl) rfl (fcA_66 g _) (y := 0) (inb_in hn11) dX11_leave_55 (fun H locs hI hS => ?_)
  obtain ⟨x12, e_x12, h⟩ := lets_some h
  rw [← e_x12] at hI
  refine lv_aload_n hx hb dX11_leave_56 rfl (lv_at hl 0 rfl) ?_
  refine w_get C G hI 30 0 (hI.at1 rfl) (fcE_30 g _ _) rfl in_X11 27 (by decide) kf_X11_90 (fun _ h => h) (v := .ref (ga g 67 0)) rfl dX11_leave_57 ?_
  refine lv_iload_n hx hb dX11_leave_60 rfl (lv_at hl 1 rfl) ?_
  refine lv_aload_n hx hb dX11_leave_61 rfl (lv_at hl 0 rfl) ?_
  refine w_get C G hI 30 0 (hI.at1 rfl) (fcE_30 g _ _) rfl in_X11 11 (by decide) kf_X11_43 (fun _ h => h) (v := .ref (ga g 51 0)) rfl dX11_leave_62 ?_
  refine lv_aload_n hx hb dX11_leave_65 rfl (lv_at hl 0 rfl) ?_
  refine w_get C G hI 30 0 (hI.at1 rfl) (fcE_30 g _ _) rfl in_X11 17 (by decide) kf_X11_59 (fun _ h => h) (v := .ref (ga g 57 0)) rfl dX11_leave_66 ?_
  refine lv_iload_n hx hb dX11_leave_69 rfl (lv_at hl 1 rfl) ?_
  obtain ⟨hn13, h⟩ := need_t h
  refine w_iald C G hI 57 0 (hI.at1 rfl) (fcA_57 g _ _) (inb_in hn13) dX11_leave_70 ?_
  obtain ⟨hn14, h⟩ := need_t h
  refine w_iald C G hI 51 0 (hI.at1 rfl) (fcA_51 g _ _) (inb_in hn14) dX11_leave_71 ?_
  refine lv_iconst (v := 1) hx hb dX11_leave_72 (by decide) ?_
  refine lv_isub hx hb dX11_leave_73 ?_
  obtain ⟨hn15, h⟩ := need_t h
  refine w_iast C G hI hS 67 0 (hI.at1 rfl) rfl (fcA_67 g _) (y := ((x12 51 0 (x12 57 0 v1.toNatClampNeg).toNatClampNeg) - 1)) (inb_in hn15) dX11_leave_74 (fun H locs hI hS => ?_)
  obtain ⟨x16, e_x16, h⟩ := lets_some h
  rw [← e_x16] at hI
  cases h
  exact w_vret C hI hS dX11_leave_75
def f_X11_leave (a1 : Int32) (a2 : Int32) (a3 : Int32) (a4 : Int32) (x : st) : Option (st) := if inb a1 13 = true then lets (sx x 62 0 a1.toNatClampNeg 1) fun x2 => if inb a1 13 = true then if inb (x2 57 0 a1.toNatClampNeg) 8 = true then if a2 < (x2 40 0 (x2 57 0 a1.toNatClampNeg).toNatClampNeg) then (f_X11_leave_b33 a1 a3 a4 a2 a1 x2) else (f_X11_leave_b33 a1 a3 a4 99 a1 x2) else none else none else none
set_option maxHeartbeats 4000000 in
set_option maxRecDepth 100000 in
theorem w_X11_leave {p : Program} {l : Launch} {e : Env} {s : State} {m : MethodId} {args : Array Value} {below : List Frame} {meth : Method} {c : Code} {g : gT} {x' : st} (C : cxt p s m meth c args cX11_leave 5 RX11 none) (G : gst g s) (a1 : Int32) (a2 : Int32) (a3 : Int32) (a4 : Int32) (x : st) (H : Heap) (locs : List Loc) (ls : Array Slot)  (h : f_X11_leave a1 a2 a3 a4 x = some x') (hI : wst g x H) (hS : va_S (zA (gz g)) s.heap H locs) (hl : lv_has ls 5 [(0, .ref (ga g 30 0)), (1, .int a1), (2, .int a2), (3, .int a3), (4, .int a4)]) : W p l e (rmC 0 0) s m args below meth c H locs 0 0 (MQ below (Qx g none x') args s 0 0 (zA (gz g))) (F0 m 0 ls []) := by
  obtain ⟨hx, hb, hml, hown, hts, hlk, hrt⟩ := id C
  unfold f_X11_leave at h
  refine lv_aload_n hx hb dX11_leave_0 rfl (lv_at hl 0 rfl) ?_
  refine w_get C G hI 30 0 (hI.at1 rfl) (fcE_30 g _ _) rfl in_X11 22 (by decide) kf_X11_75 (fun _ h => h) (v := .ref (ga g 62 0)) rfl dX11_leave_1 ?_
  refine lv_iload_n hx hb dX11_leave_4 rfl (lv_at hl 1 rfl) ?_
  refine lv_iconst (v := 1) hx hb dX11_leave_5 (by decide) ?_
  obtain ⟨hn1, h⟩ := need_t h
  refine w_zast C G hI hS 62 0 (hI.at1 rfl) rfl (fcA_62 g _) (y := 1) (inb_in hn1) (by decide) dX11_leave_6 (fun H locs hI hS => ?_)
  obtain ⟨x2, e_x2, h⟩ := lets_some h
  rw [← e_x2] at hI
  refine lv_aload_n hx hb dX11_leave_7 rfl (lv_at hl 0 rfl) ?_
  refine w_get C G hI 30 0 (hI.at1 rfl) (fcE_30 g _ _) rfl in_X11 23 (by decide) kf_X11_78 (fun _ h => h) (v := .ref (ga g 63 0)) rfl dX11_leave_8 ?_
  refine lv_iload_n hx hb dX11_leave_11 rfl (lv_at hl 1 rfl) ?_
  refine lv_iload_n hx hb dX11_leave_12 rfl (lv_at hl 2 rfl) ?_
  refine lv_aload_n hx hb dX11_leave_13 rfl (lv_at hl 0 rfl) ?_
  refine w_get C G hI 30 0 (hI.at1 rfl) (fcE_30 g _ _) rfl in_X11 0 (by decide) kf_X11_7 (fun _ h => h) (v := .ref (ga g 40 0)) rfl dX11_leave_14 ?_
  refine lv_aload_n hx hb dX11_leave_17 rfl (lv_at hl 0 rfl) ?_
  refine w_get C G hI 30 0 (hI.at1 rfl) (fcE_30 g _ _) rfl in_X11 17 (by decide) kf_X11_59 (fun _ h => h) (v := .ref (ga g 57 0)) rfl dX11_leave_18 ?_
  refine lv_iload_n hx hb dX11_leave_21 rfl (lv_at hl 1 rfl) ?_
  obtain ⟨hn3, h⟩ := need_t h
  refine w_iald C G hI 57 0 (hI.at1 rfl) (fcA_57 g _ _) (inb_in hn3) dX11_leave_22 ?_
  obtain ⟨hn4, h⟩ := need_t h
  refine w_iald C G hI 40 0 (hI.at1 rfl) (fcA_40 g _ _) (inb_in hn4) dX11_leave_23 ?_
  refine lv_icmp_lt (tgt := 32) hx hb dX11_leave_24 (by decide) (fun hc => ?_) (fun hc => ?_)
  · replace h := ite_y hc h
    refine lv_iload_n hx hb dX11_leave_32 rfl (lv_at hl 2 rfl) ?_
    exact w_X11_leave_b33 C G a1 a3 a4 a2 a1 x2 _ _ _  h hI hS (lv_sub hl [0, 1, 3, 4] rfl)
  replace h := ite_n hc h
  refine lv_bipush (v := 99) hx hb dX11_leave_27 (by decide) ?_
  refine lv_goto (tgt := 33) hx hb dX11_leave_29 (by decide) ?_
  exact w_X11_leave_b33 C G a1 a3 a4 99 a1 x2 _ _ _  h hI hS (lv_sub hl [0, 1, 3, 4] rfl)
theorem k_X11_leave (l : Launch) (g : gT) (a1 : Int32) (a2 : Int32) (a3 : Int32) (a4 : Int32) (x : st) (x' : st)  (h : f_X11_leave a1 a2 a3 a4 x = some x') : Kt l yX11_leave cX11_leave 5 none 0 0 g [.ref (ga g 30 0), .int a1, .int a2, .int a3, .int a4] x none x' := by
  refine Kt.of (by decide) (fun p e s m below meth c C G hI => ?_)
  have hl := lv_entry ([.ref (ga g 30 0), .int a1, .int a2, .int a3, .int a4]) (n := 5) (Nat.le_of_ble_eq_true rfl)
  rw [lg_entry_eq]
  generalize (lg_sl ([.ref (ga g 30 0), .int a1, .int a2, .int a3, .int a4]) ++ List.replicate (5 - (lg_sl ([.ref (ga g 30 0), .int a1, .int a2, .int a3, .int a4])).length) Slot.unset).toArray = ls at hl ⊢
  have hl : lv_has ls 5 [(0, .ref (ga g 30 0)), (1, .int a1), (2, .int a2), (3, .int a3), (4, .int a4)] := hl
  exact w_X11_leave C G a1 a2 a3 a4 x _ _ ls  h hI va_S.rf hl
theorem mv_X11_leave : mtV yX11_leave RX11 cX11_leave 5 none 4 := ⟨ki_X11_leave, kl_X11_leave, kI_X11, kc_X11_leave, by decide +kernel⟩

/-! X11_raise -/
def f_X11_raise_b110 (lp : Int32 → Int32 → Int32 → Int32 → st → Option (st)) (v1 : Int32) (v2 : Int32) (v3 : Int32) (v4 : Int32) (x : st) : Option (st) := lp v1 v2 v3 (v4 + 1) x
set_option maxHeartbeats 4000000 in
set_option maxRecDepth 100000 in
theorem w_X11_raise_b110 {p : Program} {l : Launch} {e : Env} {s : State} {m : MethodId} {args : Array Value} {below : List Frame} {meth : Method} {c : Code} {g : gT} {x' : st} (C : cxt p s m meth c args cX11_raise 6 RX11 none) (G : gst g s) (lp : Int32 → Int32 → Int32 → Int32 → st → Option (st)) (hlp : ∀ (v1 : Int32) (v2 : Int32) (v3 : Int32) (v4 : Int32) (x : st) (H : Heap) (locs : List Loc) (ls : Array Slot), lp v1 v2 v3 v4 x = some x' → wst g x H → va_S (zA (gz g)) s.heap H locs → lv_has ls 6 [(0, .ref (ga g 30 0)), (1, .int v1), (2, .int v2), (3, .int v3), (4, .int v4)] → W p l e (rmC 3 63) s m args below meth c H locs 0 0 (MQ below (Qx g none x') args s 0 0 (zA (gz g))) (F0 m 10 ls [])) (v1 : Int32) (v2 : Int32) (v3 : Int32) (v4 : Int32) (x : st) (H : Heap) (locs : List Loc) (ls : Array Slot)  (h : f_X11_raise_b110 lp v1 v2 v3 v4 x = some x') (hI : wst g x H) (hS : va_S (zA (gz g)) s.heap H locs) (hl : lv_has ls 6 [(0, .ref (ga g 30 0)), (1, .int v1), (2, .int v2), (3, .int v3), (4, .int v4)]) : W p l e (rmC 3 63) s m args below meth c H locs 0 0 (MQ below (Qx g none x') args s 0 0 (zA (gz g))) (F0 m 110 ls []) := by
  obtain ⟨hx, hb, hml, hown, hts, hlk, hrt⟩ := id C
  unfold f_X11_raise_b110 at h
  refine lv_iinc (v := (v4 + 1)) (lv' := [(4, .int (v4 + 1)), (0, .ref (ga g 30 0)), (1, .int v1), (2, .int v2), (3, .int v3)]) hx hb dX11_raise_110 hl (k := 4) rfl rfl (by decide) rfl (fun ls hl => ?_)
  refine lv_goto (tgt := 10) hx hb dX11_raise_113 (by decide) ?_
  exact hlp v1 v2 v3 (v4 + 1) x _ _ _  h hI hS (lv_sub hl [1, 2, 3, 4, 0] rfl)
def f_X11_raise_b77 (v1 : Int32) (v2 : Int32) (v5 : Int32) (x : st) : Option (st) := bnd (f_X11_counts  x) fun r14 x13 => if r14 = 0 then (some x13) else (if inb 6 9 = true then if inb 6 9 = true then lets (sx x13 80 0 (6 : Int32).toNatClampNeg ((x13 80 0 (6 : Int32).toNatClampNeg) + 1)) fun x18 => if inb v5 48 = true then bnv (f_X11_leave v1 (x18 50 0 v5.toNatClampNeg) 3 v2 x18) fun x20 => some x20 else none else none else none)
set_option maxHeartbeats 4000000 in
set_option maxRecDepth 100000 in
theorem w_X11_raise_b77 {p : Program} {l : Launch} {e : Env} {s : State} {m : MethodId} {args : Array Value} {below : List Frame} {meth : Method} {c : Code} {g : gT} {x' : st} (C : cxt p s m meth c args cX11_raise 6 RX11 none) (G : gst g s) (v1 : Int32) (v2 : Int32) (v5 : Int32) (x : st) (H : Heap) (locs : List Loc) (ls : Array Slot)  (h : f_X11_raise_b77 v1 v2 v5 x = some x') (hI : wst g x H) (hS : va_S (zA (gz g)) s.heap H locs) (hl : lv_has ls 6 [(0, .ref (ga g 30 0)), (1, .int v1), (2, .int v2), (5, .int v5)]) : W p l e (rmC 3 63) s m args below meth c H locs 0 0 (MQ below (Qx g none x') args s 0 0 (zA (gz g))) (F0 m 77 ls []) := by
  obtain ⟨hx, hb, hml, hown, hts, hlk, hrt⟩ := id C
  unfold f_X11_raise_b77 at h
  refine lv_aload_n hx hb dX11_raise_77 rfl (lv_at hl 0 rfl) ?_
  obtain ⟨r14, x13, hq15, h⟩ := bnd_some h
  refine w_callV (fr := 2) (lo := 43) C G hI hS 30 0 (hI.at1 rfl) (fcE_30 g _ _) rfl mv_X11_counts km_X11_178 [] (k_X11_counts l g  x _ _  hq15) rfl (by first | exact ⟨by decide, by decide⟩ | exact ⟨by show _ ≤ _ + _; omega, by show _ ≤ _ + _; omega⟩) ⟨Nat.zero_le _, Nat.zero_le _⟩ hl.1 rfl (Nat.le_of_ble_eq_true rfl) dX11_raise_78 (fun H locs hI hS => ?_)
  refine lv_if_eq (tgt := 109) hx hb dX11_raise_81 (by decide) (fun hc => ?_) (fun hc => ?_)
  · replace h := ite_y hc h
    cases h
    exact w_vret C hI hS dX11_raise_109
  replace h := ite_n hc h
  refine lv_aload_n hx hb dX11_raise_84 rfl (lv_at hl 0 rfl) ?_
  refine w_get C G hI 30 0 (hI.at1 rfl) (fcE_30 g _ _) rfl in_X11 40 (by decide) kf_X11_107 (fun _ h => h) (v := .ref (ga g 80 0)) rfl dX11_raise_85 ?_
  refine lv_bipush (v := 6) hx hb dX11_raise_88 (by decide) ?_
  refine lv_dup2_11 hx hb dX11_raise_90 rfl rfl ?_
  obtain ⟨hn16, h⟩ := need_t h
  refine w_iald C G hI 80 0 (hI.at1 rfl) (fcA_80 g _ _) (inb_in hn16) dX11_raise_91 ?_
  refine lv_iconst (v := 1) hx hb dX11_raise_92 (by decide) ?_
  refine lv_iadd hx hb dX11_raise_93 ?_
  obtain ⟨hn17, h⟩ := need_t h
  refine w_iast C G hI hS 80 0 (hI.at1 rfl) rfl (fcA_80 g _) (y := ((x13 80 0 (6 : Int32).toNatClampNeg) + 1)) (inb_in hn17) dX11_raise_94 (fun H locs hI hS => ?_)
  obtain ⟨x18, e_x18, h⟩ := lets_some h
  rw [← e_x18] at hI
  refine lv_aload_n hx hb dX11_raise_95 rfl (lv_at hl 0 rfl) ?_
  refine lv_iload_n hx hb dX11_raise_96 rfl (lv_at hl 1 rfl) ?_
  refine lv_aload_n hx hb dX11_raise_97 rfl (lv_at hl 0 rfl) ?_
  refine w_get C G hI 30 0 (hI.at1 rfl) (fcE_30 g _ _) rfl in_X11 10 (by decide) kf_X11_40 (fun _ h => h) (v := .ref (ga g 50 0)) rfl dX11_raise_98 ?_
  refine lv_iload hx hb dX11_raise_101 (lv_at hl 3 rfl) ?_
  obtain ⟨hn19, h⟩ := need_t h
  refine w_iald C G hI 50 0 (hI.at1 rfl) (fcA_50 g _ _) (inb_in hn19) dX11_raise_103 ?_
  refine lv_iconst (v := 3) hx hb dX11_raise_104 (by decide) ?_
  refine lv_iload_n hx hb dX11_raise_105 rfl (lv_at hl 2 rfl) ?_
  obtain ⟨x20, hq22, h⟩ := bnv_some h
  refine w_callV (fr := 0) (lo := 0) C G hI hS 30 0 (hI.at1 rfl) (fcE_30 g _ _) rfl mv_X11_leave km_X11_198 [.int v1, .int (x18 50 0 v5.toNatClampNeg), .int 3, .int v2] (k_X11_leave l g v1 (x18 50 0 v5.toNatClampNeg) 3 v2 x18 _  hq22) rfl (by first | exact ⟨by decide, by decide⟩ | exact ⟨by show _ ≤ _ + _; omega, by show _ ≤ _ + _; omega⟩) ⟨Nat.zero_le _, Nat.zero_le _⟩ hl.1 rfl (Nat.le_of_ble_eq_true rfl) dX11_raise_106 (fun H locs hI hS => ?_)
  cases h
  exact w_vret C hI hS dX11_raise_109
def f_X11_raise_b10 : Nat → Int32 → Int32 → Int32 → Int32 → st → Option (st)
  | 0, _, _, _, _, _ => none
  | n + 1, v1, v2, v3, v4, x => if inb v3 8 = true then if (x 46 0 v3.toNatClampNeg) ≤ v4 then (bnv (f_X11_leave v1 99 2 v2 x) fun x3 => some x3) else (if inb ((6 * v3) + v4) 48 = true then if inb ((6 * v3) + v4) 48 = true then if inb v1 13 = true then bnd (f_X11_holds (x 47 0 ((6 * v3) + v4).toNatClampNeg) (x 48 0 ((6 * v3) + v4).toNatClampNeg) (x 58 0 v1.toNatClampNeg) x) fun r10 x9 => if r10 = 0 then (f_X11_raise_b110 (f_X11_raise_b10 n) v1 v2 v3 v4 x9) else (if inb ((6 * v3) + v4) 48 = true then if (x9 49 0 ((6 * v3) + v4).toNatClampNeg) = 0 then (f_X11_raise_b77 v1 v2 ((6 * v3) + v4) x9) else (if inb ((6 * v3) + v4) 48 = true then if (x9 49 0 ((6 * v3) + v4).toNatClampNeg) = v2 then (f_X11_raise_b77 v1 v2 ((6 * v3) + v4) x9) else (f_X11_raise_b110 (f_X11_raise_b10 n) v1 v2 v3 v4 x9) else none) else none) else none else none else none) else none
set_option maxHeartbeats 4000000 in
set_option maxRecDepth 100000 in
theorem w_X11_raise_b10 {p : Program} {l : Launch} {e : Env} {s : State} {m : MethodId} {args : Array Value} {below : List Frame} {meth : Method} {c : Code} {g : gT} {x' : st} (C : cxt p s m meth c args cX11_raise 6 RX11 none) (G : gst g s) : ∀ (n : Nat) (v1 : Int32) (v2 : Int32) (v3 : Int32) (v4 : Int32) (x : st) (H : Heap) (locs : List Loc) (ls : Array Slot), f_X11_raise_b10 n v1 v2 v3 v4 x = some x' → wst g x H → va_S (zA (gz g)) s.heap H locs → lv_has ls 6 [(0, .ref (ga g 30 0)), (1, .int v1), (2, .int v2), (3, .int v3), (4, .int v4)] → W p l e (rmC 3 63) s m args below meth c H locs 0 0 (MQ below (Qx g none x') args s 0 0 (zA (gz g))) (F0 m 10 ls []) := by
  obtain ⟨hx, hb, hml, hown, hts, hlk, hrt⟩ := id C
  intro n
  induction n with
  | zero =>
    intro v1 v2 v3 v4 x H locs ls h hI hS hl
    simp [f_X11_raise_b10] at h
  | succ n ih =>
    intro v1 v2 v3 v4 x H locs ls h hI hS hl
    unfold f_X11_raise_b10 at h
    refine lv_iload hx hb dX11_raise_10 (lv_at hl 4 rfl) ?_
    refine lv_aload_n hx hb dX11_raise_12 rfl (lv_at hl 0 rfl) ?_
    refine w_get C G hI 30 0 (hI.at1 rfl) (fcE_30 g _ _) rfl in_X11 6 (by decide) kf_X11_28 (fun _ h => h) (v := .ref (ga g 46 0)) rfl dX11_raise_13 ?_
    refine lv_iload_n hx hb dX11_raise_16 rfl (lv_at hl 3 rfl) ?_
    obtain ⟨hn2, h⟩ := need_t h
    refine w_iald C G hI 46 0 (hI.at1 rfl) (fcA_46 g _ _) (inb_in hn2) dX11_raise_17 ?_
    refine lv_icmp_ge (tgt := 116) hx hb dX11_raise_18 (by decide) (fun hc => ?_) (fun hc => ?_)
    · replace h := ite_y hc h
      refine lv_aload_n hx hb dX11_raise_116 rfl (lv_at hl 0 rfl) ?_
      refine lv_iload_n hx hb dX11_raise_117 rfl (lv_at hl 1 rfl) ?_
      refine lv_bipush (v := 99) hx hb dX11_raise_118 (by decide) ?_
      refine lv_iconst (v := 2) hx hb dX11_raise_120 (by decide) ?_
      refine lv_iload_n hx hb dX11_raise_121 rfl (lv_at hl 2 rfl) ?_
      obtain ⟨x3, hq5, h⟩ := bnv_some h
      refine w_callV (fr := 0) (lo := 0) C G hI hS 30 0 (hI.at1 rfl) (fcE_30 g _ _) rfl mv_X11_leave km_X11_198 [.int v1, .int 99, .int 2, .int v2] (k_X11_leave l g v1 99 2 v2 x _  hq5) rfl (by first | exact ⟨by decide, by decide⟩ | exact ⟨by show _ ≤ _ + _; omega, by show _ ≤ _ + _; omega⟩) ⟨Nat.zero_le _, Nat.zero_le _⟩ hl.1 rfl (Nat.le_of_ble_eq_true rfl) dX11_raise_122 (fun H locs hI hS => ?_)
      cases h
      exact w_vret C hI hS dX11_raise_125
    replace h := ite_n hc h
    refine lv_bipush (v := 6) hx hb dX11_raise_21 (by decide) ?_
    refine lv_iload_n hx hb dX11_raise_23 rfl (lv_at hl 3 rfl) ?_
    refine lv_imul hx hb dX11_raise_24 ?_
    refine lv_iload hx hb dX11_raise_25 (lv_at hl 4 rfl) ?_
    refine lv_iadd hx hb dX11_raise_27 ?_
    refine lv_istore (lv' := [(5, .int ((6 * v3) + v4)), (0, .ref (ga g 30 0)), (1, .int v1), (2, .int v2), (3, .int v3), (4, .int v4)]) hx hb dX11_raise_28 hl (by decide) rfl (fun ls hl => ?_)
    refine lv_aload_n hx hb dX11_raise_30 rfl (lv_at hl 1 rfl) ?_
    refine w_get C G hI 30 0 (hI.at1 rfl) (fcE_30 g _ _) rfl in_X11 7 (by decide) kf_X11_31 (fun _ h => h) (v := .ref (ga g 47 0)) rfl dX11_raise_31 ?_
    refine lv_iload hx hb dX11_raise_34 (lv_at hl 0 rfl) ?_
    obtain ⟨hn6, h⟩ := need_t h
    refine w_iald C G hI 47 0 (hI.at1 rfl) (fcA_47 g _ _) (inb_in hn6) dX11_raise_36 ?_
    refine lv_aload_n hx hb dX11_raise_37 rfl (lv_at hl 1 rfl) ?_
    refine w_get C G hI 30 0 (hI.at1 rfl) (fcE_30 g _ _) rfl in_X11 8 (by decide) kf_X11_34 (fun _ h => h) (v := .ref (ga g 48 0)) rfl dX11_raise_38 ?_
    refine lv_iload hx hb dX11_raise_41 (lv_at hl 0 rfl) ?_
    obtain ⟨hn7, h⟩ := need_t h
    refine w_iald C G hI 48 0 (hI.at1 rfl) (fcA_48 g _ _) (inb_in hn7) dX11_raise_43 ?_
    refine lv_aload_n hx hb dX11_raise_44 rfl (lv_at hl 1 rfl) ?_
    refine w_get C G hI 30 0 (hI.at1 rfl) (fcE_30 g _ _) rfl in_X11 18 (by decide) kf_X11_62 (fun _ h => h) (v := .ref (ga g 58 0)) rfl dX11_raise_45 ?_
    refine lv_iload_n hx hb dX11_raise_48 rfl (lv_at hl 2 rfl) ?_
    obtain ⟨hn8, h⟩ := need_t h
    refine w_iald C G hI 58 0 (hI.at1 rfl) (fcA_58 g _ _) (inb_in hn8) dX11_raise_49 ?_
    obtain ⟨r10, x9, hq11, h⟩ := bnd_some h
    refine w_callS (fr := 0) (lo := 0) C G hI hS ms_X11_holds km_X11_175 [.int (x 47 0 ((6 * v3) + v4).toNatClampNeg), .int (x 48 0 ((6 * v3) + v4).toNatClampNeg), .int (x 58 0 v1.toNatClampNeg)] (k_X11_holds l g (x 47 0 ((6 * v3) + v4).toNatClampNeg) (x 48 0 ((6 * v3) + v4).toNatClampNeg) (x 58 0 v1.toNatClampNeg) x _ _  hq11) rfl (by first | exact ⟨by decide, by decide⟩ | exact ⟨by show _ ≤ _ + _; omega, by show _ ≤ _ + _; omega⟩) ⟨Nat.zero_le _, Nat.zero_le _⟩ hl.1 rfl (Nat.le_of_ble_eq_true rfl) dX11_raise_50 (fun H locs hI hS => ?_)
    refine lv_if_eq (tgt := 110) hx hb dX11_raise_53 (by decide) (fun hc => ?_) (fun hc => ?_)
    · replace h := ite_y hc h
      exact w_X11_raise_b110 C G (f_X11_raise_b10 n) ih v1 v2 v3 v4 x9 _ _ _  h hI hS (lv_sub hl [1, 2, 3, 4, 5] rfl)
    replace h := ite_n hc h
    refine lv_aload_n hx hb dX11_raise_56 rfl (lv_at hl 1 rfl) ?_
    refine w_get C G hI 30 0 (hI.at1 rfl) (fcE_30 g _ _) rfl in_X11 9 (by decide) kf_X11_37 (fun _ h => h) (v := .ref (ga g 49 0)) rfl dX11_raise_57 ?_
    refine lv_iload hx hb dX11_raise_60 (lv_at hl 0 rfl) ?_
    obtain ⟨hn12, h⟩ := need_t h
    refine w_iald C G hI 49 0 (hI.at1 rfl) (fcA_49 g _ _) (inb_in hn12) dX11_raise_62 ?_
    refine lv_if_eq (tgt := 77) hx hb dX11_raise_63 (by decide) (fun hc => ?_) (fun hc => ?_)
    · replace h := ite_y hc h
      exact w_X11_raise_b77 C G v1 v2 ((6 * v3) + v4) x9 _ _ _  h hI hS (lv_sub hl [1, 2, 3, 0] rfl)
    replace h := ite_n hc h
    refine lv_aload_n hx hb dX11_raise_66 rfl (lv_at hl 1 rfl) ?_
    refine w_get C G hI 30 0 (hI.at1 rfl) (fcE_30 g _ _) rfl in_X11 9 (by decide) kf_X11_37 (fun _ h => h) (v := .ref (ga g 49 0)) rfl dX11_raise_67 ?_
    refine lv_iload hx hb dX11_raise_70 (lv_at hl 0 rfl) ?_
    obtain ⟨hn13, h⟩ := need_t h
    refine w_iald C G hI 49 0 (hI.at1 rfl) (fcA_49 g _ _) (inb_in hn13) dX11_raise_72 ?_
    refine lv_iload_n hx hb dX11_raise_73 rfl (lv_at hl 3 rfl) ?_
    refine lv_icmp_ne (tgt := 110) hx hb dX11_raise_74 (by decide) (fun hc => ?_) (fun hc => ?_)
    · replace h := ite_n hc h
      exact w_X11_raise_b110 C G (f_X11_raise_b10 n) ih v1 v2 v3 v4 x9 _ _ _  h hI hS (lv_sub hl [1, 2, 3, 4, 5] rfl)
    replace h := ite_y hc h
    exact w_X11_raise_b77 C G v1 v2 ((6 * v3) + v4) x9 _ _ _  h hI hS (lv_sub hl [1, 2, 3, 0] rfl)
def f_X11_raise (a1 : Int32) (a2 : Int32) (x : st) : Option (st) := if inb a1 13 = true then f_X11_raise_b10 100 a1 a2 (x 57 0 a1.toNatClampNeg) 0 x else none
set_option maxHeartbeats 4000000 in
set_option maxRecDepth 100000 in
theorem w_X11_raise {p : Program} {l : Launch} {e : Env} {s : State} {m : MethodId} {args : Array Value} {below : List Frame} {meth : Method} {c : Code} {g : gT} {x' : st} (C : cxt p s m meth c args cX11_raise 6 RX11 none) (G : gst g s) (a1 : Int32) (a2 : Int32) (x : st) (H : Heap) (locs : List Loc) (ls : Array Slot)  (h : f_X11_raise a1 a2 x = some x') (hI : wst g x H) (hS : va_S (zA (gz g)) s.heap H locs) (hl : lv_has ls 6 [(0, .ref (ga g 30 0)), (1, .int a1), (2, .int a2)]) : W p l e (rmC 3 63) s m args below meth c H locs 0 0 (MQ below (Qx g none x') args s 0 0 (zA (gz g))) (F0 m 0 ls []) := by
  obtain ⟨hx, hb, hml, hown, hts, hlk, hrt⟩ := id C
  unfold f_X11_raise at h
  refine lv_aload_n hx hb dX11_raise_0 rfl (lv_at hl 0 rfl) ?_
  refine w_get C G hI 30 0 (hI.at1 rfl) (fcE_30 g _ _) rfl in_X11 17 (by decide) kf_X11_59 (fun _ h => h) (v := .ref (ga g 57 0)) rfl dX11_raise_1 ?_
  refine lv_iload_n hx hb dX11_raise_4 rfl (lv_at hl 1 rfl) ?_
  obtain ⟨hn1, h⟩ := need_t h
  refine w_iald C G hI 57 0 (hI.at1 rfl) (fcA_57 g _ _) (inb_in hn1) dX11_raise_5 ?_
  refine lv_istore_n (lv' := [(3, .int (x 57 0 a1.toNatClampNeg)), (0, .ref (ga g 30 0)), (1, .int a1), (2, .int a2)]) hx hb dX11_raise_6 rfl hl (by decide) rfl (fun ls hl => ?_)
  refine lv_iconst (v := 0) hx hb dX11_raise_7 (by decide) ?_
  refine lv_istore (lv' := [(4, .int 0), (3, .int (x 57 0 a1.toNatClampNeg)), (0, .ref (ga g 30 0)), (1, .int a1), (2, .int a2)]) hx hb dX11_raise_8 hl (by decide) rfl (fun ls hl => ?_)
  exact w_X11_raise_b10 C G 100 a1 a2 (x 57 0 a1.toNatClampNeg) 0 x _ _ _  h hI hS (lv_sub hl [2, 3, 4, 1, 0] rfl)
theorem k_X11_raise (l : Launch) (g : gT) (a1 : Int32) (a2 : Int32) (x : st) (x' : st)  (h : f_X11_raise a1 a2 x = some x') : Kt l yX11_raise cX11_raise 6 none 3 63 g [.ref (ga g 30 0), .int a1, .int a2] x none x' := by
  refine Kt.of (by decide) (fun p e s m below meth c C G hI => ?_)
  have hl := lv_entry ([.ref (ga g 30 0), .int a1, .int a2]) (n := 6) (Nat.le_of_ble_eq_true rfl)
  rw [lg_entry_eq]
  generalize (lg_sl ([.ref (ga g 30 0), .int a1, .int a2]) ++ List.replicate (6 - (lg_sl ([.ref (ga g 30 0), .int a1, .int a2])).length) Slot.unset).toArray = ls at hl ⊢
  have hl : lv_has ls 6 [(0, .ref (ga g 30 0)), (1, .int a1), (2, .int a2)] := hl
  exact w_X11_raise C G a1 a2 x _ _ ls  h hI va_S.rf hl
theorem mv_X11_raise : mtV yX11_raise RX11 cX11_raise 6 none 2 := ⟨ki_X11_raise, kl_X11_raise, kI_X11, kc_X11_raise, by decide +kernel⟩

/-! X11_makes -/
def f_X11_makes_b228 (s0 : Int32) (s1 : Int32) (x : st) : Option (Int32 × st) := if inb s1 9 = true then lets (sx x 80 0 s1.toNatClampNeg s0) fun x19 => some (1, x19) else none
set_option maxHeartbeats 4000000 in
set_option maxRecDepth 100000 in
theorem w_X11_makes_b228 {p : Program} {l : Launch} {e : Env} {s : State} {m : MethodId} {args : Array Value} {below : List Frame} {meth : Method} {c : Code} {g : gT} {r : Int32} {x' : st} (C : cxt p s m meth c args cX11_makes 7 RX11 (some .boolean)) (G : gst g s) (s0 : Int32) (s1 : Int32) (x : st) (H : Heap) (locs : List Loc) (ls : Array Slot)  (h : f_X11_makes_b228 s0 s1 x = some (r, x')) (hI : wst g x H) (hS : va_S (zA (gz g)) s.heap H locs) (hl : lv_has ls 7 []) : W p l e (rmC 0 0) s m args below meth c H locs 0 0 (MQ below (Qx g (some (.int r)) x') args s 0 0 (zA (gz g))) (F0 m 228 ls [.int s0, .int s1, .ref (ga g 80 0)]) := by
  obtain ⟨hx, hb, hml, hown, hts, hlk, hrt⟩ := id C
  unfold f_X11_makes_b228 at h
  obtain ⟨hn18, h⟩ := need_t h
  refine w_iast C G hI hS 80 0 (hI.at1 rfl) rfl (fcA_80 g _) (y := s0) (inb_in hn18) dX11_makes_228 (fun H locs hI hS => ?_)
  obtain ⟨x19, e_x19, h⟩ := lets_some h
  rw [← e_x19] at hI
  refine lv_iconst (v := 1) hx hb dX11_makes_229 (by decide) ?_
  cases h
  exact w_iretz C hI hS (by decide) dX11_makes_230
def f_X11_makes_b143 (v5 : Int32) (x : st) : Option (Int32 × st) := if inb (x 30 0 16) 13 = true then if isz v5 = true then lets (sx x 61 0 (x 30 0 16).toNatClampNeg v5) fun x6 => if inb (x6 30 0 16) 13 = true then lets (sx x6 62 0 (x6 30 0 16).toNatClampNeg 0) fun x9 => if inb (x9 30 0 16) 13 = true then lets (sx x9 66 0 (x9 30 0 16).toNatClampNeg 0) fun x11 => lets (sx x11 30 0 16 ((x11 30 0 16) + 1)) fun x12 => if inb 4 9 = true then if inb 4 9 = true then lets (sx x12 80 0 (4 : Int32).toNatClampNeg ((x12 80 0 (4 : Int32).toNatClampNeg) + 1)) fun x15 => if inb 8 9 = true then if (x15 30 0 16) ≤ (x15 80 0 (8 : Int32).toNatClampNeg) then (if inb 8 9 = true then f_X11_makes_b228 (x15 80 0 (8 : Int32).toNatClampNeg) 8 x15 else none) else (f_X11_makes_b228 (x15 30 0 16) 8 x15) else none else none else none else none else none else none else none
set_option maxHeartbeats 4000000 in
set_option maxRecDepth 100000 in
theorem w_X11_makes_b143 {p : Program} {l : Launch} {e : Env} {s : State} {m : MethodId} {args : Array Value} {below : List Frame} {meth : Method} {c : Code} {g : gT} {r : Int32} {x' : st} (C : cxt p s m meth c args cX11_makes 7 RX11 (some .boolean)) (G : gst g s) (v5 : Int32) (x : st) (H : Heap) (locs : List Loc) (ls : Array Slot)  (h : f_X11_makes_b143 v5 x = some (r, x')) (hI : wst g x H) (hS : va_S (zA (gz g)) s.heap H locs) (hl : lv_has ls 7 [(0, .ref (ga g 30 0)), (5, .int v5)]) : W p l e (rmC 0 0) s m args below meth c H locs 0 0 (MQ below (Qx g (some (.int r)) x') args s 0 0 (zA (gz g))) (F0 m 143 ls []) := by
  obtain ⟨hx, hb, hml, hown, hts, hlk, hrt⟩ := id C
  unfold f_X11_makes_b143 at h
  refine lv_aload_n hx hb dX11_makes_143 rfl (lv_at hl 0 rfl) ?_
  refine w_get C G hI 30 0 (hI.at1 rfl) (fcE_30 g _ _) rfl in_X11 21 (by decide) kf_X11_71 (fun _ h => h) (v := .ref (ga g 61 0)) rfl dX11_makes_144 ?_
  refine lv_aload_n hx hb dX11_makes_147 rfl (lv_at hl 0 rfl) ?_
  refine w_get C G hI 30 0 (hI.at1 rfl) (fcE_30 g _ _) rfl in_X11 16 (by decide) kf_X11_119 (fun _ h => h) (v := .int (x 30 0 16)) rfl dX11_makes_148 ?_
  refine lv_iload hx hb dX11_makes_151 (lv_at hl 1 rfl) ?_
  obtain ⟨hn5, h⟩ := need_t h
  obtain ⟨hn7, h⟩ := need_t h
  refine w_zast C G hI hS 61 0 (hI.at1 rfl) rfl (fcA_61 g _) (y := v5) (inb_in hn5) (isz_or hn7) dX11_makes_153 (fun H locs hI hS => ?_)
  obtain ⟨x6, e_x6, h⟩ := lets_some h
  rw [← e_x6] at hI
  refine lv_aload_n hx hb dX11_makes_154 rfl (lv_at hl 0 rfl) ?_
  refine w_get C G hI 30 0 (hI.at1 rfl) (fcE_30 g _ _) rfl in_X11 22 (by decide) kf_X11_75 (fun _ h => h) (v := .ref (ga g 62 0)) rfl dX11_makes_155 ?_
  refine lv_aload_n hx hb dX11_makes_158 rfl (lv_at hl 0 rfl) ?_
  refine w_get C G hI 30 0 (hI.at1 rfl) (fcE_30 g _ _) rfl in_X11 16 (by decide) kf_X11_119 (fun _ h => h) (v := .int (x6 30 0 16)) rfl dX11_makes_159 ?_
  refine lv_iconst (v := 0) hx hb dX11_makes_162 (by decide) ?_
  obtain ⟨hn8, h⟩ := need_t h
  refine w_zast C G hI hS 62 0 (hI.at1 rfl) rfl (fcA_62 g _) (y := 0) (inb_in hn8) (by decide) dX11_makes_163 (fun H locs hI hS => ?_)
  obtain ⟨x9, e_x9, h⟩ := lets_some h
  rw [← e_x9] at hI
  refine lv_aload_n hx hb dX11_makes_164 rfl (lv_at hl 0 rfl) ?_
  refine w_get C G hI 30 0 (hI.at1 rfl) (fcE_30 g _ _) rfl in_X11 26 (by decide) kf_X11_87 (fun _ h => h) (v := .ref (ga g 66 0)) rfl dX11_makes_165 ?_
  refine lv_aload_n hx hb dX11_makes_168 rfl (lv_at hl 0 rfl) ?_
  refine w_get C G hI 30 0 (hI.at1 rfl) (fcE_30 g _ _) rfl in_X11 16 (by decide) kf_X11_119 (fun _ h => h) (v := .int (x9 30 0 16)) rfl dX11_makes_169 ?_
  refine lv_iconst (v := 0) hx hb dX11_makes_172 (by decide) ?_
  obtain ⟨hn10, h⟩ := need_t h
  refine w_iast C G hI hS 66 0 (hI.at1 rfl) rfl (fcA_66 g _) (y := 0) (inb_in hn10) dX11_makes_173 (fun H locs hI hS => ?_)
  obtain ⟨x11, e_x11, h⟩ := lets_some h
  rw [← e_x11] at hI
  refine lv_aload_n hx hb dX11_makes_174 rfl (lv_at hl 0 rfl) ?_
  refine lv_dup hx hb dX11_makes_175 rfl ?_
  refine w_get C G hI 30 0 (hI.at1 rfl) (fcE_30 g _ _) rfl in_X11 16 (by decide) kf_X11_119 (fun _ h => h) (v := .int (x11 30 0 16)) rfl dX11_makes_176 ?_
  refine lv_iconst (v := 1) hx hb dX11_makes_179 (by decide) ?_
  refine lv_iadd hx hb dX11_makes_180 ?_
  refine w_put C G hI hS 30 0 (hI.at1 rfl) rfl (fcE_30 g _ _) rfl in_X11 tyX11 tyX11_ok nmX11 16 (by decide) kf_X11_119 (fun _ h => h) rfl (ty := .int) (y := ((x11 30 0 16) + 1)) (by decide +kernel) rfl rfl (Nat.le_of_ble_eq_true rfl) (m44_set_16 g _ _) dX11_makes_181 (fun H locs hI hS => ?_)
  obtain ⟨x12, e_x12, h⟩ := lets_some h
  rw [← e_x12] at hI
  refine lv_aload_n hx hb dX11_makes_184 rfl (lv_at hl 0 rfl) ?_
  refine w_get C G hI 30 0 (hI.at1 rfl) (fcE_30 g _ _) rfl in_X11 40 (by decide) kf_X11_107 (fun _ h => h) (v := .ref (ga g 80 0)) rfl dX11_makes_185 ?_
  refine lv_iconst (v := 4) hx hb dX11_makes_188 (by decide) ?_
  refine lv_dup2_11 hx hb dX11_makes_189 rfl rfl ?_
  obtain ⟨hn13, h⟩ := need_t h
  refine w_iald C G hI 80 0 (hI.at1 rfl) (fcA_80 g _ _) (inb_in hn13) dX11_makes_190 ?_
  refine lv_iconst (v := 1) hx hb dX11_makes_191 (by decide) ?_
  refine lv_iadd hx hb dX11_makes_192 ?_
  obtain ⟨hn14, h⟩ := need_t h
  refine w_iast C G hI hS 80 0 (hI.at1 rfl) rfl (fcA_80 g _) (y := ((x12 80 0 (4 : Int32).toNatClampNeg) + 1)) (inb_in hn14) dX11_makes_193 (fun H locs hI hS => ?_)
  obtain ⟨x15, e_x15, h⟩ := lets_some h
  rw [← e_x15] at hI
  refine lv_aload_n hx hb dX11_makes_194 rfl (lv_at hl 0 rfl) ?_
  refine w_get C G hI 30 0 (hI.at1 rfl) (fcE_30 g _ _) rfl in_X11 40 (by decide) kf_X11_107 (fun _ h => h) (v := .ref (ga g 80 0)) rfl dX11_makes_195 ?_
  refine lv_bipush (v := 8) hx hb dX11_makes_198 (by decide) ?_
  refine lv_aload_n hx hb dX11_makes_200 rfl (lv_at hl 0 rfl) ?_
  refine w_get C G hI 30 0 (hI.at1 rfl) (fcE_30 g _ _) rfl in_X11 16 (by decide) kf_X11_119 (fun _ h => h) (v := .int (x15 30 0 16)) rfl dX11_makes_201 ?_
  refine lv_aload_n hx hb dX11_makes_204 rfl (lv_at hl 0 rfl) ?_
  refine w_get C G hI 30 0 (hI.at1 rfl) (fcE_30 g _ _) rfl in_X11 40 (by decide) kf_X11_107 (fun _ h => h) (v := .ref (ga g 80 0)) rfl dX11_makes_205 ?_
  refine lv_bipush (v := 8) hx hb dX11_makes_208 (by decide) ?_
  obtain ⟨hn16, h⟩ := need_t h
  refine w_iald C G hI 80 0 (hI.at1 rfl) (fcA_80 g _ _) (inb_in hn16) dX11_makes_210 ?_
  refine lv_icmp_le (tgt := 221) hx hb dX11_makes_211 (by decide) (fun hc => ?_) (fun hc => ?_)
  · replace h := ite_y hc h
    refine lv_aload_n hx hb dX11_makes_221 rfl (lv_at hl 0 rfl) ?_
    refine w_get C G hI 30 0 (hI.at1 rfl) (fcE_30 g _ _) rfl in_X11 40 (by decide) kf_X11_107 (fun _ h => h) (v := .ref (ga g 80 0)) rfl dX11_makes_222 ?_
    refine lv_bipush (v := 8) hx hb dX11_makes_225 (by decide) ?_
    obtain ⟨hn17, h⟩ := need_t h
    refine w_iald C G hI 80 0 (hI.at1 rfl) (fcA_80 g _ _) (inb_in hn17) dX11_makes_227 ?_
    exact w_X11_makes_b228 C G (x15 80 0 (8 : Int32).toNatClampNeg) 8 x15 _ _ _  h hI hS (lv_sub hl [] rfl)
  replace h := ite_n hc h
  refine lv_aload_n hx hb dX11_makes_214 rfl (lv_at hl 0 rfl) ?_
  refine w_get C G hI 30 0 (hI.at1 rfl) (fcE_30 g _ _) rfl in_X11 16 (by decide) kf_X11_119 (fun _ h => h) (v := .int (x15 30 0 16)) rfl dX11_makes_215 ?_
  refine lv_goto (tgt := 228) hx hb dX11_makes_218 (by decide) ?_
  exact w_X11_makes_b228 C G (x15 30 0 16) 8 x15 _ _ _  h hI hS (lv_sub hl [] rfl)
def f_X11_makes_b66 : Nat → Int32 → Int32 → Int32 → Int32 → Int32 → st → Option (Int32 × st)
  | 0, _, _, _, _, _, _ => none
  | n + 1, v2, v3, v4, v5, v6, x => if 3 ≤ v6 then (if v2 < 0 then (f_X11_makes_b143 v5 x) else (if inb ((6 * v2) + v3) 78 = true then if inb (6 * (x 30 0 16)) 78 = true then lets (sx x 59 0 (6 * (x 30 0 16)).toNatClampNeg (x 59 0 ((6 * v2) + v3).toNatClampNeg)) fun x7 => if inb ((3 * v2) + v4) 39 = true then if inb (3 * (x7 30 0 16)) 39 = true then lets (sx x7 60 0 (3 * (x7 30 0 16)).toNatClampNeg (x7 60 0 ((3 * v2) + v4).toNatClampNeg)) fun x10 => f_X11_makes_b143 v5 x10 else none else none else none else none)) else (if inb ((3 * (x 30 0 16)) + v6) 39 = true then lets (sx x 60 0 ((3 * (x 30 0 16)) + v6).toNatClampNeg (-3)) fun x12 => f_X11_makes_b66 n v2 v3 v4 v5 (v6 + 1) x12 else none)
set_option maxHeartbeats 4000000 in
set_option maxRecDepth 100000 in
theorem w_X11_makes_b66 {p : Program} {l : Launch} {e : Env} {s : State} {m : MethodId} {args : Array Value} {below : List Frame} {meth : Method} {c : Code} {g : gT} {r : Int32} {x' : st} (C : cxt p s m meth c args cX11_makes 7 RX11 (some .boolean)) (G : gst g s) : ∀ (n : Nat) (v2 : Int32) (v3 : Int32) (v4 : Int32) (v5 : Int32) (v6 : Int32) (x : st) (H : Heap) (locs : List Loc) (ls : Array Slot), f_X11_makes_b66 n v2 v3 v4 v5 v6 x = some (r, x') → wst g x H → va_S (zA (gz g)) s.heap H locs → lv_has ls 7 [(0, .ref (ga g 30 0)), (2, .int v2), (3, .int v3), (4, .int v4), (5, .int v5), (6, .int v6)] → W p l e (rmC 0 0) s m args below meth c H locs 0 0 (MQ below (Qx g (some (.int r)) x') args s 0 0 (zA (gz g))) (F0 m 66 ls []) := by
  obtain ⟨hx, hb, hml, hown, hts, hlk, hrt⟩ := id C
  intro n
  induction n with
  | zero =>
    intro v2 v3 v4 v5 v6 x H locs ls h hI hS hl
    simp [f_X11_makes_b66] at h
  | succ n ih =>
    intro v2 v3 v4 v5 v6 x H locs ls h hI hS hl
    unfold f_X11_makes_b66 at h
    refine lv_iload hx hb dX11_makes_66 (lv_at hl 5 rfl) ?_
    refine lv_iconst (v := 3) hx hb dX11_makes_68 (by decide) ?_
    refine lv_icmp_ge (tgt := 94) hx hb dX11_makes_69 (by decide) (fun hc => ?_) (fun hc => ?_)
    · replace h := ite_y hc h
      refine lv_iload_n hx hb dX11_makes_94 rfl (lv_at hl 1 rfl) ?_
      refine lv_if_lt (tgt := 143) hx hb dX11_makes_95 (by decide) (fun hc => ?_) (fun hc => ?_)
      · replace h := ite_y hc h
        exact w_X11_makes_b143 C G v5 x _ _ _  h hI hS (lv_sub hl [0, 4] rfl)
      replace h := ite_n hc h
      refine lv_aload_n hx hb dX11_makes_98 rfl (lv_at hl 0 rfl) ?_
      refine w_get C G hI 30 0 (hI.at1 rfl) (fcE_30 g _ _) rfl in_X11 19 (by decide) kf_X11_65 (fun _ h => h) (v := .ref (ga g 59 0)) rfl dX11_makes_99 ?_
      refine lv_bipush (v := 6) hx hb dX11_makes_102 (by decide) ?_
      refine lv_aload_n hx hb dX11_makes_104 rfl (lv_at hl 0 rfl) ?_
      refine w_get C G hI 30 0 (hI.at1 rfl) (fcE_30 g _ _) rfl in_X11 16 (by decide) kf_X11_119 (fun _ h => h) (v := .int (x 30 0 16)) rfl dX11_makes_105 ?_
      refine lv_imul hx hb dX11_makes_108 ?_
      refine lv_aload_n hx hb dX11_makes_109 rfl (lv_at hl 0 rfl) ?_
      refine w_get C G hI 30 0 (hI.at1 rfl) (fcE_30 g _ _) rfl in_X11 19 (by decide) kf_X11_65 (fun _ h => h) (v := .ref (ga g 59 0)) rfl dX11_makes_110 ?_
      refine lv_bipush (v := 6) hx hb dX11_makes_113 (by decide) ?_
      refine lv_iload_n hx hb dX11_makes_115 rfl (lv_at hl 1 rfl) ?_
      refine lv_imul hx hb dX11_makes_116 ?_
      refine lv_iload_n hx hb dX11_makes_117 rfl (lv_at hl 2 rfl) ?_
      refine lv_iadd hx hb dX11_makes_118 ?_
      obtain ⟨hn5, h⟩ := need_t h
      refine w_iald C G hI 59 0 (hI.at1 rfl) (fcA_59 g _ _) (inb_in hn5) dX11_makes_119 ?_
      obtain ⟨hn6, h⟩ := need_t h
      refine w_iast C G hI hS 59 0 (hI.at1 rfl) rfl (fcA_59 g _) (y := (x 59 0 ((6 * v2) + v3).toNatClampNeg)) (inb_in hn6) dX11_makes_120 (fun H locs hI hS => ?_)
      obtain ⟨x7, e_x7, h⟩ := lets_some h
      rw [← e_x7] at hI
      refine lv_aload_n hx hb dX11_makes_121 rfl (lv_at hl 0 rfl) ?_
      refine w_get C G hI 30 0 (hI.at1 rfl) (fcE_30 g _ _) rfl in_X11 20 (by decide) kf_X11_68 (fun _ h => h) (v := .ref (ga g 60 0)) rfl dX11_makes_122 ?_
      refine lv_iconst (v := 3) hx hb dX11_makes_125 (by decide) ?_
      refine lv_aload_n hx hb dX11_makes_126 rfl (lv_at hl 0 rfl) ?_
      refine w_get C G hI 30 0 (hI.at1 rfl) (fcE_30 g _ _) rfl in_X11 16 (by decide) kf_X11_119 (fun _ h => h) (v := .int (x7 30 0 16)) rfl dX11_makes_127 ?_
      refine lv_imul hx hb dX11_makes_130 ?_
      refine lv_aload_n hx hb dX11_makes_131 rfl (lv_at hl 0 rfl) ?_
      refine w_get C G hI 30 0 (hI.at1 rfl) (fcE_30 g _ _) rfl in_X11 20 (by decide) kf_X11_68 (fun _ h => h) (v := .ref (ga g 60 0)) rfl dX11_makes_132 ?_
      refine lv_iconst (v := 3) hx hb dX11_makes_135 (by decide) ?_
      refine lv_iload_n hx hb dX11_makes_136 rfl (lv_at hl 1 rfl) ?_
      refine lv_imul hx hb dX11_makes_137 ?_
      refine lv_iload hx hb dX11_makes_138 (lv_at hl 3 rfl) ?_
      refine lv_iadd hx hb dX11_makes_140 ?_
      obtain ⟨hn8, h⟩ := need_t h
      refine w_iald C G hI 60 0 (hI.at1 rfl) (fcA_60 g _ _) (inb_in hn8) dX11_makes_141 ?_
      obtain ⟨hn9, h⟩ := need_t h
      refine w_iast C G hI hS 60 0 (hI.at1 rfl) rfl (fcA_60 g _) (y := (x7 60 0 ((3 * v2) + v4).toNatClampNeg)) (inb_in hn9) dX11_makes_142 (fun H locs hI hS => ?_)
      obtain ⟨x10, e_x10, h⟩ := lets_some h
      rw [← e_x10] at hI
      exact w_X11_makes_b143 C G v5 x10 _ _ _  h hI hS (lv_sub hl [0, 4] rfl)
    replace h := ite_n hc h
    refine lv_aload_n hx hb dX11_makes_72 rfl (lv_at hl 0 rfl) ?_
    refine w_get C G hI 30 0 (hI.at1 rfl) (fcE_30 g _ _) rfl in_X11 20 (by decide) kf_X11_68 (fun _ h => h) (v := .ref (ga g 60 0)) rfl dX11_makes_73 ?_
    refine lv_iconst (v := 3) hx hb dX11_makes_76 (by decide) ?_
    refine lv_aload_n hx hb dX11_makes_77 rfl (lv_at hl 0 rfl) ?_
    refine w_get C G hI 30 0 (hI.at1 rfl) (fcE_30 g _ _) rfl in_X11 16 (by decide) kf_X11_119 (fun _ h => h) (v := .int (x 30 0 16)) rfl dX11_makes_78 ?_
    refine lv_imul hx hb dX11_makes_81 ?_
    refine lv_iload hx hb dX11_makes_82 (lv_at hl 5 rfl) ?_
    refine lv_iadd hx hb dX11_makes_84 ?_
    refine lv_bipush (v := (-3)) hx hb dX11_makes_85 (by decide) ?_
    obtain ⟨hn11, h⟩ := need_t h
    refine w_iast C G hI hS 60 0 (hI.at1 rfl) rfl (fcA_60 g _) (y := (-3)) (inb_in hn11) dX11_makes_87 (fun H locs hI hS => ?_)
    obtain ⟨x12, e_x12, h⟩ := lets_some h
    rw [← e_x12] at hI
    refine lv_iinc (v := (v6 + 1)) (lv' := [(6, .int (v6 + 1)), (0, .ref (ga g 30 0)), (2, .int v2), (3, .int v3), (4, .int v4), (5, .int v5)]) hx hb dX11_makes_88 hl (k := 5) rfl rfl (by decide) rfl (fun ls hl => ?_)
    refine lv_goto (tgt := 66) hx hb dX11_makes_91 (by decide) ?_
    exact ih v2 v3 v4 v5 (v6 + 1) x12 _ _ _  h hI hS (lv_sub hl [1, 2, 3, 4, 5, 0] rfl)
def f_X11_makes_b34 : Nat → Int32 → Int32 → Int32 → Int32 → Int32 → st → Option (Int32 × st)
  | 0, _, _, _, _, _, _ => none
  | n + 1, v2, v3, v4, v5, v6, x => if 6 ≤ v6 then (f_X11_makes_b66 100 v2 v3 v4 v5 0 x) else (if inb ((6 * (x 30 0 16)) + v6) 78 = true then lets (sx x 59 0 ((6 * (x 30 0 16)) + v6).toNatClampNeg 0) fun x6 => f_X11_makes_b34 n v2 v3 v4 v5 (v6 + 1) x6 else none)
set_option maxHeartbeats 4000000 in
set_option maxRecDepth 100000 in
theorem w_X11_makes_b34 {p : Program} {l : Launch} {e : Env} {s : State} {m : MethodId} {args : Array Value} {below : List Frame} {meth : Method} {c : Code} {g : gT} {r : Int32} {x' : st} (C : cxt p s m meth c args cX11_makes 7 RX11 (some .boolean)) (G : gst g s) : ∀ (n : Nat) (v2 : Int32) (v3 : Int32) (v4 : Int32) (v5 : Int32) (v6 : Int32) (x : st) (H : Heap) (locs : List Loc) (ls : Array Slot), f_X11_makes_b34 n v2 v3 v4 v5 v6 x = some (r, x') → wst g x H → va_S (zA (gz g)) s.heap H locs → lv_has ls 7 [(0, .ref (ga g 30 0)), (2, .int v2), (3, .int v3), (4, .int v4), (5, .int v5), (6, .int v6)] → W p l e (rmC 0 0) s m args below meth c H locs 0 0 (MQ below (Qx g (some (.int r)) x') args s 0 0 (zA (gz g))) (F0 m 34 ls []) := by
  obtain ⟨hx, hb, hml, hown, hts, hlk, hrt⟩ := id C
  intro n
  induction n with
  | zero =>
    intro v2 v3 v4 v5 v6 x H locs ls h hI hS hl
    simp [f_X11_makes_b34] at h
  | succ n ih =>
    intro v2 v3 v4 v5 v6 x H locs ls h hI hS hl
    unfold f_X11_makes_b34 at h
    refine lv_iload hx hb dX11_makes_34 (lv_at hl 5 rfl) ?_
    refine lv_bipush (v := 6) hx hb dX11_makes_36 (by decide) ?_
    refine lv_icmp_ge (tgt := 63) hx hb dX11_makes_38 (by decide) (fun hc => ?_) (fun hc => ?_)
    · replace h := ite_y hc h
      refine lv_iconst (v := 0) hx hb dX11_makes_63 (by decide) ?_
      refine lv_istore (lv' := [(6, .int 0), (0, .ref (ga g 30 0)), (2, .int v2), (3, .int v3), (4, .int v4), (5, .int v5)]) hx hb dX11_makes_64 hl (by decide) rfl (fun ls hl => ?_)
      exact w_X11_makes_b66 C G 100 v2 v3 v4 v5 0 x _ _ _  h hI hS (lv_sub hl [1, 2, 3, 4, 5, 0] rfl)
    replace h := ite_n hc h
    refine lv_aload_n hx hb dX11_makes_41 rfl (lv_at hl 0 rfl) ?_
    refine w_get C G hI 30 0 (hI.at1 rfl) (fcE_30 g _ _) rfl in_X11 19 (by decide) kf_X11_65 (fun _ h => h) (v := .ref (ga g 59 0)) rfl dX11_makes_42 ?_
    refine lv_bipush (v := 6) hx hb dX11_makes_45 (by decide) ?_
    refine lv_aload_n hx hb dX11_makes_47 rfl (lv_at hl 0 rfl) ?_
    refine w_get C G hI 30 0 (hI.at1 rfl) (fcE_30 g _ _) rfl in_X11 16 (by decide) kf_X11_119 (fun _ h => h) (v := .int (x 30 0 16)) rfl dX11_makes_48 ?_
    refine lv_imul hx hb dX11_makes_51 ?_
    refine lv_iload hx hb dX11_makes_52 (lv_at hl 5 rfl) ?_
    refine lv_iadd hx hb dX11_makes_54 ?_
    refine lv_iconst (v := 0) hx hb dX11_makes_55 (by decide) ?_
    obtain ⟨hn5, h⟩ := need_t h
    refine w_iast C G hI hS 59 0 (hI.at1 rfl) rfl (fcA_59 g _) (y := 0) (inb_in hn5) dX11_makes_56 (fun H locs hI hS => ?_)
    obtain ⟨x6, e_x6, h⟩ := lets_some h
    rw [← e_x6] at hI
    refine lv_iinc (v := (v6 + 1)) (lv' := [(6, .int (v6 + 1)), (0, .ref (ga g 30 0)), (2, .int v2), (3, .int v3), (4, .int v4), (5, .int v5)]) hx hb dX11_makes_57 hl (k := 5) rfl rfl (by decide) rfl (fun ls hl => ?_)
    refine lv_goto (tgt := 34) hx hb dX11_makes_60 (by decide) ?_
    exact ih v2 v3 v4 v5 (v6 + 1) x6 _ _ _  h hI hS (lv_sub hl [1, 2, 3, 4, 5, 0] rfl)
def f_X11_makes (a1 : Int32) (a2 : Int32) (a3 : Int32) (a4 : Int32) (a5 : Int32) (x : st) : Option (Int32 × st) := if (x 30 0 16) = 12 then (some (0, x)) else (if inb (x 30 0 16) 13 = true then lets (sx x 57 0 (x 30 0 16).toNatClampNeg a1) fun x2 => if inb (x2 30 0 16) 13 = true then lets (sx x2 58 0 (x2 30 0 16).toNatClampNeg 0) fun x4 => f_X11_makes_b34 100 a2 a3 a4 a5 0 x4 else none else none)
set_option maxHeartbeats 4000000 in
set_option maxRecDepth 100000 in
theorem w_X11_makes {p : Program} {l : Launch} {e : Env} {s : State} {m : MethodId} {args : Array Value} {below : List Frame} {meth : Method} {c : Code} {g : gT} {r : Int32} {x' : st} (C : cxt p s m meth c args cX11_makes 7 RX11 (some .boolean)) (G : gst g s) (a1 : Int32) (a2 : Int32) (a3 : Int32) (a4 : Int32) (a5 : Int32) (x : st) (H : Heap) (locs : List Loc) (ls : Array Slot)  (h : f_X11_makes a1 a2 a3 a4 a5 x = some (r, x')) (hI : wst g x H) (hS : va_S (zA (gz g)) s.heap H locs) (hl : lv_has ls 7 [(0, .ref (ga g 30 0)), (1, .int a1), (2, .int a2), (3, .int a3), (4, .int a4), (5, .int a5)]) : W p l e (rmC 0 0) s m args below meth c H locs 0 0 (MQ below (Qx g (some (.int r)) x') args s 0 0 (zA (gz g))) (F0 m 0 ls []) := by
  obtain ⟨hx, hb, hml, hown, hts, hlk, hrt⟩ := id C
  unfold f_X11_makes at h
  refine lv_aload_n hx hb dX11_makes_0 rfl (lv_at hl 0 rfl) ?_
  refine w_get C G hI 30 0 (hI.at1 rfl) (fcE_30 g _ _) rfl in_X11 16 (by decide) kf_X11_119 (fun _ h => h) (v := .int (x 30 0 16)) rfl dX11_makes_1 ?_
  refine lv_bipush (v := 12) hx hb dX11_makes_4 (by decide) ?_
  refine lv_icmp_ne (tgt := 11) hx hb dX11_makes_6 (by decide) (fun hc => ?_) (fun hc => ?_)
  · replace h := ite_n hc h
    refine lv_aload_n hx hb dX11_makes_11 rfl (lv_at hl 0 rfl) ?_
    refine w_get C G hI 30 0 (hI.at1 rfl) (fcE_30 g _ _) rfl in_X11 17 (by decide) kf_X11_59 (fun _ h => h) (v := .ref (ga g 57 0)) rfl dX11_makes_12 ?_
    refine lv_aload_n hx hb dX11_makes_15 rfl (lv_at hl 0 rfl) ?_
    refine w_get C G hI 30 0 (hI.at1 rfl) (fcE_30 g _ _) rfl in_X11 16 (by decide) kf_X11_119 (fun _ h => h) (v := .int (x 30 0 16)) rfl dX11_makes_16 ?_
    refine lv_iload_n hx hb dX11_makes_19 rfl (lv_at hl 1 rfl) ?_
    obtain ⟨hn1, h⟩ := need_t h
    refine w_iast C G hI hS 57 0 (hI.at1 rfl) rfl (fcA_57 g _) (y := a1) (inb_in hn1) dX11_makes_20 (fun H locs hI hS => ?_)
    obtain ⟨x2, e_x2, h⟩ := lets_some h
    rw [← e_x2] at hI
    refine lv_aload_n hx hb dX11_makes_21 rfl (lv_at hl 0 rfl) ?_
    refine w_get C G hI 30 0 (hI.at1 rfl) (fcE_30 g _ _) rfl in_X11 18 (by decide) kf_X11_62 (fun _ h => h) (v := .ref (ga g 58 0)) rfl dX11_makes_22 ?_
    refine lv_aload_n hx hb dX11_makes_25 rfl (lv_at hl 0 rfl) ?_
    refine w_get C G hI 30 0 (hI.at1 rfl) (fcE_30 g _ _) rfl in_X11 16 (by decide) kf_X11_119 (fun _ h => h) (v := .int (x2 30 0 16)) rfl dX11_makes_26 ?_
    refine lv_iconst (v := 0) hx hb dX11_makes_29 (by decide) ?_
    obtain ⟨hn3, h⟩ := need_t h
    refine w_iast C G hI hS 58 0 (hI.at1 rfl) rfl (fcA_58 g _) (y := 0) (inb_in hn3) dX11_makes_30 (fun H locs hI hS => ?_)
    obtain ⟨x4, e_x4, h⟩ := lets_some h
    rw [← e_x4] at hI
    refine lv_iconst (v := 0) hx hb dX11_makes_31 (by decide) ?_
    refine lv_istore (lv' := [(6, .int 0), (0, .ref (ga g 30 0)), (1, .int a1), (2, .int a2), (3, .int a3), (4, .int a4), (5, .int a5)]) hx hb dX11_makes_32 hl (by decide) rfl (fun ls hl => ?_)
    exact w_X11_makes_b34 C G 100 a2 a3 a4 a5 0 x4 _ _ _  h hI hS (lv_sub hl [1, 3, 4, 5, 6, 0] rfl)
  replace h := ite_y hc h
  refine lv_iconst (v := 0) hx hb dX11_makes_9 (by decide) ?_
  cases h
  exact w_iretz C hI hS (by decide) dX11_makes_10
theorem k_X11_makes (l : Launch) (g : gT) (a1 : Int32) (a2 : Int32) (a3 : Int32) (a4 : Int32) (a5 : Int32) (x : st) (r : Int32) (x' : st)  (h : f_X11_makes a1 a2 a3 a4 a5 x = some (r, x')) : Kt l yX11_makes cX11_makes 7 (some .boolean) 0 0 g [.ref (ga g 30 0), .int a1, .int a2, .int a3, .int a4, .int a5] x (some (.int r)) x' := by
  refine Kt.of (by decide) (fun p e s m below meth c C G hI => ?_)
  have hl := lv_entry ([.ref (ga g 30 0), .int a1, .int a2, .int a3, .int a4, .int a5]) (n := 7) (Nat.le_of_ble_eq_true rfl)
  rw [lg_entry_eq]
  generalize (lg_sl ([.ref (ga g 30 0), .int a1, .int a2, .int a3, .int a4, .int a5]) ++ List.replicate (7 - (lg_sl ([.ref (ga g 30 0), .int a1, .int a2, .int a3, .int a4, .int a5])).length) Slot.unset).toArray = ls at hl ⊢
  have hl : lv_has ls 7 [(0, .ref (ga g 30 0)), (1, .int a1), (2, .int a2), (3, .int a3), (4, .int a4), (5, .int a5)] := hl
  exact w_X11_makes C G a1 a2 a3 a4 a5 x _ _ ls  h hI va_S.rf hl
theorem mv_X11_makes : mtV yX11_makes RX11 cX11_makes 7 (some .boolean) 5 := ⟨ki_X11_makes, kl_X11_makes, kI_X11, kc_X11_makes, by decide +kernel⟩

/-! X11_begins -/
def f_X11_begins (a1 : Int32) (a2 : Int32) (x : st) : Option (st) := if a2 ≤ 6 then (if (x 30 0 39) = 24 then (bnv (f_X11_over  x) fun x5 => some x5) else (lets (sx x 30 0 39 ((x 30 0 39) + 1)) fun x1 => bnv (f_X11_raise a1 a2 x1) fun x2 => some x2)) else (bnv (f_X11_raise a1 a2 x) fun x8 => some x8)
set_option maxHeartbeats 4000000 in
set_option maxRecDepth 100000 in
theorem w_X11_begins {p : Program} {l : Launch} {e : Env} {s : State} {m : MethodId} {args : Array Value} {below : List Frame} {meth : Method} {c : Code} {g : gT} {x' : st} (C : cxt p s m meth c args cX11_begins 3 RX11 none) (G : gst g s) (a1 : Int32) (a2 : Int32) (x : st) (H : Heap) (locs : List Loc) (ls : Array Slot)  (h : f_X11_begins a1 a2 x = some x') (hI : wst g x H) (hS : va_S (zA (gz g)) s.heap H locs) (hl : lv_has ls 3 [(0, .ref (ga g 30 0)), (1, .int a1), (2, .int a2)]) : W p l e (rmC 4 88) s m args below meth c H locs 0 0 (MQ below (Qx g none x') args s 0 0 (zA (gz g))) (F0 m 0 ls []) := by
  obtain ⟨hx, hb, hml, hown, hts, hlk, hrt⟩ := id C
  unfold f_X11_begins at h
  refine lv_iload_n hx hb dX11_begins_0 rfl (lv_at hl 2 rfl) ?_
  refine lv_bipush (v := 6) hx hb dX11_begins_1 (by decide) ?_
  refine lv_icmp_le (tgt := 15) hx hb dX11_begins_3 (by decide) (fun hc => ?_) (fun hc => ?_)
  · replace h := ite_y hc h
    refine lv_aload_n hx hb dX11_begins_15 rfl (lv_at hl 0 rfl) ?_
    refine w_get C G hI 30 0 (hI.at1 rfl) (fcE_30 g _ _) rfl in_X11 39 (by decide) kf_X11_172 (fun _ h => h) (v := .int (x 30 0 39)) rfl dX11_begins_16 ?_
    refine lv_bipush (v := 24) hx hb dX11_begins_19 (by decide) ?_
    refine lv_icmp_ne (tgt := 31) hx hb dX11_begins_21 (by decide) (fun hc => ?_) (fun hc => ?_)
    · replace h := ite_n hc h
      refine lv_aload_n hx hb dX11_begins_31 rfl (lv_at hl 0 rfl) ?_
      refine lv_dup hx hb dX11_begins_32 rfl ?_
      refine w_get C G hI 30 0 (hI.at1 rfl) (fcE_30 g _ _) rfl in_X11 39 (by decide) kf_X11_172 (fun _ h => h) (v := .int (x 30 0 39)) rfl dX11_begins_33 ?_
      refine lv_iconst (v := 1) hx hb dX11_begins_36 (by decide) ?_
      refine lv_iadd hx hb dX11_begins_37 ?_
      refine w_put C G hI hS 30 0 (hI.at1 rfl) rfl (fcE_30 g _ _) rfl in_X11 tyX11 tyX11_ok nmX11 39 (by decide) kf_X11_172 (fun _ h => h) rfl (ty := .int) (y := ((x 30 0 39) + 1)) (by decide +kernel) rfl rfl (Nat.le_of_ble_eq_true rfl) (m44_set_39 g _ _) dX11_begins_38 (fun H locs hI hS => ?_)
      obtain ⟨x1, e_x1, h⟩ := lets_some h
      rw [← e_x1] at hI
      refine lv_aload_n hx hb dX11_begins_41 rfl (lv_at hl 0 rfl) ?_
      refine lv_iload_n hx hb dX11_begins_42 rfl (lv_at hl 1 rfl) ?_
      refine lv_iload_n hx hb dX11_begins_43 rfl (lv_at hl 2 rfl) ?_
      obtain ⟨x2, hq4, h⟩ := bnv_some h
      refine w_callV (fr := 3) (lo := 63) C G hI hS 30 0 (hI.at1 rfl) (fcE_30 g _ _) rfl mv_X11_raise km_X11_168 [.int a1, .int a2] (k_X11_raise l g a1 a2 x1 _  hq4) rfl (by first | exact ⟨by decide, by decide⟩ | exact ⟨by show _ ≤ _ + _; omega, by show _ ≤ _ + _; omega⟩) ⟨Nat.zero_le _, Nat.zero_le _⟩ hl.1 rfl (Nat.le_of_ble_eq_true rfl) dX11_begins_44 (fun H locs hI hS => ?_)
      cases h
      exact w_vret C hI hS dX11_begins_47
    replace h := ite_y hc h
    refine lv_aload_n hx hb dX11_begins_24 rfl (lv_at hl 0 rfl) ?_
    obtain ⟨x5, hq7, h⟩ := bnv_some h
    refine w_callV (fr := 0) (lo := 0) C G hI hS 30 0 (hI.at1 rfl) (fcE_30 g _ _) rfl mv_X11_over km_X11_156 [] (k_X11_over l g  x _  hq7) rfl (by first | exact ⟨by decide, by decide⟩ | exact ⟨by show _ ≤ _ + _; omega, by show _ ≤ _ + _; omega⟩) ⟨Nat.zero_le _, Nat.zero_le _⟩ hl.1 rfl (Nat.le_of_ble_eq_true rfl) dX11_begins_25 (fun H locs hI hS => ?_)
    refine lv_goto (tgt := 47) hx hb dX11_begins_28 (by decide) ?_
    cases h
    exact w_vret C hI hS dX11_begins_47
  replace h := ite_n hc h
  refine lv_aload_n hx hb dX11_begins_6 rfl (lv_at hl 0 rfl) ?_
  refine lv_iload_n hx hb dX11_begins_7 rfl (lv_at hl 1 rfl) ?_
  refine lv_iload_n hx hb dX11_begins_8 rfl (lv_at hl 2 rfl) ?_
  obtain ⟨x8, hq10, h⟩ := bnv_some h
  refine w_callV (fr := 3) (lo := 63) C G hI hS 30 0 (hI.at1 rfl) (fcE_30 g _ _) rfl mv_X11_raise km_X11_168 [.int a1, .int a2] (k_X11_raise l g a1 a2 x _  hq10) rfl (by first | exact ⟨by decide, by decide⟩ | exact ⟨by show _ ≤ _ + _; omega, by show _ ≤ _ + _; omega⟩) ⟨Nat.zero_le _, Nat.zero_le _⟩ hl.1 rfl (Nat.le_of_ble_eq_true rfl) dX11_begins_9 (fun H locs hI hS => ?_)
  refine lv_goto (tgt := 47) hx hb dX11_begins_12 (by decide) ?_
  cases h
  exact w_vret C hI hS dX11_begins_47
theorem k_X11_begins (l : Launch) (g : gT) (a1 : Int32) (a2 : Int32) (x : st) (x' : st)  (h : f_X11_begins a1 a2 x = some x') : Kt l yX11_begins cX11_begins 3 none 4 88 g [.ref (ga g 30 0), .int a1, .int a2] x none x' := by
  refine Kt.of (by decide) (fun p e s m below meth c C G hI => ?_)
  have hl := lv_entry ([.ref (ga g 30 0), .int a1, .int a2]) (n := 3) (Nat.le_of_ble_eq_true rfl)
  rw [lg_entry_eq]
  generalize (lg_sl ([.ref (ga g 30 0), .int a1, .int a2]) ++ List.replicate (3 - (lg_sl ([.ref (ga g 30 0), .int a1, .int a2])).length) Slot.unset).toArray = ls at hl ⊢
  have hl : lv_has ls 3 [(0, .ref (ga g 30 0)), (1, .int a1), (2, .int a2)] := hl
  exact w_X11_begins C G a1 a2 x _ _ ls  h hI va_S.rf hl
theorem mv_X11_begins : mtV yX11_begins RX11 cX11_begins 3 none 2 := ⟨ki_X11_begins, kl_X11_begins, kI_X11, kc_X11_begins, by decide +kernel⟩

/-! X11_throwOn -/
def f_X11_throwOn_b117 (lp : Int32 → Int32 → Int32 → st → Option (st)) (v2 : Int32) (v4 : Int32) (x : st) : Option (st) := lp v2 ((x 30 0 16) - 1) v4 x
set_option maxHeartbeats 4000000 in
set_option maxRecDepth 100000 in
theorem w_X11_throwOn_b117 {p : Program} {l : Launch} {e : Env} {s : State} {m : MethodId} {args : Array Value} {below : List Frame} {meth : Method} {c : Code} {g : gT} {x' : st} (C : cxt p s m meth c args cX11_throwOn 6 RX11 none) (G : gst g s) (lp : Int32 → Int32 → Int32 → st → Option (st)) (hlp : ∀ (v2 : Int32) (v3 : Int32) (v4 : Int32) (x : st) (H : Heap) (locs : List Loc) (ls : Array Slot), lp v2 v3 v4 x = some x' → wst g x H → va_S (zA (gz g)) s.heap H locs → lv_has ls 6 [(0, .ref (ga g 30 0)), (2, .int v2), (3, .int v3), (4, .int v4)] → W p l e (rmC 4 88) s m args below meth c H locs 0 0 (MQ below (Qx g none x') args s 0 0 (zA (gz g))) (F0 m 5 ls [])) (v2 : Int32) (v4 : Int32) (x : st) (H : Heap) (locs : List Loc) (ls : Array Slot)  (h : f_X11_throwOn_b117 lp v2 v4 x = some x') (hI : wst g x H) (hS : va_S (zA (gz g)) s.heap H locs) (hl : lv_has ls 6 [(0, .ref (ga g 30 0)), (2, .int v2), (4, .int v4)]) : W p l e (rmC 4 88) s m args below meth c H locs 0 0 (MQ below (Qx g none x') args s 0 0 (zA (gz g))) (F0 m 117 ls []) := by
  obtain ⟨hx, hb, hml, hown, hts, hlk, hrt⟩ := id C
  unfold f_X11_throwOn_b117 at h
  refine lv_aload_n hx hb dX11_throwOn_117 rfl (lv_at hl 0 rfl) ?_
  refine w_get C G hI 30 0 (hI.at1 rfl) (fcE_30 g _ _) rfl in_X11 16 (by decide) kf_X11_119 (fun _ h => h) (v := .int (x 30 0 16)) rfl dX11_throwOn_118 ?_
  refine lv_iconst (v := 1) hx hb dX11_throwOn_121 (by decide) ?_
  refine lv_isub hx hb dX11_throwOn_122 ?_
  refine lv_istore_n (lv' := [(3, .int ((x 30 0 16) - 1)), (0, .ref (ga g 30 0)), (2, .int v2), (4, .int v4)]) hx hb dX11_throwOn_123 rfl hl (by decide) rfl (fun ls hl => ?_)
  refine lv_goto (tgt := 5) hx hb dX11_throwOn_124 (by decide) ?_
  exact hlp v2 ((x 30 0 16) - 1) v4 x _ _ _  h hI hS (lv_sub hl [1, 2, 0, 3] rfl)
def f_X11_throwOn_b93 (lp : Int32 → Int32 → Int32 → st → Option (st)) (v2 : Int32) (v4 : Int32) (x : st) : Option (st) := if (x 30 0 16) = 0 then (if inb 1 9 = true then lets (sx x 80 0 (1 : Int32).toNatClampNeg v2) fun x4 => lets (sx x4 30 0 35 2) fun x5 => lets (sx x5 30 0 36 1) fun x6 => f_X11_throwOn_b117 lp v2 v4 x6 else none) else (f_X11_throwOn_b117 lp v2 v4 x)
set_option maxHeartbeats 4000000 in
set_option maxRecDepth 100000 in
theorem w_X11_throwOn_b93 {p : Program} {l : Launch} {e : Env} {s : State} {m : MethodId} {args : Array Value} {below : List Frame} {meth : Method} {c : Code} {g : gT} {x' : st} (C : cxt p s m meth c args cX11_throwOn 6 RX11 none) (G : gst g s) (lp : Int32 → Int32 → Int32 → st → Option (st)) (hlp : ∀ (v2 : Int32) (v3 : Int32) (v4 : Int32) (x : st) (H : Heap) (locs : List Loc) (ls : Array Slot), lp v2 v3 v4 x = some x' → wst g x H → va_S (zA (gz g)) s.heap H locs → lv_has ls 6 [(0, .ref (ga g 30 0)), (2, .int v2), (3, .int v3), (4, .int v4)] → W p l e (rmC 4 88) s m args below meth c H locs 0 0 (MQ below (Qx g none x') args s 0 0 (zA (gz g))) (F0 m 5 ls [])) (v2 : Int32) (v4 : Int32) (x : st) (H : Heap) (locs : List Loc) (ls : Array Slot)  (h : f_X11_throwOn_b93 lp v2 v4 x = some x') (hI : wst g x H) (hS : va_S (zA (gz g)) s.heap H locs) (hl : lv_has ls 6 [(0, .ref (ga g 30 0)), (2, .int v2), (4, .int v4)]) : W p l e (rmC 4 88) s m args below meth c H locs 0 0 (MQ below (Qx g none x') args s 0 0 (zA (gz g))) (F0 m 93 ls []) := by
  obtain ⟨hx, hb, hml, hown, hts, hlk, hrt⟩ := id C
  unfold f_X11_throwOn_b93 at h
  refine lv_aload_n hx hb dX11_throwOn_93 rfl (lv_at hl 0 rfl) ?_
  refine w_get C G hI 30 0 (hI.at1 rfl) (fcE_30 g _ _) rfl in_X11 16 (by decide) kf_X11_119 (fun _ h => h) (v := .int (x 30 0 16)) rfl dX11_throwOn_94 ?_
  refine lv_if_ne (tgt := 117) hx hb dX11_throwOn_97 (by decide) (fun hc => ?_) (fun hc => ?_)
  · replace h := ite_n hc h
    exact w_X11_throwOn_b117 C G lp hlp v2 v4 x _ _ _  h hI hS (lv_sub hl [0, 1, 2] rfl)
  replace h := ite_y hc h
  refine lv_aload_n hx hb dX11_throwOn_100 rfl (lv_at hl 0 rfl) ?_
  refine w_get C G hI 30 0 (hI.at1 rfl) (fcE_30 g _ _) rfl in_X11 40 (by decide) kf_X11_107 (fun _ h => h) (v := .ref (ga g 80 0)) rfl dX11_throwOn_101 ?_
  refine lv_iconst (v := 1) hx hb dX11_throwOn_104 (by decide) ?_
  refine lv_iload_n hx hb dX11_throwOn_105 rfl (lv_at hl 1 rfl) ?_
  obtain ⟨hn3, h⟩ := need_t h
  refine w_iast C G hI hS 80 0 (hI.at1 rfl) rfl (fcA_80 g _) (y := v2) (inb_in hn3) dX11_throwOn_106 (fun H locs hI hS => ?_)
  obtain ⟨x4, e_x4, h⟩ := lets_some h
  rw [← e_x4] at hI
  refine lv_aload_n hx hb dX11_throwOn_107 rfl (lv_at hl 0 rfl) ?_
  refine lv_iconst (v := 2) hx hb dX11_throwOn_108 (by decide) ?_
  refine w_put C G hI hS 30 0 (hI.at1 rfl) rfl (fcE_30 g _ _) rfl in_X11 tyX11 tyX11_ok nmX11 35 (by decide) kf_X11_165 (fun _ h => h) rfl (ty := .int) (y := 2) (by decide +kernel) rfl rfl (Nat.le_of_ble_eq_true rfl) (m44_set_35 g _ _) dX11_throwOn_109 (fun H locs hI hS => ?_)
  obtain ⟨x5, e_x5, h⟩ := lets_some h
  rw [← e_x5] at hI
  refine lv_aload_n hx hb dX11_throwOn_112 rfl (lv_at hl 0 rfl) ?_
  refine lv_iconst (v := 1) hx hb dX11_throwOn_113 (by decide) ?_
  refine w_put C G hI hS 30 0 (hI.at1 rfl) rfl (fcE_30 g _ _) rfl in_X11 tyX11 tyX11_ok nmX11 36 (by decide) kf_X11_159 (fun _ h => h) rfl (ty := .boolean) (y := 1) (by decide +kernel) rfl rfl (Nat.le_of_ble_eq_true rfl) (m44_set_36 g _ _) dX11_throwOn_114 (fun H locs hI hS => ?_)
  obtain ⟨x6, e_x6, h⟩ := lets_some h
  rw [← e_x6] at hI
  exact w_X11_throwOn_b117 C G lp hlp v2 v4 x6 _ _ _  h hI hS (lv_sub hl [0, 1, 2] rfl)
def f_X11_throwOn_b60 (lp : Int32 → Int32 → Int32 → st → Option (st)) (v2 : Int32) (v5 : Int32) (s0 : Int32) (x : st) : Option (st) := if s0 = 0 then (if (x 30 0 16) ≤ 0 then (f_X11_throwOn_b93 lp v2 s0 x) else (if v5 = 0 then (bnv (f_X11_raise ((x 30 0 16) - 1) v2 x) fun x3 => f_X11_throwOn_b117 lp v2 s0 x3) else (f_X11_throwOn_b93 lp v2 s0 x))) else (f_X11_throwOn_b93 lp v2 s0 x)
set_option maxHeartbeats 4000000 in
set_option maxRecDepth 100000 in
theorem w_X11_throwOn_b60 {p : Program} {l : Launch} {e : Env} {s : State} {m : MethodId} {args : Array Value} {below : List Frame} {meth : Method} {c : Code} {g : gT} {x' : st} (C : cxt p s m meth c args cX11_throwOn 6 RX11 none) (G : gst g s) (lp : Int32 → Int32 → Int32 → st → Option (st)) (hlp : ∀ (v2 : Int32) (v3 : Int32) (v4 : Int32) (x : st) (H : Heap) (locs : List Loc) (ls : Array Slot), lp v2 v3 v4 x = some x' → wst g x H → va_S (zA (gz g)) s.heap H locs → lv_has ls 6 [(0, .ref (ga g 30 0)), (2, .int v2), (3, .int v3), (4, .int v4)] → W p l e (rmC 4 88) s m args below meth c H locs 0 0 (MQ below (Qx g none x') args s 0 0 (zA (gz g))) (F0 m 5 ls [])) (v2 : Int32) (v5 : Int32) (s0 : Int32) (x : st) (H : Heap) (locs : List Loc) (ls : Array Slot)  (h : f_X11_throwOn_b60 lp v2 v5 s0 x = some x') (hI : wst g x H) (hS : va_S (zA (gz g)) s.heap H locs) (hl : lv_has ls 6 [(0, .ref (ga g 30 0)), (2, .int v2), (5, .int v5)]) : W p l e (rmC 4 88) s m args below meth c H locs 0 0 (MQ below (Qx g none x') args s 0 0 (zA (gz g))) (F0 m 60 ls [.int s0]) := by
  obtain ⟨hx, hb, hml, hown, hts, hlk, hrt⟩ := id C
  unfold f_X11_throwOn_b60 at h
  refine lv_istore (lv' := [(4, .int s0), (0, .ref (ga g 30 0)), (2, .int v2), (5, .int v5)]) hx hb dX11_throwOn_60 hl (by decide) rfl (fun ls hl => ?_)
  refine lv_iload hx hb dX11_throwOn_62 (lv_at hl 0 rfl) ?_
  refine lv_if_ne (tgt := 93) hx hb dX11_throwOn_64 (by decide) (fun hc => ?_) (fun hc => ?_)
  · replace h := ite_n hc h
    exact w_X11_throwOn_b93 C G lp hlp v2 s0 x _ _ _  h hI hS (lv_sub hl [1, 2, 0] rfl)
  replace h := ite_y hc h
  refine lv_aload_n hx hb dX11_throwOn_67 rfl (lv_at hl 1 rfl) ?_
  refine w_get C G hI 30 0 (hI.at1 rfl) (fcE_30 g _ _) rfl in_X11 16 (by decide) kf_X11_119 (fun _ h => h) (v := .int (x 30 0 16)) rfl dX11_throwOn_68 ?_
  refine lv_if_le (tgt := 93) hx hb dX11_throwOn_71 (by decide) (fun hc => ?_) (fun hc => ?_)
  · replace h := ite_y hc h
    exact w_X11_throwOn_b93 C G lp hlp v2 s0 x _ _ _  h hI hS (lv_sub hl [1, 2, 0] rfl)
  replace h := ite_n hc h
  refine lv_iload hx hb dX11_throwOn_74 (lv_at hl 3 rfl) ?_
  refine lv_if_ne (tgt := 93) hx hb dX11_throwOn_76 (by decide) (fun hc => ?_) (fun hc => ?_)
  · replace h := ite_n hc h
    exact w_X11_throwOn_b93 C G lp hlp v2 s0 x _ _ _  h hI hS (lv_sub hl [1, 2, 0] rfl)
  replace h := ite_y hc h
  refine lv_aload_n hx hb dX11_throwOn_79 rfl (lv_at hl 1 rfl) ?_
  refine lv_aload_n hx hb dX11_throwOn_80 rfl (lv_at hl 1 rfl) ?_
  refine w_get C G hI 30 0 (hI.at1 rfl) (fcE_30 g _ _) rfl in_X11 16 (by decide) kf_X11_119 (fun _ h => h) (v := .int (x 30 0 16)) rfl dX11_throwOn_81 ?_
  refine lv_iconst (v := 1) hx hb dX11_throwOn_84 (by decide) ?_
  refine lv_isub hx hb dX11_throwOn_85 ?_
  refine lv_iload_n hx hb dX11_throwOn_86 rfl (lv_at hl 2 rfl) ?_
  obtain ⟨x3, hq5, h⟩ := bnv_some h
  refine w_callV (fr := 3) (lo := 63) C G hI hS 30 0 (hI.at1 rfl) (fcE_30 g _ _) rfl mv_X11_raise km_X11_168 [.int ((x 30 0 16) - 1), .int v2] (k_X11_raise l g ((x 30 0 16) - 1) v2 x _  hq5) rfl (by first | exact ⟨by decide, by decide⟩ | exact ⟨by show _ ≤ _ + _; omega, by show _ ≤ _ + _; omega⟩) ⟨Nat.zero_le _, Nat.zero_le _⟩ hl.1 rfl (Nat.le_of_ble_eq_true rfl) dX11_throwOn_87 (fun H locs hI hS => ?_)
  refine lv_goto (tgt := 117) hx hb dX11_throwOn_90 (by decide) ?_
  exact w_X11_throwOn_b117 C G lp hlp v2 s0 x3 _ _ _  h hI hS (lv_sub hl [1, 2, 0] rfl)
def f_X11_throwOn_b59 (lp : Int32 → Int32 → Int32 → st → Option (st)) (v2 : Int32) (v5 : Int32) (x : st) : Option (st) := f_X11_throwOn_b60 lp v2 v5 0 x
set_option maxHeartbeats 4000000 in
set_option maxRecDepth 100000 in
theorem w_X11_throwOn_b59 {p : Program} {l : Launch} {e : Env} {s : State} {m : MethodId} {args : Array Value} {below : List Frame} {meth : Method} {c : Code} {g : gT} {x' : st} (C : cxt p s m meth c args cX11_throwOn 6 RX11 none) (G : gst g s) (lp : Int32 → Int32 → Int32 → st → Option (st)) (hlp : ∀ (v2 : Int32) (v3 : Int32) (v4 : Int32) (x : st) (H : Heap) (locs : List Loc) (ls : Array Slot), lp v2 v3 v4 x = some x' → wst g x H → va_S (zA (gz g)) s.heap H locs → lv_has ls 6 [(0, .ref (ga g 30 0)), (2, .int v2), (3, .int v3), (4, .int v4)] → W p l e (rmC 4 88) s m args below meth c H locs 0 0 (MQ below (Qx g none x') args s 0 0 (zA (gz g))) (F0 m 5 ls [])) (v2 : Int32) (v5 : Int32) (x : st) (H : Heap) (locs : List Loc) (ls : Array Slot)  (h : f_X11_throwOn_b59 lp v2 v5 x = some x') (hI : wst g x H) (hS : va_S (zA (gz g)) s.heap H locs) (hl : lv_has ls 6 [(0, .ref (ga g 30 0)), (2, .int v2), (5, .int v5)]) : W p l e (rmC 4 88) s m args below meth c H locs 0 0 (MQ below (Qx g none x') args s 0 0 (zA (gz g))) (F0 m 59 ls []) := by
  obtain ⟨hx, hb, hml, hown, hts, hlk, hrt⟩ := id C
  unfold f_X11_throwOn_b59 at h
  refine lv_iconst (v := 0) hx hb dX11_throwOn_59 (by decide) ?_
  exact w_X11_throwOn_b60 C G lp hlp v2 v5 0 x _ _ _  h hI hS (lv_sub hl [0, 1, 2] rfl)
def f_X11_throwOn_b55 (lp : Int32 → Int32 → Int32 → st → Option (st)) (v2 : Int32) (v5 : Int32) (x : st) : Option (st) := f_X11_throwOn_b60 lp v2 v5 1 x
set_option maxHeartbeats 4000000 in
set_option maxRecDepth 100000 in
theorem w_X11_throwOn_b55 {p : Program} {l : Launch} {e : Env} {s : State} {m : MethodId} {args : Array Value} {below : List Frame} {meth : Method} {c : Code} {g : gT} {x' : st} (C : cxt p s m meth c args cX11_throwOn 6 RX11 none) (G : gst g s) (lp : Int32 → Int32 → Int32 → st → Option (st)) (hlp : ∀ (v2 : Int32) (v3 : Int32) (v4 : Int32) (x : st) (H : Heap) (locs : List Loc) (ls : Array Slot), lp v2 v3 v4 x = some x' → wst g x H → va_S (zA (gz g)) s.heap H locs → lv_has ls 6 [(0, .ref (ga g 30 0)), (2, .int v2), (3, .int v3), (4, .int v4)] → W p l e (rmC 4 88) s m args below meth c H locs 0 0 (MQ below (Qx g none x') args s 0 0 (zA (gz g))) (F0 m 5 ls [])) (v2 : Int32) (v5 : Int32) (x : st) (H : Heap) (locs : List Loc) (ls : Array Slot)  (h : f_X11_throwOn_b55 lp v2 v5 x = some x') (hI : wst g x H) (hS : va_S (zA (gz g)) s.heap H locs) (hl : lv_has ls 6 [(0, .ref (ga g 30 0)), (2, .int v2), (5, .int v5)]) : W p l e (rmC 4 88) s m args below meth c H locs 0 0 (MQ below (Qx g none x') args s 0 0 (zA (gz g))) (F0 m 55 ls []) := by
  obtain ⟨hx, hb, hml, hown, hts, hlk, hrt⟩ := id C
  unfold f_X11_throwOn_b55 at h
  refine lv_iconst (v := 1) hx hb dX11_throwOn_55 (by decide) ?_
  refine lv_goto (tgt := 60) hx hb dX11_throwOn_56 (by decide) ?_
  exact w_X11_throwOn_b60 C G lp hlp v2 v5 1 x _ _ _  h hI hS (lv_sub hl [0, 1, 2] rfl)
def f_X11_throwOn_b5 : Nat → Int32 → Int32 → Int32 → st → Option (st)
  | 0, _, _, _, _ => none
  | n + 1, v2, v3, v4, x => if v4 = 0 then (some x) else (lets (sx x 30 0 16 v3) fun x1 => if inb v3 13 = true then if (x1 30 0 16) ≤ 0 then (f_X11_throwOn_b59 (f_X11_throwOn_b5 n) v2 (x1 61 0 v3.toNatClampNeg) x1) else (if (x1 61 0 v3.toNatClampNeg) = 0 then (f_X11_throwOn_b59 (f_X11_throwOn_b5 n) v2 (x1 61 0 v3.toNatClampNeg) x1) else (if (x1 30 0 37) = 0 then (f_X11_throwOn_b55 (f_X11_throwOn_b5 n) v2 (x1 61 0 v3.toNatClampNeg) x1) else (if (x1 30 0 38) = ((x1 30 0 16) - 1) then (f_X11_throwOn_b59 (f_X11_throwOn_b5 n) v2 (x1 61 0 v3.toNatClampNeg) x1) else (f_X11_throwOn_b55 (f_X11_throwOn_b5 n) v2 (x1 61 0 v3.toNatClampNeg) x1)))) else none)
set_option maxHeartbeats 4000000 in
set_option maxRecDepth 100000 in
theorem w_X11_throwOn_b5 {p : Program} {l : Launch} {e : Env} {s : State} {m : MethodId} {args : Array Value} {below : List Frame} {meth : Method} {c : Code} {g : gT} {x' : st} (C : cxt p s m meth c args cX11_throwOn 6 RX11 none) (G : gst g s) : ∀ (n : Nat) (v2 : Int32) (v3 : Int32) (v4 : Int32) (x : st) (H : Heap) (locs : List Loc) (ls : Array Slot), f_X11_throwOn_b5 n v2 v3 v4 x = some x' → wst g x H → va_S (zA (gz g)) s.heap H locs → lv_has ls 6 [(0, .ref (ga g 30 0)), (2, .int v2), (3, .int v3), (4, .int v4)] → W p l e (rmC 4 88) s m args below meth c H locs 0 0 (MQ below (Qx g none x') args s 0 0 (zA (gz g))) (F0 m 5 ls []) := by
  obtain ⟨hx, hb, hml, hown, hts, hlk, hrt⟩ := id C
  intro n
  induction n with
  | zero =>
    intro v2 v3 v4 x H locs ls h hI hS hl
    simp [f_X11_throwOn_b5] at h
  | succ n ih =>
    intro v2 v3 v4 x H locs ls h hI hS hl
    unfold f_X11_throwOn_b5 at h
    refine lv_iload hx hb dX11_throwOn_5 (lv_at hl 3 rfl) ?_
    refine lv_if_eq (tgt := 127) hx hb dX11_throwOn_7 (by decide) (fun hc => ?_) (fun hc => ?_)
    · replace h := ite_y hc h
      cases h
      exact w_vret C hI hS dX11_throwOn_127
    replace h := ite_n hc h
    refine lv_aload_n hx hb dX11_throwOn_10 rfl (lv_at hl 0 rfl) ?_
    refine lv_iload_n hx hb dX11_throwOn_11 rfl (lv_at hl 2 rfl) ?_
    refine w_put C G hI hS 30 0 (hI.at1 rfl) rfl (fcE_30 g _ _) rfl in_X11 tyX11 tyX11_ok nmX11 16 (by decide) kf_X11_119 (fun _ h => h) rfl (ty := .int) (y := v3) (by decide +kernel) rfl rfl (Nat.le_of_ble_eq_true rfl) (m44_set_16 g _ _) dX11_throwOn_12 (fun H locs hI hS => ?_)
    obtain ⟨x1, e_x1, h⟩ := lets_some h
    rw [← e_x1] at hI
    refine lv_aload_n hx hb dX11_throwOn_15 rfl (lv_at hl 0 rfl) ?_
    refine w_get C G hI 30 0 (hI.at1 rfl) (fcE_30 g _ _) rfl in_X11 21 (by decide) kf_X11_71 (fun _ h => h) (v := .ref (ga g 61 0)) rfl dX11_throwOn_16 ?_
    refine lv_iload_n hx hb dX11_throwOn_19 rfl (lv_at hl 2 rfl) ?_
    obtain ⟨hn2, h⟩ := need_t h
    refine w_zald C G hI 61 0 (hI.at1 rfl) (fcA_61 g _ _) (inb_in hn2) dX11_throwOn_20 ?_
    refine lv_istore (lv' := [(5, .int (x1 61 0 v3.toNatClampNeg)), (0, .ref (ga g 30 0)), (2, .int v2), (3, .int v3), (4, .int v4)]) hx hb dX11_throwOn_21 hl (by decide) rfl (fun ls hl => ?_)
    refine lv_aload_n hx hb dX11_throwOn_23 rfl (lv_at hl 1 rfl) ?_
    refine w_get C G hI 30 0 (hI.at1 rfl) (fcE_30 g _ _) rfl in_X11 16 (by decide) kf_X11_119 (fun _ h => h) (v := .int (x1 30 0 16)) rfl dX11_throwOn_24 ?_
    refine lv_if_le (tgt := 59) hx hb dX11_throwOn_27 (by decide) (fun hc => ?_) (fun hc => ?_)
    · replace h := ite_y hc h
      exact w_X11_throwOn_b59 C G (f_X11_throwOn_b5 n) ih v2 (x1 61 0 v3.toNatClampNeg) x1 _ _ _  h hI hS (lv_sub hl [1, 2, 0] rfl)
    replace h := ite_n hc h
    refine lv_iload hx hb dX11_throwOn_30 (lv_at hl 0 rfl) ?_
    refine lv_if_eq (tgt := 59) hx hb dX11_throwOn_32 (by decide) (fun hc => ?_) (fun hc => ?_)
    · replace h := ite_y hc h
      exact w_X11_throwOn_b59 C G (f_X11_throwOn_b5 n) ih v2 (x1 61 0 v3.toNatClampNeg) x1 _ _ _  h hI hS (lv_sub hl [1, 2, 0] rfl)
    replace h := ite_n hc h
    refine lv_aload_n hx hb dX11_throwOn_35 rfl (lv_at hl 1 rfl) ?_
    refine w_get C G hI 30 0 (hI.at1 rfl) (fcE_30 g _ _) rfl in_X11 37 (by decide) kf_X11_149 (fun _ h => h) (v := .int (x1 30 0 37)) rfl dX11_throwOn_36 ?_
    refine lv_if_eq (tgt := 55) hx hb dX11_throwOn_39 (by decide) (fun hc => ?_) (fun hc => ?_)
    · replace h := ite_y hc h
      exact w_X11_throwOn_b55 C G (f_X11_throwOn_b5 n) ih v2 (x1 61 0 v3.toNatClampNeg) x1 _ _ _  h hI hS (lv_sub hl [1, 2, 0] rfl)
    replace h := ite_n hc h
    refine lv_aload_n hx hb dX11_throwOn_42 rfl (lv_at hl 1 rfl) ?_
    refine w_get C G hI 30 0 (hI.at1 rfl) (fcE_30 g _ _) rfl in_X11 38 (by decide) kf_X11_162 (fun _ h => h) (v := .int (x1 30 0 38)) rfl dX11_throwOn_43 ?_
    refine lv_aload_n hx hb dX11_throwOn_46 rfl (lv_at hl 1 rfl) ?_
    refine w_get C G hI 30 0 (hI.at1 rfl) (fcE_30 g _ _) rfl in_X11 16 (by decide) kf_X11_119 (fun _ h => h) (v := .int (x1 30 0 16)) rfl dX11_throwOn_47 ?_
    refine lv_iconst (v := 1) hx hb dX11_throwOn_50 (by decide) ?_
    refine lv_isub hx hb dX11_throwOn_51 ?_
    refine lv_icmp_eq (tgt := 59) hx hb dX11_throwOn_52 (by decide) (fun hc => ?_) (fun hc => ?_)
    · replace h := ite_y hc h
      exact w_X11_throwOn_b59 C G (f_X11_throwOn_b5 n) ih v2 (x1 61 0 v3.toNatClampNeg) x1 _ _ _  h hI hS (lv_sub hl [1, 2, 0] rfl)
    replace h := ite_n hc h
    exact w_X11_throwOn_b55 C G (f_X11_throwOn_b5 n) ih v2 (x1 61 0 v3.toNatClampNeg) x1 _ _ _  h hI hS (lv_sub hl [1, 2, 0] rfl)
def f_X11_throwOn (a1 : Int32) (a2 : Int32) (x : st) : Option (st) := f_X11_throwOn_b5 100 a2 a1 1 x
set_option maxHeartbeats 4000000 in
set_option maxRecDepth 100000 in
theorem w_X11_throwOn {p : Program} {l : Launch} {e : Env} {s : State} {m : MethodId} {args : Array Value} {below : List Frame} {meth : Method} {c : Code} {g : gT} {x' : st} (C : cxt p s m meth c args cX11_throwOn 6 RX11 none) (G : gst g s) (a1 : Int32) (a2 : Int32) (x : st) (H : Heap) (locs : List Loc) (ls : Array Slot)  (h : f_X11_throwOn a1 a2 x = some x') (hI : wst g x H) (hS : va_S (zA (gz g)) s.heap H locs) (hl : lv_has ls 6 [(0, .ref (ga g 30 0)), (1, .int a1), (2, .int a2)]) : W p l e (rmC 4 88) s m args below meth c H locs 0 0 (MQ below (Qx g none x') args s 0 0 (zA (gz g))) (F0 m 0 ls []) := by
  obtain ⟨hx, hb, hml, hown, hts, hlk, hrt⟩ := id C
  unfold f_X11_throwOn at h
  refine lv_iload_n hx hb dX11_throwOn_0 rfl (lv_at hl 1 rfl) ?_
  refine lv_istore_n (lv' := [(3, .int a1), (0, .ref (ga g 30 0)), (1, .int a1), (2, .int a2)]) hx hb dX11_throwOn_1 rfl hl (by decide) rfl (fun ls hl => ?_)
  refine lv_iconst (v := 1) hx hb dX11_throwOn_2 (by decide) ?_
  refine lv_istore (lv' := [(4, .int 1), (3, .int a1), (0, .ref (ga g 30 0)), (1, .int a1), (2, .int a2)]) hx hb dX11_throwOn_3 hl (by decide) rfl (fun ls hl => ?_)
  exact w_X11_throwOn_b5 C G 100 a2 a1 1 x _ _ _  h hI hS (lv_sub hl [2, 4, 1, 0] rfl)
theorem k_X11_throwOn (l : Launch) (g : gT) (a1 : Int32) (a2 : Int32) (x : st) (x' : st)  (h : f_X11_throwOn a1 a2 x = some x') : Kt l yX11_throwOn cX11_throwOn 6 none 4 88 g [.ref (ga g 30 0), .int a1, .int a2] x none x' := by
  refine Kt.of (by decide) (fun p e s m below meth c C G hI => ?_)
  have hl := lv_entry ([.ref (ga g 30 0), .int a1, .int a2]) (n := 6) (Nat.le_of_ble_eq_true rfl)
  rw [lg_entry_eq]
  generalize (lg_sl ([.ref (ga g 30 0), .int a1, .int a2]) ++ List.replicate (6 - (lg_sl ([.ref (ga g 30 0), .int a1, .int a2])).length) Slot.unset).toArray = ls at hl ⊢
  have hl : lv_has ls 6 [(0, .ref (ga g 30 0)), (1, .int a1), (2, .int a2)] := hl
  exact w_X11_throwOn C G a1 a2 x _ _ ls  h hI va_S.rf hl
theorem mv_X11_throwOn : mtV yX11_throwOn RX11 cX11_throwOn 6 none 2 := ⟨ki_X11_throwOn, kl_X11_throwOn, kI_X11, kc_X11_throwOn, by decide +kernel⟩

/-! X11_thrown -/
def f_X11_thrown_b54 (v2 : Int32) (x : st) : Option (st) := bnv (f_X11_throwOn ((x 30 0 16) - 1) v2 x) fun x5 => some x5
set_option maxHeartbeats 4000000 in
set_option maxRecDepth 100000 in
theorem w_X11_thrown_b54 {p : Program} {l : Launch} {e : Env} {s : State} {m : MethodId} {args : Array Value} {below : List Frame} {meth : Method} {c : Code} {g : gT} {x' : st} (C : cxt p s m meth c args cX11_thrown 3 RX11 none) (G : gst g s) (v2 : Int32) (x : st) (H : Heap) (locs : List Loc) (ls : Array Slot)  (h : f_X11_thrown_b54 v2 x = some x') (hI : wst g x H) (hS : va_S (zA (gz g)) s.heap H locs) (hl : lv_has ls 3 [(0, .ref (ga g 30 0)), (2, .int v2)]) : W p l e (rmC 5 113) s m args below meth c H locs 0 0 (MQ below (Qx g none x') args s 0 0 (zA (gz g))) (F0 m 54 ls []) := by
  obtain ⟨hx, hb, hml, hown, hts, hlk, hrt⟩ := id C
  unfold f_X11_thrown_b54 at h
  refine lv_aload_n hx hb dX11_thrown_54 rfl (lv_at hl 0 rfl) ?_
  refine lv_aload_n hx hb dX11_thrown_55 rfl (lv_at hl 0 rfl) ?_
  refine w_get C G hI 30 0 (hI.at1 rfl) (fcE_30 g _ _) rfl in_X11 16 (by decide) kf_X11_119 (fun _ h => h) (v := .int (x 30 0 16)) rfl dX11_thrown_56 ?_
  refine lv_iconst (v := 1) hx hb dX11_thrown_59 (by decide) ?_
  refine lv_isub hx hb dX11_thrown_60 ?_
  refine lv_iload_n hx hb dX11_thrown_61 rfl (lv_at hl 1 rfl) ?_
  obtain ⟨x5, hq7, h⟩ := bnv_some h
  refine w_callV (fr := 4) (lo := 88) C G hI hS 30 0 (hI.at1 rfl) (fcE_30 g _ _) rfl mv_X11_throwOn km_X11_185 [.int ((x 30 0 16) - 1), .int v2] (k_X11_throwOn l g ((x 30 0 16) - 1) v2 x _  hq7) rfl (by first | exact ⟨by decide, by decide⟩ | exact ⟨by show _ ≤ _ + _; omega, by show _ ≤ _ + _; omega⟩) ⟨Nat.zero_le _, Nat.zero_le _⟩ hl.1 rfl (Nat.le_of_ble_eq_true rfl) dX11_thrown_62 (fun H locs hI hS => ?_)
  cases h
  exact w_vret C hI hS dX11_thrown_65
def f_X11_thrown (a1 : Int32) (a2 : Int32) (x : st) : Option (st) := if (x 30 0 16) = 0 then (if inb 1 9 = true then lets (sx x 80 0 (1 : Int32).toNatClampNeg a2) fun x6 => lets (sx x6 30 0 35 2) fun x7 => lets (sx x7 30 0 36 1) fun x8 => some x8 else none) else (if inb a1 13 = true then if (x 61 0 a1.toNatClampNeg) = 0 then (bnv (f_X11_raise ((x 30 0 16) - 1) a2 x) fun x2 => some x2) else (if (x 30 0 37) = 0 then (f_X11_thrown_b54 a2 x) else (if (x 30 0 38) = ((x 30 0 16) - 1) then (some x) else (f_X11_thrown_b54 a2 x))) else none)
set_option maxHeartbeats 4000000 in
set_option maxRecDepth 100000 in
theorem w_X11_thrown {p : Program} {l : Launch} {e : Env} {s : State} {m : MethodId} {args : Array Value} {below : List Frame} {meth : Method} {c : Code} {g : gT} {x' : st} (C : cxt p s m meth c args cX11_thrown 3 RX11 none) (G : gst g s) (a1 : Int32) (a2 : Int32) (x : st) (H : Heap) (locs : List Loc) (ls : Array Slot)  (h : f_X11_thrown a1 a2 x = some x') (hI : wst g x H) (hS : va_S (zA (gz g)) s.heap H locs) (hl : lv_has ls 3 [(0, .ref (ga g 30 0)), (1, .int a1), (2, .int a2)]) : W p l e (rmC 5 113) s m args below meth c H locs 0 0 (MQ below (Qx g none x') args s 0 0 (zA (gz g))) (F0 m 0 ls []) := by
  obtain ⟨hx, hb, hml, hown, hts, hlk, hrt⟩ := id C
  unfold f_X11_thrown at h
  refine lv_aload_n hx hb dX11_thrown_0 rfl (lv_at hl 0 rfl) ?_
  refine w_get C G hI 30 0 (hI.at1 rfl) (fcE_30 g _ _) rfl in_X11 16 (by decide) kf_X11_119 (fun _ h => h) (v := .int (x 30 0 16)) rfl dX11_thrown_1 ?_
  refine lv_if_ne (tgt := 25) hx hb dX11_thrown_4 (by decide) (fun hc => ?_) (fun hc => ?_)
  · replace h := ite_n hc h
    refine lv_aload_n hx hb dX11_thrown_25 rfl (lv_at hl 0 rfl) ?_
    refine w_get C G hI 30 0 (hI.at1 rfl) (fcE_30 g _ _) rfl in_X11 21 (by decide) kf_X11_71 (fun _ h => h) (v := .ref (ga g 61 0)) rfl dX11_thrown_26 ?_
    refine lv_iload_n hx hb dX11_thrown_29 rfl (lv_at hl 1 rfl) ?_
    obtain ⟨hn1, h⟩ := need_t h
    refine w_zald C G hI 61 0 (hI.at1 rfl) (fcA_61 g _ _) (inb_in hn1) dX11_thrown_30 ?_
    refine lv_if_eq (tgt := 66) hx hb dX11_thrown_31 (by decide) (fun hc => ?_) (fun hc => ?_)
    · replace h := ite_y hc h
      refine lv_aload_n hx hb dX11_thrown_66 rfl (lv_at hl 0 rfl) ?_
      refine lv_aload_n hx hb dX11_thrown_67 rfl (lv_at hl 0 rfl) ?_
      refine w_get C G hI 30 0 (hI.at1 rfl) (fcE_30 g _ _) rfl in_X11 16 (by decide) kf_X11_119 (fun _ h => h) (v := .int (x 30 0 16)) rfl dX11_thrown_68 ?_
      refine lv_iconst (v := 1) hx hb dX11_thrown_71 (by decide) ?_
      refine lv_isub hx hb dX11_thrown_72 ?_
      refine lv_iload_n hx hb dX11_thrown_73 rfl (lv_at hl 2 rfl) ?_
      obtain ⟨x2, hq4, h⟩ := bnv_some h
      refine w_callV (fr := 3) (lo := 63) C G hI hS 30 0 (hI.at1 rfl) (fcE_30 g _ _) rfl mv_X11_raise km_X11_168 [.int ((x 30 0 16) - 1), .int a2] (k_X11_raise l g ((x 30 0 16) - 1) a2 x _  hq4) rfl (by first | exact ⟨by decide, by decide⟩ | exact ⟨by show _ ≤ _ + _; omega, by show _ ≤ _ + _; omega⟩) ⟨Nat.zero_le _, Nat.zero_le _⟩ hl.1 rfl (Nat.le_of_ble_eq_true rfl) dX11_thrown_74 (fun H locs hI hS => ?_)
      cases h
      exact w_vret C hI hS dX11_thrown_77
    replace h := ite_n hc h
    refine lv_aload_n hx hb dX11_thrown_34 rfl (lv_at hl 0 rfl) ?_
    refine w_get C G hI 30 0 (hI.at1 rfl) (fcE_30 g _ _) rfl in_X11 37 (by decide) kf_X11_149 (fun _ h => h) (v := .int (x 30 0 37)) rfl dX11_thrown_35 ?_
    refine lv_if_eq (tgt := 54) hx hb dX11_thrown_38 (by decide) (fun hc => ?_) (fun hc => ?_)
    · replace h := ite_y hc h
      exact w_X11_thrown_b54 C G a2 x _ _ _  h hI hS (lv_sub hl [0, 2] rfl)
    replace h := ite_n hc h
    refine lv_aload_n hx hb dX11_thrown_41 rfl (lv_at hl 0 rfl) ?_
    refine w_get C G hI 30 0 (hI.at1 rfl) (fcE_30 g _ _) rfl in_X11 38 (by decide) kf_X11_162 (fun _ h => h) (v := .int (x 30 0 38)) rfl dX11_thrown_42 ?_
    refine lv_aload_n hx hb dX11_thrown_45 rfl (lv_at hl 0 rfl) ?_
    refine w_get C G hI 30 0 (hI.at1 rfl) (fcE_30 g _ _) rfl in_X11 16 (by decide) kf_X11_119 (fun _ h => h) (v := .int (x 30 0 16)) rfl dX11_thrown_46 ?_
    refine lv_iconst (v := 1) hx hb dX11_thrown_49 (by decide) ?_
    refine lv_isub hx hb dX11_thrown_50 ?_
    refine lv_icmp_eq (tgt := 65) hx hb dX11_thrown_51 (by decide) (fun hc => ?_) (fun hc => ?_)
    · replace h := ite_y hc h
      cases h
      exact w_vret C hI hS dX11_thrown_65
    replace h := ite_n hc h
    exact w_X11_thrown_b54 C G a2 x _ _ _  h hI hS (lv_sub hl [0, 2] rfl)
  replace h := ite_y hc h
  refine lv_aload_n hx hb dX11_thrown_7 rfl (lv_at hl 0 rfl) ?_
  refine w_get C G hI 30 0 (hI.at1 rfl) (fcE_30 g _ _) rfl in_X11 40 (by decide) kf_X11_107 (fun _ h => h) (v := .ref (ga g 80 0)) rfl dX11_thrown_8 ?_
  refine lv_iconst (v := 1) hx hb dX11_thrown_11 (by decide) ?_
  refine lv_iload_n hx hb dX11_thrown_12 rfl (lv_at hl 2 rfl) ?_
  obtain ⟨hn5, h⟩ := need_t h
  refine w_iast C G hI hS 80 0 (hI.at1 rfl) rfl (fcA_80 g _) (y := a2) (inb_in hn5) dX11_thrown_13 (fun H locs hI hS => ?_)
  obtain ⟨x6, e_x6, h⟩ := lets_some h
  rw [← e_x6] at hI
  refine lv_aload_n hx hb dX11_thrown_14 rfl (lv_at hl 0 rfl) ?_
  refine lv_iconst (v := 2) hx hb dX11_thrown_15 (by decide) ?_
  refine w_put C G hI hS 30 0 (hI.at1 rfl) rfl (fcE_30 g _ _) rfl in_X11 tyX11 tyX11_ok nmX11 35 (by decide) kf_X11_165 (fun _ h => h) rfl (ty := .int) (y := 2) (by decide +kernel) rfl rfl (Nat.le_of_ble_eq_true rfl) (m44_set_35 g _ _) dX11_thrown_16 (fun H locs hI hS => ?_)
  obtain ⟨x7, e_x7, h⟩ := lets_some h
  rw [← e_x7] at hI
  refine lv_aload_n hx hb dX11_thrown_19 rfl (lv_at hl 0 rfl) ?_
  refine lv_iconst (v := 1) hx hb dX11_thrown_20 (by decide) ?_
  refine w_put C G hI hS 30 0 (hI.at1 rfl) rfl (fcE_30 g _ _) rfl in_X11 tyX11 tyX11_ok nmX11 36 (by decide) kf_X11_159 (fun _ h => h) rfl (ty := .boolean) (y := 1) (by decide +kernel) rfl rfl (Nat.le_of_ble_eq_true rfl) (m44_set_36 g _ _) dX11_thrown_21 (fun H locs hI hS => ?_)
  obtain ⟨x8, e_x8, h⟩ := lets_some h
  rw [← e_x8] at hI
  cases h
  exact w_vret C hI hS dX11_thrown_24
theorem k_X11_thrown (l : Launch) (g : gT) (a1 : Int32) (a2 : Int32) (x : st) (x' : st)  (h : f_X11_thrown a1 a2 x = some x') : Kt l yX11_thrown cX11_thrown 3 none 5 113 g [.ref (ga g 30 0), .int a1, .int a2] x none x' := by
  refine Kt.of (by decide) (fun p e s m below meth c C G hI => ?_)
  have hl := lv_entry ([.ref (ga g 30 0), .int a1, .int a2]) (n := 3) (Nat.le_of_ble_eq_true rfl)
  rw [lg_entry_eq]
  generalize (lg_sl ([.ref (ga g 30 0), .int a1, .int a2]) ++ List.replicate (3 - (lg_sl ([.ref (ga g 30 0), .int a1, .int a2])).length) Slot.unset).toArray = ls at hl ⊢
  have hl : lv_has ls 3 [(0, .ref (ga g 30 0)), (1, .int a1), (2, .int a2)] := hl
  exact w_X11_thrown C G a1 a2 x _ _ ls  h hI va_S.rf hl
theorem mv_X11_thrown : mtV yX11_thrown RX11 cX11_thrown 3 none 2 := ⟨ki_X11_thrown, kl_X11_thrown, kI_X11, kc_X11_thrown, by decide +kernel⟩

/-! X11_gave -/
def f_X11_gave (a1 : Int32) (a2 : Int32) (x : st) : Option (st) := if (x 30 0 16) = 0 then (if inb 0 9 = true then lets (sx x 80 0 (0 : Int32).toNatClampNeg a2) fun x12 => lets (sx x12 30 0 35 0) fun x13 => lets (sx x13 30 0 36 1) fun x14 => some x14 else none) else (if inb a1 13 = true then if (x 61 0 a1.toNatClampNeg) = 0 then (if inb ((x 30 0 16) - 1) 13 = true then if inb ((x 30 0 16) - 1) 13 = true then if inb ((48 * (x 57 0 ((x 30 0 16) - 1).toNatClampNeg)) + (x 58 0 ((x 30 0 16) - 1).toNatClampNeg)) 384 = true then if inb ((6 * ((x 30 0 16) - 1)) + (x 42 0 ((48 * (x 57 0 ((x 30 0 16) - 1).toNatClampNeg)) + (x 58 0 ((x 30 0 16) - 1).toNatClampNeg)).toNatClampNeg)) 78 = true then lets (sx x 59 0 ((6 * ((x 30 0 16) - 1)) + (x 42 0 ((48 * (x 57 0 ((x 30 0 16) - 1).toNatClampNeg)) + (x 58 0 ((x 30 0 16) - 1).toNatClampNeg)).toNatClampNeg)).toNatClampNeg a2) fun x6 => if inb ((x 30 0 16) - 1) 13 = true then bnv (f_X11_leave ((x 30 0 16) - 1) ((x6 58 0 ((x 30 0 16) - 1).toNatClampNeg) + 1) 0 0 x6) fun x8 => some x8 else none else none else none else none else none) else (some x) else none)
set_option maxHeartbeats 4000000 in
set_option maxRecDepth 100000 in
theorem w_X11_gave {p : Program} {l : Launch} {e : Env} {s : State} {m : MethodId} {args : Array Value} {below : List Frame} {meth : Method} {c : Code} {g : gT} {x' : st} (C : cxt p s m meth c args cX11_gave 5 RX11 none) (G : gst g s) (a1 : Int32) (a2 : Int32) (x : st) (H : Heap) (locs : List Loc) (ls : Array Slot)  (h : f_X11_gave a1 a2 x = some x') (hI : wst g x H) (hS : va_S (zA (gz g)) s.heap H locs) (hl : lv_has ls 5 [(0, .ref (ga g 30 0)), (1, .int a1), (2, .int a2)]) : W p l e (rmC 1 24) s m args below meth c H locs 0 0 (MQ below (Qx g none x') args s 0 0 (zA (gz g))) (F0 m 0 ls []) := by
  obtain ⟨hx, hb, hml, hown, hts, hlk, hrt⟩ := id C
  unfold f_X11_gave at h
  refine lv_aload_n hx hb dX11_gave_0 rfl (lv_at hl 0 rfl) ?_
  refine w_get C G hI 30 0 (hI.at1 rfl) (fcE_30 g _ _) rfl in_X11 16 (by decide) kf_X11_119 (fun _ h => h) (v := .int (x 30 0 16)) rfl dX11_gave_1 ?_
  refine lv_if_ne (tgt := 27) hx hb dX11_gave_4 (by decide) (fun hc => ?_) (fun hc => ?_)
  · replace h := ite_n hc h
    refine lv_aload_n hx hb dX11_gave_27 rfl (lv_at hl 0 rfl) ?_
    refine w_get C G hI 30 0 (hI.at1 rfl) (fcE_30 g _ _) rfl in_X11 21 (by decide) kf_X11_71 (fun _ h => h) (v := .ref (ga g 61 0)) rfl dX11_gave_28 ?_
    refine lv_iload_n hx hb dX11_gave_31 rfl (lv_at hl 1 rfl) ?_
    obtain ⟨hn1, h⟩ := need_t h
    refine w_zald C G hI 61 0 (hI.at1 rfl) (fcA_61 g _ _) (inb_in hn1) dX11_gave_32 ?_
    refine lv_if_ne (tgt := 94) hx hb dX11_gave_33 (by decide) (fun hc => ?_) (fun hc => ?_)
    · replace h := ite_n hc h
      cases h
      exact w_vret C hI hS dX11_gave_94
    replace h := ite_y hc h
    refine lv_aload_n hx hb dX11_gave_36 rfl (lv_at hl 0 rfl) ?_
    refine w_get C G hI 30 0 (hI.at1 rfl) (fcE_30 g _ _) rfl in_X11 16 (by decide) kf_X11_119 (fun _ h => h) (v := .int (x 30 0 16)) rfl dX11_gave_37 ?_
    refine lv_iconst (v := 1) hx hb dX11_gave_40 (by decide) ?_
    refine lv_isub hx hb dX11_gave_41 ?_
    refine lv_istore_n (lv' := [(3, .int ((x 30 0 16) - 1)), (0, .ref (ga g 30 0)), (1, .int a1), (2, .int a2)]) hx hb dX11_gave_42 rfl hl (by decide) rfl (fun ls hl => ?_)
    refine lv_bipush (v := 48) hx hb dX11_gave_43 (by decide) ?_
    refine lv_aload_n hx hb dX11_gave_45 rfl (lv_at hl 1 rfl) ?_
    refine w_get C G hI 30 0 (hI.at1 rfl) (fcE_30 g _ _) rfl in_X11 17 (by decide) kf_X11_59 (fun _ h => h) (v := .ref (ga g 57 0)) rfl dX11_gave_46 ?_
    refine lv_iload_n hx hb dX11_gave_49 rfl (lv_at hl 0 rfl) ?_
    obtain ⟨hn2, h⟩ := need_t h
    refine w_iald C G hI 57 0 (hI.at1 rfl) (fcA_57 g _ _) (inb_in hn2) dX11_gave_50 ?_
    refine lv_imul hx hb dX11_gave_51 ?_
    refine lv_aload_n hx hb dX11_gave_52 rfl (lv_at hl 1 rfl) ?_
    refine w_get C G hI 30 0 (hI.at1 rfl) (fcE_30 g _ _) rfl in_X11 18 (by decide) kf_X11_62 (fun _ h => h) (v := .ref (ga g 58 0)) rfl dX11_gave_53 ?_
    refine lv_iload_n hx hb dX11_gave_56 rfl (lv_at hl 0 rfl) ?_
    obtain ⟨hn3, h⟩ := need_t h
    refine w_iald C G hI 58 0 (hI.at1 rfl) (fcA_58 g _ _) (inb_in hn3) dX11_gave_57 ?_
    refine lv_iadd hx hb dX11_gave_58 ?_
    refine lv_istore (lv' := [(4, .int ((48 * (x 57 0 ((x 30 0 16) - 1).toNatClampNeg)) + (x 58 0 ((x 30 0 16) - 1).toNatClampNeg))), (3, .int ((x 30 0 16) - 1)), (0, .ref (ga g 30 0)), (1, .int a1), (2, .int a2)]) hx hb dX11_gave_59 hl (by decide) rfl (fun ls hl => ?_)
    refine lv_aload_n hx hb dX11_gave_61 rfl (lv_at hl 2 rfl) ?_
    refine w_get C G hI 30 0 (hI.at1 rfl) (fcE_30 g _ _) rfl in_X11 19 (by decide) kf_X11_65 (fun _ h => h) (v := .ref (ga g 59 0)) rfl dX11_gave_62 ?_
    refine lv_bipush (v := 6) hx hb dX11_gave_65 (by decide) ?_
    refine lv_iload_n hx hb dX11_gave_67 rfl (lv_at hl 1 rfl) ?_
    refine lv_imul hx hb dX11_gave_68 ?_
    refine lv_aload_n hx hb dX11_gave_69 rfl (lv_at hl 2 rfl) ?_
    refine w_get C G hI 30 0 (hI.at1 rfl) (fcE_30 g _ _) rfl in_X11 2 (by decide) kf_X11_16 (fun _ h => h) (v := .ref (ga g 42 0)) rfl dX11_gave_70 ?_
    refine lv_iload hx hb dX11_gave_73 (lv_at hl 0 rfl) ?_
    obtain ⟨hn4, h⟩ := need_t h
    refine w_iald C G hI 42 0 (hI.at1 rfl) (fcA_42 g _ _) (inb_in hn4) dX11_gave_75 ?_
    refine lv_iadd hx hb dX11_gave_76 ?_
    refine lv_iload_n hx hb dX11_gave_77 rfl (lv_at hl 4 rfl) ?_
    obtain ⟨hn5, h⟩ := need_t h
    refine w_iast C G hI hS 59 0 (hI.at1 rfl) rfl (fcA_59 g _) (y := a2) (inb_in hn5) dX11_gave_78 (fun H locs hI hS => ?_)
    obtain ⟨x6, e_x6, h⟩ := lets_some h
    rw [← e_x6] at hI
    refine lv_aload_n hx hb dX11_gave_79 rfl (lv_at hl 2 rfl) ?_
    refine lv_iload_n hx hb dX11_gave_80 rfl (lv_at hl 1 rfl) ?_
    refine lv_aload_n hx hb dX11_gave_81 rfl (lv_at hl 2 rfl) ?_
    refine w_get C G hI 30 0 (hI.at1 rfl) (fcE_30 g _ _) rfl in_X11 18 (by decide) kf_X11_62 (fun _ h => h) (v := .ref (ga g 58 0)) rfl dX11_gave_82 ?_
    refine lv_iload_n hx hb dX11_gave_85 rfl (lv_at hl 1 rfl) ?_
    obtain ⟨hn7, h⟩ := need_t h
    refine w_iald C G hI 58 0 (hI.at1 rfl) (fcA_58 g _ _) (inb_in hn7) dX11_gave_86 ?_
    refine lv_iconst (v := 1) hx hb dX11_gave_87 (by decide) ?_
    refine lv_iadd hx hb dX11_gave_88 ?_
    refine lv_iconst (v := 0) hx hb dX11_gave_89 (by decide) ?_
    refine lv_iconst (v := 0) hx hb dX11_gave_90 (by decide) ?_
    obtain ⟨x8, hq10, h⟩ := bnv_some h
    refine w_callV (fr := 0) (lo := 0) C G hI hS 30 0 (hI.at1 rfl) (fcE_30 g _ _) rfl mv_X11_leave km_X11_198 [.int ((x 30 0 16) - 1), .int ((x6 58 0 ((x 30 0 16) - 1).toNatClampNeg) + 1), .int 0, .int 0] (k_X11_leave l g ((x 30 0 16) - 1) ((x6 58 0 ((x 30 0 16) - 1).toNatClampNeg) + 1) 0 0 x6 _  hq10) rfl (by first | exact ⟨by decide, by decide⟩ | exact ⟨by show _ ≤ _ + _; omega, by show _ ≤ _ + _; omega⟩) ⟨Nat.zero_le _, Nat.zero_le _⟩ hl.1 rfl (Nat.le_of_ble_eq_true rfl) dX11_gave_91 (fun H locs hI hS => ?_)
    cases h
    exact w_vret C hI hS dX11_gave_94
  replace h := ite_y hc h
  refine lv_aload_n hx hb dX11_gave_7 rfl (lv_at hl 0 rfl) ?_
  refine w_get C G hI 30 0 (hI.at1 rfl) (fcE_30 g _ _) rfl in_X11 40 (by decide) kf_X11_107 (fun _ h => h) (v := .ref (ga g 80 0)) rfl dX11_gave_8 ?_
  refine lv_iconst (v := 0) hx hb dX11_gave_11 (by decide) ?_
  refine lv_iload_n hx hb dX11_gave_12 rfl (lv_at hl 2 rfl) ?_
  obtain ⟨hn11, h⟩ := need_t h
  refine w_iast C G hI hS 80 0 (hI.at1 rfl) rfl (fcA_80 g _) (y := a2) (inb_in hn11) dX11_gave_13 (fun H locs hI hS => ?_)
  obtain ⟨x12, e_x12, h⟩ := lets_some h
  rw [← e_x12] at hI
  refine lv_aload_n hx hb dX11_gave_14 rfl (lv_at hl 0 rfl) ?_
  refine lv_iconst (v := 0) hx hb dX11_gave_15 (by decide) ?_
  refine w_put C G hI hS 30 0 (hI.at1 rfl) rfl (fcE_30 g _ _) rfl in_X11 tyX11 tyX11_ok nmX11 35 (by decide) kf_X11_165 (fun _ h => h) rfl (ty := .int) (y := 0) (by decide +kernel) rfl rfl (Nat.le_of_ble_eq_true rfl) (m44_set_35 g _ _) dX11_gave_16 (fun H locs hI hS => ?_)
  obtain ⟨x13, e_x13, h⟩ := lets_some h
  rw [← e_x13] at hI
  refine lv_aload_n hx hb dX11_gave_19 rfl (lv_at hl 0 rfl) ?_
  refine lv_iconst (v := 1) hx hb dX11_gave_20 (by decide) ?_
  refine w_put C G hI hS 30 0 (hI.at1 rfl) rfl (fcE_30 g _ _) rfl in_X11 tyX11 tyX11_ok nmX11 36 (by decide) kf_X11_159 (fun _ h => h) rfl (ty := .boolean) (y := 1) (by decide +kernel) rfl rfl (Nat.le_of_ble_eq_true rfl) (m44_set_36 g _ _) dX11_gave_21 (fun H locs hI hS => ?_)
  obtain ⟨x14, e_x14, h⟩ := lets_some h
  rw [← e_x14] at hI
  refine lv_goto (tgt := 94) hx hb dX11_gave_24 (by decide) ?_
  cases h
  exact w_vret C hI hS dX11_gave_94
theorem k_X11_gave (l : Launch) (g : gT) (a1 : Int32) (a2 : Int32) (x : st) (x' : st)  (h : f_X11_gave a1 a2 x = some x') : Kt l yX11_gave cX11_gave 5 none 1 24 g [.ref (ga g 30 0), .int a1, .int a2] x none x' := by
  refine Kt.of (by decide) (fun p e s m below meth c C G hI => ?_)
  have hl := lv_entry ([.ref (ga g 30 0), .int a1, .int a2]) (n := 5) (Nat.le_of_ble_eq_true rfl)
  rw [lg_entry_eq]
  generalize (lg_sl ([.ref (ga g 30 0), .int a1, .int a2]) ++ List.replicate (5 - (lg_sl ([.ref (ga g 30 0), .int a1, .int a2])).length) Slot.unset).toArray = ls at hl ⊢
  have hl : lv_has ls 5 [(0, .ref (ga g 30 0)), (1, .int a1), (2, .int a2)] := hl
  exact w_X11_gave C G a1 a2 x _ _ ls  h hI va_S.rf hl
theorem mv_X11_gave : mtV yX11_gave RX11 cX11_gave 5 none 2 := ⟨ki_X11_gave, kl_X11_gave, kI_X11, kc_X11_gave, by decide +kernel⟩

/-! X11_runsClean -/
def f_X11_runsClean_b96 (v1 : Int32) (x : st) : Option (Int32 × st) := if inb 5 9 = true then if inb 5 9 = true then lets (sx x 80 0 (5 : Int32).toNatClampNeg ((x 80 0 (5 : Int32).toNatClampNeg) + 1)) fun x10 => if inb v1 13 = true then if inb v1 13 = true then if inb v1 13 = true then lets (sx x10 66 0 v1.toNatClampNeg ((x10 66 0 v1.toNatClampNeg) ||| (1 <<< ((x10 67 0 v1.toNatClampNeg) &&& 31)))) fun x14 => if inb v1 13 = true then if inb v1 13 = true then lets (sx x14 67 0 v1.toNatClampNeg ((x14 67 0 v1.toNatClampNeg) - 1)) fun x17 => some (1, x17) else none else none else none else none else none else none else none
set_option maxHeartbeats 4000000 in
set_option maxRecDepth 100000 in
theorem w_X11_runsClean_b96 {p : Program} {l : Launch} {e : Env} {s : State} {m : MethodId} {args : Array Value} {below : List Frame} {meth : Method} {c : Code} {g : gT} {r : Int32} {x' : st} (C : cxt p s m meth c args cX11_runsClean 3 RX11 (some .boolean)) (G : gst g s) (v1 : Int32) (x : st) (H : Heap) (locs : List Loc) (ls : Array Slot)  (h : f_X11_runsClean_b96 v1 x = some (r, x')) (hI : wst g x H) (hS : va_S (zA (gz g)) s.heap H locs) (hl : lv_has ls 3 [(0, .ref (ga g 30 0)), (1, .int v1)]) : W p l e (rmC 1 26) s m args below meth c H locs 0 0 (MQ below (Qx g (some (.int r)) x') args s 0 0 (zA (gz g))) (F0 m 96 ls []) := by
  obtain ⟨hx, hb, hml, hown, hts, hlk, hrt⟩ := id C
  unfold f_X11_runsClean_b96 at h
  refine lv_aload_n hx hb dX11_runsClean_96 rfl (lv_at hl 0 rfl) ?_
  refine w_get C G hI 30 0 (hI.at1 rfl) (fcE_30 g _ _) rfl in_X11 40 (by decide) kf_X11_107 (fun _ h => h) (v := .ref (ga g 80 0)) rfl dX11_runsClean_97 ?_
  refine lv_iconst (v := 5) hx hb dX11_runsClean_100 (by decide) ?_
  refine lv_dup2_11 hx hb dX11_runsClean_101 rfl rfl ?_
  obtain ⟨hn8, h⟩ := need_t h
  refine w_iald C G hI 80 0 (hI.at1 rfl) (fcA_80 g _ _) (inb_in hn8) dX11_runsClean_102 ?_
  refine lv_iconst (v := 1) hx hb dX11_runsClean_103 (by decide) ?_
  refine lv_iadd hx hb dX11_runsClean_104 ?_
  obtain ⟨hn9, h⟩ := need_t h
  refine w_iast C G hI hS 80 0 (hI.at1 rfl) rfl (fcA_80 g _) (y := ((x 80 0 (5 : Int32).toNatClampNeg) + 1)) (inb_in hn9) dX11_runsClean_105 (fun H locs hI hS => ?_)
  obtain ⟨x10, e_x10, h⟩ := lets_some h
  rw [← e_x10] at hI
  refine lv_aload_n hx hb dX11_runsClean_106 rfl (lv_at hl 0 rfl) ?_
  refine w_get C G hI 30 0 (hI.at1 rfl) (fcE_30 g _ _) rfl in_X11 26 (by decide) kf_X11_87 (fun _ h => h) (v := .ref (ga g 66 0)) rfl dX11_runsClean_107 ?_
  refine lv_iload_n hx hb dX11_runsClean_110 rfl (lv_at hl 1 rfl) ?_
  refine lv_dup2_11 hx hb dX11_runsClean_111 rfl rfl ?_
  obtain ⟨hn11, h⟩ := need_t h
  refine w_iald C G hI 66 0 (hI.at1 rfl) (fcA_66 g _ _) (inb_in hn11) dX11_runsClean_112 ?_
  refine lv_iconst (v := 1) hx hb dX11_runsClean_113 (by decide) ?_
  refine lv_aload_n hx hb dX11_runsClean_114 rfl (lv_at hl 0 rfl) ?_
  refine w_get C G hI 30 0 (hI.at1 rfl) (fcE_30 g _ _) rfl in_X11 27 (by decide) kf_X11_90 (fun _ h => h) (v := .ref (ga g 67 0)) rfl dX11_runsClean_115 ?_
  refine lv_iload_n hx hb dX11_runsClean_118 rfl (lv_at hl 1 rfl) ?_
  obtain ⟨hn12, h⟩ := need_t h
  refine w_iald C G hI 67 0 (hI.at1 rfl) (fcA_67 g _ _) (inb_in hn12) dX11_runsClean_119 ?_
  refine lv_ishl hx hb dX11_runsClean_120 ?_
  refine lv_ior hx hb dX11_runsClean_121 ?_
  obtain ⟨hn13, h⟩ := need_t h
  refine w_iast C G hI hS 66 0 (hI.at1 rfl) rfl (fcA_66 g _) (y := ((x10 66 0 v1.toNatClampNeg) ||| (1 <<< ((x10 67 0 v1.toNatClampNeg) &&& 31)))) (inb_in hn13) dX11_runsClean_122 (fun H locs hI hS => ?_)
  obtain ⟨x14, e_x14, h⟩ := lets_some h
  rw [← e_x14] at hI
  refine lv_aload_n hx hb dX11_runsClean_123 rfl (lv_at hl 0 rfl) ?_
  refine w_get C G hI 30 0 (hI.at1 rfl) (fcE_30 g _ _) rfl in_X11 27 (by decide) kf_X11_90 (fun _ h => h) (v := .ref (ga g 67 0)) rfl dX11_runsClean_124 ?_
  refine lv_iload_n hx hb dX11_runsClean_127 rfl (lv_at hl 1 rfl) ?_
  refine lv_dup2_11 hx hb dX11_runsClean_128 rfl rfl ?_
  obtain ⟨hn15, h⟩ := need_t h
  refine w_iald C G hI 67 0 (hI.at1 rfl) (fcA_67 g _ _) (inb_in hn15) dX11_runsClean_129 ?_
  refine lv_iconst (v := 1) hx hb dX11_runsClean_130 (by decide) ?_
  refine lv_isub hx hb dX11_runsClean_131 ?_
  obtain ⟨hn16, h⟩ := need_t h
  refine w_iast C G hI hS 67 0 (hI.at1 rfl) rfl (fcA_67 g _) (y := ((x14 67 0 v1.toNatClampNeg) - 1)) (inb_in hn16) dX11_runsClean_132 (fun H locs hI hS => ?_)
  obtain ⟨x17, e_x17, h⟩ := lets_some h
  rw [← e_x17] at hI
  refine lv_iconst (v := 1) hx hb dX11_runsClean_133 (by decide) ?_
  cases h
  exact w_iretz C hI hS (by decide) dX11_runsClean_134
def f_X11_runsClean (a1 : Int32) (x : st) : Option (Int32 × st) := if inb a1 13 = true then if inb a1 13 = true then if inb ((6 * (x 57 0 a1.toNatClampNeg)) + (x 67 0 a1.toNatClampNeg)) 48 = true then bnd (f_X11_makes (x 54 0 ((6 * (x 57 0 a1.toNatClampNeg)) + (x 67 0 a1.toNatClampNeg)).toNatClampNeg) a1 0 0 1 x) fun r5 x4 => if r5 = 0 then (some (0, x4)) else (if inb 5 9 = true then if 100 ≤ (x4 80 0 (5 : Int32).toNatClampNeg) then (f_X11_runsClean_b96 a1 x4) else (if inb 5 9 = true then if inb ((6 * (x 57 0 a1.toNatClampNeg)) + (x 67 0 a1.toNatClampNeg)) 48 = true then if inb (x4 80 0 (5 : Int32).toNatClampNeg) 100 = true then lets (sx x4 81 0 (x4 80 0 (5 : Int32).toNatClampNeg).toNatClampNeg (x4 54 0 ((6 * (x 57 0 a1.toNatClampNeg)) + (x 67 0 a1.toNatClampNeg)).toNatClampNeg)) fun x11 => if inb 5 9 = true then if inb a1 13 = true then if inb (x11 80 0 (5 : Int32).toNatClampNeg) 100 = true then lets (sx x11 82 0 (x11 80 0 (5 : Int32).toNatClampNeg).toNatClampNeg (x11 57 0 a1.toNatClampNeg)) fun x15 => if inb 5 9 = true then if inb (x15 80 0 (5 : Int32).toNatClampNeg) 100 = true then lets (sx x15 83 0 (x15 80 0 (5 : Int32).toNatClampNeg).toNatClampNeg (x15 30 0 16)) fun x18 => f_X11_runsClean_b96 a1 x18 else none else none else none else none else none else none else none else none) else none) else none else none else none
set_option maxHeartbeats 4000000 in
set_option maxRecDepth 100000 in
theorem w_X11_runsClean {p : Program} {l : Launch} {e : Env} {s : State} {m : MethodId} {args : Array Value} {below : List Frame} {meth : Method} {c : Code} {g : gT} {r : Int32} {x' : st} (C : cxt p s m meth c args cX11_runsClean 3 RX11 (some .boolean)) (G : gst g s) (a1 : Int32) (x : st) (H : Heap) (locs : List Loc) (ls : Array Slot)  (h : f_X11_runsClean a1 x = some (r, x')) (hI : wst g x H) (hS : va_S (zA (gz g)) s.heap H locs) (hl : lv_has ls 3 [(0, .ref (ga g 30 0)), (1, .int a1)]) : W p l e (rmC 1 26) s m args below meth c H locs 0 0 (MQ below (Qx g (some (.int r)) x') args s 0 0 (zA (gz g))) (F0 m 0 ls []) := by
  obtain ⟨hx, hb, hml, hown, hts, hlk, hrt⟩ := id C
  unfold f_X11_runsClean at h
  refine lv_bipush (v := 6) hx hb dX11_runsClean_0 (by decide) ?_
  refine lv_aload_n hx hb dX11_runsClean_2 rfl (lv_at hl 0 rfl) ?_
  refine w_get C G hI 30 0 (hI.at1 rfl) (fcE_30 g _ _) rfl in_X11 17 (by decide) kf_X11_59 (fun _ h => h) (v := .ref (ga g 57 0)) rfl dX11_runsClean_3 ?_
  refine lv_iload_n hx hb dX11_runsClean_6 rfl (lv_at hl 1 rfl) ?_
  obtain ⟨hn1, h⟩ := need_t h
  refine w_iald C G hI 57 0 (hI.at1 rfl) (fcA_57 g _ _) (inb_in hn1) dX11_runsClean_7 ?_
  refine lv_imul hx hb dX11_runsClean_8 ?_
  refine lv_aload_n hx hb dX11_runsClean_9 rfl (lv_at hl 0 rfl) ?_
  refine w_get C G hI 30 0 (hI.at1 rfl) (fcE_30 g _ _) rfl in_X11 27 (by decide) kf_X11_90 (fun _ h => h) (v := .ref (ga g 67 0)) rfl dX11_runsClean_10 ?_
  refine lv_iload_n hx hb dX11_runsClean_13 rfl (lv_at hl 1 rfl) ?_
  obtain ⟨hn2, h⟩ := need_t h
  refine w_iald C G hI 67 0 (hI.at1 rfl) (fcA_67 g _ _) (inb_in hn2) dX11_runsClean_14 ?_
  refine lv_iadd hx hb dX11_runsClean_15 ?_
  refine lv_istore_n (lv' := [(2, .int ((6 * (x 57 0 a1.toNatClampNeg)) + (x 67 0 a1.toNatClampNeg))), (0, .ref (ga g 30 0)), (1, .int a1)]) hx hb dX11_runsClean_16 rfl hl (by decide) rfl (fun ls hl => ?_)
  refine lv_aload_n hx hb dX11_runsClean_17 rfl (lv_at hl 1 rfl) ?_
  refine lv_aload_n hx hb dX11_runsClean_18 rfl (lv_at hl 1 rfl) ?_
  refine w_get C G hI 30 0 (hI.at1 rfl) (fcE_30 g _ _) rfl in_X11 14 (by decide) kf_X11_52 (fun _ h => h) (v := .ref (ga g 54 0)) rfl dX11_runsClean_19 ?_
  refine lv_iload_n hx hb dX11_runsClean_22 rfl (lv_at hl 0 rfl) ?_
  obtain ⟨hn3, h⟩ := need_t h
  refine w_iald C G hI 54 0 (hI.at1 rfl) (fcA_54 g _ _) (inb_in hn3) dX11_runsClean_23 ?_
  refine lv_iload_n hx hb dX11_runsClean_24 rfl (lv_at hl 2 rfl) ?_
  refine lv_iconst (v := 0) hx hb dX11_runsClean_25 (by decide) ?_
  refine lv_iconst (v := 0) hx hb dX11_runsClean_26 (by decide) ?_
  refine lv_iconst (v := 1) hx hb dX11_runsClean_27 (by decide) ?_
  obtain ⟨r5, x4, hq6, h⟩ := bnd_some h
  refine w_callV (fr := 0) (lo := 0) C G hI hS 30 0 (hI.at1 rfl) (fcE_30 g _ _) rfl mv_X11_makes km_X11_194 [.int (x 54 0 ((6 * (x 57 0 a1.toNatClampNeg)) + (x 67 0 a1.toNatClampNeg)).toNatClampNeg), .int a1, .int 0, .int 0, .int 1] (k_X11_makes l g (x 54 0 ((6 * (x 57 0 a1.toNatClampNeg)) + (x 67 0 a1.toNatClampNeg)).toNatClampNeg) a1 0 0 1 x _ _  hq6) rfl (by first | exact ⟨by decide, by decide⟩ | exact ⟨by show _ ≤ _ + _; omega, by show _ ≤ _ + _; omega⟩) ⟨Nat.zero_le _, Nat.zero_le _⟩ hl.1 rfl (Nat.le_of_ble_eq_true rfl) dX11_runsClean_28 (fun H locs hI hS => ?_)
  refine lv_if_ne (tgt := 36) hx hb dX11_runsClean_31 (by decide) (fun hc => ?_) (fun hc => ?_)
  · replace h := ite_n hc h
    refine lv_aload_n hx hb dX11_runsClean_36 rfl (lv_at hl 1 rfl) ?_
    refine w_get C G hI 30 0 (hI.at1 rfl) (fcE_30 g _ _) rfl in_X11 40 (by decide) kf_X11_107 (fun _ h => h) (v := .ref (ga g 80 0)) rfl dX11_runsClean_37 ?_
    refine lv_iconst (v := 5) hx hb dX11_runsClean_40 (by decide) ?_
    obtain ⟨hn7, h⟩ := need_t h
    refine w_iald C G hI 80 0 (hI.at1 rfl) (fcA_80 g _ _) (inb_in hn7) dX11_runsClean_41 ?_
    refine lv_bipush (v := 100) hx hb dX11_runsClean_42 (by decide) ?_
    refine lv_icmp_ge (tgt := 96) hx hb dX11_runsClean_44 (by decide) (fun hc => ?_) (fun hc => ?_)
    · replace h := ite_y hc h
      exact w_X11_runsClean_b96 C G a1 x4 _ _ _  h hI hS (lv_sub hl [1, 2] rfl)
    replace h := ite_n hc h
    refine lv_aload_n hx hb dX11_runsClean_47 rfl (lv_at hl 1 rfl) ?_
    refine w_get C G hI 30 0 (hI.at1 rfl) (fcE_30 g _ _) rfl in_X11 41 (by decide) kf_X11_110 (fun _ h => h) (v := .ref (ga g 81 0)) rfl dX11_runsClean_48 ?_
    refine lv_aload_n hx hb dX11_runsClean_51 rfl (lv_at hl 1 rfl) ?_
    refine w_get C G hI 30 0 (hI.at1 rfl) (fcE_30 g _ _) rfl in_X11 40 (by decide) kf_X11_107 (fun _ h => h) (v := .ref (ga g 80 0)) rfl dX11_runsClean_52 ?_
    refine lv_iconst (v := 5) hx hb dX11_runsClean_55 (by decide) ?_
    obtain ⟨hn8, h⟩ := need_t h
    refine w_iald C G hI 80 0 (hI.at1 rfl) (fcA_80 g _ _) (inb_in hn8) dX11_runsClean_56 ?_
    refine lv_aload_n hx hb dX11_runsClean_57 rfl (lv_at hl 1 rfl) ?_
    refine w_get C G hI 30 0 (hI.at1 rfl) (fcE_30 g _ _) rfl in_X11 14 (by decide) kf_X11_52 (fun _ h => h) (v := .ref (ga g 54 0)) rfl dX11_runsClean_58 ?_
    refine lv_iload_n hx hb dX11_runsClean_61 rfl (lv_at hl 0 rfl) ?_
    obtain ⟨hn9, h⟩ := need_t h
    refine w_iald C G hI 54 0 (hI.at1 rfl) (fcA_54 g _ _) (inb_in hn9) dX11_runsClean_62 ?_
    obtain ⟨hn10, h⟩ := need_t h
    refine w_iast C G hI hS 81 0 (hI.at1 rfl) rfl (fcA_81 g _) (y := (x4 54 0 ((6 * (x 57 0 a1.toNatClampNeg)) + (x 67 0 a1.toNatClampNeg)).toNatClampNeg)) (inb_in hn10) dX11_runsClean_63 (fun H locs hI hS => ?_)
    obtain ⟨x11, e_x11, h⟩ := lets_some h
    rw [← e_x11] at hI
    refine lv_aload_n hx hb dX11_runsClean_64 rfl (lv_at hl 1 rfl) ?_
    refine w_get C G hI 30 0 (hI.at1 rfl) (fcE_30 g _ _) rfl in_X11 42 (by decide) kf_X11_113 (fun _ h => h) (v := .ref (ga g 82 0)) rfl dX11_runsClean_65 ?_
    refine lv_aload_n hx hb dX11_runsClean_68 rfl (lv_at hl 1 rfl) ?_
    refine w_get C G hI 30 0 (hI.at1 rfl) (fcE_30 g _ _) rfl in_X11 40 (by decide) kf_X11_107 (fun _ h => h) (v := .ref (ga g 80 0)) rfl dX11_runsClean_69 ?_
    refine lv_iconst (v := 5) hx hb dX11_runsClean_72 (by decide) ?_
    obtain ⟨hn12, h⟩ := need_t h
    refine w_iald C G hI 80 0 (hI.at1 rfl) (fcA_80 g _ _) (inb_in hn12) dX11_runsClean_73 ?_
    refine lv_aload_n hx hb dX11_runsClean_74 rfl (lv_at hl 1 rfl) ?_
    refine w_get C G hI 30 0 (hI.at1 rfl) (fcE_30 g _ _) rfl in_X11 17 (by decide) kf_X11_59 (fun _ h => h) (v := .ref (ga g 57 0)) rfl dX11_runsClean_75 ?_
    refine lv_iload_n hx hb dX11_runsClean_78 rfl (lv_at hl 2 rfl) ?_
    obtain ⟨hn13, h⟩ := need_t h
    refine w_iald C G hI 57 0 (hI.at1 rfl) (fcA_57 g _ _) (inb_in hn13) dX11_runsClean_79 ?_
    obtain ⟨hn14, h⟩ := need_t h
    refine w_iast C G hI hS 82 0 (hI.at1 rfl) rfl (fcA_82 g _) (y := (x11 57 0 a1.toNatClampNeg)) (inb_in hn14) dX11_runsClean_80 (fun H locs hI hS => ?_)
    obtain ⟨x15, e_x15, h⟩ := lets_some h
    rw [← e_x15] at hI
    refine lv_aload_n hx hb dX11_runsClean_81 rfl (lv_at hl 1 rfl) ?_
    refine w_get C G hI 30 0 (hI.at1 rfl) (fcE_30 g _ _) rfl in_X11 43 (by decide) kf_X11_116 (fun _ h => h) (v := .ref (ga g 83 0)) rfl dX11_runsClean_82 ?_
    refine lv_aload_n hx hb dX11_runsClean_85 rfl (lv_at hl 1 rfl) ?_
    refine w_get C G hI 30 0 (hI.at1 rfl) (fcE_30 g _ _) rfl in_X11 40 (by decide) kf_X11_107 (fun _ h => h) (v := .ref (ga g 80 0)) rfl dX11_runsClean_86 ?_
    refine lv_iconst (v := 5) hx hb dX11_runsClean_89 (by decide) ?_
    obtain ⟨hn16, h⟩ := need_t h
    refine w_iald C G hI 80 0 (hI.at1 rfl) (fcA_80 g _ _) (inb_in hn16) dX11_runsClean_90 ?_
    refine lv_aload_n hx hb dX11_runsClean_91 rfl (lv_at hl 1 rfl) ?_
    refine w_get C G hI 30 0 (hI.at1 rfl) (fcE_30 g _ _) rfl in_X11 16 (by decide) kf_X11_119 (fun _ h => h) (v := .int (x15 30 0 16)) rfl dX11_runsClean_92 ?_
    obtain ⟨hn17, h⟩ := need_t h
    refine w_iast C G hI hS 83 0 (hI.at1 rfl) rfl (fcA_83 g _) (y := (x15 30 0 16)) (inb_in hn17) dX11_runsClean_95 (fun H locs hI hS => ?_)
    obtain ⟨x18, e_x18, h⟩ := lets_some h
    rw [← e_x18] at hI
    exact w_X11_runsClean_b96 C G a1 x18 _ _ _  h hI hS (lv_sub hl [1, 2] rfl)
  replace h := ite_y hc h
  refine lv_iconst (v := 0) hx hb dX11_runsClean_34 (by decide) ?_
  cases h
  exact w_iretz C hI hS (by decide) dX11_runsClean_35
theorem k_X11_runsClean (l : Launch) (g : gT) (a1 : Int32) (x : st) (r : Int32) (x' : st)  (h : f_X11_runsClean a1 x = some (r, x')) : Kt l yX11_runsClean cX11_runsClean 3 (some .boolean) 1 26 g [.ref (ga g 30 0), .int a1] x (some (.int r)) x' := by
  refine Kt.of (by decide) (fun p e s m below meth c C G hI => ?_)
  have hl := lv_entry ([.ref (ga g 30 0), .int a1]) (n := 3) (Nat.le_of_ble_eq_true rfl)
  rw [lg_entry_eq]
  generalize (lg_sl ([.ref (ga g 30 0), .int a1]) ++ List.replicate (3 - (lg_sl ([.ref (ga g 30 0), .int a1])).length) Slot.unset).toArray = ls at hl ⊢
  have hl : lv_has ls 3 [(0, .ref (ga g 30 0)), (1, .int a1)] := hl
  exact w_X11_runsClean C G a1 x _ _ ls  h hI va_S.rf hl
theorem mv_X11_runsClean : mtV yX11_runsClean RX11 cX11_runsClean 3 (some .boolean) 1 := ⟨ki_X11_runsClean, kl_X11_runsClean, kI_X11, kc_X11_runsClean, by decide +kernel⟩
