/-! X11_leaveOn -/
def f_X11_leaveOn_b216 (s0 : Int32) (s1 : Int32) (x : st) : Option (st) := bnv (f_X11_gave s1 s0 x) fun x8 => some x8
set_option maxHeartbeats 4000000 in
set_option maxRecDepth 100000 in
theorem w_X11_leaveOn_b216 {p : Program} {l : Launch} {e : Env} {s : State} {m : MethodId} {args : Array Value} {below : List Frame} {meth : Method} {c : Code} {g : gT} {x' : st} (C : cxt p s m meth c args cX11_leaveOn 3 RX11 none) (G : gst g s) (s0 : Int32) (s1 : Int32) (x : st) (H : Heap) (locs : List Loc) (ls : Array Slot)  (h : f_X11_leaveOn_b216 s0 s1 x = some x') (hI : wst g x H) (hS : va_S (zA (gz g)) s.heap H locs) (hl : lv_has ls 3 []) : W p l e (rmC 6 135) s m args below meth c H locs 0 0 (MQ below (Qx g none x') args s 0 0 (zA (gz g))) (F0 m 216 ls [.int s0, .int s1, .ref (ga g 30 0)]) := by
  obtain ⟨hx, hb, hml, hown, hts, hlk, hrt⟩ := id C
  unfold f_X11_leaveOn_b216 at h
  obtain ⟨x8, hq10, h⟩ := bnv_some h
  refine w_callV (fr := 1) (lo := 24) C G hI hS 30 0 (hI.at1 rfl) (fcE_30 g _ _) rfl mv_X11_gave km_X11_191 [.int s1, .int s0] (k_X11_gave l g s1 s0 x _  hq10) rfl (by first | exact ⟨by decide, by decide⟩ | exact ⟨by show _ ≤ _ + _; omega, by show _ ≤ _ + _; omega⟩) ⟨Nat.zero_le _, Nat.zero_le _⟩ hl.1 rfl (Nat.le_of_ble_eq_true rfl) dX11_leaveOn_216 (fun H locs hI hS => ?_)
  refine lv_goto (tgt := 275) hx hb dX11_leaveOn_219 (by decide) ?_
  cases h
  exact w_vret C hI hS dX11_leaveOn_275
def f_X11_leaveOn_b184 (v1 : Int32) (x : st) : Option (st) := lets (sx x 30 0 16 ((x 30 0 16) - 1)) fun x6 => if inb v1 13 = true then if (x6 64 0 v1.toNatClampNeg) = 1 then (if inb v1 13 = true then f_X11_leaveOn_b216 (x6 65 0 v1.toNatClampNeg) v1 x6 else none) else (f_X11_leaveOn_b216 0 v1 x6) else none
set_option maxHeartbeats 4000000 in
set_option maxRecDepth 100000 in
theorem w_X11_leaveOn_b184 {p : Program} {l : Launch} {e : Env} {s : State} {m : MethodId} {args : Array Value} {below : List Frame} {meth : Method} {c : Code} {g : gT} {x' : st} (C : cxt p s m meth c args cX11_leaveOn 3 RX11 none) (G : gst g s) (v1 : Int32) (x : st) (H : Heap) (locs : List Loc) (ls : Array Slot)  (h : f_X11_leaveOn_b184 v1 x = some x') (hI : wst g x H) (hS : va_S (zA (gz g)) s.heap H locs) (hl : lv_has ls 3 [(0, .ref (ga g 30 0)), (1, .int v1)]) : W p l e (rmC 6 135) s m args below meth c H locs 0 0 (MQ below (Qx g none x') args s 0 0 (zA (gz g))) (F0 m 184 ls []) := by
  obtain ⟨hx, hb, hml, hown, hts, hlk, hrt⟩ := id C
  unfold f_X11_leaveOn_b184 at h
  refine lv_aload_n hx hb dX11_leaveOn_184 rfl (lv_at hl 0 rfl) ?_
  refine lv_dup hx hb dX11_leaveOn_185 rfl ?_
  refine w_get C G hI 30 0 (hI.at1 rfl) (fcE_30 g _ _) rfl in_X11 16 (by decide) kf_X11_119 (fun _ h => h) (v := .int (x 30 0 16)) rfl dX11_leaveOn_186 ?_
  refine lv_iconst (v := 1) hx hb dX11_leaveOn_189 (by decide) ?_
  refine lv_isub hx hb dX11_leaveOn_190 ?_
  refine w_put C G hI hS 30 0 (hI.at1 rfl) rfl (fcE_30 g _ _) rfl in_X11 tyX11 tyX11_ok nmX11 16 (by decide) kf_X11_119 (fun _ h => h) rfl (ty := .int) (y := ((x 30 0 16) - 1)) (by decide +kernel) rfl rfl (Nat.le_of_ble_eq_true rfl) (m44_set_16 g _ _) dX11_leaveOn_191 (fun H locs hI hS => ?_)
  obtain ⟨x6, e_x6, h⟩ := lets_some h
  rw [← e_x6] at hI
  refine lv_aload_n hx hb dX11_leaveOn_194 rfl (lv_at hl 0 rfl) ?_
  refine lv_iload_n hx hb dX11_leaveOn_195 rfl (lv_at hl 1 rfl) ?_
  refine lv_aload_n hx hb dX11_leaveOn_196 rfl (lv_at hl 0 rfl) ?_
  refine w_get C G hI 30 0 (hI.at1 rfl) (fcE_30 g _ _) rfl in_X11 24 (by decide) kf_X11_81 (fun _ h => h) (v := .ref (ga g 64 0)) rfl dX11_leaveOn_197 ?_
  refine lv_iload_n hx hb dX11_leaveOn_200 rfl (lv_at hl 1 rfl) ?_
  obtain ⟨hn7, h⟩ := need_t h
  refine w_iald C G hI 64 0 (hI.at1 rfl) (fcA_64 g _ _) (inb_in hn7) dX11_leaveOn_201 ?_
  refine lv_iconst (v := 1) hx hb dX11_leaveOn_202 (by decide) ?_
  refine lv_icmp_ne (tgt := 215) hx hb dX11_leaveOn_203 (by decide) (fun hc => ?_) (fun hc => ?_)
  · replace h := ite_n hc h
    refine lv_iconst (v := 0) hx hb dX11_leaveOn_215 (by decide) ?_
    exact w_X11_leaveOn_b216 C G 0 v1 x6 _ _ _  h hI hS (lv_sub hl [] rfl)
  replace h := ite_y hc h
  refine lv_aload_n hx hb dX11_leaveOn_206 rfl (lv_at hl 0 rfl) ?_
  refine w_get C G hI 30 0 (hI.at1 rfl) (fcE_30 g _ _) rfl in_X11 25 (by decide) kf_X11_84 (fun _ h => h) (v := .ref (ga g 65 0)) rfl dX11_leaveOn_207 ?_
  refine lv_iload_n hx hb dX11_leaveOn_210 rfl (lv_at hl 1 rfl) ?_
  obtain ⟨hn8, h⟩ := need_t h
  refine w_iald C G hI 65 0 (hI.at1 rfl) (fcA_65 g _ _) (inb_in hn8) dX11_leaveOn_211 ?_
  refine lv_goto (tgt := 216) hx hb dX11_leaveOn_212 (by decide) ?_
  exact w_X11_leaveOn_b216 C G (x6 65 0 v1.toNatClampNeg) v1 x6 _ _ _  h hI hS (lv_sub hl [] rfl)
def f_X11_leaveOn_b274 (s0 : Int32) (s1 : Int32) (x : st) : Option (st) := if inb s1 78 = true then lets (sx x 59 0 s1.toNatClampNeg s0) fun x13 => some x13 else none
set_option maxHeartbeats 4000000 in
set_option maxRecDepth 100000 in
theorem w_X11_leaveOn_b274 {p : Program} {l : Launch} {e : Env} {s : State} {m : MethodId} {args : Array Value} {below : List Frame} {meth : Method} {c : Code} {g : gT} {x' : st} (C : cxt p s m meth c args cX11_leaveOn 3 RX11 none) (G : gst g s) (s0 : Int32) (s1 : Int32) (x : st) (H : Heap) (locs : List Loc) (ls : Array Slot)  (h : f_X11_leaveOn_b274 s0 s1 x = some x') (hI : wst g x H) (hS : va_S (zA (gz g)) s.heap H locs) (hl : lv_has ls 3 []) : W p l e (rmC 6 135) s m args below meth c H locs 0 0 (MQ below (Qx g none x') args s 0 0 (zA (gz g))) (F0 m 274 ls [.int s0, .int s1, .ref (ga g 59 0)]) := by
  obtain ⟨hx, hb, hml, hown, hts, hlk, hrt⟩ := id C
  unfold f_X11_leaveOn_b274 at h
  obtain ⟨hn12, h⟩ := need_t h
  refine w_iast C G hI hS 59 0 (hI.at1 rfl) rfl (fcA_59 g _) (y := s0) (inb_in hn12) dX11_leaveOn_274 (fun H locs hI hS => ?_)
  obtain ⟨x13, e_x13, h⟩ := lets_some h
  rw [← e_x13] at hI
  cases h
  exact w_vret C hI hS dX11_leaveOn_275
def f_X11_leaveOn_b109 (lp : Int32 → st → Option (st)) (v1 : Int32) (x : st) : Option (st) := if inb v1 13 = true then if inb v1 13 = true then lets (sx x 67 0 v1.toNatClampNeg ((x 67 0 v1.toNatClampNeg) - 1)) fun x28 => lp v1 x28 else none else none
set_option maxHeartbeats 4000000 in
set_option maxRecDepth 100000 in
theorem w_X11_leaveOn_b109 {p : Program} {l : Launch} {e : Env} {s : State} {m : MethodId} {args : Array Value} {below : List Frame} {meth : Method} {c : Code} {g : gT} {x' : st} (C : cxt p s m meth c args cX11_leaveOn 3 RX11 none) (G : gst g s) (lp : Int32 → st → Option (st)) (hlp : ∀ (a1 : Int32) (x : st) (H : Heap) (locs : List Loc) (ls : Array Slot), lp a1 x = some x' → wst g x H → va_S (zA (gz g)) s.heap H locs → lv_has ls 3 [(0, .ref (ga g 30 0)), (1, .int a1)] → W p l e (rmC 6 135) s m args below meth c H locs 0 0 (MQ below (Qx g none x') args s 0 0 (zA (gz g))) (F0 m 0 ls [])) (v1 : Int32) (x : st) (H : Heap) (locs : List Loc) (ls : Array Slot)  (h : f_X11_leaveOn_b109 lp v1 x = some x') (hI : wst g x H) (hS : va_S (zA (gz g)) s.heap H locs) (hl : lv_has ls 3 [(0, .ref (ga g 30 0)), (1, .int v1)]) : W p l e (rmC 6 135) s m args below meth c H locs 0 0 (MQ below (Qx g none x') args s 0 0 (zA (gz g))) (F0 m 109 ls []) := by
  obtain ⟨hx, hb, hml, hown, hts, hlk, hrt⟩ := id C
  unfold f_X11_leaveOn_b109 at h
  refine lv_aload_n hx hb dX11_leaveOn_109 rfl (lv_at hl 0 rfl) ?_
  refine w_get C G hI 30 0 (hI.at1 rfl) (fcE_30 g _ _) rfl in_X11 27 (by decide) kf_X11_90 (fun _ h => h) (v := .ref (ga g 67 0)) rfl dX11_leaveOn_110 ?_
  refine lv_iload_n hx hb dX11_leaveOn_113 rfl (lv_at hl 1 rfl) ?_
  refine lv_dup2_11 hx hb dX11_leaveOn_114 rfl rfl ?_
  obtain ⟨hn26, h⟩ := need_t h
  refine w_iald C G hI 67 0 (hI.at1 rfl) (fcA_67 g _ _) (inb_in hn26) dX11_leaveOn_115 ?_
  refine lv_iconst (v := 1) hx hb dX11_leaveOn_116 (by decide) ?_
  refine lv_isub hx hb dX11_leaveOn_117 ?_
  obtain ⟨hn27, h⟩ := need_t h
  refine w_iast C G hI hS 67 0 (hI.at1 rfl) rfl (fcA_67 g _) (y := ((x 67 0 v1.toNatClampNeg) - 1)) (inb_in hn27) dX11_leaveOn_118 (fun H locs hI hS => ?_)
  obtain ⟨x28, e_x28, h⟩ := lets_some h
  rw [← e_x28] at hI
  refine lv_goto (tgt := 0) hx hb dX11_leaveOn_119 (by decide) ?_
  exact hlp v1 x28 _ _ _  h hI hS (lv_sub hl [0, 1] rfl)
def f_X11_leaveOn_b0 : Nat → Int32 → st → Option (st)
  | 0, _, _ => none
  | n + 1, a1, x => if inb a1 13 = true then if (x 67 0 a1.toNatClampNeg) < 0 then (if inb a1 13 = true then lets (sx x 62 0 a1.toNatClampNeg 0) fun x3 => if inb a1 13 = true then if (x3 64 0 a1.toNatClampNeg) = 2 then (lets (sx x3 30 0 16 ((x3 30 0 16) - 1)) fun x13 => if inb a1 13 = true then bnv (f_X11_thrown a1 (x13 65 0 a1.toNatClampNeg) x13) fun x15 => some x15 else none) else (if inb a1 13 = true then if (x3 64 0 a1.toNatClampNeg) = 1 then (f_X11_leaveOn_b184 a1 x3) else (if inb a1 13 = true then if (x3 63 0 a1.toNatClampNeg) = 99 then (f_X11_leaveOn_b184 a1 x3) else (if inb a1 13 = true then if inb a1 13 = true then lets (sx x3 58 0 a1.toNatClampNeg (x3 63 0 a1.toNatClampNeg)) fun x9 => if inb a1 13 = true then if (x9 64 0 a1.toNatClampNeg) = 3 then (if inb a1 13 = true then f_X11_leaveOn_b274 (x9 65 0 a1.toNatClampNeg) ((6 * a1) + 5) x9 else none) else (if inb ((6 * a1) + 5) 78 = true then f_X11_leaveOn_b274 (x9 59 0 ((6 * a1) + 5).toNatClampNeg) ((6 * a1) + 5) x9 else none) else none else none else none) else none) else none) else none else none) else (if inb a1 13 = true then if inb a1 13 = true then if inb ((6 * (x 57 0 a1.toNatClampNeg)) + (x 67 0 a1.toNatClampNeg)) 48 = true then if inb ((6 * (x 57 0 a1.toNatClampNeg)) + (x 67 0 a1.toNatClampNeg)) 48 = true then if inb a1 13 = true then bnd (f_X11_holds (x 52 0 ((6 * (x 57 0 a1.toNatClampNeg)) + (x 67 0 a1.toNatClampNeg)).toNatClampNeg) (x 53 0 ((6 * (x 57 0 a1.toNatClampNeg)) + (x 67 0 a1.toNatClampNeg)).toNatClampNeg) (x 58 0 a1.toNatClampNeg) x) fun r24 x23 => if r24 = 0 then (f_X11_leaveOn_b109 (f_X11_leaveOn_b0 n) a1 x23) else (if inb ((6 * (x 57 0 a1.toNatClampNeg)) + (x 67 0 a1.toNatClampNeg)) 48 = true then if inb ((6 * (x 57 0 a1.toNatClampNeg)) + (x 67 0 a1.toNatClampNeg)) 48 = true then if inb a1 13 = true then bnd (f_X11_holds (x23 52 0 ((6 * (x 57 0 a1.toNatClampNeg)) + (x 67 0 a1.toNatClampNeg)).toNatClampNeg) (x23 53 0 ((6 * (x 57 0 a1.toNatClampNeg)) + (x 67 0 a1.toNatClampNeg)).toNatClampNeg) (x23 63 0 a1.toNatClampNeg) x23) fun r30 x29 => if r30 = 0 then (bnd (f_X11_counts  x29) fun r33 x32 => if r33 = 0 then (some x32) else (bnd (f_X11_runsClean a1 x32) fun r36 x35 => if r36 = 0 then (if inb a1 13 = true then if inb a1 13 = true then lets (sx x35 67 0 a1.toNatClampNeg ((x35 67 0 a1.toNatClampNeg) - 1)) fun x40 => bnv (f_X11_throwOn a1 7 x40) fun x41 => some x41 else none else none) else (some x35))) else (f_X11_leaveOn_b109 (f_X11_leaveOn_b0 n) a1 x29) else none else none else none) else none else none else none else none else none) else none
set_option maxHeartbeats 4000000 in
set_option maxRecDepth 100000 in
theorem w_X11_leaveOn_b0 {p : Program} {l : Launch} {e : Env} {s : State} {m : MethodId} {args : Array Value} {below : List Frame} {meth : Method} {c : Code} {g : gT} {x' : st} (C : cxt p s m meth c args cX11_leaveOn 3 RX11 none) (G : gst g s) : ∀ (n : Nat) (a1 : Int32) (x : st) (H : Heap) (locs : List Loc) (ls : Array Slot), f_X11_leaveOn_b0 n a1 x = some x' → wst g x H → va_S (zA (gz g)) s.heap H locs → lv_has ls 3 [(0, .ref (ga g 30 0)), (1, .int a1)] → W p l e (rmC 6 135) s m args below meth c H locs 0 0 (MQ below (Qx g none x') args s 0 0 (zA (gz g))) (F0 m 0 ls []) := by
  obtain ⟨hx, hb, hml, hown, hts, hlk, hrt⟩ := id C
  intro n
  induction n with
  | zero =>
    intro a1 x H locs ls h hI hS hl
    simp [f_X11_leaveOn_b0] at h
  | succ n ih =>
    intro a1 x H locs ls h hI hS hl
    unfold f_X11_leaveOn_b0 at h
    refine lv_aload_n hx hb dX11_leaveOn_0 rfl (lv_at hl 0 rfl) ?_
    refine w_get C G hI 30 0 (hI.at1 rfl) (fcE_30 g _ _) rfl in_X11 27 (by decide) kf_X11_90 (fun _ h => h) (v := .ref (ga g 67 0)) rfl dX11_leaveOn_1 ?_
    refine lv_iload_n hx hb dX11_leaveOn_4 rfl (lv_at hl 1 rfl) ?_
    obtain ⟨hn1, h⟩ := need_t h
    refine w_iald C G hI 67 0 (hI.at1 rfl) (fcA_67 g _ _) (inb_in hn1) dX11_leaveOn_5 ?_
    refine lv_if_lt (tgt := 122) hx hb dX11_leaveOn_6 (by decide) (fun hc => ?_) (fun hc => ?_)
    · replace h := ite_y hc h
      refine lv_aload_n hx hb dX11_leaveOn_122 rfl (lv_at hl 0 rfl) ?_
      refine w_get C G hI 30 0 (hI.at1 rfl) (fcE_30 g _ _) rfl in_X11 22 (by decide) kf_X11_75 (fun _ h => h) (v := .ref (ga g 62 0)) rfl dX11_leaveOn_123 ?_
      refine lv_iload_n hx hb dX11_leaveOn_126 rfl (lv_at hl 1 rfl) ?_
      refine lv_iconst (v := 0) hx hb dX11_leaveOn_127 (by decide) ?_
      obtain ⟨hn2, h⟩ := need_t h
      refine w_zast C G hI hS 62 0 (hI.at1 rfl) rfl (fcA_62 g _) (y := 0) (inb_in hn2) (by decide) dX11_leaveOn_128 (fun H locs hI hS => ?_)
      obtain ⟨x3, e_x3, h⟩ := lets_some h
      rw [← e_x3] at hI
      refine lv_aload_n hx hb dX11_leaveOn_129 rfl (lv_at hl 0 rfl) ?_
      refine w_get C G hI 30 0 (hI.at1 rfl) (fcE_30 g _ _) rfl in_X11 24 (by decide) kf_X11_81 (fun _ h => h) (v := .ref (ga g 64 0)) rfl dX11_leaveOn_130 ?_
      refine lv_iload_n hx hb dX11_leaveOn_133 rfl (lv_at hl 1 rfl) ?_
      obtain ⟨hn4, h⟩ := need_t h
      refine w_iald C G hI 64 0 (hI.at1 rfl) (fcA_64 g _ _) (inb_in hn4) dX11_leaveOn_134 ?_
      refine lv_iconst (v := 2) hx hb dX11_leaveOn_135 (by decide) ?_
      refine lv_icmp_ne (tgt := 163) hx hb dX11_leaveOn_136 (by decide) (fun hc => ?_) (fun hc => ?_)
      · replace h := ite_n hc h
        refine lv_aload_n hx hb dX11_leaveOn_163 rfl (lv_at hl 0 rfl) ?_
        refine w_get C G hI 30 0 (hI.at1 rfl) (fcE_30 g _ _) rfl in_X11 24 (by decide) kf_X11_81 (fun _ h => h) (v := .ref (ga g 64 0)) rfl dX11_leaveOn_164 ?_
        refine lv_iload_n hx hb dX11_leaveOn_167 rfl (lv_at hl 1 rfl) ?_
        obtain ⟨hn5, h⟩ := need_t h
        refine w_iald C G hI 64 0 (hI.at1 rfl) (fcA_64 g _ _) (inb_in hn5) dX11_leaveOn_168 ?_
        refine lv_iconst (v := 1) hx hb dX11_leaveOn_169 (by decide) ?_
        refine lv_icmp_eq (tgt := 184) hx hb dX11_leaveOn_170 (by decide) (fun hc => ?_) (fun hc => ?_)
        · replace h := ite_y hc h
          exact w_X11_leaveOn_b184 C G a1 x3 _ _ _  h hI hS (lv_sub hl [0, 1] rfl)
        replace h := ite_n hc h
        refine lv_aload_n hx hb dX11_leaveOn_173 rfl (lv_at hl 0 rfl) ?_
        refine w_get C G hI 30 0 (hI.at1 rfl) (fcE_30 g _ _) rfl in_X11 23 (by decide) kf_X11_78 (fun _ h => h) (v := .ref (ga g 63 0)) rfl dX11_leaveOn_174 ?_
        refine lv_iload_n hx hb dX11_leaveOn_177 rfl (lv_at hl 1 rfl) ?_
        obtain ⟨hn6, h⟩ := need_t h
        refine w_iald C G hI 63 0 (hI.at1 rfl) (fcA_63 g _ _) (inb_in hn6) dX11_leaveOn_178 ?_
        refine lv_bipush (v := 99) hx hb dX11_leaveOn_179 (by decide) ?_
        refine lv_icmp_ne (tgt := 222) hx hb dX11_leaveOn_181 (by decide) (fun hc => ?_) (fun hc => ?_)
        · replace h := ite_n hc h
          refine lv_aload_n hx hb dX11_leaveOn_222 rfl (lv_at hl 0 rfl) ?_
          refine w_get C G hI 30 0 (hI.at1 rfl) (fcE_30 g _ _) rfl in_X11 18 (by decide) kf_X11_62 (fun _ h => h) (v := .ref (ga g 58 0)) rfl dX11_leaveOn_223 ?_
          refine lv_iload_n hx hb dX11_leaveOn_226 rfl (lv_at hl 1 rfl) ?_
          refine lv_aload_n hx hb dX11_leaveOn_227 rfl (lv_at hl 0 rfl) ?_
          refine w_get C G hI 30 0 (hI.at1 rfl) (fcE_30 g _ _) rfl in_X11 23 (by decide) kf_X11_78 (fun _ h => h) (v := .ref (ga g 63 0)) rfl dX11_leaveOn_228 ?_
          refine lv_iload_n hx hb dX11_leaveOn_231 rfl (lv_at hl 1 rfl) ?_
          obtain ⟨hn7, h⟩ := need_t h
          refine w_iald C G hI 63 0 (hI.at1 rfl) (fcA_63 g _ _) (inb_in hn7) dX11_leaveOn_232 ?_
          obtain ⟨hn8, h⟩ := need_t h
          refine w_iast C G hI hS 58 0 (hI.at1 rfl) rfl (fcA_58 g _) (y := (x3 63 0 a1.toNatClampNeg)) (inb_in hn8) dX11_leaveOn_233 (fun H locs hI hS => ?_)
          obtain ⟨x9, e_x9, h⟩ := lets_some h
          rw [← e_x9] at hI
          refine lv_aload_n hx hb dX11_leaveOn_234 rfl (lv_at hl 0 rfl) ?_
          refine w_get C G hI 30 0 (hI.at1 rfl) (fcE_30 g _ _) rfl in_X11 19 (by decide) kf_X11_65 (fun _ h => h) (v := .ref (ga g 59 0)) rfl dX11_leaveOn_235 ?_
          refine lv_bipush (v := 6) hx hb dX11_leaveOn_238 (by decide) ?_
          refine lv_iload_n hx hb dX11_leaveOn_240 rfl (lv_at hl 1 rfl) ?_
          refine lv_imul hx hb dX11_leaveOn_241 ?_
          refine lv_iconst (v := 5) hx hb dX11_leaveOn_242 (by decide) ?_
          refine lv_iadd hx hb dX11_leaveOn_243 ?_
          refine lv_aload_n hx hb dX11_leaveOn_244 rfl (lv_at hl 0 rfl) ?_
          refine w_get C G hI 30 0 (hI.at1 rfl) (fcE_30 g _ _) rfl in_X11 24 (by decide) kf_X11_81 (fun _ h => h) (v := .ref (ga g 64 0)) rfl dX11_leaveOn_245 ?_
          refine lv_iload_n hx hb dX11_leaveOn_248 rfl (lv_at hl 1 rfl) ?_
          obtain ⟨hn10, h⟩ := need_t h
          refine w_iald C G hI 64 0 (hI.at1 rfl) (fcA_64 g _ _) (inb_in hn10) dX11_leaveOn_249 ?_
          refine lv_iconst (v := 3) hx hb dX11_leaveOn_250 (by decide) ?_
          refine lv_icmp_ne (tgt := 263) hx hb dX11_leaveOn_251 (by decide) (fun hc => ?_) (fun hc => ?_)
          · replace h := ite_n hc h
            refine lv_aload_n hx hb dX11_leaveOn_263 rfl (lv_at hl 0 rfl) ?_
            refine w_get C G hI 30 0 (hI.at1 rfl) (fcE_30 g _ _) rfl in_X11 19 (by decide) kf_X11_65 (fun _ h => h) (v := .ref (ga g 59 0)) rfl dX11_leaveOn_264 ?_
            refine lv_bipush (v := 6) hx hb dX11_leaveOn_267 (by decide) ?_
            refine lv_iload_n hx hb dX11_leaveOn_269 rfl (lv_at hl 1 rfl) ?_
            refine lv_imul hx hb dX11_leaveOn_270 ?_
            refine lv_iconst (v := 5) hx hb dX11_leaveOn_271 (by decide) ?_
            refine lv_iadd hx hb dX11_leaveOn_272 ?_
            obtain ⟨hn11, h⟩ := need_t h
            refine w_iald C G hI 59 0 (hI.at1 rfl) (fcA_59 g _ _) (inb_in hn11) dX11_leaveOn_273 ?_
            exact w_X11_leaveOn_b274 C G (x9 59 0 ((6 * a1) + 5).toNatClampNeg) ((6 * a1) + 5) x9 _ _ _  h hI hS (lv_sub hl [] rfl)
          replace h := ite_y hc h
          refine lv_aload_n hx hb dX11_leaveOn_254 rfl (lv_at hl 0 rfl) ?_
          refine w_get C G hI 30 0 (hI.at1 rfl) (fcE_30 g _ _) rfl in_X11 25 (by decide) kf_X11_84 (fun _ h => h) (v := .ref (ga g 65 0)) rfl dX11_leaveOn_255 ?_
          refine lv_iload_n hx hb dX11_leaveOn_258 rfl (lv_at hl 1 rfl) ?_
          obtain ⟨hn12, h⟩ := need_t h
          refine w_iald C G hI 65 0 (hI.at1 rfl) (fcA_65 g _ _) (inb_in hn12) dX11_leaveOn_259 ?_
          refine lv_goto (tgt := 274) hx hb dX11_leaveOn_260 (by decide) ?_
          exact w_X11_leaveOn_b274 C G (x9 65 0 a1.toNatClampNeg) ((6 * a1) + 5) x9 _ _ _  h hI hS (lv_sub hl [] rfl)
        replace h := ite_y hc h
        exact w_X11_leaveOn_b184 C G a1 x3 _ _ _  h hI hS (lv_sub hl [0, 1] rfl)
      replace h := ite_y hc h
      refine lv_aload_n hx hb dX11_leaveOn_139 rfl (lv_at hl 0 rfl) ?_
      refine lv_dup hx hb dX11_leaveOn_140 rfl ?_
      refine w_get C G hI 30 0 (hI.at1 rfl) (fcE_30 g _ _) rfl in_X11 16 (by decide) kf_X11_119 (fun _ h => h) (v := .int (x3 30 0 16)) rfl dX11_leaveOn_141 ?_
      refine lv_iconst (v := 1) hx hb dX11_leaveOn_144 (by decide) ?_
      refine lv_isub hx hb dX11_leaveOn_145 ?_
      refine w_put C G hI hS 30 0 (hI.at1 rfl) rfl (fcE_30 g _ _) rfl in_X11 tyX11 tyX11_ok nmX11 16 (by decide) kf_X11_119 (fun _ h => h) rfl (ty := .int) (y := ((x3 30 0 16) - 1)) (by decide +kernel) rfl rfl (Nat.le_of_ble_eq_true rfl) (m44_set_16 g _ _) dX11_leaveOn_146 (fun H locs hI hS => ?_)
      obtain ⟨x13, e_x13, h⟩ := lets_some h
      rw [← e_x13] at hI
      refine lv_aload_n hx hb dX11_leaveOn_149 rfl (lv_at hl 0 rfl) ?_
      refine lv_iload_n hx hb dX11_leaveOn_150 rfl (lv_at hl 1 rfl) ?_
      refine lv_aload_n hx hb dX11_leaveOn_151 rfl (lv_at hl 0 rfl) ?_
      refine w_get C G hI 30 0 (hI.at1 rfl) (fcE_30 g _ _) rfl in_X11 25 (by decide) kf_X11_84 (fun _ h => h) (v := .ref (ga g 65 0)) rfl dX11_leaveOn_152 ?_
      refine lv_iload_n hx hb dX11_leaveOn_155 rfl (lv_at hl 1 rfl) ?_
      obtain ⟨hn14, h⟩ := need_t h
      refine w_iald C G hI 65 0 (hI.at1 rfl) (fcA_65 g _ _) (inb_in hn14) dX11_leaveOn_156 ?_
      obtain ⟨x15, hq17, h⟩ := bnv_some h
      refine w_callV (fr := 5) (lo := 113) C G hI hS 30 0 (hI.at1 rfl) (fcE_30 g _ _) rfl mv_X11_thrown km_X11_188 [.int a1, .int (x13 65 0 a1.toNatClampNeg)] (k_X11_thrown l g a1 (x13 65 0 a1.toNatClampNeg) x13 _  hq17) rfl (by first | exact ⟨by decide, by decide⟩ | exact ⟨by show _ ≤ _ + _; omega, by show _ ≤ _ + _; omega⟩) ⟨Nat.zero_le _, Nat.zero_le _⟩ hl.1 rfl (Nat.le_of_ble_eq_true rfl) dX11_leaveOn_157 (fun H locs hI hS => ?_)
      refine lv_goto (tgt := 275) hx hb dX11_leaveOn_160 (by decide) ?_
      cases h
      exact w_vret C hI hS dX11_leaveOn_275
    replace h := ite_n hc h
    refine lv_bipush (v := 6) hx hb dX11_leaveOn_9 (by decide) ?_
    refine lv_aload_n hx hb dX11_leaveOn_11 rfl (lv_at hl 0 rfl) ?_
    refine w_get C G hI 30 0 (hI.at1 rfl) (fcE_30 g _ _) rfl in_X11 17 (by decide) kf_X11_59 (fun _ h => h) (v := .ref (ga g 57 0)) rfl dX11_leaveOn_12 ?_
    refine lv_iload_n hx hb dX11_leaveOn_15 rfl (lv_at hl 1 rfl) ?_
    obtain ⟨hn18, h⟩ := need_t h
    refine w_iald C G hI 57 0 (hI.at1 rfl) (fcA_57 g _ _) (inb_in hn18) dX11_leaveOn_16 ?_
    refine lv_imul hx hb dX11_leaveOn_17 ?_
    refine lv_aload_n hx hb dX11_leaveOn_18 rfl (lv_at hl 0 rfl) ?_
    refine w_get C G hI 30 0 (hI.at1 rfl) (fcE_30 g _ _) rfl in_X11 27 (by decide) kf_X11_90 (fun _ h => h) (v := .ref (ga g 67 0)) rfl dX11_leaveOn_19 ?_
    refine lv_iload_n hx hb dX11_leaveOn_22 rfl (lv_at hl 1 rfl) ?_
    obtain ⟨hn19, h⟩ := need_t h
    refine w_iald C G hI 67 0 (hI.at1 rfl) (fcA_67 g _ _) (inb_in hn19) dX11_leaveOn_23 ?_
    refine lv_iadd hx hb dX11_leaveOn_24 ?_
    refine lv_istore_n (lv' := [(2, .int ((6 * (x 57 0 a1.toNatClampNeg)) + (x 67 0 a1.toNatClampNeg))), (0, .ref (ga g 30 0)), (1, .int a1)]) hx hb dX11_leaveOn_25 rfl hl (by decide) rfl (fun ls hl => ?_)
    refine lv_aload_n hx hb dX11_leaveOn_26 rfl (lv_at hl 1 rfl) ?_
    refine w_get C G hI 30 0 (hI.at1 rfl) (fcE_30 g _ _) rfl in_X11 12 (by decide) kf_X11_46 (fun _ h => h) (v := .ref (ga g 52 0)) rfl dX11_leaveOn_27 ?_
    refine lv_iload_n hx hb dX11_leaveOn_30 rfl (lv_at hl 0 rfl) ?_
    obtain ⟨hn20, h⟩ := need_t h
    refine w_iald C G hI 52 0 (hI.at1 rfl) (fcA_52 g _ _) (inb_in hn20) dX11_leaveOn_31 ?_
    refine lv_aload_n hx hb dX11_leaveOn_32 rfl (lv_at hl 1 rfl) ?_
    refine w_get C G hI 30 0 (hI.at1 rfl) (fcE_30 g _ _) rfl in_X11 13 (by decide) kf_X11_49 (fun _ h => h) (v := .ref (ga g 53 0)) rfl dX11_leaveOn_33 ?_
    refine lv_iload_n hx hb dX11_leaveOn_36 rfl (lv_at hl 0 rfl) ?_
    obtain ⟨hn21, h⟩ := need_t h
    refine w_iald C G hI 53 0 (hI.at1 rfl) (fcA_53 g _ _) (inb_in hn21) dX11_leaveOn_37 ?_
    refine lv_aload_n hx hb dX11_leaveOn_38 rfl (lv_at hl 1 rfl) ?_
    refine w_get C G hI 30 0 (hI.at1 rfl) (fcE_30 g _ _) rfl in_X11 18 (by decide) kf_X11_62 (fun _ h => h) (v := .ref (ga g 58 0)) rfl dX11_leaveOn_39 ?_
    refine lv_iload_n hx hb dX11_leaveOn_42 rfl (lv_at hl 2 rfl) ?_
    obtain ⟨hn22, h⟩ := need_t h
    refine w_iald C G hI 58 0 (hI.at1 rfl) (fcA_58 g _ _) (inb_in hn22) dX11_leaveOn_43 ?_
    obtain ⟨r24, x23, hq25, h⟩ := bnd_some h
    refine w_callS (fr := 0) (lo := 0) C G hI hS ms_X11_holds km_X11_175 [.int (x 52 0 ((6 * (x 57 0 a1.toNatClampNeg)) + (x 67 0 a1.toNatClampNeg)).toNatClampNeg), .int (x 53 0 ((6 * (x 57 0 a1.toNatClampNeg)) + (x 67 0 a1.toNatClampNeg)).toNatClampNeg), .int (x 58 0 a1.toNatClampNeg)] (k_X11_holds l g (x 52 0 ((6 * (x 57 0 a1.toNatClampNeg)) + (x 67 0 a1.toNatClampNeg)).toNatClampNeg) (x 53 0 ((6 * (x 57 0 a1.toNatClampNeg)) + (x 67 0 a1.toNatClampNeg)).toNatClampNeg) (x 58 0 a1.toNatClampNeg) x _ _  hq25) rfl (by first | exact ⟨by decide, by decide⟩ | exact ⟨by show _ ≤ _ + _; omega, by show _ ≤ _ + _; omega⟩) ⟨Nat.zero_le _, Nat.zero_le _⟩ hl.1 rfl (Nat.le_of_ble_eq_true rfl) dX11_leaveOn_44 (fun H locs hI hS => ?_)
    refine lv_if_eq (tgt := 109) hx hb dX11_leaveOn_47 (by decide) (fun hc => ?_) (fun hc => ?_)
    · replace h := ite_y hc h
      exact w_X11_leaveOn_b109 C G (f_X11_leaveOn_b0 n) ih a1 x23 _ _ _  h hI hS (lv_sub hl [1, 2] rfl)
    replace h := ite_n hc h
    refine lv_aload_n hx hb dX11_leaveOn_50 rfl (lv_at hl 1 rfl) ?_
    refine w_get C G hI 30 0 (hI.at1 rfl) (fcE_30 g _ _) rfl in_X11 12 (by decide) kf_X11_46 (fun _ h => h) (v := .ref (ga g 52 0)) rfl dX11_leaveOn_51 ?_
    refine lv_iload_n hx hb dX11_leaveOn_54 rfl (lv_at hl 0 rfl) ?_
    obtain ⟨hn26, h⟩ := need_t h
    refine w_iald C G hI 52 0 (hI.at1 rfl) (fcA_52 g _ _) (inb_in hn26) dX11_leaveOn_55 ?_
    refine lv_aload_n hx hb dX11_leaveOn_56 rfl (lv_at hl 1 rfl) ?_
    refine w_get C G hI 30 0 (hI.at1 rfl) (fcE_30 g _ _) rfl in_X11 13 (by decide) kf_X11_49 (fun _ h => h) (v := .ref (ga g 53 0)) rfl dX11_leaveOn_57 ?_
    refine lv_iload_n hx hb dX11_leaveOn_60 rfl (lv_at hl 0 rfl) ?_
    obtain ⟨hn27, h⟩ := need_t h
    refine w_iald C G hI 53 0 (hI.at1 rfl) (fcA_53 g _ _) (inb_in hn27) dX11_leaveOn_61 ?_
    refine lv_aload_n hx hb dX11_leaveOn_62 rfl (lv_at hl 1 rfl) ?_
    refine w_get C G hI 30 0 (hI.at1 rfl) (fcE_30 g _ _) rfl in_X11 23 (by decide) kf_X11_78 (fun _ h => h) (v := .ref (ga g 63 0)) rfl dX11_leaveOn_63 ?_
    refine lv_iload_n hx hb dX11_leaveOn_66 rfl (lv_at hl 2 rfl) ?_
    obtain ⟨hn28, h⟩ := need_t h
    refine w_iald C G hI 63 0 (hI.at1 rfl) (fcA_63 g _ _) (inb_in hn28) dX11_leaveOn_67 ?_
    obtain ⟨r30, x29, hq31, h⟩ := bnd_some h
    refine w_callS (fr := 0) (lo := 0) C G hI hS ms_X11_holds km_X11_175 [.int (x23 52 0 ((6 * (x 57 0 a1.toNatClampNeg)) + (x 67 0 a1.toNatClampNeg)).toNatClampNeg), .int (x23 53 0 ((6 * (x 57 0 a1.toNatClampNeg)) + (x 67 0 a1.toNatClampNeg)).toNatClampNeg), .int (x23 63 0 a1.toNatClampNeg)] (k_X11_holds l g (x23 52 0 ((6 * (x 57 0 a1.toNatClampNeg)) + (x 67 0 a1.toNatClampNeg)).toNatClampNeg) (x23 53 0 ((6 * (x 57 0 a1.toNatClampNeg)) + (x 67 0 a1.toNatClampNeg)).toNatClampNeg) (x23 63 0 a1.toNatClampNeg) x23 _ _  hq31) rfl (by first | exact ⟨by decide, by decide⟩ | exact ⟨by show _ ≤ _ + _; omega, by show _ ≤ _ + _; omega⟩) ⟨Nat.zero_le _, Nat.zero_le _⟩ hl.1 rfl (Nat.le_of_ble_eq_true rfl) dX11_leaveOn_68 (fun H locs hI hS => ?_)
    refine lv_if_ne (tgt := 109) hx hb dX11_leaveOn_71 (by decide) (fun hc => ?_) (fun hc => ?_)
    · replace h := ite_n hc h
      exact w_X11_leaveOn_b109 C G (f_X11_leaveOn_b0 n) ih a1 x29 _ _ _  h hI hS (lv_sub hl [1, 2] rfl)
    replace h := ite_y hc h
    refine lv_aload_n hx hb dX11_leaveOn_74 rfl (lv_at hl 1 rfl) ?_
    obtain ⟨r33, x32, hq34, h⟩ := bnd_some h
    refine w_callV (fr := 2) (lo := 43) C G hI hS 30 0 (hI.at1 rfl) (fcE_30 g _ _) rfl mv_X11_counts km_X11_178 [] (k_X11_counts l g  x29 _ _  hq34) rfl (by first | exact ⟨by decide, by decide⟩ | exact ⟨by show _ ≤ _ + _; omega, by show _ ≤ _ + _; omega⟩) ⟨Nat.zero_le _, Nat.zero_le _⟩ hl.1 rfl (Nat.le_of_ble_eq_true rfl) dX11_leaveOn_75 (fun H locs hI hS => ?_)
    refine lv_if_ne (tgt := 82) hx hb dX11_leaveOn_78 (by decide) (fun hc => ?_) (fun hc => ?_)
    · replace h := ite_n hc h
      refine lv_aload_n hx hb dX11_leaveOn_82 rfl (lv_at hl 1 rfl) ?_
      refine lv_iload_n hx hb dX11_leaveOn_83 rfl (lv_at hl 2 rfl) ?_
      obtain ⟨r36, x35, hq37, h⟩ := bnd_some h
      refine w_callV (fr := 1) (lo := 26) C G hI hS 30 0 (hI.at1 rfl) (fcE_30 g _ _) rfl mv_X11_runsClean km_X11_182 [.int a1] (k_X11_runsClean l g a1 x32 _ _  hq37) rfl (by first | exact ⟨by decide, by decide⟩ | exact ⟨by show _ ≤ _ + _; omega, by show _ ≤ _ + _; omega⟩) ⟨Nat.zero_le _, Nat.zero_le _⟩ hl.1 rfl (Nat.le_of_ble_eq_true rfl) dX11_leaveOn_84 (fun H locs hI hS => ?_)
      refine lv_if_eq (tgt := 91) hx hb dX11_leaveOn_87 (by decide) (fun hc => ?_) (fun hc => ?_)
      · replace h := ite_y hc h
        refine lv_aload_n hx hb dX11_leaveOn_91 rfl (lv_at hl 1 rfl) ?_
        refine w_get C G hI 30 0 (hI.at1 rfl) (fcE_30 g _ _) rfl in_X11 27 (by decide) kf_X11_90 (fun _ h => h) (v := .ref (ga g 67 0)) rfl dX11_leaveOn_92 ?_
        refine lv_iload_n hx hb dX11_leaveOn_95 rfl (lv_at hl 2 rfl) ?_
        refine lv_dup2_11 hx hb dX11_leaveOn_96 rfl rfl ?_
        obtain ⟨hn38, h⟩ := need_t h
        refine w_iald C G hI 67 0 (hI.at1 rfl) (fcA_67 g _ _) (inb_in hn38) dX11_leaveOn_97 ?_
        refine lv_iconst (v := 1) hx hb dX11_leaveOn_98 (by decide) ?_
        refine lv_isub hx hb dX11_leaveOn_99 ?_
        obtain ⟨hn39, h⟩ := need_t h
        refine w_iast C G hI hS 67 0 (hI.at1 rfl) rfl (fcA_67 g _) (y := ((x35 67 0 a1.toNatClampNeg) - 1)) (inb_in hn39) dX11_leaveOn_100 (fun H locs hI hS => ?_)
        obtain ⟨x40, e_x40, h⟩ := lets_some h
        rw [← e_x40] at hI
        refine lv_aload_n hx hb dX11_leaveOn_101 rfl (lv_at hl 1 rfl) ?_
        refine lv_iload_n hx hb dX11_leaveOn_102 rfl (lv_at hl 2 rfl) ?_
        refine lv_bipush (v := 7) hx hb dX11_leaveOn_103 (by decide) ?_
        obtain ⟨x41, hq43, h⟩ := bnv_some h
        refine w_callV (fr := 4) (lo := 88) C G hI hS 30 0 (hI.at1 rfl) (fcE_30 g _ _) rfl mv_X11_throwOn km_X11_185 [.int a1, .int 7] (k_X11_throwOn l g a1 7 x40 _  hq43) rfl (by first | exact ⟨by decide, by decide⟩ | exact ⟨by show _ ≤ _ + _; omega, by show _ ≤ _ + _; omega⟩) ⟨Nat.zero_le _, Nat.zero_le _⟩ hl.1 rfl (Nat.le_of_ble_eq_true rfl) dX11_leaveOn_105 (fun H locs hI hS => ?_)
        cases h
        exact w_vret C hI hS dX11_leaveOn_108
      replace h := ite_n hc h
      cases h
      exact w_vret C hI hS dX11_leaveOn_90
    replace h := ite_y hc h
    cases h
    exact w_vret C hI hS dX11_leaveOn_81
def f_X11_leaveOn (a1 : Int32) (x : st) : Option (st) := f_X11_leaveOn_b0 100 a1 x
theorem k_X11_leaveOn (l : Launch) (g : gT) (a1 : Int32) (x : st) (x' : st)  (h : f_X11_leaveOn a1 x = some x') : Kt l yX11_leaveOn cX11_leaveOn 3 none 6 135 g [.ref (ga g 30 0), .int a1] x none x' := by
  refine Kt.of (by decide) (fun p e s m below meth c C G hI => ?_)
  have hl := lv_entry ([.ref (ga g 30 0), .int a1]) (n := 3) (Nat.le_of_ble_eq_true rfl)
  rw [lg_entry_eq]
  generalize (lg_sl ([.ref (ga g 30 0), .int a1]) ++ List.replicate (3 - (lg_sl ([.ref (ga g 30 0), .int a1])).length) Slot.unset).toArray = ls at hl ⊢
  have hl : lv_has ls 3 [(0, .ref (ga g 30 0)), (1, .int a1)] := hl
  exact w_X11_leaveOn_b0 C G 100 a1 x _ _ ls  h hI va_S.rf hl
theorem mv_X11_leaveOn : mtV yX11_leaveOn RX11 cX11_leaveOn 3 none 1 := ⟨ki_X11_leaveOn, kl_X11_leaveOn, kI_X11, kc_X11_leaveOn, by decide +kernel⟩

/-! X11_cleanOn -/
def f_X11_cleanOn_b133 (s0 : Int32) (x : st) : Option (st) := if isz s0 = true then lets (sx x 30 0 36 s0) fun x5 => some x5 else none
set_option maxHeartbeats 4000000 in
set_option maxRecDepth 100000 in
theorem w_X11_cleanOn_b133 {p : Program} {l : Launch} {e : Env} {s : State} {m : MethodId} {args : Array Value} {below : List Frame} {meth : Method} {c : Code} {g : gT} {x' : st} (C : cxt p s m meth c args cX11_cleanOn 4 RX11 none) (G : gst g s) (s0 : Int32) (x : st) (H : Heap) (locs : List Loc) (ls : Array Slot)  (h : f_X11_cleanOn_b133 s0 x = some x') (hI : wst g x H) (hS : va_S (zA (gz g)) s.heap H locs) (hl : lv_has ls 4 []) : W p l e (rmC 3 63) s m args below meth c H locs 0 0 (MQ below (Qx g none x') args s 0 0 (zA (gz g))) (F0 m 133 ls [.int s0, .ref (ga g 30 0)]) := by
  obtain ⟨hx, hb, hml, hown, hts, hlk, hrt⟩ := id C
  unfold f_X11_cleanOn_b133 at h
  obtain ⟨hn6, h⟩ := need_t h
  refine w_put C G hI hS 30 0 (hI.at1 rfl) rfl (fcE_30 g _ _) rfl in_X11 tyX11 tyX11_ok nmX11 36 (by decide) kf_X11_159 (fun _ h => h) rfl (ty := .boolean) (y := s0) (by decide +kernel) (by rcases isz_or hn6 with q | q <;> rw [q] <;> rfl) (by rcases isz_or hn6 with q | q <;> rw [q] <;> rfl) (Nat.le_of_ble_eq_true rfl) (m44_set_36 g _ _) dX11_cleanOn_133 (fun H locs hI hS => ?_)
  obtain ⟨x5, e_x5, h⟩ := lets_some h
  rw [← e_x5] at hI
  cases h
  exact w_vret C hI hS dX11_cleanOn_136
def f_X11_cleanOn_b92 (lp : Int32 → Int32 → st → Option (st)) (v1 : Int32) (v2 : Int32) (x : st) : Option (st) := if inb v1 13 = true then if inb v1 13 = true then lets (sx x 67 0 v1.toNatClampNeg ((x 67 0 v1.toNatClampNeg) - 1)) fun x14 => lp v1 v2 x14 else none else none
set_option maxHeartbeats 4000000 in
set_option maxRecDepth 100000 in
theorem w_X11_cleanOn_b92 {p : Program} {l : Launch} {e : Env} {s : State} {m : MethodId} {args : Array Value} {below : List Frame} {meth : Method} {c : Code} {g : gT} {x' : st} (C : cxt p s m meth c args cX11_cleanOn 4 RX11 none) (G : gst g s) (lp : Int32 → Int32 → st → Option (st)) (hlp : ∀ (v1 : Int32) (v2 : Int32) (x : st) (H : Heap) (locs : List Loc) (ls : Array Slot), lp v1 v2 x = some x' → wst g x H → va_S (zA (gz g)) s.heap H locs → lv_has ls 4 [(0, .ref (ga g 30 0)), (1, .int v1), (2, .int v2)] → W p l e (rmC 3 63) s m args below meth c H locs 0 0 (MQ below (Qx g none x') args s 0 0 (zA (gz g))) (F0 m 12 ls [])) (v1 : Int32) (v2 : Int32) (x : st) (H : Heap) (locs : List Loc) (ls : Array Slot)  (h : f_X11_cleanOn_b92 lp v1 v2 x = some x') (hI : wst g x H) (hS : va_S (zA (gz g)) s.heap H locs) (hl : lv_has ls 4 [(0, .ref (ga g 30 0)), (1, .int v1), (2, .int v2)]) : W p l e (rmC 3 63) s m args below meth c H locs 0 0 (MQ below (Qx g none x') args s 0 0 (zA (gz g))) (F0 m 92 ls []) := by
  obtain ⟨hx, hb, hml, hown, hts, hlk, hrt⟩ := id C
  unfold f_X11_cleanOn_b92 at h
  refine lv_aload_n hx hb dX11_cleanOn_92 rfl (lv_at hl 0 rfl) ?_
  refine w_get C G hI 30 0 (hI.at1 rfl) (fcE_30 g _ _) rfl in_X11 27 (by decide) kf_X11_90 (fun _ h => h) (v := .ref (ga g 67 0)) rfl dX11_cleanOn_93 ?_
  refine lv_iload_n hx hb dX11_cleanOn_96 rfl (lv_at hl 1 rfl) ?_
  refine lv_dup2_11 hx hb dX11_cleanOn_97 rfl rfl ?_
  obtain ⟨hn12, h⟩ := need_t h
  refine w_iald C G hI 67 0 (hI.at1 rfl) (fcA_67 g _ _) (inb_in hn12) dX11_cleanOn_98 ?_
  refine lv_iconst (v := 1) hx hb dX11_cleanOn_99 (by decide) ?_
  refine lv_isub hx hb dX11_cleanOn_100 ?_
  obtain ⟨hn13, h⟩ := need_t h
  refine w_iast C G hI hS 67 0 (hI.at1 rfl) rfl (fcA_67 g _) (y := ((x 67 0 v1.toNatClampNeg) - 1)) (inb_in hn13) dX11_cleanOn_101 (fun H locs hI hS => ?_)
  obtain ⟨x14, e_x14, h⟩ := lets_some h
  rw [← e_x14] at hI
  refine lv_goto (tgt := 12) hx hb dX11_cleanOn_102 (by decide) ?_
  exact hlp v1 v2 x14 _ _ _  h hI hS (lv_sub hl [0, 1, 2] rfl)
def f_X11_cleanOn_b12 : Nat → Int32 → Int32 → st → Option (st)
  | 0, _, _, _ => none
  | n + 1, v1, v2, x => if inb v1 13 = true then if (x 67 0 v1.toNatClampNeg) < 0 then (lets (sx x 30 0 16 v1) fun x3 => lets (sx x3 30 0 38 ((x3 30 0 38) - 1)) fun x4 => if (x4 30 0 16) = 0 then (f_X11_cleanOn_b133 1 x4) else (f_X11_cleanOn_b133 0 x4)) else (if inb v1 13 = true then if inb ((6 * v2) + (x 67 0 v1.toNatClampNeg)) 48 = true then if inb ((6 * v2) + (x 67 0 v1.toNatClampNeg)) 48 = true then if inb v1 13 = true then bnd (f_X11_holds (x 52 0 ((6 * v2) + (x 67 0 v1.toNatClampNeg)).toNatClampNeg) (x 53 0 ((6 * v2) + (x 67 0 v1.toNatClampNeg)).toNatClampNeg) (x 58 0 v1.toNatClampNeg) x) fun r10 x9 => if r10 = 0 then (f_X11_cleanOn_b92 (f_X11_cleanOn_b12 n) v1 v2 x9) else (if inb v1 13 = true then if inb v1 13 = true then if (((x9 66 0 v1.toNatClampNeg) >>> ((x9 67 0 v1.toNatClampNeg) &&& 31)) &&& 1) = 0 then (bnd (f_X11_counts  x9) fun r15 x14 => if r15 = 0 then (some x14) else (bnd (f_X11_runsClean v1 x14) fun r18 x17 => if r18 = 0 then (f_X11_cleanOn_b92 (f_X11_cleanOn_b12 n) v1 v2 x17) else (some x17))) else (f_X11_cleanOn_b92 (f_X11_cleanOn_b12 n) v1 v2 x9) else none else none) else none else none else none else none) else none
set_option maxHeartbeats 4000000 in
set_option maxRecDepth 100000 in
theorem w_X11_cleanOn_b12 {p : Program} {l : Launch} {e : Env} {s : State} {m : MethodId} {args : Array Value} {below : List Frame} {meth : Method} {c : Code} {g : gT} {x' : st} (C : cxt p s m meth c args cX11_cleanOn 4 RX11 none) (G : gst g s) : ∀ (n : Nat) (v1 : Int32) (v2 : Int32) (x : st) (H : Heap) (locs : List Loc) (ls : Array Slot), f_X11_cleanOn_b12 n v1 v2 x = some x' → wst g x H → va_S (zA (gz g)) s.heap H locs → lv_has ls 4 [(0, .ref (ga g 30 0)), (1, .int v1), (2, .int v2)] → W p l e (rmC 3 63) s m args below meth c H locs 0 0 (MQ below (Qx g none x') args s 0 0 (zA (gz g))) (F0 m 12 ls []) := by
  obtain ⟨hx, hb, hml, hown, hts, hlk, hrt⟩ := id C
  intro n
  induction n with
  | zero =>
    intro v1 v2 x H locs ls h hI hS hl
    simp [f_X11_cleanOn_b12] at h
  | succ n ih =>
    intro v1 v2 x H locs ls h hI hS hl
    unfold f_X11_cleanOn_b12 at h
    refine lv_aload_n hx hb dX11_cleanOn_12 rfl (lv_at hl 0 rfl) ?_
    refine w_get C G hI 30 0 (hI.at1 rfl) (fcE_30 g _ _) rfl in_X11 27 (by decide) kf_X11_90 (fun _ h => h) (v := .ref (ga g 67 0)) rfl dX11_cleanOn_13 ?_
    refine lv_iload_n hx hb dX11_cleanOn_16 rfl (lv_at hl 1 rfl) ?_
    obtain ⟨hn2, h⟩ := need_t h
    refine w_iald C G hI 67 0 (hI.at1 rfl) (fcA_67 g _ _) (inb_in hn2) dX11_cleanOn_17 ?_
    refine lv_if_lt (tgt := 105) hx hb dX11_cleanOn_18 (by decide) (fun hc => ?_) (fun hc => ?_)
    · replace h := ite_y hc h
      refine lv_aload_n hx hb dX11_cleanOn_105 rfl (lv_at hl 0 rfl) ?_
      refine lv_iload_n hx hb dX11_cleanOn_106 rfl (lv_at hl 1 rfl) ?_
      refine w_put C G hI hS 30 0 (hI.at1 rfl) rfl (fcE_30 g _ _) rfl in_X11 tyX11 tyX11_ok nmX11 16 (by decide) kf_X11_119 (fun _ h => h) rfl (ty := .int) (y := v1) (by decide +kernel) rfl rfl (Nat.le_of_ble_eq_true rfl) (m44_set_16 g _ _) dX11_cleanOn_107 (fun H locs hI hS => ?_)
      obtain ⟨x3, e_x3, h⟩ := lets_some h
      rw [← e_x3] at hI
      refine lv_aload_n hx hb dX11_cleanOn_110 rfl (lv_at hl 0 rfl) ?_
      refine lv_dup hx hb dX11_cleanOn_111 rfl ?_
      refine w_get C G hI 30 0 (hI.at1 rfl) (fcE_30 g _ _) rfl in_X11 38 (by decide) kf_X11_162 (fun _ h => h) (v := .int (x3 30 0 38)) rfl dX11_cleanOn_112 ?_
      refine lv_iconst (v := 1) hx hb dX11_cleanOn_115 (by decide) ?_
      refine lv_isub hx hb dX11_cleanOn_116 ?_
      refine w_put C G hI hS 30 0 (hI.at1 rfl) rfl (fcE_30 g _ _) rfl in_X11 tyX11 tyX11_ok nmX11 38 (by decide) kf_X11_162 (fun _ h => h) rfl (ty := .int) (y := ((x3 30 0 38) - 1)) (by decide +kernel) rfl rfl (Nat.le_of_ble_eq_true rfl) (m44_set_38 g _ _) dX11_cleanOn_117 (fun H locs hI hS => ?_)
      obtain ⟨x4, e_x4, h⟩ := lets_some h
      rw [← e_x4] at hI
      refine lv_aload_n hx hb dX11_cleanOn_120 rfl (lv_at hl 0 rfl) ?_
      refine lv_aload_n hx hb dX11_cleanOn_121 rfl (lv_at hl 0 rfl) ?_
      refine w_get C G hI 30 0 (hI.at1 rfl) (fcE_30 g _ _) rfl in_X11 16 (by decide) kf_X11_119 (fun _ h => h) (v := .int (x4 30 0 16)) rfl dX11_cleanOn_122 ?_
      refine lv_if_ne (tgt := 132) hx hb dX11_cleanOn_125 (by decide) (fun hc => ?_) (fun hc => ?_)
      · replace h := ite_n hc h
        refine lv_iconst (v := 0) hx hb dX11_cleanOn_132 (by decide) ?_
        exact w_X11_cleanOn_b133 C G 0 x4 _ _ _  h hI hS (lv_sub hl [] rfl)
      replace h := ite_y hc h
      refine lv_iconst (v := 1) hx hb dX11_cleanOn_128 (by decide) ?_
      refine lv_goto (tgt := 133) hx hb dX11_cleanOn_129 (by decide) ?_
      exact w_X11_cleanOn_b133 C G 1 x4 _ _ _  h hI hS (lv_sub hl [] rfl)
    replace h := ite_n hc h
    refine lv_bipush (v := 6) hx hb dX11_cleanOn_21 (by decide) ?_
    refine lv_iload_n hx hb dX11_cleanOn_23 rfl (lv_at hl 2 rfl) ?_
    refine lv_imul hx hb dX11_cleanOn_24 ?_
    refine lv_aload_n hx hb dX11_cleanOn_25 rfl (lv_at hl 0 rfl) ?_
    refine w_get C G hI 30 0 (hI.at1 rfl) (fcE_30 g _ _) rfl in_X11 27 (by decide) kf_X11_90 (fun _ h => h) (v := .ref (ga g 67 0)) rfl dX11_cleanOn_26 ?_
    refine lv_iload_n hx hb dX11_cleanOn_29 rfl (lv_at hl 1 rfl) ?_
    obtain ⟨hn5, h⟩ := need_t h
    refine w_iald C G hI 67 0 (hI.at1 rfl) (fcA_67 g _ _) (inb_in hn5) dX11_cleanOn_30 ?_
    refine lv_iadd hx hb dX11_cleanOn_31 ?_
    refine lv_istore_n (lv' := [(3, .int ((6 * v2) + (x 67 0 v1.toNatClampNeg))), (0, .ref (ga g 30 0)), (1, .int v1), (2, .int v2)]) hx hb dX11_cleanOn_32 rfl hl (by decide) rfl (fun ls hl => ?_)
    refine lv_aload_n hx hb dX11_cleanOn_33 rfl (lv_at hl 1 rfl) ?_
    refine w_get C G hI 30 0 (hI.at1 rfl) (fcE_30 g _ _) rfl in_X11 12 (by decide) kf_X11_46 (fun _ h => h) (v := .ref (ga g 52 0)) rfl dX11_cleanOn_34 ?_
    refine lv_iload_n hx hb dX11_cleanOn_37 rfl (lv_at hl 0 rfl) ?_
    obtain ⟨hn6, h⟩ := need_t h
    refine w_iald C G hI 52 0 (hI.at1 rfl) (fcA_52 g _ _) (inb_in hn6) dX11_cleanOn_38 ?_
    refine lv_aload_n hx hb dX11_cleanOn_39 rfl (lv_at hl 1 rfl) ?_
    refine w_get C G hI 30 0 (hI.at1 rfl) (fcE_30 g _ _) rfl in_X11 13 (by decide) kf_X11_49 (fun _ h => h) (v := .ref (ga g 53 0)) rfl dX11_cleanOn_40 ?_
    refine lv_iload_n hx hb dX11_cleanOn_43 rfl (lv_at hl 0 rfl) ?_
    obtain ⟨hn7, h⟩ := need_t h
    refine w_iald C G hI 53 0 (hI.at1 rfl) (fcA_53 g _ _) (inb_in hn7) dX11_cleanOn_44 ?_
    refine lv_aload_n hx hb dX11_cleanOn_45 rfl (lv_at hl 1 rfl) ?_
    refine w_get C G hI 30 0 (hI.at1 rfl) (fcE_30 g _ _) rfl in_X11 18 (by decide) kf_X11_62 (fun _ h => h) (v := .ref (ga g 58 0)) rfl dX11_cleanOn_46 ?_
    refine lv_iload_n hx hb dX11_cleanOn_49 rfl (lv_at hl 2 rfl) ?_
    obtain ⟨hn8, h⟩ := need_t h
    refine w_iald C G hI 58 0 (hI.at1 rfl) (fcA_58 g _ _) (inb_in hn8) dX11_cleanOn_50 ?_
    obtain ⟨r10, x9, hq11, h⟩ := bnd_some h
    refine w_callS (fr := 0) (lo := 0) C G hI hS ms_X11_holds km_X11_175 [.int (x 52 0 ((6 * v2) + (x 67 0 v1.toNatClampNeg)).toNatClampNeg), .int (x 53 0 ((6 * v2) + (x 67 0 v1.toNatClampNeg)).toNatClampNeg), .int (x 58 0 v1.toNatClampNeg)] (k_X11_holds l g (x 52 0 ((6 * v2) + (x 67 0 v1.toNatClampNeg)).toNatClampNeg) (x 53 0 ((6 * v2) + (x 67 0 v1.toNatClampNeg)).toNatClampNeg) (x 58 0 v1.toNatClampNeg) x _ _  hq11) rfl (by first | exact ⟨by decide, by decide⟩ | exact ⟨by show _ ≤ _ + _; omega, by show _ ≤ _ + _; omega⟩) ⟨Nat.zero_le _, Nat.zero_le _⟩ hl.1 rfl (Nat.le_of_ble_eq_true rfl) dX11_cleanOn_51 (fun H locs hI hS => ?_)
    refine lv_if_eq (tgt := 92) hx hb dX11_cleanOn_54 (by decide) (fun hc => ?_) (fun hc => ?_)
    · replace h := ite_y hc h
      exact w_X11_cleanOn_b92 C G (f_X11_cleanOn_b12 n) ih v1 v2 x9 _ _ _  h hI hS (lv_sub hl [1, 2, 3] rfl)
    replace h := ite_n hc h
    refine lv_aload_n hx hb dX11_cleanOn_57 rfl (lv_at hl 1 rfl) ?_
    refine w_get C G hI 30 0 (hI.at1 rfl) (fcE_30 g _ _) rfl in_X11 26 (by decide) kf_X11_87 (fun _ h => h) (v := .ref (ga g 66 0)) rfl dX11_cleanOn_58 ?_
    refine lv_iload_n hx hb dX11_cleanOn_61 rfl (lv_at hl 2 rfl) ?_
    obtain ⟨hn12, h⟩ := need_t h
    refine w_iald C G hI 66 0 (hI.at1 rfl) (fcA_66 g _ _) (inb_in hn12) dX11_cleanOn_62 ?_
    refine lv_aload_n hx hb dX11_cleanOn_63 rfl (lv_at hl 1 rfl) ?_
    refine w_get C G hI 30 0 (hI.at1 rfl) (fcE_30 g _ _) rfl in_X11 27 (by decide) kf_X11_90 (fun _ h => h) (v := .ref (ga g 67 0)) rfl dX11_cleanOn_64 ?_
    refine lv_iload_n hx hb dX11_cleanOn_67 rfl (lv_at hl 2 rfl) ?_
    obtain ⟨hn13, h⟩ := need_t h
    refine w_iald C G hI 67 0 (hI.at1 rfl) (fcA_67 g _ _) (inb_in hn13) dX11_cleanOn_68 ?_
    refine lv_ishr hx hb dX11_cleanOn_69 ?_
    refine lv_iconst (v := 1) hx hb dX11_cleanOn_70 (by decide) ?_
    refine lv_iand hx hb dX11_cleanOn_71 ?_
    refine lv_if_ne (tgt := 92) hx hb dX11_cleanOn_72 (by decide) (fun hc => ?_) (fun hc => ?_)
    · replace h := ite_n hc h
      exact w_X11_cleanOn_b92 C G (f_X11_cleanOn_b12 n) ih v1 v2 x9 _ _ _  h hI hS (lv_sub hl [1, 2, 3] rfl)
    replace h := ite_y hc h
    refine lv_aload_n hx hb dX11_cleanOn_75 rfl (lv_at hl 1 rfl) ?_
    obtain ⟨r15, x14, hq16, h⟩ := bnd_some h
    refine w_callV (fr := 2) (lo := 43) C G hI hS 30 0 (hI.at1 rfl) (fcE_30 g _ _) rfl mv_X11_counts km_X11_178 [] (k_X11_counts l g  x9 _ _  hq16) rfl (by first | exact ⟨by decide, by decide⟩ | exact ⟨by show _ ≤ _ + _; omega, by show _ ≤ _ + _; omega⟩) ⟨Nat.zero_le _, Nat.zero_le _⟩ hl.1 rfl (Nat.le_of_ble_eq_true rfl) dX11_cleanOn_76 (fun H locs hI hS => ?_)
    refine lv_if_ne (tgt := 83) hx hb dX11_cleanOn_79 (by decide) (fun hc => ?_) (fun hc => ?_)
    · replace h := ite_n hc h
      refine lv_aload_n hx hb dX11_cleanOn_83 rfl (lv_at hl 1 rfl) ?_
      refine lv_iload_n hx hb dX11_cleanOn_84 rfl (lv_at hl 2 rfl) ?_
      obtain ⟨r18, x17, hq19, h⟩ := bnd_some h
      refine w_callV (fr := 1) (lo := 26) C G hI hS 30 0 (hI.at1 rfl) (fcE_30 g _ _) rfl mv_X11_runsClean km_X11_182 [.int v1] (k_X11_runsClean l g v1 x14 _ _  hq19) rfl (by first | exact ⟨by decide, by decide⟩ | exact ⟨by show _ ≤ _ + _; omega, by show _ ≤ _ + _; omega⟩) ⟨Nat.zero_le _, Nat.zero_le _⟩ hl.1 rfl (Nat.le_of_ble_eq_true rfl) dX11_cleanOn_85 (fun H locs hI hS => ?_)
      refine lv_if_eq (tgt := 92) hx hb dX11_cleanOn_88 (by decide) (fun hc => ?_) (fun hc => ?_)
      · replace h := ite_y hc h
        exact w_X11_cleanOn_b92 C G (f_X11_cleanOn_b12 n) ih v1 v2 x17 _ _ _  h hI hS (lv_sub hl [1, 2, 3] rfl)
      replace h := ite_n hc h
      cases h
      exact w_vret C hI hS dX11_cleanOn_91
    replace h := ite_y hc h
    cases h
    exact w_vret C hI hS dX11_cleanOn_82
def f_X11_cleanOn  (x : st) : Option (st) := if inb (x 30 0 38) 13 = true then f_X11_cleanOn_b12 100 (x 30 0 38) (x 57 0 (x 30 0 38).toNatClampNeg) x else none
set_option maxHeartbeats 4000000 in
set_option maxRecDepth 100000 in
theorem w_X11_cleanOn {p : Program} {l : Launch} {e : Env} {s : State} {m : MethodId} {args : Array Value} {below : List Frame} {meth : Method} {c : Code} {g : gT} {x' : st} (C : cxt p s m meth c args cX11_cleanOn 4 RX11 none) (G : gst g s)  (x : st) (H : Heap) (locs : List Loc) (ls : Array Slot)  (h : f_X11_cleanOn  x = some x') (hI : wst g x H) (hS : va_S (zA (gz g)) s.heap H locs) (hl : lv_has ls 4 [(0, .ref (ga g 30 0))]) : W p l e (rmC 3 63) s m args below meth c H locs 0 0 (MQ below (Qx g none x') args s 0 0 (zA (gz g))) (F0 m 0 ls []) := by
  obtain ⟨hx, hb, hml, hown, hts, hlk, hrt⟩ := id C
  unfold f_X11_cleanOn at h
  refine lv_aload_n hx hb dX11_cleanOn_0 rfl (lv_at hl 0 rfl) ?_
  refine w_get C G hI 30 0 (hI.at1 rfl) (fcE_30 g _ _) rfl in_X11 38 (by decide) kf_X11_162 (fun _ h => h) (v := .int (x 30 0 38)) rfl dX11_cleanOn_1 ?_
  refine lv_istore_n (lv' := [(1, .int (x 30 0 38)), (0, .ref (ga g 30 0))]) hx hb dX11_cleanOn_4 rfl hl (by decide) rfl (fun ls hl => ?_)
  refine lv_aload_n hx hb dX11_cleanOn_5 rfl (lv_at hl 1 rfl) ?_
  refine w_get C G hI 30 0 (hI.at1 rfl) (fcE_30 g _ _) rfl in_X11 17 (by decide) kf_X11_59 (fun _ h => h) (v := .ref (ga g 57 0)) rfl dX11_cleanOn_6 ?_
  refine lv_iload_n hx hb dX11_cleanOn_9 rfl (lv_at hl 0 rfl) ?_
  obtain ⟨hn1, h⟩ := need_t h
  refine w_iald C G hI 57 0 (hI.at1 rfl) (fcA_57 g _ _) (inb_in hn1) dX11_cleanOn_10 ?_
  refine lv_istore_n (lv' := [(2, .int (x 57 0 (x 30 0 38).toNatClampNeg)), (1, .int (x 30 0 38)), (0, .ref (ga g 30 0))]) hx hb dX11_cleanOn_11 rfl hl (by decide) rfl (fun ls hl => ?_)
  exact w_X11_cleanOn_b12 C G 100 (x 30 0 38) (x 57 0 (x 30 0 38).toNatClampNeg) x _ _ _  h hI hS (lv_sub hl [2, 1, 0] rfl)
theorem k_X11_cleanOn (l : Launch) (g : gT)  (x : st) (x' : st)  (h : f_X11_cleanOn  x = some x') : Kt l yX11_cleanOn cX11_cleanOn 4 none 3 63 g [.ref (ga g 30 0)] x none x' := by
  refine Kt.of (by decide) (fun p e s m below meth c C G hI => ?_)
  have hl := lv_entry ([.ref (ga g 30 0)]) (n := 4) (Nat.le_of_ble_eq_true rfl)
  rw [lg_entry_eq]
  generalize (lg_sl ([.ref (ga g 30 0)]) ++ List.replicate (4 - (lg_sl ([.ref (ga g 30 0)])).length) Slot.unset).toArray = ls at hl ⊢
  have hl : lv_has ls 4 [(0, .ref (ga g 30 0))] := hl
  exact w_X11_cleanOn C G  x _ _ ls  h hI va_S.rf hl
theorem mv_X11_cleanOn : mtV yX11_cleanOn RX11 cX11_cleanOn 4 none 0 := ⟨ki_X11_cleanOn, kl_X11_cleanOn, kI_X11, kc_X11_cleanOn, by decide +kernel⟩

/-! X11_get -/
def f_X11_get (a1 : Int32) (a2 : Int32) (x : st) : Option (Int32 × st) := if inb ((6 * a1) + a2) 78 = true then some ((x 59 0 ((6 * a1) + a2).toNatClampNeg), x) else none
set_option maxHeartbeats 4000000 in
set_option maxRecDepth 100000 in
theorem w_X11_get {p : Program} {l : Launch} {e : Env} {s : State} {m : MethodId} {args : Array Value} {below : List Frame} {meth : Method} {c : Code} {g : gT} {r : Int32} {x' : st} (C : cxt p s m meth c args cX11_get 3 RX11 (some .int)) (G : gst g s) (a1 : Int32) (a2 : Int32) (x : st) (H : Heap) (locs : List Loc) (ls : Array Slot)  (h : f_X11_get a1 a2 x = some (r, x')) (hI : wst g x H) (hS : va_S (zA (gz g)) s.heap H locs) (hl : lv_has ls 3 [(0, .ref (ga g 30 0)), (1, .int a1), (2, .int a2)]) : W p l e (rmC 0 0) s m args below meth c H locs 0 0 (MQ below (Qx g (some (.int r)) x') args s 0 0 (zA (gz g))) (F0 m 0 ls []) := by
  obtain ⟨hx, hb, hml, hown, hts, hlk, hrt⟩ := id C
  unfold f_X11_get at h
  refine lv_aload_n hx hb dX11_get_0 rfl (lv_at hl 0 rfl) ?_
  refine w_get C G hI 30 0 (hI.at1 rfl) (fcE_30 g _ _) rfl in_X11 19 (by decide) kf_X11_65 (fun _ h => h) (v := .ref (ga g 59 0)) rfl dX11_get_1 ?_
  refine lv_bipush (v := 6) hx hb dX11_get_4 (by decide) ?_
  refine lv_iload_n hx hb dX11_get_6 rfl (lv_at hl 1 rfl) ?_
  refine lv_imul hx hb dX11_get_7 ?_
  refine lv_iload_n hx hb dX11_get_8 rfl (lv_at hl 2 rfl) ?_
  refine lv_iadd hx hb dX11_get_9 ?_
  obtain ⟨hn1, h⟩ := need_t h
  refine w_iald C G hI 59 0 (hI.at1 rfl) (fcA_59 g _ _) (inb_in hn1) dX11_get_10 ?_
  cases h
  exact w_ireti C hI hS dX11_get_11
theorem k_X11_get (l : Launch) (g : gT) (a1 : Int32) (a2 : Int32) (x : st) (r : Int32) (x' : st)  (h : f_X11_get a1 a2 x = some (r, x')) : Kt l yX11_get cX11_get 3 (some .int) 0 0 g [.ref (ga g 30 0), .int a1, .int a2] x (some (.int r)) x' := by
  refine Kt.of (by decide) (fun p e s m below meth c C G hI => ?_)
  have hl := lv_entry ([.ref (ga g 30 0), .int a1, .int a2]) (n := 3) (Nat.le_of_ble_eq_true rfl)
  rw [lg_entry_eq]
  generalize (lg_sl ([.ref (ga g 30 0), .int a1, .int a2]) ++ List.replicate (3 - (lg_sl ([.ref (ga g 30 0), .int a1, .int a2])).length) Slot.unset).toArray = ls at hl ⊢
  have hl : lv_has ls 3 [(0, .ref (ga g 30 0)), (1, .int a1), (2, .int a2)] := hl
  exact w_X11_get C G a1 a2 x _ _ ls  h hI va_S.rf hl
theorem mv_X11_get : mtV yX11_get RX11 cX11_get 3 (some .int) 2 := ⟨ki_X11_get, kl_X11_get, kI_X11, kc_X11_get, by decide +kernel⟩

/-! X11_put -/
def f_X11_put (a1 : Int32) (a2 : Int32) (a3 : Int32) (x : st) : Option (st) := if inb ((6 * a1) + a2) 78 = true then lets (sx x 59 0 ((6 * a1) + a2).toNatClampNeg a3) fun x2 => some x2 else none
set_option maxHeartbeats 4000000 in
set_option maxRecDepth 100000 in
theorem w_X11_put {p : Program} {l : Launch} {e : Env} {s : State} {m : MethodId} {args : Array Value} {below : List Frame} {meth : Method} {c : Code} {g : gT} {x' : st} (C : cxt p s m meth c args cX11_put 4 RX11 none) (G : gst g s) (a1 : Int32) (a2 : Int32) (a3 : Int32) (x : st) (H : Heap) (locs : List Loc) (ls : Array Slot)  (h : f_X11_put a1 a2 a3 x = some x') (hI : wst g x H) (hS : va_S (zA (gz g)) s.heap H locs) (hl : lv_has ls 4 [(0, .ref (ga g 30 0)), (1, .int a1), (2, .int a2), (3, .int a3)]) : W p l e (rmC 0 0) s m args below meth c H locs 0 0 (MQ below (Qx g none x') args s 0 0 (zA (gz g))) (F0 m 0 ls []) := by
  obtain ⟨hx, hb, hml, hown, hts, hlk, hrt⟩ := id C
  unfold f_X11_put at h
  refine lv_aload_n hx hb dX11_put_0 rfl (lv_at hl 0 rfl) ?_
  refine w_get C G hI 30 0 (hI.at1 rfl) (fcE_30 g _ _) rfl in_X11 19 (by decide) kf_X11_65 (fun _ h => h) (v := .ref (ga g 59 0)) rfl dX11_put_1 ?_
  refine lv_bipush (v := 6) hx hb dX11_put_4 (by decide) ?_
  refine lv_iload_n hx hb dX11_put_6 rfl (lv_at hl 1 rfl) ?_
  refine lv_imul hx hb dX11_put_7 ?_
  refine lv_iload_n hx hb dX11_put_8 rfl (lv_at hl 2 rfl) ?_
  refine lv_iadd hx hb dX11_put_9 ?_
  refine lv_iload_n hx hb dX11_put_10 rfl (lv_at hl 3 rfl) ?_
  obtain ⟨hn1, h⟩ := need_t h
  refine w_iast C G hI hS 59 0 (hI.at1 rfl) rfl (fcA_59 g _) (y := a3) (inb_in hn1) dX11_put_11 (fun H locs hI hS => ?_)
  obtain ⟨x2, e_x2, h⟩ := lets_some h
  rw [← e_x2] at hI
  cases h
  exact w_vret C hI hS dX11_put_12
theorem k_X11_put (l : Launch) (g : gT) (a1 : Int32) (a2 : Int32) (a3 : Int32) (x : st) (x' : st)  (h : f_X11_put a1 a2 a3 x = some x') : Kt l yX11_put cX11_put 4 none 0 0 g [.ref (ga g 30 0), .int a1, .int a2, .int a3] x none x' := by
  refine Kt.of (by decide) (fun p e s m below meth c C G hI => ?_)
  have hl := lv_entry ([.ref (ga g 30 0), .int a1, .int a2, .int a3]) (n := 4) (Nat.le_of_ble_eq_true rfl)
  rw [lg_entry_eq]
  generalize (lg_sl ([.ref (ga g 30 0), .int a1, .int a2, .int a3]) ++ List.replicate (4 - (lg_sl ([.ref (ga g 30 0), .int a1, .int a2, .int a3])).length) Slot.unset).toArray = ls at hl ⊢
  have hl : lv_has ls 4 [(0, .ref (ga g 30 0)), (1, .int a1), (2, .int a2), (3, .int a3)] := hl
  exact w_X11_put C G a1 a2 a3 x _ _ ls  h hI va_S.rf hl
theorem mv_X11_put : mtV yX11_put RX11 cX11_put 4 none 3 := ⟨ki_X11_put, kl_X11_put, kI_X11, kc_X11_put, by decide +kernel⟩

/-! X11_cast -/
def f_X11_cast (a1 : Int32) (a2 : Int32) (x : st) : Option (Int32 × st) := if a1 = 0 then (some ((a2.toInt8.toInt32), x)) else (some (a2, x))
set_option maxHeartbeats 4000000 in
set_option maxRecDepth 100000 in
theorem w_X11_cast {p : Program} {l : Launch} {e : Env} {s : State} {m : MethodId} {args : Array Value} {below : List Frame} {meth : Method} {c : Code} {g : gT} {r : Int32} {x' : st} (C : cxt p s m meth c args cX11_cast 2 RX11 (some .long)) (G : gst g s) (a1 : Int32) (a2 : Int32) (x : st) (H : Heap) (locs : List Loc) (ls : Array Slot)  (h : f_X11_cast a1 a2 x = some (r, x')) (hI : wst g x H) (hS : va_S (zA (gz g)) s.heap H locs) (hl : lv_has ls 2 [(0, .int a1), (1, .int a2)]) : W p l e (rmC 0 0) s m args below meth c H locs 0 0 (MQ below (Qx g (some (.long r.toInt64)) x') args s 0 0 (zA (gz g))) (F0 m 0 ls []) := by
  obtain ⟨hx, hb, hml, hown, hts, hlk, hrt⟩ := id C
  unfold f_X11_cast at h
  refine lv_iload_n hx hb dX11_cast_0 rfl (lv_at hl 0 rfl) ?_
  refine lv_if_ne (tgt := 10) hx hb dX11_cast_1 (by decide) (fun hc => ?_) (fun hc => ?_)
  · replace h := ite_n hc h
    refine lv_iload_n hx hb dX11_cast_10 rfl (lv_at hl 1 rfl) ?_
    refine lv_i2l (v := a2.toInt64) hx hb dX11_cast_11 rfl ?_
    cases h
    exact w_lret C hI hS dX11_cast_12
  replace h := ite_y hc h
  refine lv_iload_n hx hb dX11_cast_4 rfl (lv_at hl 1 rfl) ?_
  refine lv_i2b (v := (a2.toInt8.toInt32)) hx hb dX11_cast_5 rfl ?_
  refine lv_i2l (v := (a2.toInt8.toInt32).toInt64) hx hb dX11_cast_6 rfl ?_
  refine lv_goto (tgt := 12) hx hb dX11_cast_7 (by decide) ?_
  cases h
  exact w_lret C hI hS dX11_cast_12
theorem k_X11_cast (l : Launch) (g : gT) (a1 : Int32) (a2 : Int32) (x : st) (r : Int32) (x' : st)  (h : f_X11_cast a1 a2 x = some (r, x')) : Kt l yX11_cast cX11_cast 2 (some .long) 0 0 g [.int a1, .int a2] x (some (.long r.toInt64)) x' := by
  refine Kt.of (by decide) (fun p e s m below meth c C G hI => ?_)
  have hl := lv_entry ([.int a1, .int a2]) (n := 2) (Nat.le_of_ble_eq_true rfl)
  rw [lg_entry_eq]
  generalize (lg_sl ([.int a1, .int a2]) ++ List.replicate (2 - (lg_sl ([.int a1, .int a2])).length) Slot.unset).toArray = ls at hl ⊢
  have hl : lv_has ls 2 [(0, .int a1), (1, .int a2)] := hl
  exact w_X11_cast C G a1 a2 x _ _ ls  h hI va_S.rf hl
theorem ms_X11_cast : mtS yX11_cast RX11 cX11_cast 2 (some .long) 2 := ⟨ks_X11_cast, kI_X11, kc_X11_cast, by decide +kernel⟩

/-! X11_goes -/
def f_X11_goes_b81 (s0 : Int32) (s1 : Int32) (x : st) : Option (st) := bnv (f_X11_leave s1 s0 0 0 x) fun x3 => some x3
set_option maxHeartbeats 4000000 in
set_option maxRecDepth 100000 in
theorem w_X11_goes_b81 {p : Program} {l : Launch} {e : Env} {s : State} {m : MethodId} {args : Array Value} {below : List Frame} {meth : Method} {c : Code} {g : gT} {x' : st} (C : cxt p s m meth c args cX11_goes 4 RX11 none) (G : gst g s) (s0 : Int32) (s1 : Int32) (x : st) (H : Heap) (locs : List Loc) (ls : Array Slot)  (h : f_X11_goes_b81 s0 s1 x = some x') (hI : wst g x H) (hS : va_S (zA (gz g)) s.heap H locs) (hl : lv_has ls 4 []) : W p l e (rmC 3 63) s m args below meth c H locs 0 0 (MQ below (Qx g none x') args s 0 0 (zA (gz g))) (F0 m 81 ls [.int s0, .int s1, .ref (ga g 30 0)]) := by
  obtain ⟨hx, hb, hml, hown, hts, hlk, hrt⟩ := id C
  unfold f_X11_goes_b81 at h
  refine lv_iconst (v := 0) hx hb dX11_goes_81 (by decide) ?_
  refine lv_iconst (v := 0) hx hb dX11_goes_82 (by decide) ?_
  obtain ⟨x3, hq5, h⟩ := bnv_some h
  refine w_callV (fr := 0) (lo := 0) C G hI hS 30 0 (hI.at1 rfl) (fcE_30 g _ _) rfl mv_X11_leave km_X11_198 [.int s1, .int s0, .int 0, .int 0] (k_X11_leave l g s1 s0 0 0 x _  hq5) rfl (by first | exact ⟨by decide, by decide⟩ | exact ⟨by show _ ≤ _ + _; omega, by show _ ≤ _ + _; omega⟩) ⟨Nat.zero_le _, Nat.zero_le _⟩ hl.1 rfl (Nat.le_of_ble_eq_true rfl) dX11_goes_83 (fun H locs hI hS => ?_)
  cases h
  exact w_vret C hI hS dX11_goes_86
def f_X11_goes_b58 (v1 : Int32) (v2 : Int32) (v3 : Int32) (x : st) : Option (st) := if v3 = 0 then (if inb v1 13 = true then f_X11_goes_b81 ((x 58 0 v1.toNatClampNeg) + 1) v1 x else none) else (if inb v2 384 = true then f_X11_goes_b81 (x 43 0 v2.toNatClampNeg) v1 x else none)
set_option maxHeartbeats 4000000 in
set_option maxRecDepth 100000 in
theorem w_X11_goes_b58 {p : Program} {l : Launch} {e : Env} {s : State} {m : MethodId} {args : Array Value} {below : List Frame} {meth : Method} {c : Code} {g : gT} {x' : st} (C : cxt p s m meth c args cX11_goes 4 RX11 none) (G : gst g s) (v1 : Int32) (v2 : Int32) (v3 : Int32) (x : st) (H : Heap) (locs : List Loc) (ls : Array Slot)  (h : f_X11_goes_b58 v1 v2 v3 x = some x') (hI : wst g x H) (hS : va_S (zA (gz g)) s.heap H locs) (hl : lv_has ls 4 [(0, .ref (ga g 30 0)), (1, .int v1), (2, .int v2), (3, .int v3)]) : W p l e (rmC 3 63) s m args below meth c H locs 0 0 (MQ below (Qx g none x') args s 0 0 (zA (gz g))) (F0 m 58 ls []) := by
  obtain ⟨hx, hb, hml, hown, hts, hlk, hrt⟩ := id C
  unfold f_X11_goes_b58 at h
  refine lv_aload_n hx hb dX11_goes_58 rfl (lv_at hl 0 rfl) ?_
  refine lv_iload_n hx hb dX11_goes_59 rfl (lv_at hl 1 rfl) ?_
  refine lv_iload_n hx hb dX11_goes_60 rfl (lv_at hl 3 rfl) ?_
  refine lv_if_eq (tgt := 73) hx hb dX11_goes_61 (by decide) (fun hc => ?_) (fun hc => ?_)
  · replace h := ite_y hc h
    refine lv_aload_n hx hb dX11_goes_73 rfl (lv_at hl 0 rfl) ?_
    refine w_get C G hI 30 0 (hI.at1 rfl) (fcE_30 g _ _) rfl in_X11 18 (by decide) kf_X11_62 (fun _ h => h) (v := .ref (ga g 58 0)) rfl dX11_goes_74 ?_
    refine lv_iload_n hx hb dX11_goes_77 rfl (lv_at hl 1 rfl) ?_
    obtain ⟨hn2, h⟩ := need_t h
    refine w_iald C G hI 58 0 (hI.at1 rfl) (fcA_58 g _ _) (inb_in hn2) dX11_goes_78 ?_
    refine lv_iconst (v := 1) hx hb dX11_goes_79 (by decide) ?_
    refine lv_iadd hx hb dX11_goes_80 ?_
    exact w_X11_goes_b81 C G ((x 58 0 v1.toNatClampNeg) + 1) v1 x _ _ _  h hI hS (lv_sub hl [] rfl)
  replace h := ite_n hc h
  refine lv_aload_n hx hb dX11_goes_64 rfl (lv_at hl 0 rfl) ?_
  refine w_get C G hI 30 0 (hI.at1 rfl) (fcE_30 g _ _) rfl in_X11 3 (by decide) kf_X11_19 (fun _ h => h) (v := .ref (ga g 43 0)) rfl dX11_goes_65 ?_
  refine lv_iload_n hx hb dX11_goes_68 rfl (lv_at hl 2 rfl) ?_
  obtain ⟨hn3, h⟩ := need_t h
  refine w_iald C G hI 43 0 (hI.at1 rfl) (fcA_43 g _ _) (inb_in hn3) dX11_goes_69 ?_
  refine lv_goto (tgt := 81) hx hb dX11_goes_70 (by decide) ?_
  exact w_X11_goes_b81 C G (x 43 0 v2.toNatClampNeg) v1 x _ _ _  h hI hS (lv_sub hl [] rfl)
def f_X11_goes_b30 (v1 : Int32) (v2 : Int32) (s0 : Int32) (x : st) : Option (st) := if s0 = 0 then (f_X11_goes_b58 v1 v2 s0 x) else (if inb v2 384 = true then if inb v1 13 = true then if (x 58 0 v1.toNatClampNeg) < (x 43 0 v2.toNatClampNeg) then (f_X11_goes_b58 v1 v2 s0 x) else (bnd (f_X11_counts  x) fun r5 x4 => if r5 = 0 then (some x4) else (f_X11_goes_b58 v1 v2 s0 x4)) else none else none)
set_option maxHeartbeats 4000000 in
set_option maxRecDepth 100000 in
theorem w_X11_goes_b30 {p : Program} {l : Launch} {e : Env} {s : State} {m : MethodId} {args : Array Value} {below : List Frame} {meth : Method} {c : Code} {g : gT} {x' : st} (C : cxt p s m meth c args cX11_goes 4 RX11 none) (G : gst g s) (v1 : Int32) (v2 : Int32) (s0 : Int32) (x : st) (H : Heap) (locs : List Loc) (ls : Array Slot)  (h : f_X11_goes_b30 v1 v2 s0 x = some x') (hI : wst g x H) (hS : va_S (zA (gz g)) s.heap H locs) (hl : lv_has ls 4 [(0, .ref (ga g 30 0)), (1, .int v1), (2, .int v2)]) : W p l e (rmC 3 63) s m args below meth c H locs 0 0 (MQ below (Qx g none x') args s 0 0 (zA (gz g))) (F0 m 30 ls [.int s0]) := by
  obtain ⟨hx, hb, hml, hown, hts, hlk, hrt⟩ := id C
  unfold f_X11_goes_b30 at h
  refine lv_istore_n (lv' := [(3, .int s0), (0, .ref (ga g 30 0)), (1, .int v1), (2, .int v2)]) hx hb dX11_goes_30 rfl hl (by decide) rfl (fun ls hl => ?_)
  refine lv_iload_n hx hb dX11_goes_31 rfl (lv_at hl 0 rfl) ?_
  refine lv_if_eq (tgt := 58) hx hb dX11_goes_32 (by decide) (fun hc => ?_) (fun hc => ?_)
  · replace h := ite_y hc h
    exact w_X11_goes_b58 C G v1 v2 s0 x _ _ _  h hI hS (lv_sub hl [1, 2, 3, 0] rfl)
  replace h := ite_n hc h
  refine lv_aload_n hx hb dX11_goes_35 rfl (lv_at hl 1 rfl) ?_
  refine w_get C G hI 30 0 (hI.at1 rfl) (fcE_30 g _ _) rfl in_X11 3 (by decide) kf_X11_19 (fun _ h => h) (v := .ref (ga g 43 0)) rfl dX11_goes_36 ?_
  refine lv_iload_n hx hb dX11_goes_39 rfl (lv_at hl 3 rfl) ?_
  obtain ⟨hn2, h⟩ := need_t h
  refine w_iald C G hI 43 0 (hI.at1 rfl) (fcA_43 g _ _) (inb_in hn2) dX11_goes_40 ?_
  refine lv_aload_n hx hb dX11_goes_41 rfl (lv_at hl 1 rfl) ?_
  refine w_get C G hI 30 0 (hI.at1 rfl) (fcE_30 g _ _) rfl in_X11 18 (by decide) kf_X11_62 (fun _ h => h) (v := .ref (ga g 58 0)) rfl dX11_goes_42 ?_
  refine lv_iload_n hx hb dX11_goes_45 rfl (lv_at hl 2 rfl) ?_
  obtain ⟨hn3, h⟩ := need_t h
  refine w_iald C G hI 58 0 (hI.at1 rfl) (fcA_58 g _ _) (inb_in hn3) dX11_goes_46 ?_
  refine lv_icmp_gt (tgt := 58) hx hb dX11_goes_47 (by decide) (fun hc => ?_) (fun hc => ?_)
  · replace h := ite_y hc h
    exact w_X11_goes_b58 C G v1 v2 s0 x _ _ _  h hI hS (lv_sub hl [1, 2, 3, 0] rfl)
  replace h := ite_n hc h
  refine lv_aload_n hx hb dX11_goes_50 rfl (lv_at hl 1 rfl) ?_
  obtain ⟨r5, x4, hq6, h⟩ := bnd_some h
  refine w_callV (fr := 2) (lo := 43) C G hI hS 30 0 (hI.at1 rfl) (fcE_30 g _ _) rfl mv_X11_counts km_X11_178 [] (k_X11_counts l g  x _ _  hq6) rfl (by first | exact ⟨by decide, by decide⟩ | exact ⟨by show _ ≤ _ + _; omega, by show _ ≤ _ + _; omega⟩) ⟨Nat.zero_le _, Nat.zero_le _⟩ hl.1 rfl (Nat.le_of_ble_eq_true rfl) dX11_goes_51 (fun H locs hI hS => ?_)
  refine lv_if_ne (tgt := 58) hx hb dX11_goes_54 (by decide) (fun hc => ?_) (fun hc => ?_)
  · replace h := ite_n hc h
    exact w_X11_goes_b58 C G v1 v2 s0 x4 _ _ _  h hI hS (lv_sub hl [1, 2, 3, 0] rfl)
  replace h := ite_y hc h
  cases h
  exact w_vret C hI hS dX11_goes_57
def f_X11_goes_b25 (v1 : Int32) (v2 : Int32) (x : st) : Option (st) := f_X11_goes_b30 v1 v2 1 x
set_option maxHeartbeats 4000000 in
set_option maxRecDepth 100000 in
theorem w_X11_goes_b25 {p : Program} {l : Launch} {e : Env} {s : State} {m : MethodId} {args : Array Value} {below : List Frame} {meth : Method} {c : Code} {g : gT} {x' : st} (C : cxt p s m meth c args cX11_goes 4 RX11 none) (G : gst g s) (v1 : Int32) (v2 : Int32) (x : st) (H : Heap) (locs : List Loc) (ls : Array Slot)  (h : f_X11_goes_b25 v1 v2 x = some x') (hI : wst g x H) (hS : va_S (zA (gz g)) s.heap H locs) (hl : lv_has ls 4 [(0, .ref (ga g 30 0)), (1, .int v1), (2, .int v2)]) : W p l e (rmC 3 63) s m args below meth c H locs 0 0 (MQ below (Qx g none x') args s 0 0 (zA (gz g))) (F0 m 25 ls []) := by
  obtain ⟨hx, hb, hml, hown, hts, hlk, hrt⟩ := id C
  unfold f_X11_goes_b25 at h
  refine lv_iconst (v := 1) hx hb dX11_goes_25 (by decide) ?_
  refine lv_goto (tgt := 30) hx hb dX11_goes_26 (by decide) ?_
  exact w_X11_goes_b30 C G v1 v2 1 x _ _ _  h hI hS (lv_sub hl [0, 1, 2] rfl)
def f_X11_goes (a1 : Int32) (a2 : Int32) (x : st) : Option (st) := if inb a2 384 = true then if (x 41 0 a2.toNatClampNeg) = 6 then (f_X11_goes_b25 a1 a2 x) else (if inb a2 384 = true then bnd (f_X11_get a1 (x 42 0 a2.toNatClampNeg) x) fun r4 x3 => if r4 ≤ 0 then (f_X11_goes_b30 a1 a2 0 x3) else (f_X11_goes_b25 a1 a2 x3) else none) else none
set_option maxHeartbeats 4000000 in
set_option maxRecDepth 100000 in
theorem w_X11_goes {p : Program} {l : Launch} {e : Env} {s : State} {m : MethodId} {args : Array Value} {below : List Frame} {meth : Method} {c : Code} {g : gT} {x' : st} (C : cxt p s m meth c args cX11_goes 4 RX11 none) (G : gst g s) (a1 : Int32) (a2 : Int32) (x : st) (H : Heap) (locs : List Loc) (ls : Array Slot)  (h : f_X11_goes a1 a2 x = some x') (hI : wst g x H) (hS : va_S (zA (gz g)) s.heap H locs) (hl : lv_has ls 4 [(0, .ref (ga g 30 0)), (1, .int a1), (2, .int a2)]) : W p l e (rmC 3 63) s m args below meth c H locs 0 0 (MQ below (Qx g none x') args s 0 0 (zA (gz g))) (F0 m 0 ls []) := by
  obtain ⟨hx, hb, hml, hown, hts, hlk, hrt⟩ := id C
  unfold f_X11_goes at h
  refine lv_aload_n hx hb dX11_goes_0 rfl (lv_at hl 0 rfl) ?_
  refine w_get C G hI 30 0 (hI.at1 rfl) (fcE_30 g _ _) rfl in_X11 1 (by decide) kf_X11_13 (fun _ h => h) (v := .ref (ga g 41 0)) rfl dX11_goes_1 ?_
  refine lv_iload_n hx hb dX11_goes_4 rfl (lv_at hl 2 rfl) ?_
  obtain ⟨hn1, h⟩ := need_t h
  refine w_iald C G hI 41 0 (hI.at1 rfl) (fcA_41 g _ _) (inb_in hn1) dX11_goes_5 ?_
  refine lv_bipush (v := 6) hx hb dX11_goes_6 (by decide) ?_
  refine lv_icmp_eq (tgt := 25) hx hb dX11_goes_8 (by decide) (fun hc => ?_) (fun hc => ?_)
  · replace h := ite_y hc h
    exact w_X11_goes_b25 C G a1 a2 x _ _ _  h hI hS (lv_sub hl [0, 1, 2] rfl)
  replace h := ite_n hc h
  refine lv_aload_n hx hb dX11_goes_11 rfl (lv_at hl 0 rfl) ?_
  refine lv_iload_n hx hb dX11_goes_12 rfl (lv_at hl 1 rfl) ?_
  refine lv_aload_n hx hb dX11_goes_13 rfl (lv_at hl 0 rfl) ?_
  refine w_get C G hI 30 0 (hI.at1 rfl) (fcE_30 g _ _) rfl in_X11 2 (by decide) kf_X11_16 (fun _ h => h) (v := .ref (ga g 42 0)) rfl dX11_goes_14 ?_
  refine lv_iload_n hx hb dX11_goes_17 rfl (lv_at hl 2 rfl) ?_
  obtain ⟨hn2, h⟩ := need_t h
  refine w_iald C G hI 42 0 (hI.at1 rfl) (fcA_42 g _ _) (inb_in hn2) dX11_goes_18 ?_
  obtain ⟨r4, x3, hq5, h⟩ := bnd_some h
  refine w_callV (fr := 0) (lo := 0) C G hI hS 30 0 (hI.at1 rfl) (fcE_30 g _ _) rfl mv_X11_get km_X11_211 [.int a1, .int (x 42 0 a2.toNatClampNeg)] (k_X11_get l g a1 (x 42 0 a2.toNatClampNeg) x _ _  hq5) rfl (by first | exact ⟨by decide, by decide⟩ | exact ⟨by show _ ≤ _ + _; omega, by show _ ≤ _ + _; omega⟩) ⟨Nat.zero_le _, Nat.zero_le _⟩ hl.1 rfl (Nat.le_of_ble_eq_true rfl) dX11_goes_19 (fun H locs hI hS => ?_)
  refine lv_if_le (tgt := 29) hx hb dX11_goes_22 (by decide) (fun hc => ?_) (fun hc => ?_)
  · replace h := ite_y hc h
    refine lv_iconst (v := 0) hx hb dX11_goes_29 (by decide) ?_
    exact w_X11_goes_b30 C G a1 a2 0 x3 _ _ _  h hI hS (lv_sub hl [0, 1, 2] rfl)
  replace h := ite_n hc h
  exact w_X11_goes_b25 C G a1 a2 x3 _ _ _  h hI hS (lv_sub hl [0, 1, 2] rfl)
theorem k_X11_goes (l : Launch) (g : gT) (a1 : Int32) (a2 : Int32) (x : st) (x' : st)  (h : f_X11_goes a1 a2 x = some x') : Kt l yX11_goes cX11_goes 4 none 3 63 g [.ref (ga g 30 0), .int a1, .int a2] x none x' := by
  refine Kt.of (by decide) (fun p e s m below meth c C G hI => ?_)
  have hl := lv_entry ([.ref (ga g 30 0), .int a1, .int a2]) (n := 4) (Nat.le_of_ble_eq_true rfl)
  rw [lg_entry_eq]
  generalize (lg_sl ([.ref (ga g 30 0), .int a1, .int a2]) ++ List.replicate (4 - (lg_sl ([.ref (ga g 30 0), .int a1, .int a2])).length) Slot.unset).toArray = ls at hl ⊢
  have hl : lv_has ls 4 [(0, .ref (ga g 30 0)), (1, .int a1), (2, .int a2)] := hl
  exact w_X11_goes C G a1 a2 x _ _ ls  h hI va_S.rf hl
theorem mv_X11_goes : mtV yX11_goes RX11 cX11_goes 4 none 2 := ⟨ki_X11_goes, kl_X11_goes, kI_X11, kc_X11_goes, by decide +kernel⟩

/-! X11_news -/
def f_X11_news_b108 : Nat → Int32 → Int32 → Int32 → Int32 → st → Option (st)
  | 0, _, _, _, _, _ => none
  | n + 1, v1, v2, v3, v4, x => if v3 ≤ v4 then (lets (sx x 30 0 29 ((x 30 0 29) + v3)) fun x21 => if inb v2 384 = true then if inb ((3 * v1) + (x21 42 0 v2.toNatClampNeg)) 39 = true then lets (sx x21 60 0 ((3 * v1) + (x21 42 0 v2.toNatClampNeg)).toNatClampNeg (x21 30 0 28)) fun x24 => lets (sx x24 30 0 28 ((x24 30 0 28) + 1)) fun x25 => if inb v1 13 = true then bnv (f_X11_leave v1 ((x25 58 0 v1.toNatClampNeg) + 1) 0 0 x25) fun x27 => some x27 else none else none else none) else (if inb ((x 30 0 29) + v4) 34000 = true then lets (sx x 73 0 ((x 30 0 29) + v4).toNatClampNeg (0 : Int32)) fun x31 => f_X11_news_b108 n v1 v2 v3 (v4 + 1) x31 else none)
set_option maxHeartbeats 4000000 in
set_option maxRecDepth 100000 in
theorem w_X11_news_b108 {p : Program} {l : Launch} {e : Env} {s : State} {m : MethodId} {args : Array Value} {below : List Frame} {meth : Method} {c : Code} {g : gT} {x' : st} (C : cxt p s m meth c args cX11_news 5 RX11 none) (G : gst g s) : ∀ (n : Nat) (v1 : Int32) (v2 : Int32) (v3 : Int32) (v4 : Int32) (x : st) (H : Heap) (locs : List Loc) (ls : Array Slot), f_X11_news_b108 n v1 v2 v3 v4 x = some x' → wst g x H → va_S (zA (gz g)) s.heap H locs → lv_has ls 5 [(0, .ref (ga g 30 0)), (1, .int v1), (2, .int v2), (3, .int v3), (4, .int v4)] → W p l e (rmC 5 110) s m args below meth c H locs 0 0 (MQ below (Qx g none x') args s 0 0 (zA (gz g))) (F0 m 108 ls []) := by
  obtain ⟨hx, hb, hml, hown, hts, hlk, hrt⟩ := id C
  intro n
  induction n with
  | zero =>
    intro v1 v2 v3 v4 x H locs ls h hI hS hl
    simp [f_X11_news_b108] at h
  | succ n ih =>
    intro v1 v2 v3 v4 x H locs ls h hI hS hl
    unfold f_X11_news_b108 at h
    refine lv_iload hx hb dX11_news_108 (lv_at hl 4 rfl) ?_
    refine lv_iload_n hx hb dX11_news_110 rfl (lv_at hl 3 rfl) ?_
    refine lv_icmp_ge (tgt := 133) hx hb dX11_news_111 (by decide) (fun hc => ?_) (fun hc => ?_)
    · replace h := ite_y hc h
      refine lv_aload_n hx hb dX11_news_133 rfl (lv_at hl 0 rfl) ?_
      refine lv_dup hx hb dX11_news_134 rfl ?_
      refine w_get C G hI 30 0 (hI.at1 rfl) (fcE_30 g _ _) rfl in_X11 29 (by decide) kf_X11_224 (fun _ h => h) (v := .int (x 30 0 29)) rfl dX11_news_135 ?_
      refine lv_iload_n hx hb dX11_news_138 rfl (lv_at hl 3 rfl) ?_
      refine lv_iadd hx hb dX11_news_139 ?_
      refine w_put C G hI hS 30 0 (hI.at1 rfl) rfl (fcE_30 g _ _) rfl in_X11 tyX11 tyX11_ok nmX11 29 (by decide) kf_X11_224 (fun _ h => h) rfl (ty := .int) (y := ((x 30 0 29) + v3)) (by decide +kernel) rfl rfl (Nat.le_of_ble_eq_true rfl) (m44_set_29 g _ _) dX11_news_140 (fun H locs hI hS => ?_)
      obtain ⟨x21, e_x21, h⟩ := lets_some h
      rw [← e_x21] at hI
      refine lv_aload_n hx hb dX11_news_143 rfl (lv_at hl 0 rfl) ?_
      refine w_get C G hI 30 0 (hI.at1 rfl) (fcE_30 g _ _) rfl in_X11 20 (by decide) kf_X11_68 (fun _ h => h) (v := .ref (ga g 60 0)) rfl dX11_news_144 ?_
      refine lv_iconst (v := 3) hx hb dX11_news_147 (by decide) ?_
      refine lv_iload_n hx hb dX11_news_148 rfl (lv_at hl 1 rfl) ?_
      refine lv_imul hx hb dX11_news_149 ?_
      refine lv_aload_n hx hb dX11_news_150 rfl (lv_at hl 0 rfl) ?_
      refine w_get C G hI 30 0 (hI.at1 rfl) (fcE_30 g _ _) rfl in_X11 2 (by decide) kf_X11_16 (fun _ h => h) (v := .ref (ga g 42 0)) rfl dX11_news_151 ?_
      refine lv_iload_n hx hb dX11_news_154 rfl (lv_at hl 2 rfl) ?_
      obtain ⟨hn22, h⟩ := need_t h
      refine w_iald C G hI 42 0 (hI.at1 rfl) (fcA_42 g _ _) (inb_in hn22) dX11_news_155 ?_
      refine lv_iadd hx hb dX11_news_156 ?_
      refine lv_aload_n hx hb dX11_news_157 rfl (lv_at hl 0 rfl) ?_
      refine w_get C G hI 30 0 (hI.at1 rfl) (fcE_30 g _ _) rfl in_X11 28 (by decide) kf_X11_221 (fun _ h => h) (v := .int (x21 30 0 28)) rfl dX11_news_158 ?_
      obtain ⟨hn23, h⟩ := need_t h
      refine w_iast C G hI hS 60 0 (hI.at1 rfl) rfl (fcA_60 g _) (y := (x21 30 0 28)) (inb_in hn23) dX11_news_161 (fun H locs hI hS => ?_)
      obtain ⟨x24, e_x24, h⟩ := lets_some h
      rw [← e_x24] at hI
      refine lv_aload_n hx hb dX11_news_162 rfl (lv_at hl 0 rfl) ?_
      refine lv_dup hx hb dX11_news_163 rfl ?_
      refine w_get C G hI 30 0 (hI.at1 rfl) (fcE_30 g _ _) rfl in_X11 28 (by decide) kf_X11_221 (fun _ h => h) (v := .int (x24 30 0 28)) rfl dX11_news_164 ?_
      refine lv_iconst (v := 1) hx hb dX11_news_167 (by decide) ?_
      refine lv_iadd hx hb dX11_news_168 ?_
      refine w_put C G hI hS 30 0 (hI.at1 rfl) rfl (fcE_30 g _ _) rfl in_X11 tyX11 tyX11_ok nmX11 28 (by decide) kf_X11_221 (fun _ h => h) rfl (ty := .int) (y := ((x24 30 0 28) + 1)) (by decide +kernel) rfl rfl (Nat.le_of_ble_eq_true rfl) (m44_set_28 g _ _) dX11_news_169 (fun H locs hI hS => ?_)
      obtain ⟨x25, e_x25, h⟩ := lets_some h
      rw [← e_x25] at hI
      refine lv_aload_n hx hb dX11_news_172 rfl (lv_at hl 0 rfl) ?_
      refine lv_iload_n hx hb dX11_news_173 rfl (lv_at hl 1 rfl) ?_
      refine lv_aload_n hx hb dX11_news_174 rfl (lv_at hl 0 rfl) ?_
      refine w_get C G hI 30 0 (hI.at1 rfl) (fcE_30 g _ _) rfl in_X11 18 (by decide) kf_X11_62 (fun _ h => h) (v := .ref (ga g 58 0)) rfl dX11_news_175 ?_
      refine lv_iload_n hx hb dX11_news_178 rfl (lv_at hl 1 rfl) ?_
      obtain ⟨hn26, h⟩ := need_t h
      refine w_iald C G hI 58 0 (hI.at1 rfl) (fcA_58 g _ _) (inb_in hn26) dX11_news_179 ?_
      refine lv_iconst (v := 1) hx hb dX11_news_180 (by decide) ?_
      refine lv_iadd hx hb dX11_news_181 ?_
      refine lv_iconst (v := 0) hx hb dX11_news_182 (by decide) ?_
      refine lv_iconst (v := 0) hx hb dX11_news_183 (by decide) ?_
      obtain ⟨x27, hq29, h⟩ := bnv_some h
      refine w_callV (fr := 0) (lo := 0) C G hI hS 30 0 (hI.at1 rfl) (fcE_30 g _ _) rfl mv_X11_leave km_X11_198 [.int v1, .int ((x25 58 0 v1.toNatClampNeg) + 1), .int 0, .int 0] (k_X11_leave l g v1 ((x25 58 0 v1.toNatClampNeg) + 1) 0 0 x25 _  hq29) rfl (by first | exact ⟨by decide, by decide⟩ | exact ⟨by show _ ≤ _ + _; omega, by show _ ≤ _ + _; omega⟩) ⟨Nat.zero_le _, Nat.zero_le _⟩ hl.1 rfl (Nat.le_of_ble_eq_true rfl) dX11_news_184 (fun H locs hI hS => ?_)
      cases h
      exact w_vret C hI hS dX11_news_187
    replace h := ite_n hc h
    refine lv_aload_n hx hb dX11_news_114 rfl (lv_at hl 0 rfl) ?_
    refine w_get C G hI 30 0 (hI.at1 rfl) (fcE_30 g _ _) rfl in_X11 33 (by decide) kf_X11_103 (fun _ h => h) (v := .ref (ga g 73 0)) rfl dX11_news_115 ?_
    refine lv_aload_n hx hb dX11_news_118 rfl (lv_at hl 0 rfl) ?_
    refine w_get C G hI 30 0 (hI.at1 rfl) (fcE_30 g _ _) rfl in_X11 29 (by decide) kf_X11_224 (fun _ h => h) (v := .int (x 30 0 29)) rfl dX11_news_119 ?_
    refine lv_iload hx hb dX11_news_122 (lv_at hl 4 rfl) ?_
    refine lv_iadd hx hb dX11_news_124 ?_
    refine lv_lconst (v := (0 : Int32).toInt64) hx hb dX11_news_125 (by decide) ?_
    obtain ⟨hn30, h⟩ := need_t h
    refine w_last C G hI hS 73 0 (hI.at1 rfl) rfl (fcA_73 g _) (y := (0 : Int32)) (inb_in hn30) dX11_news_126 (fun H locs hI hS => ?_)
    obtain ⟨x31, e_x31, h⟩ := lets_some h
    rw [← e_x31] at hI
    refine lv_iinc (v := (v4 + 1)) (lv' := [(4, .int (v4 + 1)), (0, .ref (ga g 30 0)), (1, .int v1), (2, .int v2), (3, .int v3)]) hx hb dX11_news_127 hl (k := 4) rfl rfl (by decide) rfl (fun ls hl => ?_)
    refine lv_goto (tgt := 108) hx hb dX11_news_130 (by decide) ?_
    exact ih v1 v2 v3 (v4 + 1) x31 _ _ _  h hI hS (lv_sub hl [1, 2, 3, 4, 0] rfl)
def f_X11_news_b63 (s0 : Int32) (s1 : Int32) (x : st) : Option (st) := bnv (f_X11_begins s1 s0 x) fun x21 => some x21
set_option maxHeartbeats 4000000 in
set_option maxRecDepth 100000 in
theorem w_X11_news_b63 {p : Program} {l : Launch} {e : Env} {s : State} {m : MethodId} {args : Array Value} {below : List Frame} {meth : Method} {c : Code} {g : gT} {x' : st} (C : cxt p s m meth c args cX11_news 5 RX11 none) (G : gst g s) (s0 : Int32) (s1 : Int32) (x : st) (H : Heap) (locs : List Loc) (ls : Array Slot)  (h : f_X11_news_b63 s0 s1 x = some x') (hI : wst g x H) (hS : va_S (zA (gz g)) s.heap H locs) (hl : lv_has ls 5 []) : W p l e (rmC 5 110) s m args below meth c H locs 0 0 (MQ below (Qx g none x') args s 0 0 (zA (gz g))) (F0 m 63 ls [.int s0, .int s1, .ref (ga g 30 0)]) := by
  obtain ⟨hx, hb, hml, hown, hts, hlk, hrt⟩ := id C
  unfold f_X11_news_b63 at h
  obtain ⟨x21, hq23, h⟩ := bnv_some h
  refine w_callV (fr := 4) (lo := 88) C G hI hS 30 0 (hI.at1 rfl) (fcE_30 g _ _) rfl mv_X11_begins km_X11_208 [.int s1, .int s0] (k_X11_begins l g s1 s0 x _  hq23) rfl (by first | exact ⟨by decide, by decide⟩ | exact ⟨by show _ ≤ _ + _; omega, by show _ ≤ _ + _; omega⟩) ⟨Nat.zero_le _, Nat.zero_le _⟩ hl.1 rfl (Nat.le_of_ble_eq_true rfl) dX11_news_63 (fun H locs hI hS => ?_)
  cases h
  exact w_vret C hI hS dX11_news_66
def f_X11_news_b32 (v1 : Int32) (v2 : Int32) (v3 : Int32) (s0 : Int32) (s1 : Int32) (x : st) : Option (st) := bnd (f_X11_take (s1 + s0) x) fun r9 x8 => if r9 = 0 then (some x8) else (bnd (f_X11_in v3 0 64 x8) fun r12 x11 => if r12 = 0 then (if 0 ≤ v3 then (f_X11_news_b63 7 v1 x11) else (f_X11_news_b63 6 v1 x11)) else (if inb v2 384 = true then if inb (x11 30 0 28) 4200 = true then lets (sx x11 70 0 (x11 30 0 28).toNatClampNeg (x11 43 0 v2.toNatClampNeg)) fun x16 => if inb (x16 30 0 28) 4200 = true then lets (sx x16 71 0 (x16 30 0 28).toNatClampNeg v3) fun x18 => if inb (x18 30 0 28) 4200 = true then lets (sx x18 72 0 (x18 30 0 28).toNatClampNeg (x18 30 0 29)) fun x20 => f_X11_news_b108 100 v1 v2 v3 0 x20 else none else none else none else none))
set_option maxHeartbeats 4000000 in
set_option maxRecDepth 100000 in
theorem w_X11_news_b32 {p : Program} {l : Launch} {e : Env} {s : State} {m : MethodId} {args : Array Value} {below : List Frame} {meth : Method} {c : Code} {g : gT} {x' : st} (C : cxt p s m meth c args cX11_news 5 RX11 none) (G : gst g s) (v1 : Int32) (v2 : Int32) (v3 : Int32) (s0 : Int32) (s1 : Int32) (x : st) (H : Heap) (locs : List Loc) (ls : Array Slot)  (h : f_X11_news_b32 v1 v2 v3 s0 s1 x = some x') (hI : wst g x H) (hS : va_S (zA (gz g)) s.heap H locs) (hl : lv_has ls 5 [(0, .ref (ga g 30 0)), (1, .int v1), (2, .int v2), (3, .int v3)]) : W p l e (rmC 5 110) s m args below meth c H locs 0 0 (MQ below (Qx g none x') args s 0 0 (zA (gz g))) (F0 m 32 ls [.int s0, .int s1, .ref (ga g 30 0)]) := by
  obtain ⟨hx, hb, hml, hown, hts, hlk, hrt⟩ := id C
  unfold f_X11_news_b32 at h
  refine lv_iadd hx hb dX11_news_32 ?_
  obtain ⟨r9, x8, hq10, h⟩ := bnd_some h
  refine w_callV (fr := 1) (lo := 21) C G hI hS 30 0 (hI.at1 rfl) (fcE_30 g _ _) rfl mv_X11_take km_X11_146 [.int (s1 + s0)] (k_X11_take l g (s1 + s0) x _ _  hq10) rfl (by first | exact ⟨by decide, by decide⟩ | exact ⟨by show _ ≤ _ + _; omega, by show _ ≤ _ + _; omega⟩) ⟨Nat.zero_le _, Nat.zero_le _⟩ hl.1 rfl (Nat.le_of_ble_eq_true rfl) dX11_news_33 (fun H locs hI hS => ?_)
  refine lv_if_ne (tgt := 40) hx hb dX11_news_36 (by decide) (fun hc => ?_) (fun hc => ?_)
  · replace h := ite_n hc h
    refine lv_iload_n hx hb dX11_news_40 rfl (lv_at hl 3 rfl) ?_
    refine lv_iconst (v := 0) hx hb dX11_news_41 (by decide) ?_
    refine lv_bipush (v := 64) hx hb dX11_news_42 (by decide) ?_
    obtain ⟨r12, x11, hq13, h⟩ := bnd_some h
    refine w_callS (fr := 0) (lo := 0) C G hI hS ms_X11_in km_X11_122 [.int v3, .int 0, .int 64] (k_X11_in l g v3 0 64 x8 _ _  hq13) rfl (by first | exact ⟨by decide, by decide⟩ | exact ⟨by show _ ≤ _ + _; omega, by show _ ≤ _ + _; omega⟩) ⟨Nat.zero_le _, Nat.zero_le _⟩ hl.1 rfl (Nat.le_of_ble_eq_true rfl) dX11_news_44 (fun H locs hI hS => ?_)
    refine lv_if_ne (tgt := 67) hx hb dX11_news_47 (by decide) (fun hc => ?_) (fun hc => ?_)
    · replace h := ite_n hc h
      refine lv_aload_n hx hb dX11_news_67 rfl (lv_at hl 0 rfl) ?_
      refine w_get C G hI 30 0 (hI.at1 rfl) (fcE_30 g _ _) rfl in_X11 30 (by decide) kf_X11_93 (fun _ h => h) (v := .ref (ga g 70 0)) rfl dX11_news_68 ?_
      refine lv_aload_n hx hb dX11_news_71 rfl (lv_at hl 0 rfl) ?_
      refine w_get C G hI 30 0 (hI.at1 rfl) (fcE_30 g _ _) rfl in_X11 28 (by decide) kf_X11_221 (fun _ h => h) (v := .int (x11 30 0 28)) rfl dX11_news_72 ?_
      refine lv_aload_n hx hb dX11_news_75 rfl (lv_at hl 0 rfl) ?_
      refine w_get C G hI 30 0 (hI.at1 rfl) (fcE_30 g _ _) rfl in_X11 3 (by decide) kf_X11_19 (fun _ h => h) (v := .ref (ga g 43 0)) rfl dX11_news_76 ?_
      refine lv_iload_n hx hb dX11_news_79 rfl (lv_at hl 2 rfl) ?_
      obtain ⟨hn14, h⟩ := need_t h
      refine w_iald C G hI 43 0 (hI.at1 rfl) (fcA_43 g _ _) (inb_in hn14) dX11_news_80 ?_
      obtain ⟨hn15, h⟩ := need_t h
      refine w_iast C G hI hS 70 0 (hI.at1 rfl) rfl (fcA_70 g _) (y := (x11 43 0 v2.toNatClampNeg)) (inb_in hn15) dX11_news_81 (fun H locs hI hS => ?_)
      obtain ⟨x16, e_x16, h⟩ := lets_some h
      rw [← e_x16] at hI
      refine lv_aload_n hx hb dX11_news_82 rfl (lv_at hl 0 rfl) ?_
      refine w_get C G hI 30 0 (hI.at1 rfl) (fcE_30 g _ _) rfl in_X11 31 (by decide) kf_X11_96 (fun _ h => h) (v := .ref (ga g 71 0)) rfl dX11_news_83 ?_
      refine lv_aload_n hx hb dX11_news_86 rfl (lv_at hl 0 rfl) ?_
      refine w_get C G hI 30 0 (hI.at1 rfl) (fcE_30 g _ _) rfl in_X11 28 (by decide) kf_X11_221 (fun _ h => h) (v := .int (x16 30 0 28)) rfl dX11_news_87 ?_
      refine lv_iload_n hx hb dX11_news_90 rfl (lv_at hl 3 rfl) ?_
      obtain ⟨hn17, h⟩ := need_t h
      refine w_iast C G hI hS 71 0 (hI.at1 rfl) rfl (fcA_71 g _) (y := v3) (inb_in hn17) dX11_news_91 (fun H locs hI hS => ?_)
      obtain ⟨x18, e_x18, h⟩ := lets_some h
      rw [← e_x18] at hI
      refine lv_aload_n hx hb dX11_news_92 rfl (lv_at hl 0 rfl) ?_
      refine w_get C G hI 30 0 (hI.at1 rfl) (fcE_30 g _ _) rfl in_X11 32 (by decide) kf_X11_99 (fun _ h => h) (v := .ref (ga g 72 0)) rfl dX11_news_93 ?_
      refine lv_aload_n hx hb dX11_news_96 rfl (lv_at hl 0 rfl) ?_
      refine w_get C G hI 30 0 (hI.at1 rfl) (fcE_30 g _ _) rfl in_X11 28 (by decide) kf_X11_221 (fun _ h => h) (v := .int (x18 30 0 28)) rfl dX11_news_97 ?_
      refine lv_aload_n hx hb dX11_news_100 rfl (lv_at hl 0 rfl) ?_
      refine w_get C G hI 30 0 (hI.at1 rfl) (fcE_30 g _ _) rfl in_X11 29 (by decide) kf_X11_224 (fun _ h => h) (v := .int (x18 30 0 29)) rfl dX11_news_101 ?_
      obtain ⟨hn19, h⟩ := need_t h
      refine w_iast C G hI hS 72 0 (hI.at1 rfl) rfl (fcA_72 g _) (y := (x18 30 0 29)) (inb_in hn19) dX11_news_104 (fun H locs hI hS => ?_)
      obtain ⟨x20, e_x20, h⟩ := lets_some h
      rw [← e_x20] at hI
      refine lv_iconst (v := 0) hx hb dX11_news_105 (by decide) ?_
      refine lv_istore (lv' := [(4, .int 0), (0, .ref (ga g 30 0)), (1, .int v1), (2, .int v2), (3, .int v3)]) hx hb dX11_news_106 hl (by decide) rfl (fun ls hl => ?_)
      exact w_X11_news_b108 C G 100 v1 v2 v3 0 x20 _ _ _  h hI hS (lv_sub hl [1, 2, 3, 4, 0] rfl)
    replace h := ite_y hc h
    refine lv_aload_n hx hb dX11_news_50 rfl (lv_at hl 0 rfl) ?_
    refine lv_iload_n hx hb dX11_news_51 rfl (lv_at hl 1 rfl) ?_
    refine lv_iload_n hx hb dX11_news_52 rfl (lv_at hl 3 rfl) ?_
    refine lv_if_ge (tgt := 61) hx hb dX11_news_53 (by decide) (fun hc => ?_) (fun hc => ?_)
    · replace h := ite_y hc h
      refine lv_bipush (v := 7) hx hb dX11_news_61 (by decide) ?_
      exact w_X11_news_b63 C G 7 v1 x11 _ _ _  h hI hS (lv_sub hl [] rfl)
    replace h := ite_n hc h
    refine lv_bipush (v := 6) hx hb dX11_news_56 (by decide) ?_
    refine lv_goto (tgt := 63) hx hb dX11_news_58 (by decide) ?_
    exact w_X11_news_b63 C G 6 v1 x11 _ _ _  h hI hS (lv_sub hl [] rfl)
  replace h := ite_y hc h
  cases h
  exact w_vret C hI hS dX11_news_39
def f_X11_news (a1 : Int32) (a2 : Int32) (x : st) : Option (st) := if inb a2 384 = true then bnd (f_X11_get a1 (x 44 0 a2.toNatClampNeg) x) fun r3 x2 => bnd (f_X11_in r3 0 64 x2) fun r6 x5 => if r6 = 0 then (f_X11_news_b32 a1 a2 r3 0 1 x5) else (f_X11_news_b32 a1 a2 r3 (r3 / 8) 1 x5) else none
set_option maxHeartbeats 4000000 in
set_option maxRecDepth 100000 in
theorem w_X11_news {p : Program} {l : Launch} {e : Env} {s : State} {m : MethodId} {args : Array Value} {below : List Frame} {meth : Method} {c : Code} {g : gT} {x' : st} (C : cxt p s m meth c args cX11_news 5 RX11 none) (G : gst g s) (a1 : Int32) (a2 : Int32) (x : st) (H : Heap) (locs : List Loc) (ls : Array Slot)  (h : f_X11_news a1 a2 x = some x') (hI : wst g x H) (hS : va_S (zA (gz g)) s.heap H locs) (hl : lv_has ls 5 [(0, .ref (ga g 30 0)), (1, .int a1), (2, .int a2)]) : W p l e (rmC 5 110) s m args below meth c H locs 0 0 (MQ below (Qx g none x') args s 0 0 (zA (gz g))) (F0 m 0 ls []) := by
  obtain ⟨hx, hb, hml, hown, hts, hlk, hrt⟩ := id C
  unfold f_X11_news at h
  refine lv_aload_n hx hb dX11_news_0 rfl (lv_at hl 0 rfl) ?_
  refine lv_iload_n hx hb dX11_news_1 rfl (lv_at hl 1 rfl) ?_
  refine lv_aload_n hx hb dX11_news_2 rfl (lv_at hl 0 rfl) ?_
  refine w_get C G hI 30 0 (hI.at1 rfl) (fcE_30 g _ _) rfl in_X11 4 (by decide) kf_X11_22 (fun _ h => h) (v := .ref (ga g 44 0)) rfl dX11_news_3 ?_
  refine lv_iload_n hx hb dX11_news_6 rfl (lv_at hl 2 rfl) ?_
  obtain ⟨hn1, h⟩ := need_t h
  refine w_iald C G hI 44 0 (hI.at1 rfl) (fcA_44 g _ _) (inb_in hn1) dX11_news_7 ?_
  obtain ⟨r3, x2, hq4, h⟩ := bnd_some h
  refine w_callV (fr := 0) (lo := 0) C G hI hS 30 0 (hI.at1 rfl) (fcE_30 g _ _) rfl mv_X11_get km_X11_211 [.int a1, .int (x 44 0 a2.toNatClampNeg)] (k_X11_get l g a1 (x 44 0 a2.toNatClampNeg) x _ _  hq4) rfl (by first | exact ⟨by decide, by decide⟩ | exact ⟨by show _ ≤ _ + _; omega, by show _ ≤ _ + _; omega⟩) ⟨Nat.zero_le _, Nat.zero_le _⟩ hl.1 rfl (Nat.le_of_ble_eq_true rfl) dX11_news_8 (fun H locs hI hS => ?_)
  refine lv_istore_n (lv' := [(3, .int r3), (0, .ref (ga g 30 0)), (1, .int a1), (2, .int a2)]) hx hb dX11_news_11 rfl hl (by decide) rfl (fun ls hl => ?_)
  refine lv_aload_n hx hb dX11_news_12 rfl (lv_at hl 1 rfl) ?_
  refine lv_iconst (v := 1) hx hb dX11_news_13 (by decide) ?_
  refine lv_iload_n hx hb dX11_news_14 rfl (lv_at hl 0 rfl) ?_
  refine lv_iconst (v := 0) hx hb dX11_news_15 (by decide) ?_
  refine lv_bipush (v := 64) hx hb dX11_news_16 (by decide) ?_
  obtain ⟨r6, x5, hq7, h⟩ := bnd_some h
  refine w_callS (fr := 0) (lo := 0) C G hI hS ms_X11_in km_X11_122 [.int r3, .int 0, .int 64] (k_X11_in l g r3 0 64 x2 _ _  hq7) rfl (by first | exact ⟨by decide, by decide⟩ | exact ⟨by show _ ≤ _ + _; omega, by show _ ≤ _ + _; omega⟩) ⟨Nat.zero_le _, Nat.zero_le _⟩ hl.1 rfl (Nat.le_of_ble_eq_true rfl) dX11_news_18 (fun H locs hI hS => ?_)
  refine lv_if_eq (tgt := 31) hx hb dX11_news_21 (by decide) (fun hc => ?_) (fun hc => ?_)
  · replace h := ite_y hc h
    refine lv_iconst (v := 0) hx hb dX11_news_31 (by decide) ?_
    exact w_X11_news_b32 C G a1 a2 r3 0 1 x5 _ _ _  h hI hS (lv_sub hl [1, 2, 3, 0] rfl)
  replace h := ite_n hc h
  refine lv_iload_n hx hb dX11_news_24 rfl (lv_at hl 0 rfl) ?_
  refine lv_bipush (v := 8) hx hb dX11_news_25 (by decide) ?_
  refine lv_idiv hx hb dX11_news_27 (by decide) ?_
  refine lv_goto (tgt := 32) hx hb dX11_news_28 (by decide) ?_
  exact w_X11_news_b32 C G a1 a2 r3 (r3 / 8) 1 x5 _ _ _  h hI hS (lv_sub hl [1, 2, 3, 0] rfl)
theorem k_X11_news (l : Launch) (g : gT) (a1 : Int32) (a2 : Int32) (x : st) (x' : st)  (h : f_X11_news a1 a2 x = some x') : Kt l yX11_news cX11_news 5 none 5 110 g [.ref (ga g 30 0), .int a1, .int a2] x none x' := by
  refine Kt.of (by decide) (fun p e s m below meth c C G hI => ?_)
  have hl := lv_entry ([.ref (ga g 30 0), .int a1, .int a2]) (n := 5) (Nat.le_of_ble_eq_true rfl)
  rw [lg_entry_eq]
  generalize (lg_sl ([.ref (ga g 30 0), .int a1, .int a2]) ++ List.replicate (5 - (lg_sl ([.ref (ga g 30 0), .int a1, .int a2])).length) Slot.unset).toArray = ls at hl ⊢
  have hl : lv_has ls 5 [(0, .ref (ga g 30 0)), (1, .int a1), (2, .int a2)] := hl
  exact w_X11_news C G a1 a2 x _ _ ls  h hI va_S.rf hl
theorem mv_X11_news : mtV yX11_news RX11 cX11_news 5 none 2 := ⟨ki_X11_news, kl_X11_news, kI_X11, kc_X11_news, by decide +kernel⟩

/-! X11_reckons -/
def f_X11_reckons_b182 (s0 : Int32) (s1 : Int32) (s2 : Int32) (x : st) : Option (Int32 × st) := bnv (f_X11_put s2 s1 s0 x) fun x28 => some (0, x28)
set_option maxHeartbeats 4000000 in
set_option maxRecDepth 100000 in
theorem w_X11_reckons_b182 {p : Program} {l : Launch} {e : Env} {s : State} {m : MethodId} {args : Array Value} {below : List Frame} {meth : Method} {c : Code} {g : gT} {r : Int32} {x' : st} (C : cxt p s m meth c args cX11_reckons 6 RX11 (some .int)) (G : gst g s) (s0 : Int32) (s1 : Int32) (s2 : Int32) (x : st) (H : Heap) (locs : List Loc) (ls : Array Slot)  (h : f_X11_reckons_b182 s0 s1 s2 x = some (r, x')) (hI : wst g x H) (hS : va_S (zA (gz g)) s.heap H locs) (hl : lv_has ls 6 []) : W p l e (rmC 1 23) s m args below meth c H locs 0 0 (MQ below (Qx g (some (.int r)) x') args s 0 0 (zA (gz g))) (F0 m 182 ls [.int s0, .int s1, .int s2, .ref (ga g 30 0)]) := by
  obtain ⟨hx, hb, hml, hown, hts, hlk, hrt⟩ := id C
  unfold f_X11_reckons_b182 at h
  obtain ⟨x28, hq30, h⟩ := bnv_some h
  refine w_callV (fr := 0) (lo := 0) C G hI hS 30 0 (hI.at1 rfl) (fcE_30 g _ _) rfl mv_X11_put km_X11_227 [.int s2, .int s1, .int s0] (k_X11_put l g s2 s1 s0 x _  hq30) rfl (by first | exact ⟨by decide, by decide⟩ | exact ⟨by show _ ≤ _ + _; omega, by show _ ≤ _ + _; omega⟩) ⟨Nat.zero_le _, Nat.zero_le _⟩ hl.1 rfl (Nat.le_of_ble_eq_true rfl) dX11_reckons_182 (fun H locs hI hS => ?_)
  refine lv_iconst (v := 0) hx hb dX11_reckons_185 (by decide) ?_
  cases h
  exact w_ireti C hI hS dX11_reckons_186
def f_X11_reckons_b57 (v1 : Int32) (v2 : Int32) (v3 : Int32) (v4 : Int32) (s0 : Int32) (x : st) : Option (Int32 × st) := if inb v2 384 = true then if (x 41 0 v2.toNatClampNeg) = 0 then (if inb v2 384 = true then bnv (f_X11_put v1 v3 (x 43 0 v2.toNatClampNeg) x) fun x14 => some (0, x14) else none) else if (x 41 0 v2.toNatClampNeg) = 1 then (bnv (f_X11_put v1 v3 (v4 + s0) x) fun x17 => some (0, x17)) else if (x 41 0 v2.toNatClampNeg) = 2 then (bnv (f_X11_put v1 v3 (v4 - s0) x) fun x20 => some (0, x20)) else if (x 41 0 v2.toNatClampNeg) = 3 then (bnv (f_X11_put v1 v3 (v4 * s0) x) fun x23 => some (0, x23)) else (if s0 = 0 then (some (1, x)) else (if inb v2 384 = true then if (x 41 0 v2.toNatClampNeg) = 4 then (if ¬ s0 = 0 then f_X11_reckons_b182 (v4 / s0) v3 v1 x else none) else (if ¬ s0 = 0 then f_X11_reckons_b182 (v4 - v4 / s0 * s0) v3 v1 x else none) else none)) else none
set_option maxHeartbeats 4000000 in
set_option maxRecDepth 100000 in
theorem w_X11_reckons_b57 {p : Program} {l : Launch} {e : Env} {s : State} {m : MethodId} {args : Array Value} {below : List Frame} {meth : Method} {c : Code} {g : gT} {r : Int32} {x' : st} (C : cxt p s m meth c args cX11_reckons 6 RX11 (some .int)) (G : gst g s) (v1 : Int32) (v2 : Int32) (v3 : Int32) (v4 : Int32) (s0 : Int32) (x : st) (H : Heap) (locs : List Loc) (ls : Array Slot)  (h : f_X11_reckons_b57 v1 v2 v3 v4 s0 x = some (r, x')) (hI : wst g x H) (hS : va_S (zA (gz g)) s.heap H locs) (hl : lv_has ls 6 [(0, .ref (ga g 30 0)), (1, .int v1), (2, .int v2), (3, .int v3), (4, .int v4)]) : W p l e (rmC 1 23) s m args below meth c H locs 0 0 (MQ below (Qx g (some (.int r)) x') args s 0 0 (zA (gz g))) (F0 m 57 ls [.int s0]) := by
  obtain ⟨hx, hb, hml, hown, hts, hlk, hrt⟩ := id C
  unfold f_X11_reckons_b57 at h
  refine lv_istore (lv' := [(5, .int s0), (0, .ref (ga g 30 0)), (1, .int v1), (2, .int v2), (3, .int v3), (4, .int v4)]) hx hb dX11_reckons_57 hl (by decide) rfl (fun ls hl => ?_)
  refine lv_aload_n hx hb dX11_reckons_59 rfl (lv_at hl 1 rfl) ?_
  refine w_get C G hI 30 0 (hI.at1 rfl) (fcE_30 g _ _) rfl in_X11 1 (by decide) kf_X11_13 (fun _ h => h) (v := .ref (ga g 41 0)) rfl dX11_reckons_60 ?_
  refine lv_iload_n hx hb dX11_reckons_63 rfl (lv_at hl 3 rfl) ?_
  obtain ⟨hn12, h⟩ := need_t h
  refine w_iald C G hI 41 0 (hI.at1 rfl) (fcA_41 g _ _) (inb_in hn12) dX11_reckons_64 ?_
  by_cases hc0 : (x 41 0 v2.toNatClampNeg) = 0
  · replace h := ite_y hc0 h
    refine lv_tableIn (off := 31) (tgt := 96) hx hb dX11_reckons_65 (by rw [hc0]; decide) (by rw [hc0]; decide) (by rw [hc0]; decide +kernel) (by decide) ?_
    refine lv_aload_n hx hb dX11_reckons_96 rfl (lv_at hl 1 rfl) ?_
    refine lv_iload_n hx hb dX11_reckons_97 rfl (lv_at hl 2 rfl) ?_
    refine lv_iload_n hx hb dX11_reckons_98 rfl (lv_at hl 4 rfl) ?_
    refine lv_aload_n hx hb dX11_reckons_99 rfl (lv_at hl 1 rfl) ?_
    refine w_get C G hI 30 0 (hI.at1 rfl) (fcE_30 g _ _) rfl in_X11 3 (by decide) kf_X11_19 (fun _ h => h) (v := .ref (ga g 43 0)) rfl dX11_reckons_100 ?_
    refine lv_iload_n hx hb dX11_reckons_103 rfl (lv_at hl 3 rfl) ?_
    obtain ⟨hn13, h⟩ := need_t h
    refine w_iald C G hI 43 0 (hI.at1 rfl) (fcA_43 g _ _) (inb_in hn13) dX11_reckons_104 ?_
    obtain ⟨x14, hq16, h⟩ := bnv_some h
    refine w_callV (fr := 0) (lo := 0) C G hI hS 30 0 (hI.at1 rfl) (fcE_30 g _ _) rfl mv_X11_put km_X11_227 [.int v1, .int v3, .int (x 43 0 v2.toNatClampNeg)] (k_X11_put l g v1 v3 (x 43 0 v2.toNatClampNeg) x _  hq16) rfl (by first | exact ⟨by decide, by decide⟩ | exact ⟨by show _ ≤ _ + _; omega, by show _ ≤ _ + _; omega⟩) ⟨Nat.zero_le _, Nat.zero_le _⟩ hl.1 rfl (Nat.le_of_ble_eq_true rfl) dX11_reckons_105 (fun H locs hI hS => ?_)
    refine lv_iconst (v := 0) hx hb dX11_reckons_108 (by decide) ?_
    cases h
    exact w_ireti C hI hS dX11_reckons_109
  replace h := ite_n hc0 h
  by_cases hc1 : (x 41 0 v2.toNatClampNeg) = 1
  · replace h := ite_y hc1 h
    refine lv_tableIn (off := 45) (tgt := 110) hx hb dX11_reckons_65 (by rw [hc1]; decide) (by rw [hc1]; decide) (by rw [hc1]; decide +kernel) (by decide) ?_
    refine lv_aload_n hx hb dX11_reckons_110 rfl (lv_at hl 1 rfl) ?_
    refine lv_iload_n hx hb dX11_reckons_111 rfl (lv_at hl 2 rfl) ?_
    refine lv_iload_n hx hb dX11_reckons_112 rfl (lv_at hl 4 rfl) ?_
    refine lv_iload hx hb dX11_reckons_113 (lv_at hl 5 rfl) ?_
    refine lv_iload hx hb dX11_reckons_115 (lv_at hl 0 rfl) ?_
    refine lv_iadd hx hb dX11_reckons_117 ?_
    obtain ⟨x17, hq19, h⟩ := bnv_some h
    refine w_callV (fr := 0) (lo := 0) C G hI hS 30 0 (hI.at1 rfl) (fcE_30 g _ _) rfl mv_X11_put km_X11_227 [.int v1, .int v3, .int (v4 + s0)] (k_X11_put l g v1 v3 (v4 + s0) x _  hq19) rfl (by first | exact ⟨by decide, by decide⟩ | exact ⟨by show _ ≤ _ + _; omega, by show _ ≤ _ + _; omega⟩) ⟨Nat.zero_le _, Nat.zero_le _⟩ hl.1 rfl (Nat.le_of_ble_eq_true rfl) dX11_reckons_118 (fun H locs hI hS => ?_)
    refine lv_iconst (v := 0) hx hb dX11_reckons_121 (by decide) ?_
    cases h
    exact w_ireti C hI hS dX11_reckons_122
  replace h := ite_n hc1 h
  by_cases hc2 : (x 41 0 v2.toNatClampNeg) = 2
  · replace h := ite_y hc2 h
    refine lv_tableIn (off := 58) (tgt := 123) hx hb dX11_reckons_65 (by rw [hc2]; decide) (by rw [hc2]; decide) (by rw [hc2]; decide +kernel) (by decide) ?_
    refine lv_aload_n hx hb dX11_reckons_123 rfl (lv_at hl 1 rfl) ?_
    refine lv_iload_n hx hb dX11_reckons_124 rfl (lv_at hl 2 rfl) ?_
    refine lv_iload_n hx hb dX11_reckons_125 rfl (lv_at hl 4 rfl) ?_
    refine lv_iload hx hb dX11_reckons_126 (lv_at hl 5 rfl) ?_
    refine lv_iload hx hb dX11_reckons_128 (lv_at hl 0 rfl) ?_
    refine lv_isub hx hb dX11_reckons_130 ?_
    obtain ⟨x20, hq22, h⟩ := bnv_some h
    refine w_callV (fr := 0) (lo := 0) C G hI hS 30 0 (hI.at1 rfl) (fcE_30 g _ _) rfl mv_X11_put km_X11_227 [.int v1, .int v3, .int (v4 - s0)] (k_X11_put l g v1 v3 (v4 - s0) x _  hq22) rfl (by first | exact ⟨by decide, by decide⟩ | exact ⟨by show _ ≤ _ + _; omega, by show _ ≤ _ + _; omega⟩) ⟨Nat.zero_le _, Nat.zero_le _⟩ hl.1 rfl (Nat.le_of_ble_eq_true rfl) dX11_reckons_131 (fun H locs hI hS => ?_)
    refine lv_iconst (v := 0) hx hb dX11_reckons_134 (by decide) ?_
    cases h
    exact w_ireti C hI hS dX11_reckons_135
  replace h := ite_n hc2 h
  by_cases hc3 : (x 41 0 v2.toNatClampNeg) = 3
  · replace h := ite_y hc3 h
    refine lv_tableIn (off := 71) (tgt := 136) hx hb dX11_reckons_65 (by rw [hc3]; decide) (by rw [hc3]; decide) (by rw [hc3]; decide +kernel) (by decide) ?_
    refine lv_aload_n hx hb dX11_reckons_136 rfl (lv_at hl 1 rfl) ?_
    refine lv_iload_n hx hb dX11_reckons_137 rfl (lv_at hl 2 rfl) ?_
    refine lv_iload_n hx hb dX11_reckons_138 rfl (lv_at hl 4 rfl) ?_
    refine lv_iload hx hb dX11_reckons_139 (lv_at hl 5 rfl) ?_
    refine lv_iload hx hb dX11_reckons_141 (lv_at hl 0 rfl) ?_
    refine lv_imul hx hb dX11_reckons_143 ?_
    obtain ⟨x23, hq25, h⟩ := bnv_some h
    refine w_callV (fr := 0) (lo := 0) C G hI hS 30 0 (hI.at1 rfl) (fcE_30 g _ _) rfl mv_X11_put km_X11_227 [.int v1, .int v3, .int (v4 * s0)] (k_X11_put l g v1 v3 (v4 * s0) x _  hq25) rfl (by first | exact ⟨by decide, by decide⟩ | exact ⟨by show _ ≤ _ + _; omega, by show _ ≤ _ + _; omega⟩) ⟨Nat.zero_le _, Nat.zero_le _⟩ hl.1 rfl (Nat.le_of_ble_eq_true rfl) dX11_reckons_144 (fun H locs hI hS => ?_)
    refine lv_iconst (v := 0) hx hb dX11_reckons_147 (by decide) ?_
    cases h
    exact w_ireti C hI hS dX11_reckons_148
  replace h := ite_n hc3 h
  refine lv_tableOut (tgt := 149) hx hb dX11_reckons_65 (sw_out 4 (by intro k hk; match k, hk with | 0, _ => exact hc0 | 1, _ => exact hc1 | 2, _ => exact hc2 | 3, _ => exact hc3 | k + 4, hk => exact absurd hk (by omega)) (by decide)) (by decide) ?_
  refine lv_iload hx hb dX11_reckons_149 (lv_at hl 0 rfl) ?_
  refine lv_if_ne (tgt := 156) hx hb dX11_reckons_151 (by decide) (fun hc => ?_) (fun hc => ?_)
  · replace h := ite_n hc h
    refine lv_aload_n hx hb dX11_reckons_156 rfl (lv_at hl 1 rfl) ?_
    refine lv_iload_n hx hb dX11_reckons_157 rfl (lv_at hl 2 rfl) ?_
    refine lv_iload_n hx hb dX11_reckons_158 rfl (lv_at hl 4 rfl) ?_
    refine lv_aload_n hx hb dX11_reckons_159 rfl (lv_at hl 1 rfl) ?_
    refine w_get C G hI 30 0 (hI.at1 rfl) (fcE_30 g _ _) rfl in_X11 1 (by decide) kf_X11_13 (fun _ h => h) (v := .ref (ga g 41 0)) rfl dX11_reckons_160 ?_
    refine lv_iload_n hx hb dX11_reckons_163 rfl (lv_at hl 3 rfl) ?_
    obtain ⟨hn26, h⟩ := need_t h
    refine w_iald C G hI 41 0 (hI.at1 rfl) (fcA_41 g _ _) (inb_in hn26) dX11_reckons_164 ?_
    refine lv_iconst (v := 4) hx hb dX11_reckons_165 (by decide) ?_
    refine lv_icmp_ne (tgt := 177) hx hb dX11_reckons_166 (by decide) (fun hc => ?_) (fun hc => ?_)
    · replace h := ite_n hc h
      refine lv_iload hx hb dX11_reckons_177 (lv_at hl 5 rfl) ?_
      refine lv_iload hx hb dX11_reckons_179 (lv_at hl 0 rfl) ?_
      obtain ⟨hn27, h⟩ := need_p h
      refine lv_irem hx hb dX11_reckons_181 hn27 ?_
      exact w_X11_reckons_b182 C G (v4 - v4 / s0 * s0) v3 v1 x _ _ _  h hI hS (lv_sub hl [] rfl)
    replace h := ite_y hc h
    refine lv_iload hx hb dX11_reckons_169 (lv_at hl 5 rfl) ?_
    refine lv_iload hx hb dX11_reckons_171 (lv_at hl 0 rfl) ?_
    obtain ⟨hn28, h⟩ := need_p h
    refine lv_idiv hx hb dX11_reckons_173 hn28 ?_
    refine lv_goto (tgt := 182) hx hb dX11_reckons_174 (by decide) ?_
    exact w_X11_reckons_b182 C G (v4 / s0) v3 v1 x _ _ _  h hI hS (lv_sub hl [] rfl)
  replace h := ite_y hc h
  refine lv_iconst (v := 1) hx hb dX11_reckons_154 (by decide) ?_
  cases h
  exact w_ireti C hI hS dX11_reckons_155
def f_X11_reckons_b31 (v1 : Int32) (v2 : Int32) (v3 : Int32) (s0 : Int32) (x : st) : Option (Int32 × st) := if inb v2 384 = true then if (x 41 0 v2.toNatClampNeg) = 0 then (f_X11_reckons_b57 v1 v2 v3 s0 0 x) else (if inb v2 384 = true then bnd (f_X11_get v1 (x 44 0 v2.toNatClampNeg) x) fun r10 x9 => f_X11_reckons_b57 v1 v2 v3 s0 r10 x9 else none) else none
set_option maxHeartbeats 4000000 in
set_option maxRecDepth 100000 in
theorem w_X11_reckons_b31 {p : Program} {l : Launch} {e : Env} {s : State} {m : MethodId} {args : Array Value} {below : List Frame} {meth : Method} {c : Code} {g : gT} {r : Int32} {x' : st} (C : cxt p s m meth c args cX11_reckons 6 RX11 (some .int)) (G : gst g s) (v1 : Int32) (v2 : Int32) (v3 : Int32) (s0 : Int32) (x : st) (H : Heap) (locs : List Loc) (ls : Array Slot)  (h : f_X11_reckons_b31 v1 v2 v3 s0 x = some (r, x')) (hI : wst g x H) (hS : va_S (zA (gz g)) s.heap H locs) (hl : lv_has ls 6 [(0, .ref (ga g 30 0)), (1, .int v1), (2, .int v2), (3, .int v3)]) : W p l e (rmC 1 23) s m args below meth c H locs 0 0 (MQ below (Qx g (some (.int r)) x') args s 0 0 (zA (gz g))) (F0 m 31 ls [.int s0]) := by
  obtain ⟨hx, hb, hml, hown, hts, hlk, hrt⟩ := id C
  unfold f_X11_reckons_b31 at h
  refine lv_istore (lv' := [(4, .int s0), (0, .ref (ga g 30 0)), (1, .int v1), (2, .int v2), (3, .int v3)]) hx hb dX11_reckons_31 hl (by decide) rfl (fun ls hl => ?_)
  refine lv_aload_n hx hb dX11_reckons_33 rfl (lv_at hl 1 rfl) ?_
  refine w_get C G hI 30 0 (hI.at1 rfl) (fcE_30 g _ _) rfl in_X11 1 (by decide) kf_X11_13 (fun _ h => h) (v := .ref (ga g 41 0)) rfl dX11_reckons_34 ?_
  refine lv_iload_n hx hb dX11_reckons_37 rfl (lv_at hl 3 rfl) ?_
  obtain ⟨hn7, h⟩ := need_t h
  refine w_iald C G hI 41 0 (hI.at1 rfl) (fcA_41 g _ _) (inb_in hn7) dX11_reckons_38 ?_
  refine lv_if_ne (tgt := 46) hx hb dX11_reckons_39 (by decide) (fun hc => ?_) (fun hc => ?_)
  · replace h := ite_n hc h
    refine lv_aload_n hx hb dX11_reckons_46 rfl (lv_at hl 1 rfl) ?_
    refine lv_iload_n hx hb dX11_reckons_47 rfl (lv_at hl 2 rfl) ?_
    refine lv_aload_n hx hb dX11_reckons_48 rfl (lv_at hl 1 rfl) ?_
    refine w_get C G hI 30 0 (hI.at1 rfl) (fcE_30 g _ _) rfl in_X11 4 (by decide) kf_X11_22 (fun _ h => h) (v := .ref (ga g 44 0)) rfl dX11_reckons_49 ?_
    refine lv_iload_n hx hb dX11_reckons_52 rfl (lv_at hl 3 rfl) ?_
    obtain ⟨hn8, h⟩ := need_t h
    refine w_iald C G hI 44 0 (hI.at1 rfl) (fcA_44 g _ _) (inb_in hn8) dX11_reckons_53 ?_
    obtain ⟨r10, x9, hq11, h⟩ := bnd_some h
    refine w_callV (fr := 0) (lo := 0) C G hI hS 30 0 (hI.at1 rfl) (fcE_30 g _ _) rfl mv_X11_get km_X11_211 [.int v1, .int (x 44 0 v2.toNatClampNeg)] (k_X11_get l g v1 (x 44 0 v2.toNatClampNeg) x _ _  hq11) rfl (by first | exact ⟨by decide, by decide⟩ | exact ⟨by show _ ≤ _ + _; omega, by show _ ≤ _ + _; omega⟩) ⟨Nat.zero_le _, Nat.zero_le _⟩ hl.1 rfl (Nat.le_of_ble_eq_true rfl) dX11_reckons_54 (fun H locs hI hS => ?_)
    exact w_X11_reckons_b57 C G v1 v2 v3 s0 r10 x9 _ _ _  h hI hS (lv_sub hl [1, 2, 3, 4, 0] rfl)
  replace h := ite_y hc h
  refine lv_iconst (v := 0) hx hb dX11_reckons_42 (by decide) ?_
  refine lv_goto (tgt := 57) hx hb dX11_reckons_43 (by decide) ?_
  exact w_X11_reckons_b57 C G v1 v2 v3 s0 0 x _ _ _  h hI hS (lv_sub hl [1, 2, 3, 4, 0] rfl)
def f_X11_reckons (a1 : Int32) (a2 : Int32) (x : st) : Option (Int32 × st) := if inb a2 384 = true then if inb a2 384 = true then if (x 41 0 a2.toNatClampNeg) = 0 then (f_X11_reckons_b31 a1 a2 (x 42 0 a2.toNatClampNeg) 0 x) else (if inb a2 384 = true then bnd (f_X11_get a1 (x 43 0 a2.toNatClampNeg) x) fun r5 x4 => f_X11_reckons_b31 a1 a2 (x 42 0 a2.toNatClampNeg) r5 x4 else none) else none else none
set_option maxHeartbeats 4000000 in
set_option maxRecDepth 100000 in
theorem w_X11_reckons {p : Program} {l : Launch} {e : Env} {s : State} {m : MethodId} {args : Array Value} {below : List Frame} {meth : Method} {c : Code} {g : gT} {r : Int32} {x' : st} (C : cxt p s m meth c args cX11_reckons 6 RX11 (some .int)) (G : gst g s) (a1 : Int32) (a2 : Int32) (x : st) (H : Heap) (locs : List Loc) (ls : Array Slot)  (h : f_X11_reckons a1 a2 x = some (r, x')) (hI : wst g x H) (hS : va_S (zA (gz g)) s.heap H locs) (hl : lv_has ls 6 [(0, .ref (ga g 30 0)), (1, .int a1), (2, .int a2)]) : W p l e (rmC 1 23) s m args below meth c H locs 0 0 (MQ below (Qx g (some (.int r)) x') args s 0 0 (zA (gz g))) (F0 m 0 ls []) := by
  obtain ⟨hx, hb, hml, hown, hts, hlk, hrt⟩ := id C
  unfold f_X11_reckons at h
  refine lv_aload_n hx hb dX11_reckons_0 rfl (lv_at hl 0 rfl) ?_
  refine w_get C G hI 30 0 (hI.at1 rfl) (fcE_30 g _ _) rfl in_X11 2 (by decide) kf_X11_16 (fun _ h => h) (v := .ref (ga g 42 0)) rfl dX11_reckons_1 ?_
  refine lv_iload_n hx hb dX11_reckons_4 rfl (lv_at hl 2 rfl) ?_
  obtain ⟨hn1, h⟩ := need_t h
  refine w_iald C G hI 42 0 (hI.at1 rfl) (fcA_42 g _ _) (inb_in hn1) dX11_reckons_5 ?_
  refine lv_istore_n (lv' := [(3, .int (x 42 0 a2.toNatClampNeg)), (0, .ref (ga g 30 0)), (1, .int a1), (2, .int a2)]) hx hb dX11_reckons_6 rfl hl (by decide) rfl (fun ls hl => ?_)
  refine lv_aload_n hx hb dX11_reckons_7 rfl (lv_at hl 1 rfl) ?_
  refine w_get C G hI 30 0 (hI.at1 rfl) (fcE_30 g _ _) rfl in_X11 1 (by decide) kf_X11_13 (fun _ h => h) (v := .ref (ga g 41 0)) rfl dX11_reckons_8 ?_
  refine lv_iload_n hx hb dX11_reckons_11 rfl (lv_at hl 3 rfl) ?_
  obtain ⟨hn2, h⟩ := need_t h
  refine w_iald C G hI 41 0 (hI.at1 rfl) (fcA_41 g _ _) (inb_in hn2) dX11_reckons_12 ?_
  refine lv_if_ne (tgt := 20) hx hb dX11_reckons_13 (by decide) (fun hc => ?_) (fun hc => ?_)
  · replace h := ite_n hc h
    refine lv_aload_n hx hb dX11_reckons_20 rfl (lv_at hl 1 rfl) ?_
    refine lv_iload_n hx hb dX11_reckons_21 rfl (lv_at hl 2 rfl) ?_
    refine lv_aload_n hx hb dX11_reckons_22 rfl (lv_at hl 1 rfl) ?_
    refine w_get C G hI 30 0 (hI.at1 rfl) (fcE_30 g _ _) rfl in_X11 3 (by decide) kf_X11_19 (fun _ h => h) (v := .ref (ga g 43 0)) rfl dX11_reckons_23 ?_
    refine lv_iload_n hx hb dX11_reckons_26 rfl (lv_at hl 3 rfl) ?_
    obtain ⟨hn3, h⟩ := need_t h
    refine w_iald C G hI 43 0 (hI.at1 rfl) (fcA_43 g _ _) (inb_in hn3) dX11_reckons_27 ?_
    obtain ⟨r5, x4, hq6, h⟩ := bnd_some h
    refine w_callV (fr := 0) (lo := 0) C G hI hS 30 0 (hI.at1 rfl) (fcE_30 g _ _) rfl mv_X11_get km_X11_211 [.int a1, .int (x 43 0 a2.toNatClampNeg)] (k_X11_get l g a1 (x 43 0 a2.toNatClampNeg) x _ _  hq6) rfl (by first | exact ⟨by decide, by decide⟩ | exact ⟨by show _ ≤ _ + _; omega, by show _ ≤ _ + _; omega⟩) ⟨Nat.zero_le _, Nat.zero_le _⟩ hl.1 rfl (Nat.le_of_ble_eq_true rfl) dX11_reckons_28 (fun H locs hI hS => ?_)
    exact w_X11_reckons_b31 C G a1 a2 (x 42 0 a2.toNatClampNeg) r5 x4 _ _ _  h hI hS (lv_sub hl [1, 2, 3, 0] rfl)
  replace h := ite_y hc h
  refine lv_iconst (v := 0) hx hb dX11_reckons_16 (by decide) ?_
  refine lv_goto (tgt := 31) hx hb dX11_reckons_17 (by decide) ?_
  exact w_X11_reckons_b31 C G a1 a2 (x 42 0 a2.toNatClampNeg) 0 x _ _ _  h hI hS (lv_sub hl [1, 2, 3, 0] rfl)
theorem k_X11_reckons (l : Launch) (g : gT) (a1 : Int32) (a2 : Int32) (x : st) (r : Int32) (x' : st)  (h : f_X11_reckons a1 a2 x = some (r, x')) : Kt l yX11_reckons cX11_reckons 6 (some .int) 1 23 g [.ref (ga g 30 0), .int a1, .int a2] x (some (.int r)) x' := by
  refine Kt.of (by decide) (fun p e s m below meth c C G hI => ?_)
  have hl := lv_entry ([.ref (ga g 30 0), .int a1, .int a2]) (n := 6) (Nat.le_of_ble_eq_true rfl)
  rw [lg_entry_eq]
  generalize (lg_sl ([.ref (ga g 30 0), .int a1, .int a2]) ++ List.replicate (6 - (lg_sl ([.ref (ga g 30 0), .int a1, .int a2])).length) Slot.unset).toArray = ls at hl ⊢
  have hl : lv_has ls 6 [(0, .ref (ga g 30 0)), (1, .int a1), (2, .int a2)] := hl
  exact w_X11_reckons C G a1 a2 x _ _ ls  h hI va_S.rf hl
theorem mv_X11_reckons : mtV yX11_reckons RX11 cX11_reckons 6 (some .int) 2 := ⟨ki_X11_reckons, kl_X11_reckons, kI_X11, kc_X11_reckons, by decide +kernel⟩

/-! X11_look -/
def f_X11_look (a1 : Int32) (a2 : Int32) (a3 : Int32) (x : st) : Option (Int32 × st) := if a1 = (-3) then (some (2, x)) else (if inb a1 4200 = true then if (x 70 0 a1.toNatClampNeg) = a2 then (if inb a1 4200 = true then bnd (f_X11_in a3 0 ((x 71 0 a1.toNatClampNeg) - 1) x) fun r4 x3 => if r4 = 0 then (some (5, x3)) else (some (0, x3)) else none) else (some (3, x)) else none)
set_option maxHeartbeats 4000000 in
set_option maxRecDepth 100000 in
theorem w_X11_look {p : Program} {l : Launch} {e : Env} {s : State} {m : MethodId} {args : Array Value} {below : List Frame} {meth : Method} {c : Code} {g : gT} {r : Int32} {x' : st} (C : cxt p s m meth c args cX11_look 4 RX11 (some .int)) (G : gst g s) (a1 : Int32) (a2 : Int32) (a3 : Int32) (x : st) (H : Heap) (locs : List Loc) (ls : Array Slot)  (h : f_X11_look a1 a2 a3 x = some (r, x')) (hI : wst g x H) (hS : va_S (zA (gz g)) s.heap H locs) (hl : lv_has ls 4 [(0, .ref (ga g 30 0)), (1, .int a1), (2, .int a2), (3, .int a3)]) : W p l e (rmC 1 22) s m args below meth c H locs 0 0 (MQ below (Qx g (some (.int r)) x') args s 0 0 (zA (gz g))) (F0 m 0 ls []) := by
  obtain ⟨hx, hb, hml, hown, hts, hlk, hrt⟩ := id C
  unfold f_X11_look at h
  refine lv_iload_n hx hb dX11_look_0 rfl (lv_at hl 1 rfl) ?_
  refine lv_bipush (v := (-3)) hx hb dX11_look_1 (by decide) ?_
  refine lv_icmp_ne (tgt := 10) hx hb dX11_look_3 (by decide) (fun hc => ?_) (fun hc => ?_)
  · replace h := ite_n hc h
    refine lv_aload_n hx hb dX11_look_10 rfl (lv_at hl 0 rfl) ?_
    refine w_get C G hI 30 0 (hI.at1 rfl) (fcE_30 g _ _) rfl in_X11 30 (by decide) kf_X11_93 (fun _ h => h) (v := .ref (ga g 70 0)) rfl dX11_look_11 ?_
    refine lv_iload_n hx hb dX11_look_14 rfl (lv_at hl 1 rfl) ?_
    obtain ⟨hn1, h⟩ := need_t h
    refine w_iald C G hI 70 0 (hI.at1 rfl) (fcA_70 g _ _) (inb_in hn1) dX11_look_15 ?_
    refine lv_iload_n hx hb dX11_look_16 rfl (lv_at hl 2 rfl) ?_
    refine lv_icmp_eq (tgt := 24) hx hb dX11_look_17 (by decide) (fun hc => ?_) (fun hc => ?_)
    · replace h := ite_y hc h
      refine lv_iload_n hx hb dX11_look_24 rfl (lv_at hl 3 rfl) ?_
      refine lv_iconst (v := 0) hx hb dX11_look_25 (by decide) ?_
      refine lv_aload_n hx hb dX11_look_26 rfl (lv_at hl 0 rfl) ?_
      refine w_get C G hI 30 0 (hI.at1 rfl) (fcE_30 g _ _) rfl in_X11 31 (by decide) kf_X11_96 (fun _ h => h) (v := .ref (ga g 71 0)) rfl dX11_look_27 ?_
      refine lv_iload_n hx hb dX11_look_30 rfl (lv_at hl 1 rfl) ?_
      obtain ⟨hn2, h⟩ := need_t h
      refine w_iald C G hI 71 0 (hI.at1 rfl) (fcA_71 g _ _) (inb_in hn2) dX11_look_31 ?_
      refine lv_iconst (v := 1) hx hb dX11_look_32 (by decide) ?_
      refine lv_isub hx hb dX11_look_33 ?_
      obtain ⟨r4, x3, hq5, h⟩ := bnd_some h
      refine w_callS (fr := 0) (lo := 0) C G hI hS ms_X11_in km_X11_122 [.int a3, .int 0, .int ((x 71 0 a1.toNatClampNeg) - 1)] (k_X11_in l g a3 0 ((x 71 0 a1.toNatClampNeg) - 1) x _ _  hq5) rfl (by first | exact ⟨by decide, by decide⟩ | exact ⟨by show _ ≤ _ + _; omega, by show _ ≤ _ + _; omega⟩) ⟨Nat.zero_le _, Nat.zero_le _⟩ hl.1 rfl (Nat.le_of_ble_eq_true rfl) dX11_look_34 (fun H locs hI hS => ?_)
      refine lv_if_eq (tgt := 44) hx hb dX11_look_37 (by decide) (fun hc => ?_) (fun hc => ?_)
      · replace h := ite_y hc h
        refine lv_iconst (v := 5) hx hb dX11_look_44 (by decide) ?_
        cases h
        exact w_ireti C hI hS dX11_look_45
      replace h := ite_n hc h
      refine lv_iconst (v := 0) hx hb dX11_look_40 (by decide) ?_
      refine lv_goto (tgt := 45) hx hb dX11_look_41 (by decide) ?_
      cases h
      exact w_ireti C hI hS dX11_look_45
    replace h := ite_n hc h
    refine lv_iconst (v := 3) hx hb dX11_look_20 (by decide) ?_
    refine lv_goto (tgt := 45) hx hb dX11_look_21 (by decide) ?_
    cases h
    exact w_ireti C hI hS dX11_look_45
  replace h := ite_y hc h
  refine lv_iconst (v := 2) hx hb dX11_look_6 (by decide) ?_
  refine lv_goto (tgt := 45) hx hb dX11_look_7 (by decide) ?_
  cases h
  exact w_ireti C hI hS dX11_look_45
theorem k_X11_look (l : Launch) (g : gT) (a1 : Int32) (a2 : Int32) (a3 : Int32) (x : st) (r : Int32) (x' : st)  (h : f_X11_look a1 a2 a3 x = some (r, x')) : Kt l yX11_look cX11_look 4 (some .int) 1 22 g [.ref (ga g 30 0), .int a1, .int a2, .int a3] x (some (.int r)) x' := by
  refine Kt.of (by decide) (fun p e s m below meth c C G hI => ?_)
  have hl := lv_entry ([.ref (ga g 30 0), .int a1, .int a2, .int a3]) (n := 4) (Nat.le_of_ble_eq_true rfl)
  rw [lg_entry_eq]
  generalize (lg_sl ([.ref (ga g 30 0), .int a1, .int a2, .int a3]) ++ List.replicate (4 - (lg_sl ([.ref (ga g 30 0), .int a1, .int a2, .int a3])).length) Slot.unset).toArray = ls at hl ⊢
  have hl : lv_has ls 4 [(0, .ref (ga g 30 0)), (1, .int a1), (2, .int a2), (3, .int a3)] := hl
  exact w_X11_look C G a1 a2 a3 x _ _ ls  h hI va_S.rf hl
theorem mv_X11_look : mtV yX11_look RX11 cX11_look 4 (some .int) 3 := ⟨ki_X11_look, kl_X11_look, kI_X11, kc_X11_look, by decide +kernel⟩

/-! X11_copies -/
def f_X11_copies_b12  (x : st) : Option (Int32 × st) := some (2, x)
set_option maxHeartbeats 4000000 in
set_option maxRecDepth 100000 in
theorem w_X11_copies_b12 {p : Program} {l : Launch} {e : Env} {s : State} {m : MethodId} {args : Array Value} {below : List Frame} {meth : Method} {c : Code} {g : gT} {r : Int32} {x' : st} (C : cxt p s m meth c args cX11_copies 5 RX11 (some .int)) (G : gst g s)  (x : st) (H : Heap) (locs : List Loc) (ls : Array Slot)  (h : f_X11_copies_b12  x = some (r, x')) (hI : wst g x H) (hS : va_S (zA (gz g)) s.heap H locs) (hl : lv_has ls 5 []) : W p l e (rmC 0 0) s m args below meth c H locs 0 0 (MQ below (Qx g (some (.int r)) x') args s 0 0 (zA (gz g))) (F0 m 12 ls []) := by
  obtain ⟨hx, hb, hml, hown, hts, hlk, hrt⟩ := id C
  unfold f_X11_copies_b12 at h
  refine lv_iconst (v := 2) hx hb dX11_copies_12 (by decide) ?_
  cases h
  exact w_ireti C hI hS dX11_copies_13
def f_X11_copies_b55  (x : st) : Option (Int32 × st) := some (5, x)
set_option maxHeartbeats 4000000 in
set_option maxRecDepth 100000 in
theorem w_X11_copies_b55 {p : Program} {l : Launch} {e : Env} {s : State} {m : MethodId} {args : Array Value} {below : List Frame} {meth : Method} {c : Code} {g : gT} {r : Int32} {x' : st} (C : cxt p s m meth c args cX11_copies 5 RX11 (some .int)) (G : gst g s)  (x : st) (H : Heap) (locs : List Loc) (ls : Array Slot)  (h : f_X11_copies_b55  x = some (r, x')) (hI : wst g x H) (hS : va_S (zA (gz g)) s.heap H locs) (hl : lv_has ls 5 []) : W p l e (rmC 0 0) s m args below meth c H locs 0 0 (MQ below (Qx g (some (.int r)) x') args s 0 0 (zA (gz g))) (F0 m 55 ls []) := by
  obtain ⟨hx, hb, hml, hown, hts, hlk, hrt⟩ := id C
  unfold f_X11_copies_b55 at h
  refine lv_iconst (v := 5) hx hb dX11_copies_55 (by decide) ?_
  cases h
  exact w_ireti C hI hS dX11_copies_56
def f_X11_copies_b60 : Nat → Int32 → Int32 → Int32 → Int32 → st → Option (Int32 × st)
  | 0, _, _, _, _, _ => none
  | n + 1, v1, v2, v3, v4, x => if v3 ≤ v4 then (some (0, x)) else (if inb v2 4200 = true then if inb v1 4200 = true then if inb ((x 72 0 v1.toNatClampNeg) + v4) 34000 = true then if inb ((x 72 0 v2.toNatClampNeg) + v4) 34000 = true then lets (sx x 73 0 ((x 72 0 v2.toNatClampNeg) + v4).toNatClampNeg (x 73 0 ((x 72 0 v1.toNatClampNeg) + v4).toNatClampNeg)) fun x9 => f_X11_copies_b60 n v1 v2 v3 (v4 + 1) x9 else none else none else none else none)
set_option maxHeartbeats 4000000 in
set_option maxRecDepth 100000 in
theorem w_X11_copies_b60 {p : Program} {l : Launch} {e : Env} {s : State} {m : MethodId} {args : Array Value} {below : List Frame} {meth : Method} {c : Code} {g : gT} {r : Int32} {x' : st} (C : cxt p s m meth c args cX11_copies 5 RX11 (some .int)) (G : gst g s) : ∀ (n : Nat) (v1 : Int32) (v2 : Int32) (v3 : Int32) (v4 : Int32) (x : st) (H : Heap) (locs : List Loc) (ls : Array Slot), f_X11_copies_b60 n v1 v2 v3 v4 x = some (r, x') → wst g x H → va_S (zA (gz g)) s.heap H locs → lv_has ls 5 [(0, .ref (ga g 30 0)), (1, .int v1), (2, .int v2), (3, .int v3), (4, .int v4)] → W p l e (rmC 0 0) s m args below meth c H locs 0 0 (MQ below (Qx g (some (.int r)) x') args s 0 0 (zA (gz g))) (F0 m 60 ls []) := by
  obtain ⟨hx, hb, hml, hown, hts, hlk, hrt⟩ := id C
  intro n
  induction n with
  | zero =>
    intro v1 v2 v3 v4 x H locs ls h hI hS hl
    simp [f_X11_copies_b60] at h
  | succ n ih =>
    intro v1 v2 v3 v4 x H locs ls h hI hS hl
    unfold f_X11_copies_b60 at h
    refine lv_iload hx hb dX11_copies_60 (lv_at hl 4 rfl) ?_
    refine lv_iload_n hx hb dX11_copies_62 rfl (lv_at hl 3 rfl) ?_
    refine lv_icmp_ge (tgt := 100) hx hb dX11_copies_63 (by decide) (fun hc => ?_) (fun hc => ?_)
    · replace h := ite_y hc h
      refine lv_iconst (v := 0) hx hb dX11_copies_100 (by decide) ?_
      cases h
      exact w_ireti C hI hS dX11_copies_101
    replace h := ite_n hc h
    refine lv_aload_n hx hb dX11_copies_66 rfl (lv_at hl 0 rfl) ?_
    refine w_get C G hI 30 0 (hI.at1 rfl) (fcE_30 g _ _) rfl in_X11 33 (by decide) kf_X11_103 (fun _ h => h) (v := .ref (ga g 73 0)) rfl dX11_copies_67 ?_
    refine lv_aload_n hx hb dX11_copies_70 rfl (lv_at hl 0 rfl) ?_
    refine w_get C G hI 30 0 (hI.at1 rfl) (fcE_30 g _ _) rfl in_X11 32 (by decide) kf_X11_99 (fun _ h => h) (v := .ref (ga g 72 0)) rfl dX11_copies_71 ?_
    refine lv_iload_n hx hb dX11_copies_74 rfl (lv_at hl 2 rfl) ?_
    obtain ⟨hn5, h⟩ := need_t h
    refine w_iald C G hI 72 0 (hI.at1 rfl) (fcA_72 g _ _) (inb_in hn5) dX11_copies_75 ?_
    refine lv_iload hx hb dX11_copies_76 (lv_at hl 4 rfl) ?_
    refine lv_iadd hx hb dX11_copies_78 ?_
    refine lv_aload_n hx hb dX11_copies_79 rfl (lv_at hl 0 rfl) ?_
    refine w_get C G hI 30 0 (hI.at1 rfl) (fcE_30 g _ _) rfl in_X11 33 (by decide) kf_X11_103 (fun _ h => h) (v := .ref (ga g 73 0)) rfl dX11_copies_80 ?_
    refine lv_aload_n hx hb dX11_copies_83 rfl (lv_at hl 0 rfl) ?_
    refine w_get C G hI 30 0 (hI.at1 rfl) (fcE_30 g _ _) rfl in_X11 32 (by decide) kf_X11_99 (fun _ h => h) (v := .ref (ga g 72 0)) rfl dX11_copies_84 ?_
    refine lv_iload_n hx hb dX11_copies_87 rfl (lv_at hl 1 rfl) ?_
    obtain ⟨hn6, h⟩ := need_t h
    refine w_iald C G hI 72 0 (hI.at1 rfl) (fcA_72 g _ _) (inb_in hn6) dX11_copies_88 ?_
    refine lv_iload hx hb dX11_copies_89 (lv_at hl 4 rfl) ?_
    refine lv_iadd hx hb dX11_copies_91 ?_
    obtain ⟨hn7, h⟩ := need_t h
    refine w_lald C G hI 73 0 (hI.at1 rfl) (fcA_73 g _ _) (inb_in hn7) dX11_copies_92 ?_
    obtain ⟨hn8, h⟩ := need_t h
    refine w_last C G hI hS 73 0 (hI.at1 rfl) rfl (fcA_73 g _) (y := (x 73 0 ((x 72 0 v1.toNatClampNeg) + v4).toNatClampNeg)) (inb_in hn8) dX11_copies_93 (fun H locs hI hS => ?_)
    obtain ⟨x9, e_x9, h⟩ := lets_some h
    rw [← e_x9] at hI
    refine lv_iinc (v := (v4 + 1)) (lv' := [(4, .int (v4 + 1)), (0, .ref (ga g 30 0)), (1, .int v1), (2, .int v2), (3, .int v3)]) hx hb dX11_copies_94 hl (k := 4) rfl rfl (by decide) rfl (fun ls hl => ?_)
    refine lv_goto (tgt := 60) hx hb dX11_copies_97 (by decide) ?_
    exact ih v1 v2 v3 (v4 + 1) x9 _ _ _  h hI hS (lv_sub hl [1, 2, 3, 4, 0] rfl)
def f_X11_copies (a1 : Int32) (a2 : Int32) (a3 : Int32) (x : st) : Option (Int32 × st) := if a1 = (-3) then (f_X11_copies_b12  x) else (if a2 = (-3) then (f_X11_copies_b12  x) else (if inb a1 4200 = true then if inb a2 4200 = true then if (x 70 0 a1.toNatClampNeg) = (x 70 0 a2.toNatClampNeg) then (if a3 < 0 then (f_X11_copies_b55  x) else (if inb a1 4200 = true then if (x 71 0 a1.toNatClampNeg) < a3 then (f_X11_copies_b55  x) else (if inb a2 4200 = true then if a3 ≤ (x 71 0 a2.toNatClampNeg) then (f_X11_copies_b60 100 a1 a2 a3 0 x) else (f_X11_copies_b55  x) else none) else none)) else (some (4, x)) else none else none))
set_option maxHeartbeats 4000000 in
set_option maxRecDepth 100000 in
theorem w_X11_copies {p : Program} {l : Launch} {e : Env} {s : State} {m : MethodId} {args : Array Value} {below : List Frame} {meth : Method} {c : Code} {g : gT} {r : Int32} {x' : st} (C : cxt p s m meth c args cX11_copies 5 RX11 (some .int)) (G : gst g s) (a1 : Int32) (a2 : Int32) (a3 : Int32) (x : st) (H : Heap) (locs : List Loc) (ls : Array Slot)  (h : f_X11_copies a1 a2 a3 x = some (r, x')) (hI : wst g x H) (hS : va_S (zA (gz g)) s.heap H locs) (hl : lv_has ls 5 [(0, .ref (ga g 30 0)), (1, .int a1), (2, .int a2), (3, .int a3)]) : W p l e (rmC 0 0) s m args below meth c H locs 0 0 (MQ below (Qx g (some (.int r)) x') args s 0 0 (zA (gz g))) (F0 m 0 ls []) := by
  obtain ⟨hx, hb, hml, hown, hts, hlk, hrt⟩ := id C
  unfold f_X11_copies at h
  refine lv_iload_n hx hb dX11_copies_0 rfl (lv_at hl 1 rfl) ?_
  refine lv_bipush (v := (-3)) hx hb dX11_copies_1 (by decide) ?_
  refine lv_icmp_eq (tgt := 12) hx hb dX11_copies_3 (by decide) (fun hc => ?_) (fun hc => ?_)
  · replace h := ite_y hc h
    exact w_X11_copies_b12 C G  x _ _ _  h hI hS (lv_sub hl [] rfl)
  replace h := ite_n hc h
  refine lv_iload_n hx hb dX11_copies_6 rfl (lv_at hl 2 rfl) ?_
  refine lv_bipush (v := (-3)) hx hb dX11_copies_7 (by decide) ?_
  refine lv_icmp_ne (tgt := 14) hx hb dX11_copies_9 (by decide) (fun hc => ?_) (fun hc => ?_)
  · replace h := ite_n hc h
    refine lv_aload_n hx hb dX11_copies_14 rfl (lv_at hl 0 rfl) ?_
    refine w_get C G hI 30 0 (hI.at1 rfl) (fcE_30 g _ _) rfl in_X11 30 (by decide) kf_X11_93 (fun _ h => h) (v := .ref (ga g 70 0)) rfl dX11_copies_15 ?_
    refine lv_iload_n hx hb dX11_copies_18 rfl (lv_at hl 1 rfl) ?_
    obtain ⟨hn1, h⟩ := need_t h
    refine w_iald C G hI 70 0 (hI.at1 rfl) (fcA_70 g _ _) (inb_in hn1) dX11_copies_19 ?_
    refine lv_aload_n hx hb dX11_copies_20 rfl (lv_at hl 0 rfl) ?_
    refine w_get C G hI 30 0 (hI.at1 rfl) (fcE_30 g _ _) rfl in_X11 30 (by decide) kf_X11_93 (fun _ h => h) (v := .ref (ga g 70 0)) rfl dX11_copies_21 ?_
    refine lv_iload_n hx hb dX11_copies_24 rfl (lv_at hl 2 rfl) ?_
    obtain ⟨hn2, h⟩ := need_t h
    refine w_iald C G hI 70 0 (hI.at1 rfl) (fcA_70 g _ _) (inb_in hn2) dX11_copies_25 ?_
    refine lv_icmp_eq (tgt := 31) hx hb dX11_copies_26 (by decide) (fun hc => ?_) (fun hc => ?_)
    · replace h := ite_y hc h
      refine lv_iload_n hx hb dX11_copies_31 rfl (lv_at hl 3 rfl) ?_
      refine lv_if_lt (tgt := 55) hx hb dX11_copies_32 (by decide) (fun hc => ?_) (fun hc => ?_)
      · replace h := ite_y hc h
        exact w_X11_copies_b55 C G  x _ _ _  h hI hS (lv_sub hl [] rfl)
      replace h := ite_n hc h
      refine lv_iload_n hx hb dX11_copies_35 rfl (lv_at hl 3 rfl) ?_
      refine lv_aload_n hx hb dX11_copies_36 rfl (lv_at hl 0 rfl) ?_
      refine w_get C G hI 30 0 (hI.at1 rfl) (fcE_30 g _ _) rfl in_X11 31 (by decide) kf_X11_96 (fun _ h => h) (v := .ref (ga g 71 0)) rfl dX11_copies_37 ?_
      refine lv_iload_n hx hb dX11_copies_40 rfl (lv_at hl 1 rfl) ?_
      obtain ⟨hn3, h⟩ := need_t h
      refine w_iald C G hI 71 0 (hI.at1 rfl) (fcA_71 g _ _) (inb_in hn3) dX11_copies_41 ?_
      refine lv_icmp_gt (tgt := 55) hx hb dX11_copies_42 (by decide) (fun hc => ?_) (fun hc => ?_)
      · replace h := ite_y hc h
        exact w_X11_copies_b55 C G  x _ _ _  h hI hS (lv_sub hl [] rfl)
      replace h := ite_n hc h
      refine lv_iload_n hx hb dX11_copies_45 rfl (lv_at hl 3 rfl) ?_
      refine lv_aload_n hx hb dX11_copies_46 rfl (lv_at hl 0 rfl) ?_
      refine w_get C G hI 30 0 (hI.at1 rfl) (fcE_30 g _ _) rfl in_X11 31 (by decide) kf_X11_96 (fun _ h => h) (v := .ref (ga g 71 0)) rfl dX11_copies_47 ?_
      refine lv_iload_n hx hb dX11_copies_50 rfl (lv_at hl 2 rfl) ?_
      obtain ⟨hn4, h⟩ := need_t h
      refine w_iald C G hI 71 0 (hI.at1 rfl) (fcA_71 g _ _) (inb_in hn4) dX11_copies_51 ?_
      refine lv_icmp_le (tgt := 57) hx hb dX11_copies_52 (by decide) (fun hc => ?_) (fun hc => ?_)
      · replace h := ite_y hc h
        refine lv_iconst (v := 0) hx hb dX11_copies_57 (by decide) ?_
        refine lv_istore (lv' := [(4, .int 0), (0, .ref (ga g 30 0)), (1, .int a1), (2, .int a2), (3, .int a3)]) hx hb dX11_copies_58 hl (by decide) rfl (fun ls hl => ?_)
        exact w_X11_copies_b60 C G 100 a1 a2 a3 0 x _ _ _  h hI hS (lv_sub hl [1, 2, 3, 4, 0] rfl)
      replace h := ite_n hc h
      exact w_X11_copies_b55 C G  x _ _ _  h hI hS (lv_sub hl [] rfl)
    replace h := ite_n hc h
    refine lv_iconst (v := 4) hx hb dX11_copies_29 (by decide) ?_
    cases h
    exact w_ireti C hI hS dX11_copies_30
  replace h := ite_y hc h
  exact w_X11_copies_b12 C G  x _ _ _  h hI hS (lv_sub hl [] rfl)
theorem k_X11_copies (l : Launch) (g : gT) (a1 : Int32) (a2 : Int32) (a3 : Int32) (x : st) (r : Int32) (x' : st)  (h : f_X11_copies a1 a2 a3 x = some (r, x')) : Kt l yX11_copies cX11_copies 5 (some .int) 0 0 g [.ref (ga g 30 0), .int a1, .int a2, .int a3] x (some (.int r)) x' := by
  refine Kt.of (by decide) (fun p e s m below meth c C G hI => ?_)
  have hl := lv_entry ([.ref (ga g 30 0), .int a1, .int a2, .int a3]) (n := 5) (Nat.le_of_ble_eq_true rfl)
  rw [lg_entry_eq]
  generalize (lg_sl ([.ref (ga g 30 0), .int a1, .int a2, .int a3]) ++ List.replicate (5 - (lg_sl ([.ref (ga g 30 0), .int a1, .int a2, .int a3])).length) Slot.unset).toArray = ls at hl ⊢
  have hl : lv_has ls 5 [(0, .ref (ga g 30 0)), (1, .int a1), (2, .int a2), (3, .int a3)] := hl
  exact w_X11_copies C G a1 a2 a3 x _ _ ls  h hI va_S.rf hl
theorem mv_X11_copies : mtV yX11_copies RX11 cX11_copies 5 (some .int) 3 := ⟨ki_X11_copies, kl_X11_copies, kI_X11, kc_X11_copies, by decide +kernel⟩

/-! X11_rows -/
def f_X11_rows_b186 (v6 : Int32) (x : st) : Option (Int32 × st) := some (v6, x)
set_option maxHeartbeats 4000000 in
set_option maxRecDepth 100000 in
theorem w_X11_rows_b186 {p : Program} {l : Launch} {e : Env} {s : State} {m : MethodId} {args : Array Value} {below : List Frame} {meth : Method} {c : Code} {g : gT} {r : Int32} {x' : st} (C : cxt p s m meth c args cX11_rows 7 RX11 (some .int)) (G : gst g s) (v6 : Int32) (x : st) (H : Heap) (locs : List Loc) (ls : Array Slot)  (h : f_X11_rows_b186 v6 x = some (r, x')) (hI : wst g x H) (hS : va_S (zA (gz g)) s.heap H locs) (hl : lv_has ls 7 [(6, .int v6)]) : W p l e (rmC 2 45) s m args below meth c H locs 0 0 (MQ below (Qx g (some (.int r)) x') args s 0 0 (zA (gz g))) (F0 m 186 ls []) := by
  obtain ⟨hx, hb, hml, hown, hts, hlk, hrt⟩ := id C
  unfold f_X11_rows_b186 at h
  refine lv_iload hx hb dX11_rows_186 (lv_at hl 0 rfl) ?_
  cases h
  exact w_ireti C hI hS dX11_rows_188
def f_X11_rows_b99 (v6 : Int32) (x : st) : Option (Int32 × st) := some (v6, x)
set_option maxHeartbeats 4000000 in
set_option maxRecDepth 100000 in
theorem w_X11_rows_b99 {p : Program} {l : Launch} {e : Env} {s : State} {m : MethodId} {args : Array Value} {below : List Frame} {meth : Method} {c : Code} {g : gT} {r : Int32} {x' : st} (C : cxt p s m meth c args cX11_rows 7 RX11 (some .int)) (G : gst g s) (v6 : Int32) (x : st) (H : Heap) (locs : List Loc) (ls : Array Slot)  (h : f_X11_rows_b99 v6 x = some (r, x')) (hI : wst g x H) (hS : va_S (zA (gz g)) s.heap H locs) (hl : lv_has ls 7 [(6, .int v6)]) : W p l e (rmC 2 45) s m args below meth c H locs 0 0 (MQ below (Qx g (some (.int r)) x') args s 0 0 (zA (gz g))) (F0 m 99 ls []) := by
  obtain ⟨hx, hb, hml, hown, hts, hlk, hrt⟩ := id C
  unfold f_X11_rows_b99 at h
  refine lv_iload hx hb dX11_rows_99 (lv_at hl 0 rfl) ?_
  cases h
  exact w_ireti C hI hS dX11_rows_101
def f_X11_rows (a1 : Int32) (a2 : Int32) (x : st) : Option (Int32 × st) := if inb a2 384 = true then if (x 41 0 a2.toNatClampNeg) = 9 then (if inb a2 384 = true then if inb ((3 * a1) + (x 42 0 a2.toNatClampNeg)) 39 = true then if inb a2 384 = true then bnd (f_X11_get a1 (x 44 0 a2.toNatClampNeg) x) fun r40 x39 => if inb a2 384 = true then bnd (f_X11_look (x 60 0 ((3 * a1) + (x 42 0 a2.toNatClampNeg)).toNatClampNeg) (x39 43 0 a2.toNatClampNeg) r40 x39) fun r44 x43 => if r44 = 0 then (if inb (x 60 0 ((3 * a1) + (x 42 0 a2.toNatClampNeg)).toNatClampNeg) 4200 = true then if inb a2 384 = true then if inb a2 384 = true then bnd (f_X11_get a1 (x43 45 0 a2.toNatClampNeg) x43) fun r50 x49 => bnd (f_X11_cast (x43 43 0 a2.toNatClampNeg) r50 x49) fun r53 x52 => if inb ((x43 72 0 (x 60 0 ((3 * a1) + (x 42 0 a2.toNatClampNeg)).toNatClampNeg).toNatClampNeg) + r40) 34000 = true then lets (sx x52 73 0 ((x43 72 0 (x 60 0 ((3 * a1) + (x 42 0 a2.toNatClampNeg)).toNatClampNeg).toNatClampNeg) + r40).toNatClampNeg r53) fun x56 => f_X11_rows_b99 r44 x56 else none else none else none else none) else (f_X11_rows_b99 r44 x43) else none else none else none else none) else (if (x 41 0 a2.toNatClampNeg) = 10 then (if inb a2 384 = true then if inb ((3 * a1) + (x 43 0 a2.toNatClampNeg)) 39 = true then if inb a2 384 = true then bnd (f_X11_get a1 (x 45 0 a2.toNatClampNeg) x) fun r24 x23 => if inb a2 384 = true then bnd (f_X11_look (x 60 0 ((3 * a1) + (x 43 0 a2.toNatClampNeg)).toNatClampNeg) (x23 44 0 a2.toNatClampNeg) r24 x23) fun r28 x27 => if r28 = 0 then (if inb a2 384 = true then if inb (x 60 0 ((3 * a1) + (x 43 0 a2.toNatClampNeg)).toNatClampNeg) 4200 = true then if inb ((x27 72 0 (x 60 0 ((3 * a1) + (x 43 0 a2.toNatClampNeg)).toNatClampNeg).toNatClampNeg) + r24) 34000 = true then bnv (f_X11_put a1 (x27 42 0 a2.toNatClampNeg) (x27 73 0 ((x27 72 0 (x 60 0 ((3 * a1) + (x 43 0 a2.toNatClampNeg)).toNatClampNeg).toNatClampNeg) + r24).toNatClampNeg) x27) fun x33 => f_X11_rows_b186 r28 x33 else none else none else none) else (f_X11_rows_b186 r28 x27) else none else none else none else none) else (if (x 41 0 a2.toNatClampNeg) = 11 then (if inb a2 384 = true then if inb ((3 * a1) + (x 43 0 a2.toNatClampNeg)) 39 = true then if (x 60 0 ((3 * a1) + (x 43 0 a2.toNatClampNeg)).toNatClampNeg) = (-3) then (some (2, x)) else (if inb a2 384 = true then if inb (x 60 0 ((3 * a1) + (x 43 0 a2.toNatClampNeg)).toNatClampNeg) 4200 = true then bnv (f_X11_put a1 (x 42 0 a2.toNatClampNeg) (x 71 0 (x 60 0 ((3 * a1) + (x 43 0 a2.toNatClampNeg)).toNatClampNeg).toNatClampNeg) x) fun x17 => some (0, x17) else none else none) else none else none) else (if inb a2 384 = true then if inb ((3 * a1) + (x 42 0 a2.toNatClampNeg)) 39 = true then if inb a2 384 = true then if inb ((3 * a1) + (x 43 0 a2.toNatClampNeg)) 39 = true then if inb a2 384 = true then bnd (f_X11_get a1 (x 44 0 a2.toNatClampNeg) x) fun r8 x7 => bnd (f_X11_copies (x 60 0 ((3 * a1) + (x 42 0 a2.toNatClampNeg)).toNatClampNeg) (x 60 0 ((3 * a1) + (x 43 0 a2.toNatClampNeg)).toNatClampNeg) r8 x7) fun r11 x10 => some (r11, x10) else none else none else none else none else none))) else none
set_option maxHeartbeats 4000000 in
set_option maxRecDepth 100000 in
theorem w_X11_rows {p : Program} {l : Launch} {e : Env} {s : State} {m : MethodId} {args : Array Value} {below : List Frame} {meth : Method} {c : Code} {g : gT} {r : Int32} {x' : st} (C : cxt p s m meth c args cX11_rows 7 RX11 (some .int)) (G : gst g s) (a1 : Int32) (a2 : Int32) (x : st) (H : Heap) (locs : List Loc) (ls : Array Slot)  (h : f_X11_rows a1 a2 x = some (r, x')) (hI : wst g x H) (hS : va_S (zA (gz g)) s.heap H locs) (hl : lv_has ls 7 [(0, .ref (ga g 30 0)), (1, .int a1), (2, .int a2)]) : W p l e (rmC 2 45) s m args below meth c H locs 0 0 (MQ below (Qx g (some (.int r)) x') args s 0 0 (zA (gz g))) (F0 m 0 ls []) := by
  obtain ⟨hx, hb, hml, hown, hts, hlk, hrt⟩ := id C
  unfold f_X11_rows at h
  refine lv_aload_n hx hb dX11_rows_0 rfl (lv_at hl 0 rfl) ?_
  refine w_get C G hI 30 0 (hI.at1 rfl) (fcE_30 g _ _) rfl in_X11 1 (by decide) kf_X11_13 (fun _ h => h) (v := .ref (ga g 41 0)) rfl dX11_rows_1 ?_
  refine lv_iload_n hx hb dX11_rows_4 rfl (lv_at hl 2 rfl) ?_
  obtain ⟨hn1, h⟩ := need_t h
  refine w_iald C G hI 41 0 (hI.at1 rfl) (fcA_41 g _ _) (inb_in hn1) dX11_rows_5 ?_
  refine lv_istore_n (lv' := [(3, .int (x 41 0 a2.toNatClampNeg)), (0, .ref (ga g 30 0)), (1, .int a1), (2, .int a2)]) hx hb dX11_rows_6 rfl hl (by decide) rfl (fun ls hl => ?_)
  refine lv_iload_n hx hb dX11_rows_7 rfl (lv_at hl 0 rfl) ?_
  refine lv_bipush (v := 9) hx hb dX11_rows_8 (by decide) ?_
  refine lv_icmp_ne (tgt := 102) hx hb dX11_rows_10 (by decide) (fun hc => ?_) (fun hc => ?_)
  · replace h := ite_n hc h
    refine lv_iload_n hx hb dX11_rows_102 rfl (lv_at hl 0 rfl) ?_
    refine lv_bipush (v := 10) hx hb dX11_rows_103 (by decide) ?_
    refine lv_icmp_ne (tgt := 189) hx hb dX11_rows_105 (by decide) (fun hc => ?_) (fun hc => ?_)
    · replace h := ite_n hc h
      refine lv_iload_n hx hb dX11_rows_189 rfl (lv_at hl 0 rfl) ?_
      refine lv_bipush (v := 11) hx hb dX11_rows_190 (by decide) ?_
      refine lv_icmp_ne (tgt := 241) hx hb dX11_rows_192 (by decide) (fun hc => ?_) (fun hc => ?_)
      · replace h := ite_n hc h
        refine lv_aload_n hx hb dX11_rows_241 rfl (lv_at hl 1 rfl) ?_
        refine lv_aload_n hx hb dX11_rows_242 rfl (lv_at hl 1 rfl) ?_
        refine w_get C G hI 30 0 (hI.at1 rfl) (fcE_30 g _ _) rfl in_X11 20 (by decide) kf_X11_68 (fun _ h => h) (v := .ref (ga g 60 0)) rfl dX11_rows_243 ?_
        refine lv_iconst (v := 3) hx hb dX11_rows_246 (by decide) ?_
        refine lv_iload_n hx hb dX11_rows_247 rfl (lv_at hl 2 rfl) ?_
        refine lv_imul hx hb dX11_rows_248 ?_
        refine lv_aload_n hx hb dX11_rows_249 rfl (lv_at hl 1 rfl) ?_
        refine w_get C G hI 30 0 (hI.at1 rfl) (fcE_30 g _ _) rfl in_X11 2 (by decide) kf_X11_16 (fun _ h => h) (v := .ref (ga g 42 0)) rfl dX11_rows_250 ?_
        refine lv_iload_n hx hb dX11_rows_253 rfl (lv_at hl 3 rfl) ?_
        obtain ⟨hn2, h⟩ := need_t h
        refine w_iald C G hI 42 0 (hI.at1 rfl) (fcA_42 g _ _) (inb_in hn2) dX11_rows_254 ?_
        refine lv_iadd hx hb dX11_rows_255 ?_
        obtain ⟨hn3, h⟩ := need_t h
        refine w_iald C G hI 60 0 (hI.at1 rfl) (fcA_60 g _ _) (inb_in hn3) dX11_rows_256 ?_
        refine lv_aload_n hx hb dX11_rows_257 rfl (lv_at hl 1 rfl) ?_
        refine w_get C G hI 30 0 (hI.at1 rfl) (fcE_30 g _ _) rfl in_X11 20 (by decide) kf_X11_68 (fun _ h => h) (v := .ref (ga g 60 0)) rfl dX11_rows_258 ?_
        refine lv_iconst (v := 3) hx hb dX11_rows_261 (by decide) ?_
        refine lv_iload_n hx hb dX11_rows_262 rfl (lv_at hl 2 rfl) ?_
        refine lv_imul hx hb dX11_rows_263 ?_
        refine lv_aload_n hx hb dX11_rows_264 rfl (lv_at hl 1 rfl) ?_
        refine w_get C G hI 30 0 (hI.at1 rfl) (fcE_30 g _ _) rfl in_X11 3 (by decide) kf_X11_19 (fun _ h => h) (v := .ref (ga g 43 0)) rfl dX11_rows_265 ?_
        refine lv_iload_n hx hb dX11_rows_268 rfl (lv_at hl 3 rfl) ?_
        obtain ⟨hn4, h⟩ := need_t h
        refine w_iald C G hI 43 0 (hI.at1 rfl) (fcA_43 g _ _) (inb_in hn4) dX11_rows_269 ?_
        refine lv_iadd hx hb dX11_rows_270 ?_
        obtain ⟨hn5, h⟩ := need_t h
        refine w_iald C G hI 60 0 (hI.at1 rfl) (fcA_60 g _ _) (inb_in hn5) dX11_rows_271 ?_
        refine lv_aload_n hx hb dX11_rows_272 rfl (lv_at hl 1 rfl) ?_
        refine lv_iload_n hx hb dX11_rows_273 rfl (lv_at hl 2 rfl) ?_
        refine lv_aload_n hx hb dX11_rows_274 rfl (lv_at hl 1 rfl) ?_
        refine w_get C G hI 30 0 (hI.at1 rfl) (fcE_30 g _ _) rfl in_X11 4 (by decide) kf_X11_22 (fun _ h => h) (v := .ref (ga g 44 0)) rfl dX11_rows_275 ?_
        refine lv_iload_n hx hb dX11_rows_278 rfl (lv_at hl 3 rfl) ?_
        obtain ⟨hn6, h⟩ := need_t h
        refine w_iald C G hI 44 0 (hI.at1 rfl) (fcA_44 g _ _) (inb_in hn6) dX11_rows_279 ?_
        obtain ⟨r8, x7, hq9, h⟩ := bnd_some h
        refine w_callV (fr := 0) (lo := 0) C G hI hS 30 0 (hI.at1 rfl) (fcE_30 g _ _) rfl mv_X11_get km_X11_211 [.int a1, .int (x 44 0 a2.toNatClampNeg)] (k_X11_get l g a1 (x 44 0 a2.toNatClampNeg) x _ _  hq9) rfl (by first | exact ⟨by decide, by decide⟩ | exact ⟨by show _ ≤ _ + _; omega, by show _ ≤ _ + _; omega⟩) ⟨Nat.zero_le _, Nat.zero_le _⟩ hl.1 rfl (Nat.le_of_ble_eq_true rfl) dX11_rows_280 (fun H locs hI hS => ?_)
        obtain ⟨r11, x10, hq12, h⟩ := bnd_some h
        refine w_callV (fr := 0) (lo := 0) C G hI hS 30 0 (hI.at1 rfl) (fcE_30 g _ _) rfl mv_X11_copies km_X11_239 [.int (x 60 0 ((3 * a1) + (x 42 0 a2.toNatClampNeg)).toNatClampNeg), .int (x 60 0 ((3 * a1) + (x 43 0 a2.toNatClampNeg)).toNatClampNeg), .int r8] (k_X11_copies l g (x 60 0 ((3 * a1) + (x 42 0 a2.toNatClampNeg)).toNatClampNeg) (x 60 0 ((3 * a1) + (x 43 0 a2.toNatClampNeg)).toNatClampNeg) r8 x7 _ _  hq12) rfl (by first | exact ⟨by decide, by decide⟩ | exact ⟨by show _ ≤ _ + _; omega, by show _ ≤ _ + _; omega⟩) ⟨Nat.zero_le _, Nat.zero_le _⟩ hl.1 rfl (Nat.le_of_ble_eq_true rfl) dX11_rows_283 (fun H locs hI hS => ?_)
        cases h
        exact w_ireti C hI hS dX11_rows_286
      replace h := ite_y hc h
      refine lv_aload_n hx hb dX11_rows_195 rfl (lv_at hl 1 rfl) ?_
      refine w_get C G hI 30 0 (hI.at1 rfl) (fcE_30 g _ _) rfl in_X11 20 (by decide) kf_X11_68 (fun _ h => h) (v := .ref (ga g 60 0)) rfl dX11_rows_196 ?_
      refine lv_iconst (v := 3) hx hb dX11_rows_199 (by decide) ?_
      refine lv_iload_n hx hb dX11_rows_200 rfl (lv_at hl 2 rfl) ?_
      refine lv_imul hx hb dX11_rows_201 ?_
      refine lv_aload_n hx hb dX11_rows_202 rfl (lv_at hl 1 rfl) ?_
      refine w_get C G hI 30 0 (hI.at1 rfl) (fcE_30 g _ _) rfl in_X11 3 (by decide) kf_X11_19 (fun _ h => h) (v := .ref (ga g 43 0)) rfl dX11_rows_203 ?_
      refine lv_iload_n hx hb dX11_rows_206 rfl (lv_at hl 3 rfl) ?_
      obtain ⟨hn13, h⟩ := need_t h
      refine w_iald C G hI 43 0 (hI.at1 rfl) (fcA_43 g _ _) (inb_in hn13) dX11_rows_207 ?_
      refine lv_iadd hx hb dX11_rows_208 ?_
      obtain ⟨hn14, h⟩ := need_t h
      refine w_iald C G hI 60 0 (hI.at1 rfl) (fcA_60 g _ _) (inb_in hn14) dX11_rows_209 ?_
      refine lv_istore (lv' := [(4, .int (x 60 0 ((3 * a1) + (x 43 0 a2.toNatClampNeg)).toNatClampNeg)), (3, .int (x 41 0 a2.toNatClampNeg)), (0, .ref (ga g 30 0)), (1, .int a1), (2, .int a2)]) hx hb dX11_rows_210 hl (by decide) rfl (fun ls hl => ?_)
      refine lv_iload hx hb dX11_rows_212 (lv_at hl 0 rfl) ?_
      refine lv_bipush (v := (-3)) hx hb dX11_rows_214 (by decide) ?_
      refine lv_icmp_ne (tgt := 221) hx hb dX11_rows_216 (by decide) (fun hc => ?_) (fun hc => ?_)
      · replace h := ite_n hc h
        refine lv_aload_n hx hb dX11_rows_221 rfl (lv_at hl 2 rfl) ?_
        refine lv_iload_n hx hb dX11_rows_222 rfl (lv_at hl 3 rfl) ?_
        refine lv_aload_n hx hb dX11_rows_223 rfl (lv_at hl 2 rfl) ?_
        refine w_get C G hI 30 0 (hI.at1 rfl) (fcE_30 g _ _) rfl in_X11 2 (by decide) kf_X11_16 (fun _ h => h) (v := .ref (ga g 42 0)) rfl dX11_rows_224 ?_
        refine lv_iload_n hx hb dX11_rows_227 rfl (lv_at hl 4 rfl) ?_
        obtain ⟨hn15, h⟩ := need_t h
        refine w_iald C G hI 42 0 (hI.at1 rfl) (fcA_42 g _ _) (inb_in hn15) dX11_rows_228 ?_
        refine lv_aload_n hx hb dX11_rows_229 rfl (lv_at hl 2 rfl) ?_
        refine w_get C G hI 30 0 (hI.at1 rfl) (fcE_30 g _ _) rfl in_X11 31 (by decide) kf_X11_96 (fun _ h => h) (v := .ref (ga g 71 0)) rfl dX11_rows_230 ?_
        refine lv_iload hx hb dX11_rows_233 (lv_at hl 0 rfl) ?_
        obtain ⟨hn16, h⟩ := need_t h
        refine w_iald C G hI 71 0 (hI.at1 rfl) (fcA_71 g _ _) (inb_in hn16) dX11_rows_235 ?_
        obtain ⟨x17, hq19, h⟩ := bnv_some h
        refine w_callV (fr := 0) (lo := 0) C G hI hS 30 0 (hI.at1 rfl) (fcE_30 g _ _) rfl mv_X11_put km_X11_227 [.int a1, .int (x 42 0 a2.toNatClampNeg), .int (x 71 0 (x 60 0 ((3 * a1) + (x 43 0 a2.toNatClampNeg)).toNatClampNeg).toNatClampNeg)] (k_X11_put l g a1 (x 42 0 a2.toNatClampNeg) (x 71 0 (x 60 0 ((3 * a1) + (x 43 0 a2.toNatClampNeg)).toNatClampNeg).toNatClampNeg) x _  hq19) rfl (by first | exact ⟨by decide, by decide⟩ | exact ⟨by show _ ≤ _ + _; omega, by show _ ≤ _ + _; omega⟩) ⟨Nat.zero_le _, Nat.zero_le _⟩ hl.1 rfl (Nat.le_of_ble_eq_true rfl) dX11_rows_236 (fun H locs hI hS => ?_)
        refine lv_iconst (v := 0) hx hb dX11_rows_239 (by decide) ?_
        cases h
        exact w_ireti C hI hS dX11_rows_240
      replace h := ite_y hc h
      refine lv_iconst (v := 2) hx hb dX11_rows_219 (by decide) ?_
      cases h
      exact w_ireti C hI hS dX11_rows_220
    replace h := ite_y hc h
    refine lv_aload_n hx hb dX11_rows_108 rfl (lv_at hl 1 rfl) ?_
    refine w_get C G hI 30 0 (hI.at1 rfl) (fcE_30 g _ _) rfl in_X11 20 (by decide) kf_X11_68 (fun _ h => h) (v := .ref (ga g 60 0)) rfl dX11_rows_109 ?_
    refine lv_iconst (v := 3) hx hb dX11_rows_112 (by decide) ?_
    refine lv_iload_n hx hb dX11_rows_113 rfl (lv_at hl 2 rfl) ?_
    refine lv_imul hx hb dX11_rows_114 ?_
    refine lv_aload_n hx hb dX11_rows_115 rfl (lv_at hl 1 rfl) ?_
    refine w_get C G hI 30 0 (hI.at1 rfl) (fcE_30 g _ _) rfl in_X11 3 (by decide) kf_X11_19 (fun _ h => h) (v := .ref (ga g 43 0)) rfl dX11_rows_116 ?_
    refine lv_iload_n hx hb dX11_rows_119 rfl (lv_at hl 3 rfl) ?_
    obtain ⟨hn20, h⟩ := need_t h
    refine w_iald C G hI 43 0 (hI.at1 rfl) (fcA_43 g _ _) (inb_in hn20) dX11_rows_120 ?_
    refine lv_iadd hx hb dX11_rows_121 ?_
    obtain ⟨hn21, h⟩ := need_t h
    refine w_iald C G hI 60 0 (hI.at1 rfl) (fcA_60 g _ _) (inb_in hn21) dX11_rows_122 ?_
    refine lv_istore (lv' := [(4, .int (x 60 0 ((3 * a1) + (x 43 0 a2.toNatClampNeg)).toNatClampNeg)), (3, .int (x 41 0 a2.toNatClampNeg)), (0, .ref (ga g 30 0)), (1, .int a1), (2, .int a2)]) hx hb dX11_rows_123 hl (by decide) rfl (fun ls hl => ?_)
    refine lv_aload_n hx hb dX11_rows_125 rfl (lv_at hl 2 rfl) ?_
    refine lv_iload_n hx hb dX11_rows_126 rfl (lv_at hl 3 rfl) ?_
    refine lv_aload_n hx hb dX11_rows_127 rfl (lv_at hl 2 rfl) ?_
    refine w_get C G hI 30 0 (hI.at1 rfl) (fcE_30 g _ _) rfl in_X11 5 (by decide) kf_X11_25 (fun _ h => h) (v := .ref (ga g 45 0)) rfl dX11_rows_128 ?_
    refine lv_iload_n hx hb dX11_rows_131 rfl (lv_at hl 4 rfl) ?_
    obtain ⟨hn22, h⟩ := need_t h
    refine w_iald C G hI 45 0 (hI.at1 rfl) (fcA_45 g _ _) (inb_in hn22) dX11_rows_132 ?_
    obtain ⟨r24, x23, hq25, h⟩ := bnd_some h
    refine w_callV (fr := 0) (lo := 0) C G hI hS 30 0 (hI.at1 rfl) (fcE_30 g _ _) rfl mv_X11_get km_X11_211 [.int a1, .int (x 45 0 a2.toNatClampNeg)] (k_X11_get l g a1 (x 45 0 a2.toNatClampNeg) x _ _  hq25) rfl (by first | exact ⟨by decide, by decide⟩ | exact ⟨by show _ ≤ _ + _; omega, by show _ ≤ _ + _; omega⟩) ⟨Nat.zero_le _, Nat.zero_le _⟩ hl.1 rfl (Nat.le_of_ble_eq_true rfl) dX11_rows_133 (fun H locs hI hS => ?_)
    refine lv_istore (lv' := [(5, .int r24), (4, .int (x 60 0 ((3 * a1) + (x 43 0 a2.toNatClampNeg)).toNatClampNeg)), (3, .int (x 41 0 a2.toNatClampNeg)), (0, .ref (ga g 30 0)), (1, .int a1), (2, .int a2)]) hx hb dX11_rows_136 hl (by decide) rfl (fun ls hl => ?_)
    refine lv_aload_n hx hb dX11_rows_138 rfl (lv_at hl 3 rfl) ?_
    refine lv_iload hx hb dX11_rows_139 (lv_at hl 1 rfl) ?_
    refine lv_aload_n hx hb dX11_rows_141 rfl (lv_at hl 3 rfl) ?_
    refine w_get C G hI 30 0 (hI.at1 rfl) (fcE_30 g _ _) rfl in_X11 4 (by decide) kf_X11_22 (fun _ h => h) (v := .ref (ga g 44 0)) rfl dX11_rows_142 ?_
    refine lv_iload_n hx hb dX11_rows_145 rfl (lv_at hl 5 rfl) ?_
    obtain ⟨hn26, h⟩ := need_t h
    refine w_iald C G hI 44 0 (hI.at1 rfl) (fcA_44 g _ _) (inb_in hn26) dX11_rows_146 ?_
    refine lv_iload hx hb dX11_rows_147 (lv_at hl 0 rfl) ?_
    obtain ⟨r28, x27, hq29, h⟩ := bnd_some h
    refine w_callV (fr := 1) (lo := 22) C G hI hS 30 0 (hI.at1 rfl) (fcE_30 g _ _) rfl mv_X11_look km_X11_231 [.int (x 60 0 ((3 * a1) + (x 43 0 a2.toNatClampNeg)).toNatClampNeg), .int (x23 44 0 a2.toNatClampNeg), .int r24] (k_X11_look l g (x 60 0 ((3 * a1) + (x 43 0 a2.toNatClampNeg)).toNatClampNeg) (x23 44 0 a2.toNatClampNeg) r24 x23 _ _  hq29) rfl (by first | exact ⟨by decide, by decide⟩ | exact ⟨by show _ ≤ _ + _; omega, by show _ ≤ _ + _; omega⟩) ⟨Nat.zero_le _, Nat.zero_le _⟩ hl.1 rfl (Nat.le_of_ble_eq_true rfl) dX11_rows_149 (fun H locs hI hS => ?_)
    refine lv_istore (lv' := [(6, .int r28), (5, .int r24), (4, .int (x 60 0 ((3 * a1) + (x 43 0 a2.toNatClampNeg)).toNatClampNeg)), (3, .int (x 41 0 a2.toNatClampNeg)), (0, .ref (ga g 30 0)), (1, .int a1), (2, .int a2)]) hx hb dX11_rows_152 hl (by decide) rfl (fun ls hl => ?_)
    refine lv_iload hx hb dX11_rows_154 (lv_at hl 0 rfl) ?_
    refine lv_if_ne (tgt := 186) hx hb dX11_rows_156 (by decide) (fun hc => ?_) (fun hc => ?_)
    · replace h := ite_n hc h
      exact w_X11_rows_b186 C G r28 x27 _ _ _  h hI hS (lv_sub hl [0] rfl)
    replace h := ite_y hc h
    refine lv_aload_n hx hb dX11_rows_159 rfl (lv_at hl 4 rfl) ?_
    refine lv_iload_n hx hb dX11_rows_160 rfl (lv_at hl 5 rfl) ?_
    refine lv_aload_n hx hb dX11_rows_161 rfl (lv_at hl 4 rfl) ?_
    refine w_get C G hI 30 0 (hI.at1 rfl) (fcE_30 g _ _) rfl in_X11 2 (by decide) kf_X11_16 (fun _ h => h) (v := .ref (ga g 42 0)) rfl dX11_rows_162 ?_
    refine lv_iload_n hx hb dX11_rows_165 rfl (lv_at hl 6 rfl) ?_
    obtain ⟨hn30, h⟩ := need_t h
    refine w_iald C G hI 42 0 (hI.at1 rfl) (fcA_42 g _ _) (inb_in hn30) dX11_rows_166 ?_
    refine lv_aload_n hx hb dX11_rows_167 rfl (lv_at hl 4 rfl) ?_
    refine w_get C G hI 30 0 (hI.at1 rfl) (fcE_30 g _ _) rfl in_X11 33 (by decide) kf_X11_103 (fun _ h => h) (v := .ref (ga g 73 0)) rfl dX11_rows_168 ?_
    refine lv_aload_n hx hb dX11_rows_171 rfl (lv_at hl 4 rfl) ?_
    refine w_get C G hI 30 0 (hI.at1 rfl) (fcE_30 g _ _) rfl in_X11 32 (by decide) kf_X11_99 (fun _ h => h) (v := .ref (ga g 72 0)) rfl dX11_rows_172 ?_
    refine lv_iload hx hb dX11_rows_175 (lv_at hl 2 rfl) ?_
    obtain ⟨hn31, h⟩ := need_t h
    refine w_iald C G hI 72 0 (hI.at1 rfl) (fcA_72 g _ _) (inb_in hn31) dX11_rows_177 ?_
    refine lv_iload hx hb dX11_rows_178 (lv_at hl 1 rfl) ?_
    refine lv_iadd hx hb dX11_rows_180 ?_
    obtain ⟨hn32, h⟩ := need_t h
    refine w_lald C G hI 73 0 (hI.at1 rfl) (fcA_73 g _ _) (inb_in hn32) dX11_rows_181 ?_
    refine lv_l2i (v := (x27 73 0 ((x27 72 0 (x 60 0 ((3 * a1) + (x 43 0 a2.toNatClampNeg)).toNatClampNeg).toNatClampNeg) + r24).toNatClampNeg)) hx hb dX11_rows_182 (by simp) ?_
    obtain ⟨x33, hq35, h⟩ := bnv_some h
    refine w_callV (fr := 0) (lo := 0) C G hI hS 30 0 (hI.at1 rfl) (fcE_30 g _ _) rfl mv_X11_put km_X11_227 [.int a1, .int (x27 42 0 a2.toNatClampNeg), .int (x27 73 0 ((x27 72 0 (x 60 0 ((3 * a1) + (x 43 0 a2.toNatClampNeg)).toNatClampNeg).toNatClampNeg) + r24).toNatClampNeg)] (k_X11_put l g a1 (x27 42 0 a2.toNatClampNeg) (x27 73 0 ((x27 72 0 (x 60 0 ((3 * a1) + (x 43 0 a2.toNatClampNeg)).toNatClampNeg).toNatClampNeg) + r24).toNatClampNeg) x27 _  hq35) rfl (by first | exact ⟨by decide, by decide⟩ | exact ⟨by show _ ≤ _ + _; omega, by show _ ≤ _ + _; omega⟩) ⟨Nat.zero_le _, Nat.zero_le _⟩ hl.1 rfl (Nat.le_of_ble_eq_true rfl) dX11_rows_183 (fun H locs hI hS => ?_)
    exact w_X11_rows_b186 C G r28 x33 _ _ _  h hI hS (lv_sub hl [0] rfl)
  replace h := ite_y hc h
  refine lv_aload_n hx hb dX11_rows_13 rfl (lv_at hl 1 rfl) ?_
  refine w_get C G hI 30 0 (hI.at1 rfl) (fcE_30 g _ _) rfl in_X11 20 (by decide) kf_X11_68 (fun _ h => h) (v := .ref (ga g 60 0)) rfl dX11_rows_14 ?_
  refine lv_iconst (v := 3) hx hb dX11_rows_17 (by decide) ?_
  refine lv_iload_n hx hb dX11_rows_18 rfl (lv_at hl 2 rfl) ?_
  refine lv_imul hx hb dX11_rows_19 ?_
  refine lv_aload_n hx hb dX11_rows_20 rfl (lv_at hl 1 rfl) ?_
  refine w_get C G hI 30 0 (hI.at1 rfl) (fcE_30 g _ _) rfl in_X11 2 (by decide) kf_X11_16 (fun _ h => h) (v := .ref (ga g 42 0)) rfl dX11_rows_21 ?_
  refine lv_iload_n hx hb dX11_rows_24 rfl (lv_at hl 3 rfl) ?_
  obtain ⟨hn36, h⟩ := need_t h
  refine w_iald C G hI 42 0 (hI.at1 rfl) (fcA_42 g _ _) (inb_in hn36) dX11_rows_25 ?_
  refine lv_iadd hx hb dX11_rows_26 ?_
  obtain ⟨hn37, h⟩ := need_t h
  refine w_iald C G hI 60 0 (hI.at1 rfl) (fcA_60 g _ _) (inb_in hn37) dX11_rows_27 ?_
  refine lv_istore (lv' := [(4, .int (x 60 0 ((3 * a1) + (x 42 0 a2.toNatClampNeg)).toNatClampNeg)), (3, .int (x 41 0 a2.toNatClampNeg)), (0, .ref (ga g 30 0)), (1, .int a1), (2, .int a2)]) hx hb dX11_rows_28 hl (by decide) rfl (fun ls hl => ?_)
  refine lv_aload_n hx hb dX11_rows_30 rfl (lv_at hl 2 rfl) ?_
  refine lv_iload_n hx hb dX11_rows_31 rfl (lv_at hl 3 rfl) ?_
  refine lv_aload_n hx hb dX11_rows_32 rfl (lv_at hl 2 rfl) ?_
  refine w_get C G hI 30 0 (hI.at1 rfl) (fcE_30 g _ _) rfl in_X11 4 (by decide) kf_X11_22 (fun _ h => h) (v := .ref (ga g 44 0)) rfl dX11_rows_33 ?_
  refine lv_iload_n hx hb dX11_rows_36 rfl (lv_at hl 4 rfl) ?_
  obtain ⟨hn38, h⟩ := need_t h
  refine w_iald C G hI 44 0 (hI.at1 rfl) (fcA_44 g _ _) (inb_in hn38) dX11_rows_37 ?_
  obtain ⟨r40, x39, hq41, h⟩ := bnd_some h
  refine w_callV (fr := 0) (lo := 0) C G hI hS 30 0 (hI.at1 rfl) (fcE_30 g _ _) rfl mv_X11_get km_X11_211 [.int a1, .int (x 44 0 a2.toNatClampNeg)] (k_X11_get l g a1 (x 44 0 a2.toNatClampNeg) x _ _  hq41) rfl (by first | exact ⟨by decide, by decide⟩ | exact ⟨by show _ ≤ _ + _; omega, by show _ ≤ _ + _; omega⟩) ⟨Nat.zero_le _, Nat.zero_le _⟩ hl.1 rfl (Nat.le_of_ble_eq_true rfl) dX11_rows_38 (fun H locs hI hS => ?_)
  refine lv_istore (lv' := [(5, .int r40), (4, .int (x 60 0 ((3 * a1) + (x 42 0 a2.toNatClampNeg)).toNatClampNeg)), (3, .int (x 41 0 a2.toNatClampNeg)), (0, .ref (ga g 30 0)), (1, .int a1), (2, .int a2)]) hx hb dX11_rows_41 hl (by decide) rfl (fun ls hl => ?_)
  refine lv_aload_n hx hb dX11_rows_43 rfl (lv_at hl 3 rfl) ?_
  refine lv_iload hx hb dX11_rows_44 (lv_at hl 1 rfl) ?_
  refine lv_aload_n hx hb dX11_rows_46 rfl (lv_at hl 3 rfl) ?_
  refine w_get C G hI 30 0 (hI.at1 rfl) (fcE_30 g _ _) rfl in_X11 3 (by decide) kf_X11_19 (fun _ h => h) (v := .ref (ga g 43 0)) rfl dX11_rows_47 ?_
  refine lv_iload_n hx hb dX11_rows_50 rfl (lv_at hl 5 rfl) ?_
  obtain ⟨hn42, h⟩ := need_t h
  refine w_iald C G hI 43 0 (hI.at1 rfl) (fcA_43 g _ _) (inb_in hn42) dX11_rows_51 ?_
  refine lv_iload hx hb dX11_rows_52 (lv_at hl 0 rfl) ?_
  obtain ⟨r44, x43, hq45, h⟩ := bnd_some h
  refine w_callV (fr := 1) (lo := 22) C G hI hS 30 0 (hI.at1 rfl) (fcE_30 g _ _) rfl mv_X11_look km_X11_231 [.int (x 60 0 ((3 * a1) + (x 42 0 a2.toNatClampNeg)).toNatClampNeg), .int (x39 43 0 a2.toNatClampNeg), .int r40] (k_X11_look l g (x 60 0 ((3 * a1) + (x 42 0 a2.toNatClampNeg)).toNatClampNeg) (x39 43 0 a2.toNatClampNeg) r40 x39 _ _  hq45) rfl (by first | exact ⟨by decide, by decide⟩ | exact ⟨by show _ ≤ _ + _; omega, by show _ ≤ _ + _; omega⟩) ⟨Nat.zero_le _, Nat.zero_le _⟩ hl.1 rfl (Nat.le_of_ble_eq_true rfl) dX11_rows_54 (fun H locs hI hS => ?_)
  refine lv_istore (lv' := [(6, .int r44), (5, .int r40), (4, .int (x 60 0 ((3 * a1) + (x 42 0 a2.toNatClampNeg)).toNatClampNeg)), (3, .int (x 41 0 a2.toNatClampNeg)), (0, .ref (ga g 30 0)), (1, .int a1), (2, .int a2)]) hx hb dX11_rows_57 hl (by decide) rfl (fun ls hl => ?_)
  refine lv_iload hx hb dX11_rows_59 (lv_at hl 0 rfl) ?_
  refine lv_if_ne (tgt := 99) hx hb dX11_rows_61 (by decide) (fun hc => ?_) (fun hc => ?_)
  · replace h := ite_n hc h
    exact w_X11_rows_b99 C G r44 x43 _ _ _  h hI hS (lv_sub hl [0] rfl)
  replace h := ite_y hc h
  refine lv_aload_n hx hb dX11_rows_64 rfl (lv_at hl 4 rfl) ?_
  refine w_get C G hI 30 0 (hI.at1 rfl) (fcE_30 g _ _) rfl in_X11 33 (by decide) kf_X11_103 (fun _ h => h) (v := .ref (ga g 73 0)) rfl dX11_rows_65 ?_
  refine lv_aload_n hx hb dX11_rows_68 rfl (lv_at hl 4 rfl) ?_
  refine w_get C G hI 30 0 (hI.at1 rfl) (fcE_30 g _ _) rfl in_X11 32 (by decide) kf_X11_99 (fun _ h => h) (v := .ref (ga g 72 0)) rfl dX11_rows_69 ?_
  refine lv_iload hx hb dX11_rows_72 (lv_at hl 2 rfl) ?_
  obtain ⟨hn46, h⟩ := need_t h
  refine w_iald C G hI 72 0 (hI.at1 rfl) (fcA_72 g _ _) (inb_in hn46) dX11_rows_74 ?_
  refine lv_iload hx hb dX11_rows_75 (lv_at hl 1 rfl) ?_
  refine lv_iadd hx hb dX11_rows_77 ?_
  refine lv_aload_n hx hb dX11_rows_78 rfl (lv_at hl 4 rfl) ?_
  refine w_get C G hI 30 0 (hI.at1 rfl) (fcE_30 g _ _) rfl in_X11 3 (by decide) kf_X11_19 (fun _ h => h) (v := .ref (ga g 43 0)) rfl dX11_rows_79 ?_
  refine lv_iload_n hx hb dX11_rows_82 rfl (lv_at hl 6 rfl) ?_
  obtain ⟨hn47, h⟩ := need_t h
  refine w_iald C G hI 43 0 (hI.at1 rfl) (fcA_43 g _ _) (inb_in hn47) dX11_rows_83 ?_
  refine lv_aload_n hx hb dX11_rows_84 rfl (lv_at hl 4 rfl) ?_
  refine lv_iload_n hx hb dX11_rows_85 rfl (lv_at hl 5 rfl) ?_
  refine lv_aload_n hx hb dX11_rows_86 rfl (lv_at hl 4 rfl) ?_
  refine w_get C G hI 30 0 (hI.at1 rfl) (fcE_30 g _ _) rfl in_X11 5 (by decide) kf_X11_25 (fun _ h => h) (v := .ref (ga g 45 0)) rfl dX11_rows_87 ?_
  refine lv_iload_n hx hb dX11_rows_90 rfl (lv_at hl 6 rfl) ?_
  obtain ⟨hn48, h⟩ := need_t h
  refine w_iald C G hI 45 0 (hI.at1 rfl) (fcA_45 g _ _) (inb_in hn48) dX11_rows_91 ?_
  obtain ⟨r50, x49, hq51, h⟩ := bnd_some h
  refine w_callV (fr := 0) (lo := 0) C G hI hS 30 0 (hI.at1 rfl) (fcE_30 g _ _) rfl mv_X11_get km_X11_211 [.int a1, .int (x43 45 0 a2.toNatClampNeg)] (k_X11_get l g a1 (x43 45 0 a2.toNatClampNeg) x43 _ _  hq51) rfl (by first | exact ⟨by decide, by decide⟩ | exact ⟨by show _ ≤ _ + _; omega, by show _ ≤ _ + _; omega⟩) ⟨Nat.zero_le _, Nat.zero_le _⟩ hl.1 rfl (Nat.le_of_ble_eq_true rfl) dX11_rows_92 (fun H locs hI hS => ?_)
  obtain ⟨r53, x52, hq54, h⟩ := bnd_some h
  refine w_callS (fr := 0) (lo := 0) C G hI hS ms_X11_cast km_X11_235 [.int (x43 43 0 a2.toNatClampNeg), .int r50] (k_X11_cast l g (x43 43 0 a2.toNatClampNeg) r50 x49 _ _  hq54) rfl (by first | exact ⟨by decide, by decide⟩ | exact ⟨by show _ ≤ _ + _; omega, by show _ ≤ _ + _; omega⟩) ⟨Nat.zero_le _, Nat.zero_le _⟩ hl.1 rfl (Nat.le_of_ble_eq_true rfl) dX11_rows_95 (fun H locs hI hS => ?_)
  obtain ⟨hn55, h⟩ := need_t h
  refine w_last C G hI hS 73 0 (hI.at1 rfl) rfl (fcA_73 g _) (y := r53) (inb_in hn55) dX11_rows_98 (fun H locs hI hS => ?_)
  obtain ⟨x56, e_x56, h⟩ := lets_some h
  rw [← e_x56] at hI
  exact w_X11_rows_b99 C G r44 x56 _ _ _  h hI hS (lv_sub hl [0] rfl)
theorem k_X11_rows (l : Launch) (g : gT) (a1 : Int32) (a2 : Int32) (x : st) (r : Int32) (x' : st)  (h : f_X11_rows a1 a2 x = some (r, x')) : Kt l yX11_rows cX11_rows 7 (some .int) 2 45 g [.ref (ga g 30 0), .int a1, .int a2] x (some (.int r)) x' := by
  refine Kt.of (by decide) (fun p e s m below meth c C G hI => ?_)
  have hl := lv_entry ([.ref (ga g 30 0), .int a1, .int a2]) (n := 7) (Nat.le_of_ble_eq_true rfl)
  rw [lg_entry_eq]
  generalize (lg_sl ([.ref (ga g 30 0), .int a1, .int a2]) ++ List.replicate (7 - (lg_sl ([.ref (ga g 30 0), .int a1, .int a2])).length) Slot.unset).toArray = ls at hl ⊢
  have hl : lv_has ls 7 [(0, .ref (ga g 30 0)), (1, .int a1), (2, .int a2)] := hl
  exact w_X11_rows C G a1 a2 x _ _ ls  h hI va_S.rf hl
theorem mv_X11_rows : mtV yX11_rows RX11 cX11_rows 7 (some .int) 2 := ⟨ki_X11_rows, kl_X11_rows, kI_X11, kc_X11_rows, by decide +kernel⟩
