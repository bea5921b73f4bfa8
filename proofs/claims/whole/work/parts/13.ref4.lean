/-! X11_step -/
def f_X11_step_b80 (v1 : Int32) (v3 : Int32) (x : st) : Option (st) := bnv (f_X11_goes v1 v3 x) fun x6 => some x6
set_option maxHeartbeats 4000000 in
set_option maxRecDepth 100000 in
theorem w_X11_step_b80 {p : Program} {l : Launch} {e : Env} {s : State} {m : MethodId} {args : Array Value} {below : List Frame} {meth : Method} {c : Code} {g : gT} {x' : st} (C : cxt p s m meth c args cX11_step 6 RX11 none) (G : gst g s) (v1 : Int32) (v3 : Int32) (x : st) (H : Heap) (locs : List Loc) (ls : Array Slot)  (h : f_X11_step_b80 v1 v3 x = some x') (hI : wst g x H) (hS : va_S (zA (gz g)) s.heap H locs) (hl : lv_has ls 6 [(0, .ref (ga g 30 0)), (1, .int v1), (3, .int v3)]) : W p l e (rmC 6 134) s m args below meth c H locs 0 0 (MQ below (Qx g none x') args s 0 0 (zA (gz g))) (F0 m 80 ls []) := by
  obtain ⟨hx, hb, hml, hown, hts, hlk, hrt⟩ := id C
  unfold f_X11_step_b80 at h
  refine lv_aload_n hx hb dX11_step_80 rfl (lv_at hl 0 rfl) ?_
  refine lv_iload_n hx hb dX11_step_81 rfl (lv_at hl 1 rfl) ?_
  refine lv_iload_n hx hb dX11_step_82 rfl (lv_at hl 2 rfl) ?_
  obtain ⟨x6, hq8, h⟩ := bnv_some h
  refine w_callV (fr := 3) (lo := 63) C G hI hS 30 0 (hI.at1 rfl) (fcE_30 g _ _) rfl mv_X11_goes km_X11_202 [.int v1, .int v3] (k_X11_goes l g v1 v3 x _  hq8) rfl (by first | exact ⟨by decide, by decide⟩ | exact ⟨by show _ ≤ _ + _; omega, by show _ ≤ _ + _; omega⟩) ⟨Nat.zero_le _, Nat.zero_le _⟩ hl.1 rfl (Nat.le_of_ble_eq_true rfl) dX11_step_83 (fun H locs hI hS => ?_)
  refine lv_goto (tgt := 260) hx hb dX11_step_86 (by decide) ?_
  cases h
  exact w_vret C hI hS dX11_step_260
def f_X11_step_b228 (v1 : Int32) (s0 : Int32) (x : st) : Option (st) := if s0 ≤ 0 then (if inb v1 13 = true then bnv (f_X11_leave v1 ((x 58 0 v1.toNatClampNeg) + 1) 0 0 x) fun x10 => some x10 else none) else (bnv (f_X11_begins v1 s0 x) fun x13 => some x13)
set_option maxHeartbeats 4000000 in
set_option maxRecDepth 100000 in
theorem w_X11_step_b228 {p : Program} {l : Launch} {e : Env} {s : State} {m : MethodId} {args : Array Value} {below : List Frame} {meth : Method} {c : Code} {g : gT} {x' : st} (C : cxt p s m meth c args cX11_step 6 RX11 none) (G : gst g s) (v1 : Int32) (s0 : Int32) (x : st) (H : Heap) (locs : List Loc) (ls : Array Slot)  (h : f_X11_step_b228 v1 s0 x = some x') (hI : wst g x H) (hS : va_S (zA (gz g)) s.heap H locs) (hl : lv_has ls 6 [(0, .ref (ga g 30 0)), (1, .int v1)]) : W p l e (rmC 6 134) s m args below meth c H locs 0 0 (MQ below (Qx g none x') args s 0 0 (zA (gz g))) (F0 m 228 ls [.int s0]) := by
  obtain ⟨hx, hb, hml, hown, hts, hlk, hrt⟩ := id C
  unfold f_X11_step_b228 at h
  refine lv_istore (lv' := [(5, .int s0), (0, .ref (ga g 30 0)), (1, .int v1)]) hx hb dX11_step_228 hl (by decide) rfl (fun ls hl => ?_)
  refine lv_iload hx hb dX11_step_230 (lv_at hl 0 rfl) ?_
  refine lv_if_le (tgt := 245) hx hb dX11_step_232 (by decide) (fun hc => ?_) (fun hc => ?_)
  · replace h := ite_y hc h
    refine lv_aload_n hx hb dX11_step_245 rfl (lv_at hl 1 rfl) ?_
    refine lv_iload_n hx hb dX11_step_246 rfl (lv_at hl 2 rfl) ?_
    refine lv_aload_n hx hb dX11_step_247 rfl (lv_at hl 1 rfl) ?_
    refine w_get C G hI 30 0 (hI.at1 rfl) (fcE_30 g _ _) rfl in_X11 18 (by decide) kf_X11_62 (fun _ h => h) (v := .ref (ga g 58 0)) rfl dX11_step_248 ?_
    refine lv_iload_n hx hb dX11_step_251 rfl (lv_at hl 2 rfl) ?_
    obtain ⟨hn9, h⟩ := need_t h
    refine w_iald C G hI 58 0 (hI.at1 rfl) (fcA_58 g _ _) (inb_in hn9) dX11_step_252 ?_
    refine lv_iconst (v := 1) hx hb dX11_step_253 (by decide) ?_
    refine lv_iadd hx hb dX11_step_254 ?_
    refine lv_iconst (v := 0) hx hb dX11_step_255 (by decide) ?_
    refine lv_iconst (v := 0) hx hb dX11_step_256 (by decide) ?_
    obtain ⟨x10, hq12, h⟩ := bnv_some h
    refine w_callV (fr := 0) (lo := 0) C G hI hS 30 0 (hI.at1 rfl) (fcE_30 g _ _) rfl mv_X11_leave km_X11_198 [.int v1, .int ((x 58 0 v1.toNatClampNeg) + 1), .int 0, .int 0] (k_X11_leave l g v1 ((x 58 0 v1.toNatClampNeg) + 1) 0 0 x _  hq12) rfl (by first | exact ⟨by decide, by decide⟩ | exact ⟨by show _ ≤ _ + _; omega, by show _ ≤ _ + _; omega⟩) ⟨Nat.zero_le _, Nat.zero_le _⟩ hl.1 rfl (Nat.le_of_ble_eq_true rfl) dX11_step_257 (fun H locs hI hS => ?_)
    cases h
    exact w_vret C hI hS dX11_step_260
  replace h := ite_n hc h
  refine lv_aload_n hx hb dX11_step_235 rfl (lv_at hl 1 rfl) ?_
  refine lv_iload_n hx hb dX11_step_236 rfl (lv_at hl 2 rfl) ?_
  refine lv_iload hx hb dX11_step_237 (lv_at hl 0 rfl) ?_
  obtain ⟨x13, hq15, h⟩ := bnv_some h
  refine w_callV (fr := 4) (lo := 88) C G hI hS 30 0 (hI.at1 rfl) (fcE_30 g _ _) rfl mv_X11_begins km_X11_208 [.int v1, .int s0] (k_X11_begins l g v1 s0 x _  hq15) rfl (by first | exact ⟨by decide, by decide⟩ | exact ⟨by show _ ≤ _ + _; omega, by show _ ≤ _ + _; omega⟩) ⟨Nat.zero_le _, Nat.zero_le _⟩ hl.1 rfl (Nat.le_of_ble_eq_true rfl) dX11_step_239 (fun H locs hI hS => ?_)
  refine lv_goto (tgt := 260) hx hb dX11_step_242 (by decide) ?_
  cases h
  exact w_vret C hI hS dX11_step_260
def f_X11_step  (x : st) : Option (st) := if inb ((x 30 0 16) - 1) 13 = true then if inb ((x 30 0 16) - 1) 13 = true then if inb (x 57 0 ((x 30 0 16) - 1).toNatClampNeg) 8 = true then if (x 58 0 ((x 30 0 16) - 1).toNatClampNeg) < (x 40 0 (x 57 0 ((x 30 0 16) - 1).toNatClampNeg).toNatClampNeg) then (if inb ((x 30 0 16) - 1) 13 = true then if inb ((48 * (x 57 0 ((x 30 0 16) - 1).toNatClampNeg)) + (x 58 0 ((x 30 0 16) - 1).toNatClampNeg)) 384 = true then if (x 41 0 ((48 * (x 57 0 ((x 30 0 16) - 1).toNatClampNeg)) + (x 58 0 ((x 30 0 16) - 1).toNatClampNeg)).toNatClampNeg) = 6 then (f_X11_step_b80 ((x 30 0 16) - 1) ((48 * (x 57 0 ((x 30 0 16) - 1).toNatClampNeg)) + (x 58 0 ((x 30 0 16) - 1).toNatClampNeg)) x) else (if (x 41 0 ((48 * (x 57 0 ((x 30 0 16) - 1).toNatClampNeg)) + (x 58 0 ((x 30 0 16) - 1).toNatClampNeg)).toNatClampNeg) = 7 then (f_X11_step_b80 ((x 30 0 16) - 1) ((48 * (x 57 0 ((x 30 0 16) - 1).toNatClampNeg)) + (x 58 0 ((x 30 0 16) - 1).toNatClampNeg)) x) else (if (x 41 0 ((48 * (x 57 0 ((x 30 0 16) - 1).toNatClampNeg)) + (x 58 0 ((x 30 0 16) - 1).toNatClampNeg)).toNatClampNeg) = 8 then (bnv (f_X11_news ((x 30 0 16) - 1) ((48 * (x 57 0 ((x 30 0 16) - 1).toNatClampNeg)) + (x 58 0 ((x 30 0 16) - 1).toNatClampNeg)) x) fun x35 => some x35) else (if (x 41 0 ((48 * (x 57 0 ((x 30 0 16) - 1).toNatClampNeg)) + (x 58 0 ((x 30 0 16) - 1).toNatClampNeg)).toNatClampNeg) = 13 then (bnd (f_X11_counts  x) fun r24 x23 => if r24 = 0 then (some x23) else (if inb ((48 * (x 57 0 ((x 30 0 16) - 1).toNatClampNeg)) + (x 58 0 ((x 30 0 16) - 1).toNatClampNeg)) 384 = true then if inb ((48 * (x 57 0 ((x 30 0 16) - 1).toNatClampNeg)) + (x 58 0 ((x 30 0 16) - 1).toNatClampNeg)) 384 = true then if inb ((48 * (x 57 0 ((x 30 0 16) - 1).toNatClampNeg)) + (x 58 0 ((x 30 0 16) - 1).toNatClampNeg)) 384 = true then bnd (f_X11_makes (x23 43 0 ((48 * (x 57 0 ((x 30 0 16) - 1).toNatClampNeg)) + (x 58 0 ((x 30 0 16) - 1).toNatClampNeg)).toNatClampNeg) ((x 30 0 16) - 1) (x23 45 0 ((48 * (x 57 0 ((x 30 0 16) - 1).toNatClampNeg)) + (x 58 0 ((x 30 0 16) - 1).toNatClampNeg)).toNatClampNeg) (x23 44 0 ((48 * (x 57 0 ((x 30 0 16) - 1).toNatClampNeg)) + (x 58 0 ((x 30 0 16) - 1).toNatClampNeg)).toNatClampNeg) 0 x23) fun r30 x29 => if r30 = 0 then (bnv (f_X11_begins ((x 30 0 16) - 1) 7 x29) fun x32 => some x32) else (some x29) else none else none else none)) else (if (x 41 0 ((48 * (x 57 0 ((x 30 0 16) - 1).toNatClampNeg)) + (x 58 0 ((x 30 0 16) - 1).toNatClampNeg)).toNatClampNeg) = 14 then (if inb ((48 * (x 57 0 ((x 30 0 16) - 1).toNatClampNeg)) + (x 58 0 ((x 30 0 16) - 1).toNatClampNeg)) 384 = true then bnd (f_X11_get ((x 30 0 16) - 1) (x 42 0 ((48 * (x 57 0 ((x 30 0 16) - 1).toNatClampNeg)) + (x 58 0 ((x 30 0 16) - 1).toNatClampNeg)).toNatClampNeg) x) fun r18 x17 => bnv (f_X11_leave ((x 30 0 16) - 1) 99 1 r18 x17) fun x20 => some x20 else none) else (if (x 41 0 ((48 * (x 57 0 ((x 30 0 16) - 1).toNatClampNeg)) + (x 58 0 ((x 30 0 16) - 1).toNatClampNeg)).toNatClampNeg) = 15 then (if inb ((48 * (x 57 0 ((x 30 0 16) - 1).toNatClampNeg)) + (x 58 0 ((x 30 0 16) - 1).toNatClampNeg)) 384 = true then bnv (f_X11_begins ((x 30 0 16) - 1) (x 43 0 ((48 * (x 57 0 ((x 30 0 16) - 1).toNatClampNeg)) + (x 58 0 ((x 30 0 16) - 1).toNatClampNeg)).toNatClampNeg) x) fun x13 => some x13 else none) else (if 6 ≤ (x 41 0 ((48 * (x 57 0 ((x 30 0 16) - 1).toNatClampNeg)) + (x 58 0 ((x 30 0 16) - 1).toNatClampNeg)).toNatClampNeg) then (bnd (f_X11_rows ((x 30 0 16) - 1) ((48 * (x 57 0 ((x 30 0 16) - 1).toNatClampNeg)) + (x 58 0 ((x 30 0 16) - 1).toNatClampNeg)) x) fun r7 x6 => f_X11_step_b228 ((x 30 0 16) - 1) r7 x6) else (bnd (f_X11_reckons ((x 30 0 16) - 1) ((48 * (x 57 0 ((x 30 0 16) - 1).toNatClampNeg)) + (x 58 0 ((x 30 0 16) - 1).toNatClampNeg)) x) fun r10 x9 => f_X11_step_b228 ((x 30 0 16) - 1) r10 x9))))))) else none else none) else (lets (sx x 30 0 16 ((x 30 0 16) - 1)) fun x38 => bnv (f_X11_gave ((x 30 0 16) - 1) 0 x38) fun x39 => some x39) else none else none else none
set_option maxHeartbeats 4000000 in
set_option maxRecDepth 100000 in
theorem w_X11_step {p : Program} {l : Launch} {e : Env} {s : State} {m : MethodId} {args : Array Value} {below : List Frame} {meth : Method} {c : Code} {g : gT} {x' : st} (C : cxt p s m meth c args cX11_step 6 RX11 none) (G : gst g s)  (x : st) (H : Heap) (locs : List Loc) (ls : Array Slot)  (h : f_X11_step  x = some x') (hI : wst g x H) (hS : va_S (zA (gz g)) s.heap H locs) (hl : lv_has ls 6 [(0, .ref (ga g 30 0))]) : W p l e (rmC 6 134) s m args below meth c H locs 0 0 (MQ below (Qx g none x') args s 0 0 (zA (gz g))) (F0 m 0 ls []) := by
  obtain ⟨hx, hb, hml, hown, hts, hlk, hrt⟩ := id C
  unfold f_X11_step at h
  refine lv_aload_n hx hb dX11_step_0 rfl (lv_at hl 0 rfl) ?_
  refine w_get C G hI 30 0 (hI.at1 rfl) (fcE_30 g _ _) rfl in_X11 16 (by decide) kf_X11_119 (fun _ h => h) (v := .int (x 30 0 16)) rfl dX11_step_1 ?_
  refine lv_iconst (v := 1) hx hb dX11_step_4 (by decide) ?_
  refine lv_isub hx hb dX11_step_5 ?_
  refine lv_istore_n (lv' := [(1, .int ((x 30 0 16) - 1)), (0, .ref (ga g 30 0))]) hx hb dX11_step_6 rfl hl (by decide) rfl (fun ls hl => ?_)
  refine lv_aload_n hx hb dX11_step_7 rfl (lv_at hl 1 rfl) ?_
  refine w_get C G hI 30 0 (hI.at1 rfl) (fcE_30 g _ _) rfl in_X11 17 (by decide) kf_X11_59 (fun _ h => h) (v := .ref (ga g 57 0)) rfl dX11_step_8 ?_
  refine lv_iload_n hx hb dX11_step_11 rfl (lv_at hl 0 rfl) ?_
  obtain ⟨hn1, h⟩ := need_t h
  refine w_iald C G hI 57 0 (hI.at1 rfl) (fcA_57 g _ _) (inb_in hn1) dX11_step_12 ?_
  refine lv_istore_n (lv' := [(2, .int (x 57 0 ((x 30 0 16) - 1).toNatClampNeg)), (1, .int ((x 30 0 16) - 1)), (0, .ref (ga g 30 0))]) hx hb dX11_step_13 rfl hl (by decide) rfl (fun ls hl => ?_)
  refine lv_aload_n hx hb dX11_step_14 rfl (lv_at hl 2 rfl) ?_
  refine w_get C G hI 30 0 (hI.at1 rfl) (fcE_30 g _ _) rfl in_X11 18 (by decide) kf_X11_62 (fun _ h => h) (v := .ref (ga g 58 0)) rfl dX11_step_15 ?_
  refine lv_iload_n hx hb dX11_step_18 rfl (lv_at hl 1 rfl) ?_
  obtain ⟨hn2, h⟩ := need_t h
  refine w_iald C G hI 58 0 (hI.at1 rfl) (fcA_58 g _ _) (inb_in hn2) dX11_step_19 ?_
  refine lv_aload_n hx hb dX11_step_20 rfl (lv_at hl 2 rfl) ?_
  refine w_get C G hI 30 0 (hI.at1 rfl) (fcE_30 g _ _) rfl in_X11 0 (by decide) kf_X11_7 (fun _ h => h) (v := .ref (ga g 40 0)) rfl dX11_step_21 ?_
  refine lv_iload_n hx hb dX11_step_24 rfl (lv_at hl 0 rfl) ?_
  obtain ⟨hn3, h⟩ := need_t h
  refine w_iald C G hI 40 0 (hI.at1 rfl) (fcA_40 g _ _) (inb_in hn3) dX11_step_25 ?_
  refine lv_icmp_lt (tgt := 46) hx hb dX11_step_26 (by decide) (fun hc => ?_) (fun hc => ?_)
  · replace h := ite_y hc h
    refine lv_bipush (v := 48) hx hb dX11_step_46 (by decide) ?_
    refine lv_iload_n hx hb dX11_step_48 rfl (lv_at hl 0 rfl) ?_
    refine lv_imul hx hb dX11_step_49 ?_
    refine lv_aload_n hx hb dX11_step_50 rfl (lv_at hl 2 rfl) ?_
    refine w_get C G hI 30 0 (hI.at1 rfl) (fcE_30 g _ _) rfl in_X11 18 (by decide) kf_X11_62 (fun _ h => h) (v := .ref (ga g 58 0)) rfl dX11_step_51 ?_
    refine lv_iload_n hx hb dX11_step_54 rfl (lv_at hl 1 rfl) ?_
    obtain ⟨hn4, h⟩ := need_t h
    refine w_iald C G hI 58 0 (hI.at1 rfl) (fcA_58 g _ _) (inb_in hn4) dX11_step_55 ?_
    refine lv_iadd hx hb dX11_step_56 ?_
    refine lv_istore_n (lv' := [(3, .int ((48 * (x 57 0 ((x 30 0 16) - 1).toNatClampNeg)) + (x 58 0 ((x 30 0 16) - 1).toNatClampNeg))), (2, .int (x 57 0 ((x 30 0 16) - 1).toNatClampNeg)), (1, .int ((x 30 0 16) - 1)), (0, .ref (ga g 30 0))]) hx hb dX11_step_57 rfl hl (by decide) rfl (fun ls hl => ?_)
    refine lv_aload_n hx hb dX11_step_58 rfl (lv_at hl 3 rfl) ?_
    refine w_get C G hI 30 0 (hI.at1 rfl) (fcE_30 g _ _) rfl in_X11 1 (by decide) kf_X11_13 (fun _ h => h) (v := .ref (ga g 41 0)) rfl dX11_step_59 ?_
    refine lv_iload_n hx hb dX11_step_62 rfl (lv_at hl 0 rfl) ?_
    obtain ⟨hn5, h⟩ := need_t h
    refine w_iald C G hI 41 0 (hI.at1 rfl) (fcA_41 g _ _) (inb_in hn5) dX11_step_63 ?_
    refine lv_istore (lv' := [(4, .int (x 41 0 ((48 * (x 57 0 ((x 30 0 16) - 1).toNatClampNeg)) + (x 58 0 ((x 30 0 16) - 1).toNatClampNeg)).toNatClampNeg)), (3, .int ((48 * (x 57 0 ((x 30 0 16) - 1).toNatClampNeg)) + (x 58 0 ((x 30 0 16) - 1).toNatClampNeg))), (2, .int (x 57 0 ((x 30 0 16) - 1).toNatClampNeg)), (1, .int ((x 30 0 16) - 1)), (0, .ref (ga g 30 0))]) hx hb dX11_step_64 hl (by decide) rfl (fun ls hl => ?_)
    refine lv_iload hx hb dX11_step_66 (lv_at hl 0 rfl) ?_
    refine lv_bipush (v := 6) hx hb dX11_step_68 (by decide) ?_
    refine lv_icmp_eq (tgt := 80) hx hb dX11_step_70 (by decide) (fun hc => ?_) (fun hc => ?_)
    · replace h := ite_y hc h
      exact w_X11_step_b80 C G ((x 30 0 16) - 1) ((48 * (x 57 0 ((x 30 0 16) - 1).toNatClampNeg)) + (x 58 0 ((x 30 0 16) - 1).toNatClampNeg)) x _ _ _  h hI hS (lv_sub hl [4, 3, 1] rfl)
    replace h := ite_n hc h
    refine lv_iload hx hb dX11_step_73 (lv_at hl 0 rfl) ?_
    refine lv_bipush (v := 7) hx hb dX11_step_75 (by decide) ?_
    refine lv_icmp_ne (tgt := 89) hx hb dX11_step_77 (by decide) (fun hc => ?_) (fun hc => ?_)
    · replace h := ite_n hc h
      refine lv_iload hx hb dX11_step_89 (lv_at hl 0 rfl) ?_
      refine lv_bipush (v := 8) hx hb dX11_step_91 (by decide) ?_
      refine lv_icmp_ne (tgt := 105) hx hb dX11_step_93 (by decide) (fun hc => ?_) (fun hc => ?_)
      · replace h := ite_n hc h
        refine lv_iload hx hb dX11_step_105 (lv_at hl 0 rfl) ?_
        refine lv_bipush (v := 13) hx hb dX11_step_107 (by decide) ?_
        refine lv_icmp_ne (tgt := 156) hx hb dX11_step_109 (by decide) (fun hc => ?_) (fun hc => ?_)
        · replace h := ite_n hc h
          refine lv_iload hx hb dX11_step_156 (lv_at hl 0 rfl) ?_
          refine lv_bipush (v := 14) hx hb dX11_step_158 (by decide) ?_
          refine lv_icmp_ne (tgt := 185) hx hb dX11_step_160 (by decide) (fun hc => ?_) (fun hc => ?_)
          · replace h := ite_n hc h
            refine lv_iload hx hb dX11_step_185 (lv_at hl 0 rfl) ?_
            refine lv_bipush (v := 15) hx hb dX11_step_187 (by decide) ?_
            refine lv_icmp_ne (tgt := 206) hx hb dX11_step_189 (by decide) (fun hc => ?_) (fun hc => ?_)
            · replace h := ite_n hc h
              refine lv_iload hx hb dX11_step_206 (lv_at hl 0 rfl) ?_
              refine lv_bipush (v := 6) hx hb dX11_step_208 (by decide) ?_
              refine lv_icmp_ge (tgt := 222) hx hb dX11_step_210 (by decide) (fun hc => ?_) (fun hc => ?_)
              · replace h := ite_y hc h
                refine lv_aload_n hx hb dX11_step_222 rfl (lv_at hl 4 rfl) ?_
                refine lv_iload_n hx hb dX11_step_223 rfl (lv_at hl 3 rfl) ?_
                refine lv_iload_n hx hb dX11_step_224 rfl (lv_at hl 1 rfl) ?_
                obtain ⟨r7, x6, hq8, h⟩ := bnd_some h
                refine w_callV (fr := 2) (lo := 45) C G hI hS 30 0 (hI.at1 rfl) (fcE_30 g _ _) rfl mv_X11_rows km_X11_218 [.int ((x 30 0 16) - 1), .int ((48 * (x 57 0 ((x 30 0 16) - 1).toNatClampNeg)) + (x 58 0 ((x 30 0 16) - 1).toNatClampNeg))] (k_X11_rows l g ((x 30 0 16) - 1) ((48 * (x 57 0 ((x 30 0 16) - 1).toNatClampNeg)) + (x 58 0 ((x 30 0 16) - 1).toNatClampNeg)) x _ _  hq8) rfl (by first | exact ⟨by decide, by decide⟩ | exact ⟨by show _ ≤ _ + _; omega, by show _ ≤ _ + _; omega⟩) ⟨Nat.zero_le _, Nat.zero_le _⟩ hl.1 rfl (Nat.le_of_ble_eq_true rfl) dX11_step_225 (fun H locs hI hS => ?_)
                exact w_X11_step_b228 C G ((x 30 0 16) - 1) r7 x6 _ _ _  h hI hS (lv_sub hl [4, 3] rfl)
              replace h := ite_n hc h
              refine lv_aload_n hx hb dX11_step_213 rfl (lv_at hl 4 rfl) ?_
              refine lv_iload_n hx hb dX11_step_214 rfl (lv_at hl 3 rfl) ?_
              refine lv_iload_n hx hb dX11_step_215 rfl (lv_at hl 1 rfl) ?_
              obtain ⟨r10, x9, hq11, h⟩ := bnd_some h
              refine w_callV (fr := 1) (lo := 23) C G hI hS 30 0 (hI.at1 rfl) (fcE_30 g _ _) rfl mv_X11_reckons km_X11_215 [.int ((x 30 0 16) - 1), .int ((48 * (x 57 0 ((x 30 0 16) - 1).toNatClampNeg)) + (x 58 0 ((x 30 0 16) - 1).toNatClampNeg))] (k_X11_reckons l g ((x 30 0 16) - 1) ((48 * (x 57 0 ((x 30 0 16) - 1).toNatClampNeg)) + (x 58 0 ((x 30 0 16) - 1).toNatClampNeg)) x _ _  hq11) rfl (by first | exact ⟨by decide, by decide⟩ | exact ⟨by show _ ≤ _ + _; omega, by show _ ≤ _ + _; omega⟩) ⟨Nat.zero_le _, Nat.zero_le _⟩ hl.1 rfl (Nat.le_of_ble_eq_true rfl) dX11_step_216 (fun H locs hI hS => ?_)
              refine lv_goto (tgt := 228) hx hb dX11_step_219 (by decide) ?_
              exact w_X11_step_b228 C G ((x 30 0 16) - 1) r10 x9 _ _ _  h hI hS (lv_sub hl [4, 3] rfl)
            replace h := ite_y hc h
            refine lv_aload_n hx hb dX11_step_192 rfl (lv_at hl 4 rfl) ?_
            refine lv_iload_n hx hb dX11_step_193 rfl (lv_at hl 3 rfl) ?_
            refine lv_aload_n hx hb dX11_step_194 rfl (lv_at hl 4 rfl) ?_
            refine w_get C G hI 30 0 (hI.at1 rfl) (fcE_30 g _ _) rfl in_X11 3 (by decide) kf_X11_19 (fun _ h => h) (v := .ref (ga g 43 0)) rfl dX11_step_195 ?_
            refine lv_iload_n hx hb dX11_step_198 rfl (lv_at hl 1 rfl) ?_
            obtain ⟨hn12, h⟩ := need_t h
            refine w_iald C G hI 43 0 (hI.at1 rfl) (fcA_43 g _ _) (inb_in hn12) dX11_step_199 ?_
            obtain ⟨x13, hq15, h⟩ := bnv_some h
            refine w_callV (fr := 4) (lo := 88) C G hI hS 30 0 (hI.at1 rfl) (fcE_30 g _ _) rfl mv_X11_begins km_X11_208 [.int ((x 30 0 16) - 1), .int (x 43 0 ((48 * (x 57 0 ((x 30 0 16) - 1).toNatClampNeg)) + (x 58 0 ((x 30 0 16) - 1).toNatClampNeg)).toNatClampNeg)] (k_X11_begins l g ((x 30 0 16) - 1) (x 43 0 ((48 * (x 57 0 ((x 30 0 16) - 1).toNatClampNeg)) + (x 58 0 ((x 30 0 16) - 1).toNatClampNeg)).toNatClampNeg) x _  hq15) rfl (by first | exact ⟨by decide, by decide⟩ | exact ⟨by show _ ≤ _ + _; omega, by show _ ≤ _ + _; omega⟩) ⟨Nat.zero_le _, Nat.zero_le _⟩ hl.1 rfl (Nat.le_of_ble_eq_true rfl) dX11_step_200 (fun H locs hI hS => ?_)
            refine lv_goto (tgt := 260) hx hb dX11_step_203 (by decide) ?_
            cases h
            exact w_vret C hI hS dX11_step_260
          replace h := ite_y hc h
          refine lv_aload_n hx hb dX11_step_163 rfl (lv_at hl 4 rfl) ?_
          refine lv_iload_n hx hb dX11_step_164 rfl (lv_at hl 3 rfl) ?_
          refine lv_bipush (v := 99) hx hb dX11_step_165 (by decide) ?_
          refine lv_iconst (v := 1) hx hb dX11_step_167 (by decide) ?_
          refine lv_aload_n hx hb dX11_step_168 rfl (lv_at hl 4 rfl) ?_
          refine lv_iload_n hx hb dX11_step_169 rfl (lv_at hl 3 rfl) ?_
          refine lv_aload_n hx hb dX11_step_170 rfl (lv_at hl 4 rfl) ?_
          refine w_get C G hI 30 0 (hI.at1 rfl) (fcE_30 g _ _) rfl in_X11 2 (by decide) kf_X11_16 (fun _ h => h) (v := .ref (ga g 42 0)) rfl dX11_step_171 ?_
          refine lv_iload_n hx hb dX11_step_174 rfl (lv_at hl 1 rfl) ?_
          obtain ⟨hn16, h⟩ := need_t h
          refine w_iald C G hI 42 0 (hI.at1 rfl) (fcA_42 g _ _) (inb_in hn16) dX11_step_175 ?_
          obtain ⟨r18, x17, hq19, h⟩ := bnd_some h
          refine w_callV (fr := 0) (lo := 0) C G hI hS 30 0 (hI.at1 rfl) (fcE_30 g _ _) rfl mv_X11_get km_X11_211 [.int ((x 30 0 16) - 1), .int (x 42 0 ((48 * (x 57 0 ((x 30 0 16) - 1).toNatClampNeg)) + (x 58 0 ((x 30 0 16) - 1).toNatClampNeg)).toNatClampNeg)] (k_X11_get l g ((x 30 0 16) - 1) (x 42 0 ((48 * (x 57 0 ((x 30 0 16) - 1).toNatClampNeg)) + (x 58 0 ((x 30 0 16) - 1).toNatClampNeg)).toNatClampNeg) x _ _  hq19) rfl (by first | exact ⟨by decide, by decide⟩ | exact ⟨by show _ ≤ _ + _; omega, by show _ ≤ _ + _; omega⟩) ⟨Nat.zero_le _, Nat.zero_le _⟩ hl.1 rfl (Nat.le_of_ble_eq_true rfl) dX11_step_176 (fun H locs hI hS => ?_)
          obtain ⟨x20, hq22, h⟩ := bnv_some h
          refine w_callV (fr := 0) (lo := 0) C G hI hS 30 0 (hI.at1 rfl) (fcE_30 g _ _) rfl mv_X11_leave km_X11_198 [.int ((x 30 0 16) - 1), .int 99, .int 1, .int r18] (k_X11_leave l g ((x 30 0 16) - 1) 99 1 r18 x17 _  hq22) rfl (by first | exact ⟨by decide, by decide⟩ | exact ⟨by show _ ≤ _ + _; omega, by show _ ≤ _ + _; omega⟩) ⟨Nat.zero_le _, Nat.zero_le _⟩ hl.1 rfl (Nat.le_of_ble_eq_true rfl) dX11_step_179 (fun H locs hI hS => ?_)
          refine lv_goto (tgt := 260) hx hb dX11_step_182 (by decide) ?_
          cases h
          exact w_vret C hI hS dX11_step_260
        replace h := ite_y hc h
        refine lv_aload_n hx hb dX11_step_112 rfl (lv_at hl 4 rfl) ?_
        obtain ⟨r24, x23, hq25, h⟩ := bnd_some h
        refine w_callV (fr := 2) (lo := 43) C G hI hS 30 0 (hI.at1 rfl) (fcE_30 g _ _) rfl mv_X11_counts km_X11_178 [] (k_X11_counts l g  x _ _  hq25) rfl (by first | exact ⟨by decide, by decide⟩ | exact ⟨by show _ ≤ _ + _; omega, by show _ ≤ _ + _; omega⟩) ⟨Nat.zero_le _, Nat.zero_le _⟩ hl.1 rfl (Nat.le_of_ble_eq_true rfl) dX11_step_113 (fun H locs hI hS => ?_)
        refine lv_if_eq (tgt := 260) hx hb dX11_step_116 (by decide) (fun hc => ?_) (fun hc => ?_)
        · replace h := ite_y hc h
          cases h
          exact w_vret C hI hS dX11_step_260
        replace h := ite_n hc h
        refine lv_aload_n hx hb dX11_step_119 rfl (lv_at hl 4 rfl) ?_
        refine lv_aload_n hx hb dX11_step_120 rfl (lv_at hl 4 rfl) ?_
        refine w_get C G hI 30 0 (hI.at1 rfl) (fcE_30 g _ _) rfl in_X11 3 (by decide) kf_X11_19 (fun _ h => h) (v := .ref (ga g 43 0)) rfl dX11_step_121 ?_
        refine lv_iload_n hx hb dX11_step_124 rfl (lv_at hl 1 rfl) ?_
        obtain ⟨hn26, h⟩ := need_t h
        refine w_iald C G hI 43 0 (hI.at1 rfl) (fcA_43 g _ _) (inb_in hn26) dX11_step_125 ?_
        refine lv_iload_n hx hb dX11_step_126 rfl (lv_at hl 3 rfl) ?_
        refine lv_aload_n hx hb dX11_step_127 rfl (lv_at hl 4 rfl) ?_
        refine w_get C G hI 30 0 (hI.at1 rfl) (fcE_30 g _ _) rfl in_X11 5 (by decide) kf_X11_25 (fun _ h => h) (v := .ref (ga g 45 0)) rfl dX11_step_128 ?_
        refine lv_iload_n hx hb dX11_step_131 rfl (lv_at hl 1 rfl) ?_
        obtain ⟨hn27, h⟩ := need_t h
        refine w_iald C G hI 45 0 (hI.at1 rfl) (fcA_45 g _ _) (inb_in hn27) dX11_step_132 ?_
        refine lv_aload_n hx hb dX11_step_133 rfl (lv_at hl 4 rfl) ?_
        refine w_get C G hI 30 0 (hI.at1 rfl) (fcE_30 g _ _) rfl in_X11 4 (by decide) kf_X11_22 (fun _ h => h) (v := .ref (ga g 44 0)) rfl dX11_step_134 ?_
        refine lv_iload_n hx hb dX11_step_137 rfl (lv_at hl 1 rfl) ?_
        obtain ⟨hn28, h⟩ := need_t h
        refine w_iald C G hI 44 0 (hI.at1 rfl) (fcA_44 g _ _) (inb_in hn28) dX11_step_138 ?_
        refine lv_iconst (v := 0) hx hb dX11_step_139 (by decide) ?_
        obtain ⟨r30, x29, hq31, h⟩ := bnd_some h
        refine w_callV (fr := 0) (lo := 0) C G hI hS 30 0 (hI.at1 rfl) (fcE_30 g _ _) rfl mv_X11_makes km_X11_194 [.int (x23 43 0 ((48 * (x 57 0 ((x 30 0 16) - 1).toNatClampNeg)) + (x 58 0 ((x 30 0 16) - 1).toNatClampNeg)).toNatClampNeg), .int ((x 30 0 16) - 1), .int (x23 45 0 ((48 * (x 57 0 ((x 30 0 16) - 1).toNatClampNeg)) + (x 58 0 ((x 30 0 16) - 1).toNatClampNeg)).toNatClampNeg), .int (x23 44 0 ((48 * (x 57 0 ((x 30 0 16) - 1).toNatClampNeg)) + (x 58 0 ((x 30 0 16) - 1).toNatClampNeg)).toNatClampNeg), .int 0] (k_X11_makes l g (x23 43 0 ((48 * (x 57 0 ((x 30 0 16) - 1).toNatClampNeg)) + (x 58 0 ((x 30 0 16) - 1).toNatClampNeg)).toNatClampNeg) ((x 30 0 16) - 1) (x23 45 0 ((48 * (x 57 0 ((x 30 0 16) - 1).toNatClampNeg)) + (x 58 0 ((x 30 0 16) - 1).toNatClampNeg)).toNatClampNeg) (x23 44 0 ((48 * (x 57 0 ((x 30 0 16) - 1).toNatClampNeg)) + (x 58 0 ((x 30 0 16) - 1).toNatClampNeg)).toNatClampNeg) 0 x23 _ _  hq31) rfl (by first | exact ⟨by decide, by decide⟩ | exact ⟨by show _ ≤ _ + _; omega, by show _ ≤ _ + _; omega⟩) ⟨Nat.zero_le _, Nat.zero_le _⟩ hl.1 rfl (Nat.le_of_ble_eq_true rfl) dX11_step_140 (fun H locs hI hS => ?_)
        refine lv_if_ne (tgt := 260) hx hb dX11_step_143 (by decide) (fun hc => ?_) (fun hc => ?_)
        · replace h := ite_n hc h
          cases h
          exact w_vret C hI hS dX11_step_260
        replace h := ite_y hc h
        refine lv_aload_n hx hb dX11_step_146 rfl (lv_at hl 4 rfl) ?_
        refine lv_iload_n hx hb dX11_step_147 rfl (lv_at hl 3 rfl) ?_
        refine lv_bipush (v := 7) hx hb dX11_step_148 (by decide) ?_
        obtain ⟨x32, hq34, h⟩ := bnv_some h
        refine w_callV (fr := 4) (lo := 88) C G hI hS 30 0 (hI.at1 rfl) (fcE_30 g _ _) rfl mv_X11_begins km_X11_208 [.int ((x 30 0 16) - 1), .int 7] (k_X11_begins l g ((x 30 0 16) - 1) 7 x29 _  hq34) rfl (by first | exact ⟨by decide, by decide⟩ | exact ⟨by show _ ≤ _ + _; omega, by show _ ≤ _ + _; omega⟩) ⟨Nat.zero_le _, Nat.zero_le _⟩ hl.1 rfl (Nat.le_of_ble_eq_true rfl) dX11_step_150 (fun H locs hI hS => ?_)
        refine lv_goto (tgt := 260) hx hb dX11_step_153 (by decide) ?_
        cases h
        exact w_vret C hI hS dX11_step_260
      replace h := ite_y hc h
      refine lv_aload_n hx hb dX11_step_96 rfl (lv_at hl 4 rfl) ?_
      refine lv_iload_n hx hb dX11_step_97 rfl (lv_at hl 3 rfl) ?_
      refine lv_iload_n hx hb dX11_step_98 rfl (lv_at hl 1 rfl) ?_
      obtain ⟨x35, hq37, h⟩ := bnv_some h
      refine w_callV (fr := 5) (lo := 110) C G hI hS 30 0 (hI.at1 rfl) (fcE_30 g _ _) rfl mv_X11_news km_X11_205 [.int ((x 30 0 16) - 1), .int ((48 * (x 57 0 ((x 30 0 16) - 1).toNatClampNeg)) + (x 58 0 ((x 30 0 16) - 1).toNatClampNeg))] (k_X11_news l g ((x 30 0 16) - 1) ((48 * (x 57 0 ((x 30 0 16) - 1).toNatClampNeg)) + (x 58 0 ((x 30 0 16) - 1).toNatClampNeg)) x _  hq37) rfl (by first | exact ⟨by decide, by decide⟩ | exact ⟨by show _ ≤ _ + _; omega, by show _ ≤ _ + _; omega⟩) ⟨Nat.zero_le _, Nat.zero_le _⟩ hl.1 rfl (Nat.le_of_ble_eq_true rfl) dX11_step_99 (fun H locs hI hS => ?_)
      refine lv_goto (tgt := 260) hx hb dX11_step_102 (by decide) ?_
      cases h
      exact w_vret C hI hS dX11_step_260
    replace h := ite_y hc h
    exact w_X11_step_b80 C G ((x 30 0 16) - 1) ((48 * (x 57 0 ((x 30 0 16) - 1).toNatClampNeg)) + (x 58 0 ((x 30 0 16) - 1).toNatClampNeg)) x _ _ _  h hI hS (lv_sub hl [4, 3, 1] rfl)
  replace h := ite_n hc h
  refine lv_aload_n hx hb dX11_step_29 rfl (lv_at hl 2 rfl) ?_
  refine lv_dup hx hb dX11_step_30 rfl ?_
  refine w_get C G hI 30 0 (hI.at1 rfl) (fcE_30 g _ _) rfl in_X11 16 (by decide) kf_X11_119 (fun _ h => h) (v := .int (x 30 0 16)) rfl dX11_step_31 ?_
  refine lv_iconst (v := 1) hx hb dX11_step_34 (by decide) ?_
  refine lv_isub hx hb dX11_step_35 ?_
  refine w_put C G hI hS 30 0 (hI.at1 rfl) rfl (fcE_30 g _ _) rfl in_X11 tyX11 tyX11_ok nmX11 16 (by decide) kf_X11_119 (fun _ h => h) rfl (ty := .int) (y := ((x 30 0 16) - 1)) (by decide +kernel) rfl rfl (Nat.le_of_ble_eq_true rfl) (m44_set_16 g _ _) dX11_step_36 (fun H locs hI hS => ?_)
  obtain ⟨x38, e_x38, h⟩ := lets_some h
  rw [← e_x38] at hI
  refine lv_aload_n hx hb dX11_step_39 rfl (lv_at hl 2 rfl) ?_
  refine lv_iload_n hx hb dX11_step_40 rfl (lv_at hl 1 rfl) ?_
  refine lv_iconst (v := 0) hx hb dX11_step_41 (by decide) ?_
  obtain ⟨x39, hq41, h⟩ := bnv_some h
  refine w_callV (fr := 1) (lo := 24) C G hI hS 30 0 (hI.at1 rfl) (fcE_30 g _ _) rfl mv_X11_gave km_X11_191 [.int ((x 30 0 16) - 1), .int 0] (k_X11_gave l g ((x 30 0 16) - 1) 0 x38 _  hq41) rfl (by first | exact ⟨by decide, by decide⟩ | exact ⟨by show _ ≤ _ + _; omega, by show _ ≤ _ + _; omega⟩) ⟨Nat.zero_le _, Nat.zero_le _⟩ hl.1 rfl (Nat.le_of_ble_eq_true rfl) dX11_step_42 (fun H locs hI hS => ?_)
  cases h
  exact w_vret C hI hS dX11_step_45
theorem k_X11_step (l : Launch) (g : gT)  (x : st) (x' : st)  (h : f_X11_step  x = some x') : Kt l yX11_step cX11_step 6 none 6 134 g [.ref (ga g 30 0)] x none x' := by
  refine Kt.of (by decide) (fun p e s m below meth c C G hI => ?_)
  have hl := lv_entry ([.ref (ga g 30 0)]) (n := 6) (Nat.le_of_ble_eq_true rfl)
  rw [lg_entry_eq]
  generalize (lg_sl ([.ref (ga g 30 0)]) ++ List.replicate (6 - (lg_sl ([.ref (ga g 30 0)])).length) Slot.unset).toArray = ls at hl ⊢
  have hl : lv_has ls 6 [(0, .ref (ga g 30 0))] := hl
  exact w_X11_step C G  x _ _ ls  h hI va_S.rf hl
theorem mv_X11_step : mtV yX11_step RX11 cX11_step 6 none 0 := ⟨ki_X11_step, kl_X11_step, kI_X11, kc_X11_step, by decide +kernel⟩

/-! X11_run -/
def f_X11_run_b18 (fu : Nat)  (x : st) : Option (Int32 × st) := some ((-1), x)
set_option maxHeartbeats 4000000 in
set_option maxRecDepth 100000 in
theorem w_X11_run_b18 {p : Program} {l : Launch} {e : Env} {s : State} {m : MethodId} {args : Array Value} {below : List Frame} {meth : Method} {c : Code} {g : gT} {r : Int32} {x' : st} (C : cxt p s m meth c args cX11_run 5 RX11 (some .int)) (G : gst g s) (fu : Nat)  (x : st) (H : Heap) (locs : List Loc) (ls : Array Slot)  (h : f_X11_run_b18 fu  x = some (r, x')) (hI : wst g x H) (hS : va_S (zA (gz g)) s.heap H locs) (hl : lv_has ls 5 []) : W p l e (rmC 7 159) s m args below meth c H locs 0 0 (MQ below (Qx g (some (.int r)) x') args s 0 0 (zA (gz g))) (F0 m 18 ls []) := by
  obtain ⟨hx, hb, hml, hown, hts, hlk, hrt⟩ := id C
  unfold f_X11_run_b18 at h
  refine lv_iconst (v := (-1)) hx hb dX11_run_18 (by decide) ?_
  cases h
  exact w_ireti C hI hS dX11_run_19
def f_X11_run_b210 (fu : Nat)  (x : st) : Option (Int32 × st) := some ((x 30 0 35), x)
set_option maxHeartbeats 4000000 in
set_option maxRecDepth 100000 in
theorem w_X11_run_b210 {p : Program} {l : Launch} {e : Env} {s : State} {m : MethodId} {args : Array Value} {below : List Frame} {meth : Method} {c : Code} {g : gT} {r : Int32} {x' : st} (C : cxt p s m meth c args cX11_run 5 RX11 (some .int)) (G : gst g s) (fu : Nat)  (x : st) (H : Heap) (locs : List Loc) (ls : Array Slot)  (h : f_X11_run_b210 fu  x = some (r, x')) (hI : wst g x H) (hS : va_S (zA (gz g)) s.heap H locs) (hl : lv_has ls 5 [(0, .ref (ga g 30 0))]) : W p l e (rmC 7 159) s m args below meth c H locs 0 0 (MQ below (Qx g (some (.int r)) x') args s 0 0 (zA (gz g))) (F0 m 210 ls []) := by
  obtain ⟨hx, hb, hml, hown, hts, hlk, hrt⟩ := id C
  unfold f_X11_run_b210 at h
  refine lv_aload_n hx hb dX11_run_210 rfl (lv_at hl 0 rfl) ?_
  refine w_get C G hI 30 0 (hI.at1 rfl) (fcE_30 g _ _) rfl in_X11 35 (by decide) kf_X11_165 (fun _ h => h) (v := .int (x 30 0 35)) rfl dX11_run_211 ?_
  cases h
  exact w_ireti C hI hS dX11_run_214
def f_X11_run_b181 (fu : Nat) (lp : st → Option (Int32 × st))  (x : st) : Option (Int32 × st) := lp  x
set_option maxHeartbeats 4000000 in
set_option maxRecDepth 100000 in
theorem w_X11_run_b181 {p : Program} {l : Launch} {e : Env} {s : State} {m : MethodId} {args : Array Value} {below : List Frame} {meth : Method} {c : Code} {g : gT} {r : Int32} {x' : st} (C : cxt p s m meth c args cX11_run 5 RX11 (some .int)) (G : gst g s) (fu : Nat) (lp : st → Option (Int32 × st)) (hlp : ∀  (x : st) (H : Heap) (locs : List Loc) (ls : Array Slot), lp  x = some (r, x') → wst g x H → va_S (zA (gz g)) s.heap H locs → lv_has ls 5 [(0, .ref (ga g 30 0))] → W p l e (rmC 7 159) s m args below meth c H locs 0 0 (MQ below (Qx g (some (.int r)) x') args s 0 0 (zA (gz g))) (F0 m 120 ls []))  (x : st) (H : Heap) (locs : List Loc) (ls : Array Slot)  (h : f_X11_run_b181 fu lp  x = some (r, x')) (hI : wst g x H) (hS : va_S (zA (gz g)) s.heap H locs) (hl : lv_has ls 5 [(0, .ref (ga g 30 0))]) : W p l e (rmC 7 159) s m args below meth c H locs 0 0 (MQ below (Qx g (some (.int r)) x') args s 0 0 (zA (gz g))) (F0 m 181 ls []) := by
  obtain ⟨hx, hb, hml, hown, hts, hlk, hrt⟩ := id C
  unfold f_X11_run_b181 at h
  refine lv_goto (tgt := 120) hx hb dX11_run_181 (by decide) ?_
  exact hlp  x _ _ _  h hI hS (lv_sub hl [0] rfl)
def f_X11_run_b158 (fu : Nat) (lp : st → Option (Int32 × st)) (v4 : Int32) (x : st) : Option (Int32 × st) := if inb v4 13 = true then if (x 62 0 v4.toNatClampNeg) = 0 then (bnv (f_X11_step  x) fun x30 => f_X11_run_b181 fu lp  x30) else (bnv (f_X11_leaveOn v4 x) fun x33 => f_X11_run_b181 fu lp  x33) else none
set_option maxHeartbeats 4000000 in
set_option maxRecDepth 100000 in
theorem w_X11_run_b158 {p : Program} {l : Launch} {e : Env} {s : State} {m : MethodId} {args : Array Value} {below : List Frame} {meth : Method} {c : Code} {g : gT} {r : Int32} {x' : st} (C : cxt p s m meth c args cX11_run 5 RX11 (some .int)) (G : gst g s) (fu : Nat) (lp : st → Option (Int32 × st)) (hlp : ∀  (x : st) (H : Heap) (locs : List Loc) (ls : Array Slot), lp  x = some (r, x') → wst g x H → va_S (zA (gz g)) s.heap H locs → lv_has ls 5 [(0, .ref (ga g 30 0))] → W p l e (rmC 7 159) s m args below meth c H locs 0 0 (MQ below (Qx g (some (.int r)) x') args s 0 0 (zA (gz g))) (F0 m 120 ls [])) (v4 : Int32) (x : st) (H : Heap) (locs : List Loc) (ls : Array Slot)  (h : f_X11_run_b158 fu lp v4 x = some (r, x')) (hI : wst g x H) (hS : va_S (zA (gz g)) s.heap H locs) (hl : lv_has ls 5 [(0, .ref (ga g 30 0)), (4, .int v4)]) : W p l e (rmC 7 159) s m args below meth c H locs 0 0 (MQ below (Qx g (some (.int r)) x') args s 0 0 (zA (gz g))) (F0 m 158 ls []) := by
  obtain ⟨hx, hb, hml, hown, hts, hlk, hrt⟩ := id C
  unfold f_X11_run_b158 at h
  refine lv_aload_n hx hb dX11_run_158 rfl (lv_at hl 0 rfl) ?_
  refine w_get C G hI 30 0 (hI.at1 rfl) (fcE_30 g _ _) rfl in_X11 22 (by decide) kf_X11_75 (fun _ h => h) (v := .ref (ga g 62 0)) rfl dX11_run_159 ?_
  refine lv_iload hx hb dX11_run_162 (lv_at hl 1 rfl) ?_
  obtain ⟨hn29, h⟩ := need_t h
  refine w_zald C G hI 62 0 (hI.at1 rfl) (fcA_62 g _ _) (inb_in hn29) dX11_run_164 ?_
  refine lv_if_eq (tgt := 177) hx hb dX11_run_165 (by decide) (fun hc => ?_) (fun hc => ?_)
  · replace h := ite_y hc h
    refine lv_aload_n hx hb dX11_run_177 rfl (lv_at hl 0 rfl) ?_
    obtain ⟨x30, hq32, h⟩ := bnv_some h
    refine w_callV (fr := 6) (lo := 134) C G hI hS 30 0 (hI.at1 rfl) (fcE_30 g _ _) rfl mv_X11_step km_X11_249 [] (k_X11_step l g  x _  hq32) rfl (by first | exact ⟨by decide, by decide⟩ | exact ⟨by show _ ≤ _ + _; omega, by show _ ≤ _ + _; omega⟩) ⟨Nat.zero_le _, Nat.zero_le _⟩ hl.1 rfl (Nat.le_of_ble_eq_true rfl) dX11_run_178 (fun H locs hI hS => ?_)
    exact w_X11_run_b181 C G fu lp hlp  x30 _ _ _  h hI hS (lv_sub hl [0] rfl)
  replace h := ite_n hc h
  refine lv_aload_n hx hb dX11_run_168 rfl (lv_at hl 0 rfl) ?_
  refine lv_iload hx hb dX11_run_169 (lv_at hl 1 rfl) ?_
  obtain ⟨x33, hq35, h⟩ := bnv_some h
  refine w_callV (fr := 6) (lo := 135) C G hI hS 30 0 (hI.at1 rfl) (fcE_30 g _ _) rfl mv_X11_leaveOn km_X11_245 [.int v4] (k_X11_leaveOn l g v4 x _  hq35) rfl (by first | exact ⟨by decide, by decide⟩ | exact ⟨by show _ ≤ _ + _; omega, by show _ ≤ _ + _; omega⟩) ⟨Nat.zero_le _, Nat.zero_le _⟩ hl.1 rfl (Nat.le_of_ble_eq_true rfl) dX11_run_171 (fun H locs hI hS => ?_)
  refine lv_goto (tgt := 181) hx hb dX11_run_174 (by decide) ?_
  exact w_X11_run_b181 C G fu lp hlp  x33 _ _ _  h hI hS (lv_sub hl [0] rfl)
def f_X11_run_b120 (fu : Nat) : Nat → st → Option (Int32 × st)
  | 0, _ => none
  | n + 1, x => if (x 30 0 36) = 0 then (if (x 30 0 37) = 0 then (f_X11_run_b158 fu (f_X11_run_b120 fu n) ((x 30 0 16) - 1) x) else (if ((x 30 0 16) - 1) = (x 30 0 38) then (bnv (f_X11_cleanOn  x) fun x29 => f_X11_run_b181 fu (f_X11_run_b120 fu n)  x29) else (f_X11_run_b158 fu (f_X11_run_b120 fu n) ((x 30 0 16) - 1) x))) else (if (x 30 0 37) = 0 then (f_X11_run_b210 fu  x) else (lets (sx x 30 0 35 1) fun x24 => if inb 0 9 = true then lets (sx x24 80 0 (0 : Int32).toNatClampNeg 0) fun x26 => if inb 1 9 = true then lets (sx x26 80 0 (1 : Int32).toNatClampNeg 0) fun x28 => f_X11_run_b210 fu  x28 else none else none))
set_option maxHeartbeats 4000000 in
set_option maxRecDepth 100000 in
theorem w_X11_run_b120 {p : Program} {l : Launch} {e : Env} {s : State} {m : MethodId} {args : Array Value} {below : List Frame} {meth : Method} {c : Code} {g : gT} {r : Int32} {x' : st} (C : cxt p s m meth c args cX11_run 5 RX11 (some .int)) (G : gst g s) (fu : Nat) : ∀ (n : Nat)  (x : st) (H : Heap) (locs : List Loc) (ls : Array Slot), f_X11_run_b120 fu n  x = some (r, x') → wst g x H → va_S (zA (gz g)) s.heap H locs → lv_has ls 5 [(0, .ref (ga g 30 0))] → W p l e (rmC 7 159) s m args below meth c H locs 0 0 (MQ below (Qx g (some (.int r)) x') args s 0 0 (zA (gz g))) (F0 m 120 ls []) := by
  obtain ⟨hx, hb, hml, hown, hts, hlk, hrt⟩ := id C
  intro n
  induction n with
  | zero =>
    intro x H locs ls h hI hS hl
    simp [f_X11_run_b120] at h
  | succ n ih =>
    intro x H locs ls h hI hS hl
    unfold f_X11_run_b120 at h
    refine lv_aload_n hx hb dX11_run_120 rfl (lv_at hl 0 rfl) ?_
    refine w_get C G hI 30 0 (hI.at1 rfl) (fcE_30 g _ _) rfl in_X11 36 (by decide) kf_X11_159 (fun _ h => h) (v := .int (x 30 0 36)) rfl dX11_run_121 ?_
    refine lv_if_ne (tgt := 184) hx hb dX11_run_124 (by decide) (fun hc => ?_) (fun hc => ?_)
    · replace h := ite_n hc h
      refine lv_aload_n hx hb dX11_run_184 rfl (lv_at hl 0 rfl) ?_
      refine w_get C G hI 30 0 (hI.at1 rfl) (fcE_30 g _ _) rfl in_X11 37 (by decide) kf_X11_149 (fun _ h => h) (v := .int (x 30 0 37)) rfl dX11_run_185 ?_
      refine lv_if_eq (tgt := 210) hx hb dX11_run_188 (by decide) (fun hc => ?_) (fun hc => ?_)
      · replace h := ite_y hc h
        exact w_X11_run_b210 C G fu  x _ _ _  h hI hS (lv_sub hl [0] rfl)
      replace h := ite_n hc h
      refine lv_aload_n hx hb dX11_run_191 rfl (lv_at hl 0 rfl) ?_
      refine lv_iconst (v := 1) hx hb dX11_run_192 (by decide) ?_
      refine w_put C G hI hS 30 0 (hI.at1 rfl) rfl (fcE_30 g _ _) rfl in_X11 tyX11 tyX11_ok nmX11 35 (by decide) kf_X11_165 (fun _ h => h) rfl (ty := .int) (y := 1) (by decide +kernel) rfl rfl (Nat.le_of_ble_eq_true rfl) (m44_set_35 g _ _) dX11_run_193 (fun H locs hI hS => ?_)
      obtain ⟨x24, e_x24, h⟩ := lets_some h
      rw [← e_x24] at hI
      refine lv_aload_n hx hb dX11_run_196 rfl (lv_at hl 0 rfl) ?_
      refine w_get C G hI 30 0 (hI.at1 rfl) (fcE_30 g _ _) rfl in_X11 40 (by decide) kf_X11_107 (fun _ h => h) (v := .ref (ga g 80 0)) rfl dX11_run_197 ?_
      refine lv_iconst (v := 0) hx hb dX11_run_200 (by decide) ?_
      refine lv_iconst (v := 0) hx hb dX11_run_201 (by decide) ?_
      obtain ⟨hn25, h⟩ := need_t h
      refine w_iast C G hI hS 80 0 (hI.at1 rfl) rfl (fcA_80 g _) (y := 0) (inb_in hn25) dX11_run_202 (fun H locs hI hS => ?_)
      obtain ⟨x26, e_x26, h⟩ := lets_some h
      rw [← e_x26] at hI
      refine lv_aload_n hx hb dX11_run_203 rfl (lv_at hl 0 rfl) ?_
      refine w_get C G hI 30 0 (hI.at1 rfl) (fcE_30 g _ _) rfl in_X11 40 (by decide) kf_X11_107 (fun _ h => h) (v := .ref (ga g 80 0)) rfl dX11_run_204 ?_
      refine lv_iconst (v := 1) hx hb dX11_run_207 (by decide) ?_
      refine lv_iconst (v := 0) hx hb dX11_run_208 (by decide) ?_
      obtain ⟨hn27, h⟩ := need_t h
      refine w_iast C G hI hS 80 0 (hI.at1 rfl) rfl (fcA_80 g _) (y := 0) (inb_in hn27) dX11_run_209 (fun H locs hI hS => ?_)
      obtain ⟨x28, e_x28, h⟩ := lets_some h
      rw [← e_x28] at hI
      exact w_X11_run_b210 C G fu  x28 _ _ _  h hI hS (lv_sub hl [0] rfl)
    replace h := ite_y hc h
    refine lv_aload_n hx hb dX11_run_127 rfl (lv_at hl 0 rfl) ?_
    refine w_get C G hI 30 0 (hI.at1 rfl) (fcE_30 g _ _) rfl in_X11 16 (by decide) kf_X11_119 (fun _ h => h) (v := .int (x 30 0 16)) rfl dX11_run_128 ?_
    refine lv_iconst (v := 1) hx hb dX11_run_131 (by decide) ?_
    refine lv_isub hx hb dX11_run_132 ?_
    refine lv_istore (lv' := [(4, .int ((x 30 0 16) - 1)), (0, .ref (ga g 30 0))]) hx hb dX11_run_133 hl (by decide) rfl (fun ls hl => ?_)
    refine lv_aload_n hx hb dX11_run_135 rfl (lv_at hl 1 rfl) ?_
    refine w_get C G hI 30 0 (hI.at1 rfl) (fcE_30 g _ _) rfl in_X11 37 (by decide) kf_X11_149 (fun _ h => h) (v := .int (x 30 0 37)) rfl dX11_run_136 ?_
    refine lv_if_eq (tgt := 158) hx hb dX11_run_139 (by decide) (fun hc => ?_) (fun hc => ?_)
    · replace h := ite_y hc h
      exact w_X11_run_b158 C G fu (f_X11_run_b120 fu n) ih ((x 30 0 16) - 1) x _ _ _  h hI hS (lv_sub hl [1, 0] rfl)
    replace h := ite_n hc h
    refine lv_iload hx hb dX11_run_142 (lv_at hl 0 rfl) ?_
    refine lv_aload_n hx hb dX11_run_144 rfl (lv_at hl 1 rfl) ?_
    refine w_get C G hI 30 0 (hI.at1 rfl) (fcE_30 g _ _) rfl in_X11 38 (by decide) kf_X11_162 (fun _ h => h) (v := .int (x 30 0 38)) rfl dX11_run_145 ?_
    refine lv_icmp_ne (tgt := 158) hx hb dX11_run_148 (by decide) (fun hc => ?_) (fun hc => ?_)
    · replace h := ite_n hc h
      exact w_X11_run_b158 C G fu (f_X11_run_b120 fu n) ih ((x 30 0 16) - 1) x _ _ _  h hI hS (lv_sub hl [1, 0] rfl)
    replace h := ite_y hc h
    refine lv_aload_n hx hb dX11_run_151 rfl (lv_at hl 1 rfl) ?_
    obtain ⟨x29, hq31, h⟩ := bnv_some h
    refine w_callV (fr := 3) (lo := 63) C G hI hS 30 0 (hI.at1 rfl) (fcE_30 g _ _) rfl mv_X11_cleanOn km_X11_242 [] (k_X11_cleanOn l g  x _  hq31) rfl (by first | exact ⟨by decide, by decide⟩ | exact ⟨by show _ ≤ _ + _; omega, by show _ ≤ _ + _; omega⟩) ⟨Nat.zero_le _, Nat.zero_le _⟩ hl.1 rfl (Nat.le_of_ble_eq_true rfl) dX11_run_152 (fun H locs hI hS => ?_)
    refine lv_goto (tgt := 181) hx hb dX11_run_155 (by decide) ?_
    exact w_X11_run_b181 C G fu (f_X11_run_b120 fu n) ih  x29 _ _ _  h hI hS (lv_sub hl [1] rfl)
def f_X11_run_b23 (fu : Nat) : Nat → Int32 → Int32 → Int32 → Int32 → st → Option (Int32 × st)
  | 0, _, _, _, _, _ => none
  | n + 1, v1, v2, v3, v4, x => if 9 ≤ v4 then (lets (sx x 30 0 34 v3) fun x7 => lets (sx x7 30 0 16 0) fun x8 => lets (sx x8 30 0 28 0) fun x9 => lets (sx x9 30 0 29 0) fun x10 => lets (sx x10 30 0 36 0) fun x11 => lets (sx x11 30 0 37 0) fun x12 => lets (sx x12 30 0 35 0) fun x13 => lets (sx x13 30 0 38 (-1)) fun x14 => lets (sx x14 30 0 39 0) fun x15 => bnd (f_X11_counts  x15) fun r17 x16 => if r17 = 0 then (lets (sx x16 30 0 35 1) fun x24 => some (1, x24)) else (bnd (f_X11_makes v1 (-1) 0 0 0 x16) fun r20 x19 => if inb 0 78 = true then lets (sx x19 59 0 (0 : Int32).toNatClampNeg v2) fun x23 => f_X11_run_b120 fu fu  x23 else none)) else (if inb v4 9 = true then lets (sx x 80 0 v4.toNatClampNeg 0) fun x26 => f_X11_run_b23 fu n v1 v2 v3 (v4 + 1) x26 else none)
set_option maxHeartbeats 4000000 in
set_option maxRecDepth 100000 in
theorem w_X11_run_b23 {p : Program} {l : Launch} {e : Env} {s : State} {m : MethodId} {args : Array Value} {below : List Frame} {meth : Method} {c : Code} {g : gT} {r : Int32} {x' : st} (C : cxt p s m meth c args cX11_run 5 RX11 (some .int)) (G : gst g s) (fu : Nat) : ∀ (n : Nat) (v1 : Int32) (v2 : Int32) (v3 : Int32) (v4 : Int32) (x : st) (H : Heap) (locs : List Loc) (ls : Array Slot), f_X11_run_b23 fu n v1 v2 v3 v4 x = some (r, x') → wst g x H → va_S (zA (gz g)) s.heap H locs → lv_has ls 5 [(0, .ref (ga g 30 0)), (1, .int v1), (2, .int v2), (3, .int v3), (4, .int v4)] → W p l e (rmC 7 159) s m args below meth c H locs 0 0 (MQ below (Qx g (some (.int r)) x') args s 0 0 (zA (gz g))) (F0 m 23 ls []) := by
  obtain ⟨hx, hb, hml, hown, hts, hlk, hrt⟩ := id C
  intro n
  induction n with
  | zero =>
    intro v1 v2 v3 v4 x H locs ls h hI hS hl
    simp [f_X11_run_b23] at h
  | succ n ih =>
    intro v1 v2 v3 v4 x H locs ls h hI hS hl
    unfold f_X11_run_b23 at h
    refine lv_iload hx hb dX11_run_23 (lv_at hl 4 rfl) ?_
    refine lv_bipush (v := 9) hx hb dX11_run_25 (by decide) ?_
    refine lv_icmp_ge (tgt := 44) hx hb dX11_run_27 (by decide) (fun hc => ?_) (fun hc => ?_)
    · replace h := ite_y hc h
      refine lv_aload_n hx hb dX11_run_44 rfl (lv_at hl 0 rfl) ?_
      refine lv_iload_n hx hb dX11_run_45 rfl (lv_at hl 3 rfl) ?_
      refine w_put C G hI hS 30 0 (hI.at1 rfl) rfl (fcE_30 g _ _) rfl in_X11 tyX11 tyX11_ok nmX11 34 (by decide) kf_X11_153 (fun _ h => h) rfl (ty := .int) (y := v3) (by decide +kernel) rfl rfl (Nat.le_of_ble_eq_true rfl) (m44_set_34 g _ _) dX11_run_46 (fun H locs hI hS => ?_)
      obtain ⟨x7, e_x7, h⟩ := lets_some h
      rw [← e_x7] at hI
      refine lv_aload_n hx hb dX11_run_49 rfl (lv_at hl 0 rfl) ?_
      refine lv_iconst (v := 0) hx hb dX11_run_50 (by decide) ?_
      refine w_put C G hI hS 30 0 (hI.at1 rfl) rfl (fcE_30 g _ _) rfl in_X11 tyX11 tyX11_ok nmX11 16 (by decide) kf_X11_119 (fun _ h => h) rfl (ty := .int) (y := 0) (by decide +kernel) rfl rfl (Nat.le_of_ble_eq_true rfl) (m44_set_16 g _ _) dX11_run_51 (fun H locs hI hS => ?_)
      obtain ⟨x8, e_x8, h⟩ := lets_some h
      rw [← e_x8] at hI
      refine lv_aload_n hx hb dX11_run_54 rfl (lv_at hl 0 rfl) ?_
      refine lv_iconst (v := 0) hx hb dX11_run_55 (by decide) ?_
      refine w_put C G hI hS 30 0 (hI.at1 rfl) rfl (fcE_30 g _ _) rfl in_X11 tyX11 tyX11_ok nmX11 28 (by decide) kf_X11_221 (fun _ h => h) rfl (ty := .int) (y := 0) (by decide +kernel) rfl rfl (Nat.le_of_ble_eq_true rfl) (m44_set_28 g _ _) dX11_run_56 (fun H locs hI hS => ?_)
      obtain ⟨x9, e_x9, h⟩ := lets_some h
      rw [← e_x9] at hI
      refine lv_aload_n hx hb dX11_run_59 rfl (lv_at hl 0 rfl) ?_
      refine lv_iconst (v := 0) hx hb dX11_run_60 (by decide) ?_
      refine w_put C G hI hS 30 0 (hI.at1 rfl) rfl (fcE_30 g _ _) rfl in_X11 tyX11 tyX11_ok nmX11 29 (by decide) kf_X11_224 (fun _ h => h) rfl (ty := .int) (y := 0) (by decide +kernel) rfl rfl (Nat.le_of_ble_eq_true rfl) (m44_set_29 g _ _) dX11_run_61 (fun H locs hI hS => ?_)
      obtain ⟨x10, e_x10, h⟩ := lets_some h
      rw [← e_x10] at hI
      refine lv_aload_n hx hb dX11_run_64 rfl (lv_at hl 0 rfl) ?_
      refine lv_iconst (v := 0) hx hb dX11_run_65 (by decide) ?_
      refine w_put C G hI hS 30 0 (hI.at1 rfl) rfl (fcE_30 g _ _) rfl in_X11 tyX11 tyX11_ok nmX11 36 (by decide) kf_X11_159 (fun _ h => h) rfl (ty := .boolean) (y := 0) (by decide +kernel) rfl rfl (Nat.le_of_ble_eq_true rfl) (m44_set_36 g _ _) dX11_run_66 (fun H locs hI hS => ?_)
      obtain ⟨x11, e_x11, h⟩ := lets_some h
      rw [← e_x11] at hI
      refine lv_aload_n hx hb dX11_run_69 rfl (lv_at hl 0 rfl) ?_
      refine lv_iconst (v := 0) hx hb dX11_run_70 (by decide) ?_
      refine w_put C G hI hS 30 0 (hI.at1 rfl) rfl (fcE_30 g _ _) rfl in_X11 tyX11 tyX11_ok nmX11 37 (by decide) kf_X11_149 (fun _ h => h) rfl (ty := .boolean) (y := 0) (by decide +kernel) rfl rfl (Nat.le_of_ble_eq_true rfl) (m44_set_37 g _ _) dX11_run_71 (fun H locs hI hS => ?_)
      obtain ⟨x12, e_x12, h⟩ := lets_some h
      rw [← e_x12] at hI
      refine lv_aload_n hx hb dX11_run_74 rfl (lv_at hl 0 rfl) ?_
      refine lv_iconst (v := 0) hx hb dX11_run_75 (by decide) ?_
      refine w_put C G hI hS 30 0 (hI.at1 rfl) rfl (fcE_30 g _ _) rfl in_X11 tyX11 tyX11_ok nmX11 35 (by decide) kf_X11_165 (fun _ h => h) rfl (ty := .int) (y := 0) (by decide +kernel) rfl rfl (Nat.le_of_ble_eq_true rfl) (m44_set_35 g _ _) dX11_run_76 (fun H locs hI hS => ?_)
      obtain ⟨x13, e_x13, h⟩ := lets_some h
      rw [← e_x13] at hI
      refine lv_aload_n hx hb dX11_run_79 rfl (lv_at hl 0 rfl) ?_
      refine lv_iconst (v := (-1)) hx hb dX11_run_80 (by decide) ?_
      refine w_put C G hI hS 30 0 (hI.at1 rfl) rfl (fcE_30 g _ _) rfl in_X11 tyX11 tyX11_ok nmX11 38 (by decide) kf_X11_162 (fun _ h => h) rfl (ty := .int) (y := (-1)) (by decide +kernel) rfl rfl (Nat.le_of_ble_eq_true rfl) (m44_set_38 g _ _) dX11_run_81 (fun H locs hI hS => ?_)
      obtain ⟨x14, e_x14, h⟩ := lets_some h
      rw [← e_x14] at hI
      refine lv_aload_n hx hb dX11_run_84 rfl (lv_at hl 0 rfl) ?_
      refine lv_iconst (v := 0) hx hb dX11_run_85 (by decide) ?_
      refine w_put C G hI hS 30 0 (hI.at1 rfl) rfl (fcE_30 g _ _) rfl in_X11 tyX11 tyX11_ok nmX11 39 (by decide) kf_X11_172 (fun _ h => h) rfl (ty := .int) (y := 0) (by decide +kernel) rfl rfl (Nat.le_of_ble_eq_true rfl) (m44_set_39 g _ _) dX11_run_86 (fun H locs hI hS => ?_)
      obtain ⟨x15, e_x15, h⟩ := lets_some h
      rw [← e_x15] at hI
      refine lv_aload_n hx hb dX11_run_89 rfl (lv_at hl 0 rfl) ?_
      obtain ⟨r17, x16, hq18, h⟩ := bnd_some h
      refine w_callV (fr := 2) (lo := 43) C G hI hS 30 0 (hI.at1 rfl) (fcE_30 g _ _) rfl mv_X11_counts km_X11_178 [] (k_X11_counts l g  x15 _ _  hq18) rfl (by first | exact ⟨by decide, by decide⟩ | exact ⟨by show _ ≤ _ + _; omega, by show _ ≤ _ + _; omega⟩) ⟨Nat.zero_le _, Nat.zero_le _⟩ hl.1 rfl (Nat.le_of_ble_eq_true rfl) dX11_run_90 (fun H locs hI hS => ?_)
      refine lv_if_ne (tgt := 103) hx hb dX11_run_93 (by decide) (fun hc => ?_) (fun hc => ?_)
      · replace h := ite_n hc h
        refine lv_aload_n hx hb dX11_run_103 rfl (lv_at hl 0 rfl) ?_
        refine lv_iload_n hx hb dX11_run_104 rfl (lv_at hl 1 rfl) ?_
        refine lv_iconst (v := (-1)) hx hb dX11_run_105 (by decide) ?_
        refine lv_iconst (v := 0) hx hb dX11_run_106 (by decide) ?_
        refine lv_iconst (v := 0) hx hb dX11_run_107 (by decide) ?_
        refine lv_iconst (v := 0) hx hb dX11_run_108 (by decide) ?_
        obtain ⟨r20, x19, hq21, h⟩ := bnd_some h
        refine w_callV (fr := 0) (lo := 0) C G hI hS 30 0 (hI.at1 rfl) (fcE_30 g _ _) rfl mv_X11_makes km_X11_194 [.int v1, .int (-1), .int 0, .int 0, .int 0] (k_X11_makes l g v1 (-1) 0 0 0 x16 _ _  hq21) rfl (by first | exact ⟨by decide, by decide⟩ | exact ⟨by show _ ≤ _ + _; omega, by show _ ≤ _ + _; omega⟩) ⟨Nat.zero_le _, Nat.zero_le _⟩ hl.1 rfl (Nat.le_of_ble_eq_true rfl) dX11_run_109 (fun H locs hI hS => ?_)
        refine lv_pop hx hb dX11_run_112 rfl ?_
        refine lv_aload_n hx hb dX11_run_113 rfl (lv_at hl 0 rfl) ?_
        refine w_get C G hI 30 0 (hI.at1 rfl) (fcE_30 g _ _) rfl in_X11 19 (by decide) kf_X11_65 (fun _ h => h) (v := .ref (ga g 59 0)) rfl dX11_run_114 ?_
        refine lv_iconst (v := 0) hx hb dX11_run_117 (by decide) ?_
        refine lv_iload_n hx hb dX11_run_118 rfl (lv_at hl 2 rfl) ?_
        obtain ⟨hn22, h⟩ := need_t h
        refine w_iast C G hI hS 59 0 (hI.at1 rfl) rfl (fcA_59 g _) (y := v2) (inb_in hn22) dX11_run_119 (fun H locs hI hS => ?_)
        obtain ⟨x23, e_x23, h⟩ := lets_some h
        rw [← e_x23] at hI
        exact w_X11_run_b120 C G fu fu  x23 _ _ _  h hI hS (lv_sub hl [0] rfl)
      replace h := ite_y hc h
      refine lv_aload_n hx hb dX11_run_96 rfl (lv_at hl 0 rfl) ?_
      refine lv_iconst (v := 1) hx hb dX11_run_97 (by decide) ?_
      refine w_put C G hI hS 30 0 (hI.at1 rfl) rfl (fcE_30 g _ _) rfl in_X11 tyX11 tyX11_ok nmX11 35 (by decide) kf_X11_165 (fun _ h => h) rfl (ty := .int) (y := 1) (by decide +kernel) rfl rfl (Nat.le_of_ble_eq_true rfl) (m44_set_35 g _ _) dX11_run_98 (fun H locs hI hS => ?_)
      obtain ⟨x24, e_x24, h⟩ := lets_some h
      rw [← e_x24] at hI
      refine lv_iconst (v := 1) hx hb dX11_run_101 (by decide) ?_
      cases h
      exact w_ireti C hI hS dX11_run_102
    replace h := ite_n hc h
    refine lv_aload_n hx hb dX11_run_30 rfl (lv_at hl 0 rfl) ?_
    refine w_get C G hI 30 0 (hI.at1 rfl) (fcE_30 g _ _) rfl in_X11 40 (by decide) kf_X11_107 (fun _ h => h) (v := .ref (ga g 80 0)) rfl dX11_run_31 ?_
    refine lv_iload hx hb dX11_run_34 (lv_at hl 4 rfl) ?_
    refine lv_iconst (v := 0) hx hb dX11_run_36 (by decide) ?_
    obtain ⟨hn25, h⟩ := need_t h
    refine w_iast C G hI hS 80 0 (hI.at1 rfl) rfl (fcA_80 g _) (y := 0) (inb_in hn25) dX11_run_37 (fun H locs hI hS => ?_)
    obtain ⟨x26, e_x26, h⟩ := lets_some h
    rw [← e_x26] at hI
    refine lv_iinc (v := (v4 + 1)) (lv' := [(4, .int (v4 + 1)), (0, .ref (ga g 30 0)), (1, .int v1), (2, .int v2), (3, .int v3)]) hx hb dX11_run_38 hl (k := 4) rfl rfl (by decide) rfl (fun ls hl => ?_)
    refine lv_goto (tgt := 23) hx hb dX11_run_41 (by decide) ?_
    exact ih v1 v2 v3 (v4 + 1) x26 _ _ _  h hI hS (lv_sub hl [1, 2, 3, 4, 0] rfl)
def f_X11_run (fu : Nat) (a1 : Int32) (a2 : Int32) (a3 : Int32) (x : st) : Option (Int32 × st) := bnd (f_X11_isMethod a1 x) fun r2 x1 => if r2 = 0 then (f_X11_run_b18 fu  x1) else (bnd (f_X11_in a3 0 500 x1) fun r5 x4 => if r5 = 0 then (f_X11_run_b18 fu  x4) else (f_X11_run_b23 fu 100 a1 a2 a3 0 x4))
set_option maxHeartbeats 4000000 in
set_option maxRecDepth 100000 in
theorem w_X11_run {p : Program} {l : Launch} {e : Env} {s : State} {m : MethodId} {args : Array Value} {below : List Frame} {meth : Method} {c : Code} {g : gT} {r : Int32} {x' : st} (C : cxt p s m meth c args cX11_run 5 RX11 (some .int)) (G : gst g s) (fu : Nat) (a1 : Int32) (a2 : Int32) (a3 : Int32) (x : st) (H : Heap) (locs : List Loc) (ls : Array Slot)  (h : f_X11_run fu a1 a2 a3 x = some (r, x')) (hI : wst g x H) (hS : va_S (zA (gz g)) s.heap H locs) (hl : lv_has ls 5 [(0, .ref (ga g 30 0)), (1, .int a1), (2, .int a2), (3, .int a3)]) : W p l e (rmC 7 159) s m args below meth c H locs 0 0 (MQ below (Qx g (some (.int r)) x') args s 0 0 (zA (gz g))) (F0 m 0 ls []) := by
  obtain ⟨hx, hb, hml, hown, hts, hlk, hrt⟩ := id C
  unfold f_X11_run at h
  refine lv_iload_n hx hb dX11_run_0 rfl (lv_at hl 1 rfl) ?_
  obtain ⟨r2, x1, hq3, h⟩ := bnd_some h
  refine w_callS (fr := 1) (lo := 22) C G hI hS ms_X11_isMethod km_X11_136 [.int a1] (k_X11_isMethod l g a1 x _ _  hq3) rfl (by first | exact ⟨by decide, by decide⟩ | exact ⟨by show _ ≤ _ + _; omega, by show _ ≤ _ + _; omega⟩) ⟨Nat.zero_le _, Nat.zero_le _⟩ hl.1 rfl (Nat.le_of_ble_eq_true rfl) dX11_run_1 (fun H locs hI hS => ?_)
  refine lv_if_eq (tgt := 18) hx hb dX11_run_4 (by decide) (fun hc => ?_) (fun hc => ?_)
  · replace h := ite_y hc h
    exact w_X11_run_b18 C G fu  x1 _ _ _  h hI hS (lv_sub hl [] rfl)
  replace h := ite_n hc h
  refine lv_iload_n hx hb dX11_run_7 rfl (lv_at hl 3 rfl) ?_
  refine lv_iconst (v := 0) hx hb dX11_run_8 (by decide) ?_
  refine lv_sipush (v := 500) hx hb dX11_run_9 (by decide) ?_
  obtain ⟨r5, x4, hq6, h⟩ := bnd_some h
  refine w_callS (fr := 0) (lo := 0) C G hI hS ms_X11_in km_X11_122 [.int a3, .int 0, .int 500] (k_X11_in l g a3 0 500 x1 _ _  hq6) rfl (by first | exact ⟨by decide, by decide⟩ | exact ⟨by show _ ≤ _ + _; omega, by show _ ≤ _ + _; omega⟩) ⟨Nat.zero_le _, Nat.zero_le _⟩ hl.1 rfl (Nat.le_of_ble_eq_true rfl) dX11_run_12 (fun H locs hI hS => ?_)
  refine lv_if_ne (tgt := 20) hx hb dX11_run_15 (by decide) (fun hc => ?_) (fun hc => ?_)
  · replace h := ite_n hc h
    refine lv_iconst (v := 0) hx hb dX11_run_20 (by decide) ?_
    refine lv_istore (lv' := [(4, .int 0), (0, .ref (ga g 30 0)), (1, .int a1), (2, .int a2), (3, .int a3)]) hx hb dX11_run_21 hl (by decide) rfl (fun ls hl => ?_)
    exact w_X11_run_b23 C G fu 100 a1 a2 a3 0 x4 _ _ _  h hI hS (lv_sub hl [1, 2, 3, 4, 0] rfl)
  replace h := ite_y hc h
  exact w_X11_run_b18 C G fu  x4 _ _ _  h hI hS (lv_sub hl [] rfl)
theorem k_X11_run (l : Launch) (g : gT) (fu : Nat) (a1 : Int32) (a2 : Int32) (a3 : Int32) (x : st) (r : Int32) (x' : st)  (h : f_X11_run fu a1 a2 a3 x = some (r, x')) : Kt l yX11_run cX11_run 5 (some .int) 7 159 g [.ref (ga g 30 0), .int a1, .int a2, .int a3] x (some (.int r)) x' := by
  refine Kt.of (by decide) (fun p e s m below meth c C G hI => ?_)
  have hl := lv_entry ([.ref (ga g 30 0), .int a1, .int a2, .int a3]) (n := 5) (Nat.le_of_ble_eq_true rfl)
  rw [lg_entry_eq]
  generalize (lg_sl ([.ref (ga g 30 0), .int a1, .int a2, .int a3]) ++ List.replicate (5 - (lg_sl ([.ref (ga g 30 0), .int a1, .int a2, .int a3])).length) Slot.unset).toArray = ls at hl ⊢
  have hl : lv_has ls 5 [(0, .ref (ga g 30 0)), (1, .int a1), (2, .int a2), (3, .int a3)] := hl
  exact w_X11_run C G fu a1 a2 a3 x _ _ ls  h hI va_S.rf hl
theorem mv_X11_run : mtV yX11_run RX11 cX11_run 5 (some .int) 3 := ⟨ki_X11_run, kl_X11_run, kI_X11, kc_X11_run, by decide +kernel⟩
