/-! THE CLAIM OUT OF ONE WALK OF THE LAW'S BODY. Your part is whole_start (and what it stands on); all else here is the same for every law, but numbers. -/
def R_law : String := "StepBudgetsLaw"
def lw_P (b : Addr) (xs : List Int32) (args : Array Value) (s : State) : Prop := args = #[.ref b] ∧ s.IntsAt b xs ∧ xs.length ≤ 3584 ∧ (Jvm.Cond.and given_1 narrow_1).before args s = true
def lw_Q (_ : Array Value) (s : State) (o : Outcome) (t : State) : Prop := o = .returned (some (.int 1)) ∧ Framed s o t [] 600000 7302250
def lw_Z (below : List Frame) (a : Array Value) (s : State) : State → Prop := fun t => ∃ o, t.status = .running ∧ Ended t below o ∧ lw_Q a s o t
/-- the law's own end, with 1 on the stack, nothing written that was there before, its room as the claim has it -/
theorem lw_ret {p : Program} {l : Launch} {e : Env} {s : State} {m : MethodId} {below : List Frame} {meth : Method} {c : Code} {b : Nat} (hx : p.tables.exec = Jvm.exec) (hb : c.code = code) (hr : meth.sig.returnType = ret) (hlocks : meth.locks = false) {pc : Nat} {H : Heap} {ls : Array Slot} (hdg : decode code pc = .ok (.ireturn, 1)) : W p l e room_1 s m #[Value.ref b] below meth c H [] 600000 7302250 (lw_Z below #[Value.ref b] s) (F0 m pc ls [.int 1]) := by
  intro T hT X
  obtain ⟨fs, hret, hrun, hended, hW, hframe⟩ := X.leave (v := some (.int 1)) (hlocks := hlocks) (fun h => by rw [hr] at h; cases h)
  have hmeth' : T.vm.method? m = some meth := X.method'
  refine ⟨T.setFrames fs, ?_, .returned (some (.int 1)), hrun, hended, rfl, ⟨_, rfl⟩, hW, hframe⟩
  jvm_step X.here [X.here.top, hx, hb, hdg, hmeth', hr, ret, narrow_b1]
  (try refine ⟨rfl, ?_⟩); (try refine ⟨rfl, ?_⟩)
  first | (intro acts; rw [hret _ acts rfl rfl rfl]) | rw [hret _ _ rfl rfl rfl]
  exact Steps.refl _
/-- what holds at the law's entry: the machine, the code, the tables' words (any of lw_tbl by 'hts w (by decide +kernel)'), the script of L ints xs at the cell b, what the Statement gives of the start (any of its parts by flat_of_before) -/
def lw_At (p : Program) (s : State) (m : MethodId) (meth : Method) (c : Code) (b L : Nat) (xs : Nat → Int32) : Prop :=
  p.tables.exec = Jvm.exec ∧ c.code = code ∧ meth.sig.returnType = ret ∧ c.maxLocals = 4 ∧ s.vm.findClass R_law = some m.cls ∧ (∀ w ∈ lw_tbl, w.before #[Value.ref b] s = true) ∧ va_X b L xs s s.heap ∧ b < s.heap.size ∧ meth.locks = false ∧ (Jvm.Cond.and given_1 narrow_1).before #[Value.ref b] s = true
theorem lcond {L a : Nat} (hL : L ≤ 3584) (ha : a ≤ 3584) : (nI L - 7 < nI a) ↔ L < a + 7 := by
  by_cases h : 7 ≤ L
  · obtain ⟨k, rfl⟩ : ∃ k, L = k + 7 := ⟨L - 7, by omega⟩
    have e : nI (k + 7) - 7 = nI k := by
      rw [← nI_add]
      exact Int32.add_sub_cancel (nI k) (nI 7)
    rw [e, nI_ltI (by omega) (by omega)]
    omega
  · have h7 : ∀ L, L < 7 → nI L - 7 < 0 := by decide
    have h0 := h7 L (by omega)
    have h1 := nI_pos' (n := a) (by omega)
    refine ⟨fun _ => by omega, fun _ => ?_⟩
    rw [Int32.lt_iff_toInt_lt] at h0 ⊢
    rw [Int32.le_iff_toInt_le] at h1
    omega
section LLoop
variable {p : Program} {l : Launch} {e : Env} {s : State} {m : MethodId} {below : List Frame} {meth : Method} {c : Code} {b L : Nat} {xs : Nat → Int32}
set_option maxHeartbeats 8000000 in
set_option maxRecDepth 100000 in
theorem l_loop (C : cxt p s m meth c #[Value.ref b] cL_law 4 RL (some .boolean)) (hX : va_X b L xs s s.heap) (hbl : b < s.heap.size) (hL : L ≤ 3584) : ∀ (rem q : Nat) (g : gT) (x : st) (H : Heap) (locs : List Loc) (ls : Array Slot) (cells slots : Nat), lwI s b q g x H locs ls → L < 7 * q + 7 * rem + 7 → 7 * q ≤ L → cells + 2 * rem ≤ 600000 → slots + 205 * rem ≤ 7302250 → W p l e room_1 s m #[Value.ref b] below meth c H locs cells slots (lw_Z below #[Value.ref b] s) (F0 m 18 ls []) := by
  intro rem
  induction rem with
  | zero =>
    intro q g x H locs ls cells slots h h1 h2 hc hs
    obtain ⟨hx, hb, hml, hown, hts, hlk, hrt⟩ := id C
    obtain ⟨⟨G, hz⟩, hS, -, hl⟩ := h
    refine lv_iload_n hx hb dL_law_18 rfl (lv_at hl 0 rfl) ?_
    refine lv_aload_n hx hb dL_law_19 rfl (lv_at hl 3 rfl) ?_
    refine va_slen hx hb hX hbl (A := zA (gz g)) (fun q => by have q : gz g ≤ b := q; omega) hS dL_law_20 ?_
    refine lv_bipush (v := 7) hx hb dL_law_21 (by decide) ?_
    refine lv_isub hx hb dL_law_23 ?_
    refine lv_icmp_gt (tgt := 459) hx hb dL_law_24 (by decide) (fun hg => ?_) (fun hg => absurd ((lcond hL (by omega)).mpr (by omega)) hg)
    refine lv_iconst (v := 1) hx hb dL_law_459 (by decide) ?_
    refine W.widen (k := 600000) (n := 7302250) (by omega) (by omega) ?_
    refine va_forget (fun w hw => by have := hS.2.2 w hw; rw [hz] at this; exact this) ?_
    exact lw_ret hx hb hrt hlk dL_law_460
  | succ rem ih =>
    intro q g x H locs ls cells slots h h1 h2 hc hs
    obtain ⟨hx, hb, hml, hown, hts, hlk, hrt⟩ := id C
    obtain ⟨⟨G, hz⟩, hS, hw, hl⟩ := id h
    refine lv_iload_n hx hb dL_law_18 rfl (lv_at hl 0 rfl) ?_
    refine lv_aload_n hx hb dL_law_19 rfl (lv_at hl 3 rfl) ?_
    refine va_slen hx hb hX hbl (A := zA (gz g)) (fun q => by have q : gz g ≤ b := q; omega) hS dL_law_20 ?_
    refine lv_bipush (v := 7) hx hb dL_law_21 (by decide) ?_
    refine lv_isub hx hb dL_law_23 ?_
    refine lv_icmp_gt (tgt := 459) hx hb dL_law_24 (by decide) (fun hg => ?_) (fun hg => ?_)
    · refine lv_iconst (v := 1) hx hb dL_law_459 (by decide) ?_
      refine W.widen (k := 600000) (n := 7302250) (by omega) (by omega) ?_
      refine va_forget (fun w hw => by have := hS.2.2 w hw; rw [hz] at this; exact this) ?_
      exact lw_ret hx hb hrt hlk dL_law_460
    · have hq : 7 * q + 7 ≤ L := Nat.not_lt.mp (fun c => hg ((lcond hL (by omega)).mpr c))
      have fin : ∀ (g' : gT) (x' : st) (H' : Heap) (locs' : List Loc) (ls' : Array Slot) (cells' slots' : Nat), lwI s b q g' x' H' locs' ls' → cells' ≤ cells + 2 → slots' ≤ slots + 205 → W p l e room_1 s m #[Value.ref b] below meth c H' locs' cells' slots' (lw_Z below #[Value.ref b] s) (F0 m 453 ls' []) := by
        intro g' x' H' locs' ls' cells' slots' h' hc' hs'
        obtain ⟨hG', hS', hw', hl'⟩ := h'
        refine lv_iinc (v := nI (7 * (q + 1))) (lv' := [(3, .int (nI (7 * (q + 1)))), (2, .ref (ga g' 30 0)), (1, .ref (ga g' 0 0)), (0, .ref b)]) hx hb dL_law_453 hl' (k := 0) rfl (nI_add (7 * q) 7) (by decide) rfl (fun ls hl => ?_)
        refine lv_goto (tgt := 18) hx hb dL_law_456 (by decide) ?_
        exact ih (q + 1) g' x' H' locs' ls cells' slots' ⟨hG', hS', hw', hl⟩ (by omega) (by omega) (by omega) (by omega)
      refine lv_aload_n hx hb dL_law_27 rfl (lv_at hl 3 rfl) ?_
      refine lv_iload_n hx hb dL_law_28 rfl (lv_at hl 0 rfl) ?_
      refine va_sld hx hb hX hbl (A := zA (gz g)) (fun q => by have q : gz g ≤ b := q; omega) hS (vp_in_nI (show 7 * q < L by omega) (by omega)) dL_law_29 ?_
      refine lv_bipush (v := 15) hx hb dL_law_30 (by decide) ?_
      refine lv_iand hx hb dL_law_32 ?_
      generalize xs (nI (7 * q)).toNatClampNeg &&& 15 = v
      have hc2 : cells + 2 ≤ 600000 := by omega
      have hs2 : slots + 205 ≤ 7302250 := by omega
      by_cases h0 : v = 0
      · refine lv_tableIn (off := 51) (tgt := 84) hx hb dL_law_33 (by rw [h0]; decide) (by rw [h0]; decide) (by rw [h0]; decide +kernel) (by decide) ?_
        exact c_act C hX hbl hL hq h hc2 hs2 fin
      by_cases h1 : v = 1
      · refine lv_tableIn (off := 126) (tgt := 159) hx hb dL_law_33 (by rw [h1]; decide) (by rw [h1]; decide) (by rw [h1]; decide +kernel) (by decide) ?_
        exact c_guard C hX hbl hL hq h hc2 hs2 fin
      by_cases h2 : v = 2
      · refine lv_tableIn (off := 189) (tgt := 222) hx hb dL_law_33 (by rw [h2]; decide) (by rw [h2]; decide) (by rw [h2]; decide +kernel) (by decide) ?_
        exact c_clean C hX hbl hL hq h hc2 hs2 fin
      by_cases h3 : v = 3
      · refine lv_tableIn (off := 242) (tgt := 275) hx hb dL_law_33 (by rw [h3]; decide) (by rw [h3]; decide) (by rw [h3]; decide +kernel) (by decide) ?_
        exact c_clear C hX hbl hL hq h hc2 hs2 fin
      by_cases h4 : v = 4
      · refine lv_tableIn (off := 265) (tgt := 298) hx hb dL_law_33 (by rw [h4]; decide) (by rw [h4]; decide) (by rw [h4]; decide +kernel) (by decide) ?_
        exact c_reserve C hX hbl hL hq h hc2 hs2 fin
      by_cases h5 : v = 5
      · refine lv_tableIn (off := 288) (tgt := 321) hx hb dL_law_33 (by rw [h5]; decide) (by rw [h5]; decide) (by rw [h5]; decide +kernel) (by decide) ?_
        exact c_run C hX hbl hL hq h hc2 hs2 fin
      by_cases h6 : v = 6
      · refine lv_tableIn (off := 331) (tgt := 364) hx hb dL_law_33 (by rw [h6]; decide) (by rw [h6]; decide) (by rw [h6]; decide +kernel) (by decide) ?_
        exact c_latest C hX hbl hL hq h hc2 hs2 fin
      by_cases h7 : v = 7
      · refine lv_tableIn (off := 354) (tgt := 387) hx hb dL_law_33 (by rw [h7]; decide) (by rw [h7]; decide) (by rw [h7]; decide +kernel) (by decide) ?_
        exact c_cleaned C hX hbl hL hq h hc2 hs2 fin
      by_cases h8 : v = 8
      · refine lv_tableIn (off := 387) (tgt := 420) hx hb dL_law_33 (by rw [h8]; decide) (by rw [h8]; decide) (by rw [h8]; decide +kernel) (by decide) ?_
        exact c_told C hX hbl hL hq h hc2 hs2 fin
      refine lv_tableOut (tgt := 453) hx hb dL_law_33 (sw_out 9 (by intro k hk; match k, hk with | 0, _ => exact h0 | 1, _ => exact h1 | 2, _ => exact h2 | 3, _ => exact h3 | 4, _ => exact h4 | 5, _ => exact h5 | 6, _ => exact h6 | 7, _ => exact h7 | 8, _ => exact h8 | k + 9, hk => exact absurd hk (by omega)) (by decide)) (by decide) ?_
      exact fin g x H locs ls cells slots h (by omega) (by omega)
end LLoop
set_option maxHeartbeats 8000000 in
set_option maxRecDepth 100000 in
theorem whole_start {p : Program} {e : Env} {s : State} {m : MethodId} {below : List Frame} {meth : Method} {c : Code} (l : Launch) {b L : Nat} {xs : Nat → Int32} (hL : L ≤ 3584) (C0 : lw_At p s m meth c b L xs) : W p l e room_1 s m #[Value.ref b] below meth c s.heap [] 0 0 (lw_Z below #[Value.ref b] s) (entryFrame m ([Value.ref b] : List Value).toArray 4) := by
  obtain ⟨hx, hb, hrt, hml, hown, hts0, hX, hbl, hlk, hgv⟩ := C0
  have C : cxt p s m meth c #[Value.ref b] cL_law 4 RL (some .boolean) := ⟨hx, hb, hml, hown, fun w hw => hts0 w (List.mem_filter.mp hw).1, hlk, hrt⟩
  obtain ⟨D, y, ee, hG⟩ := st_gst hts0 hgv
  have G : gst (g0 D y ee s.heap.size) s := hG _ _
  generalize hg : g0 D y ee s.heap.size = g at G
  have hz : gz g = s.heap.size := by rw [← hg]; rfl
  have a0 : s.heap.size = ga g 0 0 := by rw [← hg]; rfl
  have a1 : ga g 1 0 = s.heap.size + 1 := by rw [← hg]; rfl
  have a30 : ga g 30 0 = s.heap.size + 80 := by rw [← hg]; rfl
  have hat : at4 g (s.heap.size + 1 + 1) := by rw [← hg]; exact at4_g0 D y ee s.heap.size
  have hl := lv_entry ([.ref b]) (n := 4) (Nat.le_of_ble_eq_true rfl)
  rw [lg_entry_eq]
  generalize (lg_sl ([.ref b]) ++ List.replicate (4 - (lg_sl ([.ref b])).length) Slot.unset).toArray = ls at hl ⊢
  have hl : lv_has ls 4 [(0, .ref b)] := hl
  have hS : va_S (zA (gz g)) s.heap s.heap [] := va_S.rf
  have hI : iw (gD g) (gz g) (ga g) (fun _ _ => False) (fun _ _ => .inr (0, [])) s.heap := ⟨fun _ _ h => h.elim, fun _ _ _ _ h => h.elim, fun _ _ h => h.elim⟩
  refine r_new C G hI hS 0 0 a0 (ci := 10) rfl in_X10 tyX10 tyX10_ok kC_L_7 kN_X10 kI_X10 (fs := [.null, .int 0]) (by decide) (by decide) (by decide) dL_law_0 (fun H1 hI1 hS1 hz1 => ?_)
  refine lv_dup hx hb dL_law_3 rfl ?_
  refine r_callI (P := fun H => iw (gD g) (gz g) (ga g) (up2 (fun _ _ => False) 0 0 True) (up2 (fun _ _ => .inr (0, [])) 0 0 (.inr (10, [.null, .int 0]))) H ∧ H.size = s.heap.size + 1) C G ⟨hI1, hz1⟩ hS1 mi_X10_init km_L_9 (ga g 0 0) [] (k_X10_init l g (by rw [up2_same]; trivial) (up2_same _ _ _ _) (s.heap.size + 1) a1 hat) rfl ⟨by decide, by decide⟩ ⟨by decide, by decide⟩ hl.1 rfl (Nat.le_of_ble_eq_true rfl) dL_law_4 (fun v H2 locs2 hp hS2 => ?_)
  obtain ⟨rfl, hI2, hz2⟩ := hp
  refine lv_astore_n (lv' := [(1, .ref (ga g 0 0)), (0, .ref b)]) hx hb dL_law_7 rfl hl (by decide) rfl (fun ls hl => ?_)
  refine r_new C G hI2 hS2 30 0 (by rw [hz2, a30]) (ci := 11) rfl in_X11 tyX11 tyX11_ok kC_L_10 kN_X11 kI_X11 (fs := [.null, .null, .null, .null, .null, .null, .null, .null, .null, .null, .null, .null, .null, .null, .null, .int 0, .int 0, .null, .null, .null, .null, .null, .null, .null, .null, .null, .null, .null, .int 0, .int 0, .null, .null, .null, .null, .int 0, .int 0, .int 0, .int 0, .int 0, .int 0, .null, .null, .null, .null]) (by decide) (by decide) (by decide) dL_law_8 (fun H3 hI3 hS3 hz3 => ?_)
  refine lv_dup hx hb dL_law_11 rfl ?_
  have hz4 : H3.size = s.heap.size + 81 := by rw [hz3, hz2]
  generalize hdm : up2 (dm4 (up2 (up2 (fun _ _ => False) 0 0 True) 1 0 True)) 30 0 True = dmC at hI3
  generalize hce : up2 (up2 (ce4 g (up2 (up2 (fun _ _ => .inr (0, [])) 0 0 (.inr (10, [.null, .int 0]))) 1 0 (.inr (5, [.null, .null, .null, .null, .null, .int 0, .int 0])))) 0 0 (.inr (10, [.ref (ga g 1 0), .int 10]))) 30 0 (.inr (11, [.null, .null, .null, .null, .null, .null, .null, .null, .null, .null, .null, .null, .null, .null, .null, .int 0, .int 0, .null, .null, .null, .null, .null, .null, .null, .null, .null, .null, .null, .int 0, .int 0, .null, .null, .null, .null, .int 0, .int 0, .int 0, .int 0, .int 0, .int 0, .null, .null, .null, .null])) = ceC at hI3
  have hd30 : dmC 30 0 := by rw [← hdm, up2_same]; trivial
  have he30 : ceC 30 0 = .inr (11, [.null, .null, .null, .null, .null, .null, .null, .null, .null, .null, .null, .null, .null, .null, .null, .int 0, .int 0, .null, .null, .null, .null, .null, .null, .null, .null, .null, .null, .null, .int 0, .int 0, .null, .null, .null, .null, .int 0, .int 0, .int 0, .int 0, .int 0, .int 0, .null, .null, .null, .null]) := by rw [← hce, up2_same]
  have hqs : ∀ k n, offL.getD k 0 = n → (¬ k = 12 ∧ ¬ k = 13 ∧ ¬ k = 14 ∧ ¬ k = 15 ∧ ¬ k = 21 ∧ ¬ k = 22 ∧ ¬ k = 23 ∧ ¬ k = 24 ∧ ¬ k = 25 ∧ ¬ k = 26) → ga g k 0 = s.heap.size + n := by
    intro k n h1 h2
    obtain ⟨n1, n2, n3, n4, n5, n6, n7, n8, n9, n10⟩ := h2
    rw [← hg]
    show ad0 s.heap.size (ee 20) k 0 = _
    unfold ad0
    rw [if_neg n1, if_neg n2, if_neg n3, if_neg n4, if_neg n5, if_neg n6, if_neg n7, if_neg (by omega), h1]
  refine r_callI (P := fun H => iw (gD g) (gz g) (ga g) dmC ceC H ∧ H.size = s.heap.size + 81) C G ⟨hI3, hz4⟩ hS3 mi_X11_init km_L_12 (ga g 30 0) [] (k_X11_init l g hd30 he30 (s.heap.size + 81) (hqs 40 81 (by decide) (by decide)) (hqs 41 82 (by decide) (by decide)) (hqs 42 83 (by decide) (by decide)) (hqs 43 84 (by decide) (by decide)) (hqs 44 85 (by decide) (by decide)) (hqs 45 86 (by decide) (by decide)) (hqs 46 87 (by decide) (by decide)) (hqs 47 88 (by decide) (by decide)) (hqs 48 89 (by decide) (by decide)) (hqs 49 90 (by decide) (by decide)) (hqs 50 91 (by decide) (by decide)) (hqs 51 92 (by decide) (by decide)) (hqs 52 93 (by decide) (by decide)) (hqs 53 94 (by decide) (by decide)) (hqs 54 95 (by decide) (by decide)) (hqs 57 96 (by decide) (by decide)) (hqs 58 97 (by decide) (by decide)) (hqs 59 98 (by decide) (by decide)) (hqs 60 99 (by decide) (by decide)) (hqs 61 100 (by decide) (by decide)) (hqs 62 101 (by decide) (by decide)) (hqs 63 102 (by decide) (by decide)) (hqs 64 103 (by decide) (by decide)) (hqs 65 104 (by decide) (by decide)) (hqs 66 105 (by decide) (by decide)) (hqs 67 106 (by decide) (by decide)) (hqs 70 107 (by decide) (by decide)) (hqs 71 108 (by decide) (by decide)) (hqs 72 109 (by decide) (by decide)) (hqs 73 110 (by decide) (by decide)) (hqs 80 111 (by decide) (by decide)) (hqs 81 112 (by decide) (by decide)) (hqs 82 113 (by decide) (by decide)) (hqs 83 114 (by decide) (by decide))) rfl ⟨by decide, by decide⟩ ⟨by decide, by decide⟩ hl.1 rfl (Nat.le_of_ble_eq_true rfl) dL_law_12 (fun v H4 locs4 hp hS4 => ?_)
  obtain ⟨rfl, hI4, hz5⟩ := hp
  refine lv_astore_n (lv' := [(2, .ref (ga g 30 0)), (1, .ref (ga g 0 0)), (0, .ref b)]) hx hb dL_law_15 rfl hl (by decide) rfl (fun ls hl => ?_)
  refine lv_iconst (v := 0) hx hb dL_law_16 (by decide) ?_
  refine lv_istore_n (lv' := [(3, .int (nI (7 * 0))), (2, .ref (ga g 30 0)), (1, .ref (ga g 0 0)), (0, .ref b)]) hx hb dL_law_17 rfl hl (by decide) rfl (fun ls hl => ?_)
  have hw : wst g x0 H4 := by
    rw [← hdm, ← hce] at hI4
    subst hg
    exact wst_0 hI4
  have hk2 : gok2 g x0 := by rw [← hg]; exact gok2_0 D y ee s.heap.size
  exact l_loop C hX hbl hL 512 0 g x0 H4 locs4 ls _ _ ⟨⟨G, hz⟩, hS4, ⟨hw, hk2, Sim_0⟩, hl⟩ (by omega) (by omega) (by decide) (by decide)
