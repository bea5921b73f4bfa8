/-! Machine's constructor -/
def dmX (dm : Nat → Nat → Prop) (kb : Nat) (ks : List Nat) (m : Nat) : Nat → Nat → Prop := fun k i => dm k i ∨ ((k = kb ∨ k ∈ ks) ∧ i < m)
def ceX (g : gT) (ce : Nat → Nat → va_E) (kb : Nat) (ks : List Nat) (ka : Nat) (E : Nat → va_E) (m : Nat) : Nat → Nat → va_E := fun k i => if k = ka ∧ i = 0 then E m else if (k = kb ∨ k ∈ ks) ∧ i < m then fz g k i else ce k i
theorem conv {D : va_G} {z : Nat} {ad : Nat → Nat → Nat} {g : gT} {dm : Nat → Nat → Prop} {ce : Nat → Nat → va_E} {kb ka q : Nat} {ks : List Nat} {E : Nat → va_E} {b x : va_E} {H : Heap} (hka : ¬ ka = kb) (hE : x = E (q + 1))
    (hI : iw D z ad (dmL (up2 (dmX dm kb ks q) kb q True) q ks) (up2 (up2 (ceL g (up2 (ceX g ce kb ks ka E q) kb q b) q ks) kb q (fz g kb q)) ka 0 x) H) : iw D z ad (dmX dm kb ks (q + 1)) (ceX g ce kb ks ka E (q + 1)) H := by
  refine hI.re (fun k i hd => ⟨?_, rfl, ?_⟩)
  · rw [dmL_iff]
    rcases hd with hd | ⟨hk, hi⟩
    · left
      by_cases c : k = kb ∧ i = q
      · rw [c.1, c.2, up2_same]; trivial
      · rw [up2_ne _ _ c]; exact Or.inl hd
    · by_cases ci : i = q
      · rcases hk with hk | hk
        · left; rw [hk, ci, up2_same]; trivial
        · right; exact ⟨ci, hk⟩
      · left
        rw [up2_ne _ _ (fun c => ci c.2)]
        exact Or.inr ⟨hk, by omega⟩
  · unfold ceX
    by_cases c10 : k = ka ∧ i = 0
    · rw [if_pos c10, c10.1, c10.2, up2_same, hE]
    · rw [if_neg c10, up2_ne _ _ c10]
      by_cases c15 : k = kb ∧ i = q
      · rw [if_pos ⟨Or.inl c15.1, by omega⟩, c15.1, c15.2, up2_same]
      · rw [up2_ne _ _ c15]
        by_cases cl : k ∈ ks ∧ i = q
        · rw [if_pos ⟨Or.inr cl.1, by omega⟩, cl.2, ceL_in cl.1]
        · have e : ∀ X : Nat → Nat → va_E, ceL g X q ks k i = X k i := by
            intro X
            by_cases hi : i = q
            · exact ceL_ne (fun h => cl ⟨h, hi⟩)
            · exact ceL_j hi
          rw [e, up2_ne _ _ c15, if_neg c10]
          by_cases hk : k = kb ∨ k ∈ ks
          · have hiq : i ≠ q := by
              intro h
              rcases hk with hk | hk
              · exact c15 ⟨hk, h⟩
              · exact cl ⟨hk, h⟩
            by_cases hi : i < q
            · rw [if_pos ⟨hk, by omega⟩, if_pos ⟨hk, hi⟩]
            · rw [if_neg (fun c => by have := c.2; omega), if_neg (fun c => hi c.2)]
          · rw [if_neg (fun c => hk c.1), if_neg (fun c => hk c.1)]
theorem conv0 {D : va_G} {z : Nat} {ad : Nat → Nat → Nat} {g : gT} {dm : Nat → Nat → Prop} {ce : Nat → Nat → va_E} {kb ka : Nat} {ks : List Nat} {E : Nat → va_E} {H : Heap} (hE : ce ka 0 = E 0) (hI : iw D z ad dm ce H) : iw D z ad (dmX dm kb ks 0) (ceX g ce kb ks ka E 0) H := by
  refine hI.re (fun k i hd => ⟨?_, rfl, ?_⟩)
  · rcases hd with hd | ⟨-, hi⟩
    · exact hd
    · omega
  · unfold ceX
    by_cases c10 : k = ka ∧ i = 0
    · rw [if_pos c10, c10.1, c10.2, hE]
    · rw [if_neg c10, if_neg (fun c => by have := c.2; omega)]
def e10 (g : gT) (m : Nat) : va_E := .inl (gy g 4, 8, qa (fun j => if j < m then some (ga g 15 j) else none))
def e11 (g : gT) (m : Nat) : va_E := .inl (gy g 5, 12, qa (fun j => if j < m then some (ga g 12 j) else none))
theorem up_if {f : Nat → Nat} {q : Nat} : va_up (fun j => if j < q then some (f j) else none) q (some (f q)) = fun j => if j < q + 1 then some (f j) else none := by
  funext j
  unfold va_up
  by_cases h : j = q
  · subst h; rw [if_pos rfl, if_pos (by omega)]
  · rw [if_neg h]
    show (if j < q then some (f j) else none) = _
    by_cases h2 : j < q
    · rw [if_pos h2, if_pos (by omega)]
    · rw [if_neg h2, if_neg (by omega)]
theorem asg_same {g : gT} {s : State} (G : gst g s) {ci : Nat} {Cn : String} {T : u_T} {N : Nat} (hc : vwCl[ci]? = some (Cn, T, N)) : ∀ comp c0 : ClassId, s.vm.findClass Cn = some comp → s.vm.findClass Cn = some c0 → s.vm.assignable c0 comp = true := by
  intro comp c0 h1 h2
  have hK := (G.2.1.1 ci _ hc).2
  cases h1.symm.trans h2
  have : (gD g).1 ci = comp := Option.some.inj (hK.1.symm.trans h1)
  rw [← this]
  exact va_assign hK
section L4
variable {p : Program} {l : Launch} {e : Env} {R : Room} {s : State} {m : MethodId} {args : Array Value} {below : List Frame} {meth : Method} {c : Code} {cells slots : Nat} {Q : State → Prop}
variable {g : gT} {dm : Nat → Nat → Prop} {ce : Nat → Nat → va_E}
set_option maxHeartbeats 4000000 in
theorem x4_M (C : cxt p s m meth c args cX4_init 2 RX4 none) (G : gst g s) (n : Nat) (hd1 : dm 1 0) (he1 : ce 1 0 = fz g 1 0) (hd10 : dm 10 0) (hga : ∀ i, i < 8 → ga g 15 i = n + 4 * i ∧ ga g 21 i = n + 4 * i + 1 ∧ ga g 22 i = n + 4 * i + 2 ∧ ga g 23 i = n + 4 * i + 3 ∧ ga g 24 i = ge g 20 ∧ ga g 25 i = ge g 20 ∧ ga g 26 i = ge g 20) (hR : 5 ≤ R.frames ∧ 92 ≤ R.locals) (hRc : cells + 32 ≤ R.cells) (hRs : slots + 96 ≤ R.slots)
    (kk : ∀ (H : Heap) (locs : List Loc) (ls : Array Slot), iw (gD g) (gz g) (ga g) (dmX dm 15 [23, 22, 21] 8) (ceX g ce 15 [23, 22, 21] 10 (e10 g) 8) H ∧ H.size = n + 32 → va_S (zA (gz g)) s.heap H locs → lv_has ls 2 [(0, .ref (ga g 1 0)), (1, .int (nI 8))] → W p l e R s m args below meth c H locs (cells + 32) (slots + 96) Q (F0 m 82 ls [])) :
    ∀ (r q : Nat), q + r = 8 → ∀ (H : Heap) (locs : List Loc) (ls : Array Slot), iw (gD g) (gz g) (ga g) (dmX dm 15 [23, 22, 21] q) (ceX g ce 15 [23, 22, 21] 10 (e10 g) q) H ∧ H.size = n + 4 * q → va_S (zA (gz g)) s.heap H locs → lv_has ls 2 [(0, .ref (ga g 1 0)), (1, .int (nI q))] → W p l e R s m args below meth c H locs (cells + 4 * q) (slots + 12 * q) Q (F0 m 57 ls []) := by
  obtain ⟨hx, hb, hml, hown, hts, hlk, hrt⟩ := id C
  intro r
  induction r with
  | zero =>
    intro q hq H locs ls hI hS hl
    have h8 : q = 8 := by omega
    subst h8
    refine lv_iload_n hx hb dX4_init_57 rfl (lv_at hl 1 rfl) ?_
    refine lv_bipush (v := 8) hx hb dX4_init_58 (by decide) ?_
    refine lv_icmp_ge (tgt := 82) hx hb dX4_init_60 (by decide) (fun hc => ?_) (fun hc => absurd (show (8 : Int32) ≤ nI 8 from by decide) hc)
    exact kk H locs ls hI hS hl
  | succ r ih =>
    intro q hq H locs ls hI hS hl
    have hq8 : q < 8 := by omega
    obtain ⟨g15, g21, g22, g23, g24, g25, g26⟩ := hga q hq8
    refine lv_iload_n hx hb dX4_init_57 rfl (lv_at hl 1 rfl) ?_
    refine lv_bipush (v := 8) hx hb dX4_init_58 (by decide) ?_
    refine lv_icmp_ge (tgt := 82) hx hb dX4_init_60 (by decide) (fun hc => absurd hc (by rw [n8]; exact nI_ge hq8 (by decide))) (fun hc => ?_)
    refine lv_aload_n hx hb dX4_init_63 rfl (lv_at hl 0 rfl) ?_
    have he1q : ceX g ce 15 [23, 22, 21] 10 (e10 g) q 1 0 = fz g 1 0 := by
      unfold ceX
      rw [if_neg (by decide), if_neg (by simp)]
      exact he1
    refine r_get C G hI.1 1 0 (Or.inl hd1) he1q rfl in_X4 2 (by decide) kf_X4_27 (fun _ h => h) (v := .ref (ga g 10 0)) rfl dX4_init_64 ?_
    refine lv_iload_n hx hb dX4_init_67 rfl (lv_at hl 1 rfl) ?_
    refine r_new C G hI.1 hS 15 q (hI.2.trans g15.symm) (ci := 7) rfl in_X6 tyX6 tyX6_ok kC_X4_25 kN_X6 kI_X6 (fs := [.null, .null, .null]) (by decide) (by omega) (by omega) dX4_init_68 (fun H1 hI1 hS1 hz1 => ?_)
    refine lv_dup hx hb dX4_init_71 rfl ?_
    refine r_callIN (P := fun H => iw (gD g) (gz g) (ga g) (up2 (dmX dm 15 [23, 22, 21] q) 15 q True) (up2 (ceX g ce 15 [23, 22, 21] 10 (e10 g) q) 15 q (.inr (7, [.null, .null, .null]))) H ∧ H.size = n + 4 * q + 1) C G ⟨hI1, by rw [hz1, hI.2]⟩ hS1 mi_X6_init (host := "StepBudgets") (index := 44) (by decide) (ga g 15 q) [] (k_X6_init l g q (by rw [up2_same]; trivial) (up2_same _ _ _ _) (n + 4 * q + 1) g21 (by omega) (by omega) g24 g25 g26) rfl ⟨by omega, by omega⟩ ⟨by omega, by omega⟩ hl.1 rfl (Nat.le_of_ble_eq_true rfl) dX4_init_72 (fun v H2 locs2 hp hS2 => ?_)
    obtain ⟨rfl, hI2, hz2⟩ := hp
    have hd10' : dmL (up2 (dmX dm 15 [23, 22, 21] q) 15 q True) q [23, 22, 21] 10 0 := dmL_iff.mpr (Or.inl (by rw [up2_ne _ _ (by simp)]; exact Or.inl hd10))
    have hd15' : dmL (up2 (dmX dm 15 [23, 22, 21] q) 15 q True) q [23, 22, 21] 15 q := dmL_iff.mpr (Or.inl (by rw [up2_same]; trivial))
    have he10 : up2 (ceL g (up2 (ceX g ce 15 [23, 22, 21] 10 (e10 g) q) 15 q (.inr (7, [.null, .null, .null]))) q [23, 22, 21]) 15 q (fz g 15 q) 10 0 = e10 g q := by
      rw [up2_ne _ _ (by simp), ceL_ne (by decide), up2_ne _ _ (by simp)]
      unfold ceX
      rw [if_pos ⟨rfl, rfl⟩]
    refine r_astq C G hI2 hS2 10 0 hd10' 4 he10 (E := "StepBudgets$Method") rfl (Cn := "StepBudgets$Method") (r_recv G hI2 15 q hd15' (up2_same _ _ _ _) rfl) (asg_same G (ci := 7) rfl) (vp_in_nI hq8 (by decide)) dX4_init_75 (fun H3 locs3 hI3 hS3 hz3 => ?_)
    have hI4 := conv (E := e10 g) (by decide) (by rw [nI_clamp (by omega), up_if]; rfl) hI3
    refine lv_iinc (v := nI (q + 1)) (lv' := [(1, .int (nI (q + 1))), (0, .ref (ga g 1 0))]) hx hb dX4_init_76 hl (k := 1) rfl (nI_add1 q) (by decide) rfl (fun ls hl => ?_)
    refine lv_goto (tgt := 57) hx hb dX4_init_79 (by decide) ?_
    have := ih (q + 1) (by omega) H3 locs3 ls ⟨hI4, by rw [hz3, hz2]; omega⟩ hS3 (lv_sub hl [1, 0] rfl)
    rw [show cells + 4 * (q + 1) = cells + 4 * q + 1 + 3 by omega, show slots + 12 * (q + 1) = slots + 12 * q + 3 + 9 by omega] at this
    exact this
set_option maxHeartbeats 4000000 in
theorem x4_F (C : cxt p s m meth c args cX4_init 2 RX4 none) (G : gst g s) (n : Nat) (hd1 : dm 1 0) (he1 : ce 1 0 = fz g 1 0) (hd11 : dm 11 0) (hga : ∀ i, i < 12 → ga g 12 i = n + 3 * i ∧ ga g 13 i = n + 3 * i + 1 ∧ ga g 14 i = n + 3 * i + 2) (hR : 5 ≤ R.frames ∧ 92 ≤ R.locals) (hRc : cells + 36 ≤ R.cells) (hRs : slots + 180 ≤ R.slots)
    (kk : ∀ (H : Heap) (locs : List Loc) (ls : Array Slot), iw (gD g) (gz g) (ga g) (dmX dm 12 [14, 13] 12) (ceX g ce 12 [14, 13] 11 (e11 g) 12) H ∧ H.size = n + 36 → va_S (zA (gz g)) s.heap H locs → lv_has ls 2 [(0, .ref (ga g 1 0)), (1, .int (nI 12))] → W p l e R s m args below meth c H locs (cells + 36) (slots + 180) Q (F0 m 109 ls [])) :
    ∀ (r q : Nat), q + r = 12 → ∀ (H : Heap) (locs : List Loc) (ls : Array Slot), iw (gD g) (gz g) (ga g) (dmX dm 12 [14, 13] q) (ceX g ce 12 [14, 13] 11 (e11 g) q) H ∧ H.size = n + 3 * q → va_S (zA (gz g)) s.heap H locs → lv_has ls 2 [(0, .ref (ga g 1 0)), (1, .int (nI q))] → W p l e R s m args below meth c H locs (cells + 3 * q) (slots + 15 * q) Q (F0 m 84 ls []) := by
  obtain ⟨hx, hb, hml, hown, hts, hlk, hrt⟩ := id C
  intro r
  induction r with
  | zero =>
    intro q hq H locs ls hI hS hl
    have h8 : q = 12 := by omega
    subst h8
    refine lv_iload_n hx hb dX4_init_84 rfl (lv_at hl 1 rfl) ?_
    refine lv_bipush (v := 12) hx hb dX4_init_85 (by decide) ?_
    refine lv_icmp_ge (tgt := 109) hx hb dX4_init_87 (by decide) (fun hc => ?_) (fun hc => absurd (show (12 : Int32) ≤ nI 12 from by decide) hc)
    exact kk H locs ls hI hS hl
  | succ r ih =>
    intro q hq H locs ls hI hS hl
    have hq8 : q < 12 := by omega
    obtain ⟨g12, g13, g14⟩ := hga q hq8
    refine lv_iload_n hx hb dX4_init_84 rfl (lv_at hl 1 rfl) ?_
    refine lv_bipush (v := 12) hx hb dX4_init_85 (by decide) ?_
    refine lv_icmp_ge (tgt := 109) hx hb dX4_init_87 (by decide) (fun hc => absurd hc (by rw [n12]; exact nI_ge hq8 (by decide))) (fun hc => ?_)
    refine lv_aload_n hx hb dX4_init_90 rfl (lv_at hl 0 rfl) ?_
    have he1q : ceX g ce 12 [14, 13] 11 (e11 g) q 1 0 = fz g 1 0 := by
      unfold ceX
      rw [if_neg (by decide), if_neg (by simp)]
      exact he1
    refine r_get C G hI.1 1 0 (Or.inl hd1) he1q rfl in_X4 4 (by decide) kf_X4_40 (fun _ h => h) (v := .ref (ga g 11 0)) rfl dX4_init_91 ?_
    refine lv_iload_n hx hb dX4_init_94 rfl (lv_at hl 1 rfl) ?_
    refine r_new C G hI.1 hS 12 q (hI.2.trans g12.symm) (ci := 3) rfl in_X2 tyX2 tyX2_ok kC_X4_38 kN_X2 kI_X2 (fs := [.null, .null, .int 0, .int 0, .int 0, .int 0]) (by decide) (by omega) (by omega) dX4_init_95 (fun H1 hI1 hS1 hz1 => ?_)
    refine lv_dup hx hb dX4_init_98 rfl ?_
    refine r_callIN (P := fun H => iw (gD g) (gz g) (ga g) (up2 (dmX dm 12 [14, 13] q) 12 q True) (up2 (ceX g ce 12 [14, 13] 11 (e11 g) q) 12 q (.inr (3, [.null, .null, .int 0, .int 0, .int 0, .int 0]))) H ∧ H.size = n + 3 * q + 1) C G ⟨hI1, by rw [hz1, hI.2]⟩ hS1 mi_X2_init (host := "StepBudgets") (index := 45) (by decide) (ga g 12 q) [] (k_X2_init l g q (by rw [up2_same]; trivial) (up2_same _ _ _ _) (n + 3 * q + 1) g13 (by omega)) rfl ⟨by omega, by omega⟩ ⟨by omega, by omega⟩ hl.1 rfl (Nat.le_of_ble_eq_true rfl) dX4_init_99 (fun v H2 locs2 hp hS2 => ?_)
    obtain ⟨rfl, hI2, hz2⟩ := hp
    have hd10' : dmL (up2 (dmX dm 12 [14, 13] q) 12 q True) q [14, 13] 11 0 := dmL_iff.mpr (Or.inl (by rw [up2_ne _ _ (by simp)]; exact Or.inl hd11))
    have hd15' : dmL (up2 (dmX dm 12 [14, 13] q) 12 q True) q [14, 13] 12 q := dmL_iff.mpr (Or.inl (by rw [up2_same]; trivial))
    have he10 : up2 (ceL g (up2 (ceX g ce 12 [14, 13] 11 (e11 g) q) 12 q (.inr (3, [.null, .null, .int 0, .int 0, .int 0, .int 0]))) q [14, 13]) 12 q (fz g 12 q) 11 0 = e11 g q := by
      rw [up2_ne _ _ (by simp), ceL_ne (by decide), up2_ne _ _ (by simp)]
      unfold ceX
      rw [if_pos ⟨rfl, rfl⟩]
    refine r_astq C G hI2 hS2 11 0 hd10' 5 he10 (E := "StepBudgets$Frame") rfl (Cn := "StepBudgets$Frame") (r_recv G hI2 12 q hd15' (up2_same _ _ _ _) rfl) (asg_same G (ci := 3) rfl) (vp_in_nI hq8 (by decide)) dX4_init_102 (fun H3 locs3 hI3 hS3 hz3 => ?_)
    have hI4 := conv (E := e11 g) (by decide) (by rw [nI_clamp (by omega), up_if]; rfl) hI3
    refine lv_iinc (v := nI (q + 1)) (lv' := [(1, .int (nI (q + 1))), (0, .ref (ga g 1 0))]) hx hb dX4_init_103 hl (k := 1) rfl (nI_add1 q) (by decide) rfl (fun ls hl => ?_)
    refine lv_goto (tgt := 84) hx hb dX4_init_106 (by decide) ?_
    have := ih (q + 1) (by omega) H3 locs3 ls ⟨hI4, by rw [hz3, hz2]; omega⟩ hS3 (lv_sub hl [1, 0] rfl)
    rw [show cells + 3 * (q + 1) = cells + 3 * q + 1 + 2 by omega, show slots + 15 * (q + 1) = slots + 15 * q + 6 + 9 by omega] at this
    exact this
end L4
