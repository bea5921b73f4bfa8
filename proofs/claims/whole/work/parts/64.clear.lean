/-! forget and clear: the class -/
def clr1 (x : st) (kl ka m : Nat) : st := sxA (sxA x ka m (fun j => if j = 0 then 0 else x ka m j)) kl m (fun j => if j = 0 then x kl m 0 + 1 else if j = 2 then 0 else x kl m j)
theorem clr1_app {x : st} {kl ka m k i : Nat} : clr1 x kl ka m k i = if k = kl ∧ i = m then (fun j => if j = 0 then x kl m 0 + 1 else if j = 2 then 0 else x kl m j) else if k = ka ∧ i = m then (fun j => if j = 0 then 0 else x ka m j) else x k i := by
  unfold clr1
  rw [sxA_app, sxA_app]
theorem LK.two {kl ka ke mul ci kl' ka' ke' mul' ci' : Nat} (h : LK kl ka ke mul ci) (h' : LK kl' ka' ke' mul' ci') : (kl' = kl ↔ ka' = ka) ∧ ¬ kl' = ka ∧ ¬ ka' = kl ∧ ¬ ke' = kl ∧ ¬ ke' = ka := by
  rcases h with ⟨rfl, rfl, rfl, rfl, rfl⟩ | ⟨rfl, rfl, rfl, rfl, rfl⟩ | ⟨rfl, rfl, rfl, rfl, rfl⟩ <;> rcases h' with ⟨rfl, rfl, rfl, rfl, rfl⟩ | ⟨rfl, rfl, rfl, rfl, rfl⟩ | ⟨rfl, rfl, rfl, rfl, rfl⟩ <;> decide
theorem clr_v {kl ka ke mul ci kl' ka' ke' mul' ci' : Nat} (h : LK kl ka ke mul ci) (h' : LK kl' ka' ke' mul' ci') (x : st) (m m2 : Nat) : clr1 x kl ka m kl' m2 2 = (if kl' = kl ∧ m2 = m then 0 else x kl' m2 2) ∧ clr1 x kl ka m ka' m2 0 = (if kl' = kl ∧ m2 = m then 0 else x ka' m2 0) ∧ clr1 x kl ka m ka' m2 1 = x ka' m2 1 := by
  obtain ⟨e1, e2, e3, -⟩ := h.two h'
  rw [clr1_app, clr1_app]
  refine ⟨?_, ?_, ?_⟩
  · by_cases c : kl' = kl ∧ m2 = m
    · rw [if_pos c, if_pos c]; rfl
    · rw [if_neg c, if_neg c, if_neg (fun q => e2 q.1)]
  · rw [if_neg (fun q => e3 q.1)]
    by_cases c : kl' = kl ∧ m2 = m
    · rw [if_pos ⟨e1.mp c.1, c.2⟩, if_pos c]; rfl
    · rw [if_neg (fun q => c ⟨e1.mpr q.1, q.2⟩), if_neg c]
  · rw [if_neg (fun q => e3 q.1)]
    by_cases c : ka' = ka ∧ m2 = m
    · rw [if_pos c, c.1, c.2]; rfl
    · rw [if_neg c]
theorem LK.a : LK 21 24 18 48 1 := Or.inl ⟨rfl, rfl, rfl, rfl, rfl⟩
theorem LK.g : LK 22 25 19 6 4 := Or.inr (Or.inl ⟨rfl, rfl, rfl, rfl, rfl⟩)
theorem LK.c : LK 23 26 20 6 2 := Or.inr (Or.inr ⟨rfl, rfl, rfl, rfl, rfl⟩)
theorem clr_gokL {kl ka ke mul ci kl' ka' ke' mul' ci' : Nat} (h : LK kl ka ke mul ci) (h' : LK kl' ka' ke' mul' ci') {g : gT} {x : st} {m m2 : Nat} (hg : gokL g x kl' ka' ke' mul' m2) : gokL g (clr1 x kl ka m) kl' ka' ke' mul' m2 := by
  obtain ⟨v1, v2, v3⟩ := clr_v h h' x m m2
  unfold gokL at hg ⊢
  rw [v1, v2, v3]
  by_cases c : kl' = kl ∧ m2 = m
  · rw [if_pos c, if_pos c]
    exact ⟨rfl, fun j hj => absurd hj (Nat.not_lt_zero _)⟩
  · rw [if_neg c, if_neg c]
    exact hg
theorem clr_lok {kl ka ke mul ci kl' ka' ke' mul' ci' : Nat} (h : LK kl ka ke mul ci) (h' : LK kl' ka' ke' mul' ci') {g : gT} {x : st} {m m2 B : Nat} (hg : lok g x ka' m2) (hN : isN (x ka' m2 0) B) : isN (clr1 x kl ka m ka' m2 0) B ∧ lok g (clr1 x kl ka m) ka' m2 := by
  obtain ⟨v1, v2, v3⟩ := clr_v h h' x m m2
  unfold lok at hg ⊢
  rw [v2, v3]
  by_cases c : kl' = kl ∧ m2 = m
  · rw [if_pos c]
    refine ⟨isN0, ?_⟩
    rcases hg with ⟨p1, p2, p3, p4⟩ | ⟨p1, p2, p3, p4⟩
    · exact Or.inl ⟨p1, Nat.zero_le _, p3, p4⟩
    · exact Or.inr ⟨p1, p2, rfl, p4⟩
  · rw [if_neg c]
    exact ⟨hN, hg⟩
theorem clr_gok {kl ka ke mul ci : Nat} (hL : LK kl ka ke mul ci) {g : gT} {x : st} {m : Nat} (hk : gok g x) (hk2 : gok2 g x) : gok g (clr1 x kl ka m) ∧ gok2 g (clr1 x kl ka m) := by
  obtain ⟨h1, h2⟩ := gok_L.mp hk
  refine ⟨gok_L.mpr ⟨h1, fun m2 hm2 => ?_⟩, hk2.1, fun m2 hm2 => ?_⟩
  · obtain ⟨l1, l2, l3⟩ := h2 m2 hm2
    exact ⟨clr_gokL hL LK.a l1, clr_gokL hL LK.g l2, clr_gokL hL LK.c l3⟩
  · obtain ⟨⟨n1, n2, n3⟩, l1, l2, l3⟩ := hk2.2 m2 hm2
    have a1 := clr_lok hL LK.a (m := m) l1 n1
    have a2 := clr_lok hL LK.g (m := m) l2 n2
    have a3 := clr_lok hL LK.c (m := m) l3 n3
    exact ⟨⟨a1.1, a2.1, a3.1⟩, a1.2, a2.2, a3.2⟩
theorem clr_fin {kl ka ke mul ci : Nat} (hL : LK kl ka ke mul ci) {g : gT} {x : st} {H : Heap} {m : Nat} (hk : gok g x) (hk2 : gok2 g x) (hI : iw (gD g) (gz g) (ga g) (gd g) (up2 (up2 (fcs g x) ka m (clA g (nv (x ka m 1)) (nv (x ka m 0)) (fun j => if j < nv (x ka m 0) then some (ga g ke (mul * m + j)) else none))) kl m (.inr (0, [.int (x kl m 0 + 1), .ref (ga g ka m), .int 0]))) H) : wst g (clr1 x kl ka m) H := by
  refine ⟨hI.cg (fun k i hd => ?_), (clr_gok hL hk hk2).1⟩
  show _ = fc g k i (clr1 x kl ka m k i)
  rw [clr1_app]
  by_cases c1 : k = kl ∧ i = m
  · obtain ⟨rfl, rfl⟩ := c1
    rw [up2_same, if_pos ⟨rfl, rfl⟩, (hL.fl _ _ _).1]
    rfl
  · rw [up2_ne _ _ c1, if_neg c1]
    by_cases c2 : k = ka ∧ i = m
    · obtain ⟨rfl, rfl⟩ := c2
      rw [up2_same, if_pos ⟨rfl, rfl⟩, (hL.fl _ _ _).2]
      unfold clA
      show _ = Sum.inl (gy g 3, nv (x k i 1), qa (fun j => if j < nv 0 then some (ga g ke (mul * i + j)) else none))
      congr 5
      funext j
      rw [if_neg (show ¬ j < nv 0 from Nat.not_lt_zero _)]
      by_cases hj : j < nv (x k i 0)
      · rw [if_pos hj]
      · rw [if_neg hj]
        show (if j < nv (x k i 0) then some (ga g ke (mul * i + j)) else none) = none
        rw [if_neg hj]
    · rw [up2_ne _ _ c2, if_neg c2]
      rfl
section LCc
variable {p : Program} {l : Launch} {e : Env} {R : Room} {s : State} {m : MethodId} {args : Array Value} {below : List Frame} {meth : Method} {c : Code} {H : Heap} {locs : List Loc} {cells slots : Nat} {Q : State → Prop}
variable {cc : ByteArray} {nL : Nat} {own : String} {ret : Option FieldType} {pc : Nat} {ls : Array Slot} {rest : List Value} {g : gT} {x : st}
/-- the call of a list's clear -/
theorem r_clear (C : cxt p s m meth c args cc nL own ret) (G : gst g s) {kl ka ke mul ci : Nat} (hL : LK kl ka ke mul ci) {t : Nat} (ht : t < 8) (hI : wst g x H) (hk2 : gok2 g x) (hS : va_S (zA (gz g)) s.heap H locs) {index : Nat} (hl : Cond.methodLink own index yJx4a65c_clear_da8c8 ∈ Tg) (hfr : 1 ≤ R.frames ∧ 23 ≤ R.locals) (hfc : cells ≤ R.cells ∧ slots ≤ R.slots) (hsz : ls.size = nL) (hroom : (rest.map fun v => v.category).sum ≤ 8) (hdg : decode cc pc = .ok (.invokevirtual index, 3))
    (kk : ∀ (H1 : Heap) (locs1 : List Loc), wst g (clr1 x kl ka t) H1 → gok2 g (clr1 x kl ka t) → va_S (zA (gz g)) s.heap H1 locs1 → W p l e R s m args below meth c H1 locs1 cells slots Q (F0 m (pc + 3) ls rest)) : W p l e R s m args below meth c H locs cells slots Q (F0 m pc ls (.ref (ga g kl t) :: rest)) := by
  obtain ⟨⟨h90, ha90, hlka⟩, hke90, hea, hel, hci, ⟨hmul, hmul0⟩⟩ := hL.ne
  obtain ⟨hlo, hN⟩ := hL.lok hk2 ht
  have hgl := hL.gl hI.2 ht
  have hdl := hL.fam hI.2 ht
  have hN2 := hN.2
  have c1 : fcs g x kl t = .inr (0, [.int (x kl t 0), .ref (ga g ka t), .int (nI (nv (x ka t 0)))]) := by
    show fc g kl t (x kl t) = _
    rw [(hL.fl g t _).1, hgl.1, ← hN.1]
  refine r_callV (P := fun H => iw (gD g) (gz g) (ga g) (gd g) (fcs g x) H) C G hI.1 hS (ga g kl t) (r_recv G hI.1 kl t hdl c1 rfl) mv_clear hl [] (k_clear l g (ad := ga g) kl ka t hlka hdl c1 (cap := nv (x ka t 1)) (f := fun j => if j < nv (x ka t 0) then some (ga g ke (mul * t + j)) else none) (fun _ => ?_) (fun h => ?_) (fun h => ?_) (by omega)) rfl hfr hfc hsz rfl hroom hdg (fun v H1 locs1 hp hS1 => ?_)
  · show fc g ka t (x ka t) = _
    exact (hL.fl g t _).2
  · rcases hlo with ⟨p1, -⟩ | ⟨-, -, p3, -⟩
    · exact ⟨p1, rfl⟩
    · rw [p3] at h; exact absurd h (Nat.not_lt_zero _)
  · rcases hlo with ⟨p1, p2, p3, p4⟩ | ⟨p1, -⟩
    · exact ⟨p2, by omega⟩
    · exact absurd h p1
  · obtain ⟨rfl, hI1⟩ := hp
    exact kk H1 locs1 (clr_fin hL hI.2 hk2 hI1) (clr_gok hL hI.2 hk2).2 hS1
end LCc
def clr3 (x : st) (t : Nat) : st := clr1 (clr1 (clr1 x 21 24 t) 22 25 t) 23 26 t
theorem mv_X6_forget : mtV yX6_forget RX6 cX6_forget 1 none 0 := ⟨ki_X6_forget, kl_X6_forget, kI_X6, kc_X6_forget, by decide +kernel⟩
theorem mv_X10_clear : mtV yX10_clear RX10 cX10_clear 3 (some .int) 1 := ⟨ki_X10_clear, kl_X10_clear, kI_X10, kc_X10_clear, by decide +kernel⟩
set_option maxHeartbeats 4000000 in
theorem k_X6_forget (l : Launch) (g : gT) (t : Nat) (ht : t < 8) {x : st} (hk2 : gok2 g x) : Kr l yX6_forget cX6_forget 1 none 1 23 0 0 g [.ref (ga g 15 t)] (fun H => wst g x H) (fun v H => v = none ∧ wst g (clr3 x t) H ∧ gok2 g (clr3 x t)) := by
  refine Kr.of (by decide) (fun p e s m below meth c C hnm G hI => ?_)
  have hl := lv_entry ([.ref (ga g 15 t)]) (n := 1) (Nat.le_of_ble_eq_true rfl)
  rw [lg_entry_eq]
  generalize (lg_sl ([.ref (ga g 15 t)]) ++ List.replicate (1 - (lg_sl ([.ref (ga g 15 t)])).length) Slot.unset).toArray = ls at hl ⊢
  have hl : lv_has ls 1 [(0, .ref (ga g 15 t))] := hl
  obtain ⟨hx, hb, hml, hown, hts, hlk, hrt⟩ := id C
  have hS : va_S (zA (gz g)) s.heap s.heap [] := va_S.rf
  refine lv_aload_n hx hb dX6_forget_0 rfl (lv_at hl 0 rfl) ?_
  refine w_get C G hI 15 t (hI.at8 rfl ht) (fcE_15 g _ _) rfl in_X6 0 (by decide) kf_X6_12 (fun _ h => h) (v := .ref (ga g 21 t)) rfl dX6_forget_1 ?_
  refine r_clear C G LK.a ht hI hk2 hS km_X6_24 (by decide) (by decide) hl.1 (by decide) dX6_forget_4 (fun H locs hI hk2 hS => ?_)
  refine lv_aload_n hx hb dX6_forget_7 rfl (lv_at hl 0 rfl) ?_
  refine w_get C G hI 15 t (hI.at8 rfl ht) (fcE_15 g _ _) rfl in_X6 1 (by decide) kf_X6_18 (fun _ h => h) (v := .ref (ga g 22 t)) rfl dX6_forget_8 ?_
  refine r_clear C G LK.g ht hI hk2 hS km_X6_24 (by decide) (by decide) hl.1 (by decide) dX6_forget_11 (fun H locs hI hk2 hS => ?_)
  refine lv_aload_n hx hb dX6_forget_14 rfl (lv_at hl 0 rfl) ?_
  refine w_get C G hI 15 t (hI.at8 rfl ht) (fcE_15 g _ _) rfl in_X6 2 (by decide) kf_X6_21 (fun _ h => h) (v := .ref (ga g 23 t)) rfl dX6_forget_15 ?_
  refine r_clear C G LK.c ht hI hk2 hS km_X6_24 (by decide) (by decide) hl.1 (by decide) dX6_forget_18 (fun H locs hI hk2 hS => ?_)
  exact r_vret C ⟨rfl, hI, hk2⟩ hS (by decide) (by decide) dX6_forget_21
def f_X10_clear (a1 : Int32) (x : st) : Int32 × st := if a1 < 0 ∨ 8 ≤ a1 then (-1, x) else (x 21 (nv a1) 2, clr3 x (nv a1))
set_option maxHeartbeats 4000000 in
theorem k_X10_clear (l : Launch) (g : gT) (a1 : Int32) {x x' : st} {r : Int32} (h : f_X10_clear a1 x = (r, x')) (hk2 : gok2 g x) : Kr l yX10_clear cX10_clear 3 (some .int) 7 231 2 205 g [.ref (ga g 0 0), .int a1] (fun H => wst g x H) (postG g r x') := by
  refine Kr.of (by decide) (fun p e s m below meth c C hnm G hI => ?_)
  have hl := lv_entry ([.ref (ga g 0 0), .int a1]) (n := 3) (Nat.le_of_ble_eq_true rfl)
  rw [lg_entry_eq]
  generalize (lg_sl ([.ref (ga g 0 0), .int a1]) ++ List.replicate (3 - (lg_sl ([.ref (ga g 0 0), .int a1])).length) Slot.unset).toArray = ls at hl ⊢
  have hl : lv_has ls 3 [(0, .ref (ga g 0 0)), (1, .int a1)] := hl
  obtain ⟨hx, hb, hml, hown, hts, hlk, hrt⟩ := id C
  have hS : va_S (zA (gz g)) s.heap s.heap [] := va_S.rf
  unfold f_X10_clear at h
  refine lv_iload_n hx hb dX10_clear_0 rfl (lv_at hl 1 rfl) ?_
  refine lv_bipush (v := 8) hx hb dX10_clear_1 (by decide) ?_
  refine w_callS (fr := 0) (lo := 0) C G hI hS ms_X10_within km_X10_20 [.int a1, .int 8] (k_X10_within l g a1 8 x _ _ within_eq) rfl (by decide) (by decide) hl.1 rfl (Nat.le_of_ble_eq_true rfl) dX10_clear_3 (fun H locs hI hS => ?_)
  refine lv_if_ne (tgt := 11) hx hb dX10_clear_6 (by decide) (fun hc => ?_) (fun hc => ?_)
  · have hc8 : ¬ (a1 < 0 ∨ 8 ≤ a1) := fun c => hc (by rw [if_pos c])
    rw [if_neg hc8] at h
    obtain ⟨t, ht, rfl⟩ := in8 hc8
    rw [nv_nI (by omega)] at h
    refine lv_aload_n hx hb dX10_clear_11 rfl (lv_at hl 0 rfl) ?_
    refine w_get C G hI 0 0 (hI.at1 rfl) (fcE_0 g _ _) rfl in_X10 0 (by decide) kf_X10_12 (fun _ h => h) (v := .ref (ga g 1 0)) rfl dX10_clear_12 ?_
    refine w_get C G hI 1 0 (hI.at1 rfl) (fcE_1 g _ _) rfl in_X4 2 (by decide) kf_X10_30 (fun _ h => h) (v := .ref (ga g 10 0)) rfl dX10_clear_15 ?_
    refine lv_iload_n hx hb dX10_clear_18 rfl (lv_at hl 1 rfl) ?_
    refine w_aald C G hI 10 0 (hI.at1 rfl) 4 (fcA_10 g _ _) rfl (vp_in_nI ht (by decide)) (a := ga g 15 t) (by rw [nI_clamp (by omega)]) dX10_clear_19 ?_
    refine w_get C G hI 15 t (hI.at8 rfl ht) (fcE_15 g _ _) rfl in_X6 0 (by decide) kf_X10_34 (fun _ h => h) (v := .ref (ga g 21 t)) rfl dX10_clear_20 ?_
    refine w_callV (fr := 0) (lo := 0) C G hI hS 21 t (hI.at8 rfl ht) (fcE_21 _ _ _) rfl mv_Jx4a65c_size_8abf5 km_X10_40 [] (k_size_21 l _ t ht _) rfl (by decide) (by decide) hl.1 rfl (Nat.le_of_ble_eq_true rfl) dX10_clear_23 (fun H locs hI hS => ?_)
    refine lv_istore_n (lv' := [(2, .int (x 21 t 2)), (0, .ref (ga g 0 0)), (1, .int (nI t))]) hx hb dX10_clear_26 rfl hl (by decide) rfl (fun ls hl => ?_)
    refine lv_aload_n hx hb dX10_clear_27 rfl (lv_at hl 1 rfl) ?_
    refine w_get C G hI 0 0 (hI.at1 rfl) (fcE_0 g _ _) rfl in_X10 0 (by decide) kf_X10_12 (fun _ h => h) (v := .ref (ga g 1 0)) rfl dX10_clear_28 ?_
    refine w_get C G hI 1 0 (hI.at1 rfl) (fcE_1 g _ _) rfl in_X4 2 (by decide) kf_X10_30 (fun _ h => h) (v := .ref (ga g 10 0)) rfl dX10_clear_31 ?_
    refine lv_iload_n hx hb dX10_clear_34 rfl (lv_at hl 2 rfl) ?_
    refine w_aald C G hI 10 0 (hI.at1 rfl) 4 (fcA_10 g _ _) rfl (vp_in_nI ht (by decide)) (a := ga g 15 t) (by rw [nI_clamp (by omega)]) dX10_clear_35 ?_
    refine r_callV (P := fun H => wst g x H) C G hI hS (ga g 15 t) (w_recv G hI 15 t (hI.at8 rfl ht) (fcE_15 g _ _) rfl) mv_X6_forget km_X10_72 [] (k_X6_forget l g t ht hk2) rfl (by decide) (by decide) hl.1 rfl (Nat.le_of_ble_eq_true rfl) dX10_clear_36 (fun v H locs hp hS => ?_)
    obtain ⟨rfl, hI, hk2⟩ := hp
    refine lv_iload_n hx hb dX10_clear_39 rfl (lv_at hl 0 rfl) ?_
    cases h
    exact r_ireti C ⟨rfl, g, gx.rf, hI, hk2⟩ hS (by decide) (by decide) dX10_clear_40
  · rw [if_pos (Classical.byContradiction (fun c => by rw [if_neg c] at hc; exact absurd hc (by decide)))] at h
    refine lv_iconst (v := (-1)) hx hb dX10_clear_9 (by decide) ?_
    cases h
    exact r_ireti C ⟨rfl, g, gx.rf, hI, hk2⟩ hS (by decide) (by decide) dX10_clear_10
