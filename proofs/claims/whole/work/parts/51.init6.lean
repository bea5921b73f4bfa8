/-! Method's constructor -/
theorem mi_X6_init : mtI yX6_init cX6_init 1 0 := ⟨ki_X6_init, kI_X6, kc_X6_init, by decide +kernel⟩
theorem ceL_ap {g : gT} {ce : Nat → Nat → va_E} {i : Nat} {ks : List Nat} : ∀ {A : List Nat}, ceL g (ceL g ce i ks) i A = ceL g ce i (A ++ ks)
  | [] => rfl
  | k :: A => by
    show up2 (ceL g (ceL g ce i ks) i A) k i _ = up2 (ceL g ce i (A ++ ks)) k i _
    rw [ceL_ap]
section LL
variable {p : Program} {l : Launch} {e : Env} {R : Room} {s : State} {m : MethodId} {args : Array Value} {below : List Frame} {meth : Method} {c : Code} {H : Heap} {locs : List Loc} {cells slots : Nat} {Q : State → Prop}
variable {pc : Nat} {ls : Array Slot} {g : gT}
variable {dm : Nat → Nat → Prop} {ce : Nat → Nat → va_E}
/-- a new list goes into a field of a Method -/
theorem r_lst (C : cxt p s m meth c args cX6_init 1 RX6 none) (hin2 : meth.name = "<init>") (G : gst g s) (i : Nat) {ks : List Nat} {fs : List Value} {n0 : Nat} (hI : iw (gD g) (gz g) (ga g) (dmL dm i ks) (up2 (ceL g ce i ks) 15 i (.inr (7, fs))) H ∧ H.size = n0) (hS : va_S (zA (gz g)) s.heap H locs) (hd : dm 15 i) (kA : Nat) (hkA : ¬ 15 = kA) (hq : ga g kA i = n0) (hfz : fz g kA i = .inr (0, [.int 0, .ref (ge g 20), .int 0])) (hfr : 4 ≤ R.frames ∧ 72 ≤ R.locals) (hcells : cells + 1 ≤ R.cells) (hslots : slots + 3 ≤ R.slots) (hsz : ls.size = 1)
    (hdg : decode cX6_init pc = .ok (.new 9, 3)) (hdg1 : decode cX6_init (pc + 3) = .ok (.dup, 1)) (hdg2 : decode cX6_init (pc + 4) = .ok (.invokespecial 11, 3)) {index : Nat} (j : Nat) (hj : j < 3) {ref : String} (hl : Cond.fieldLink RX6 index ref (TX6 j).2.1 (TX6 j).2.2.1 ∈ Tg) (hsame : ∀ y, s.fieldFound? (TX6 j).1 (TX6 j).2.1 (TX6 j).2.2.1 = some y → s.fieldFound? ref (TX6 j).2.1 (TX6 j).2.2.1 = some y) (hfin : (TX6 j).2.2.2 = true) (hdecl : (TX6 j).1 = RX6) (hdc : parseFieldDescriptor (TX6 j).2.2.1 = some (.object "java/util/ArrayList")) (hlen : j < fs.length) (hdg3 : decode cX6_init (pc + 7) = .ok (.putfield index, 3))
    (kk : ∀ (H1 : Heap) (locs1 : List Loc), iw (gD g) (gz g) (ga g) (dmL dm i (kA :: ks)) (up2 (ceL g ce i (kA :: ks)) 15 i (.inr (7, fs.set j (.ref (ga g kA i))))) H1 ∧ H1.size = n0 + 1 → va_S (zA (gz g)) s.heap H1 locs1 → W p l e R s m args below meth c H1 locs1 (cells + 1) (slots + 3) Q (F0 m (pc + 10) ls [])) : W p l e R s m args below meth c H locs cells slots Q (F0 m pc ls [.ref (ga g 15 i)]) := by
  obtain ⟨hI, hz⟩ := hI
  obtain ⟨hx, hb, hml, hown, hts, hlk, hrt⟩ := id C
  refine r_new C G hI hS kA i (hz.trans hq.symm) (ci := 0) rfl in_Jx4a65c tyJx4a65c tyJx4a65c_ok kC_X6_9 kN_Jx4a65c kI_Jx4a65c (fs := [.int 0, .null, .int 0]) (by decide) hcells hslots hdg (fun H1 hI1 hS1 hz1 => ?_)
  refine lv_dup hx hb hdg1 rfl ?_
  refine r_callI (P := fun H => iw (gD g) (gz g) (ga g) (up2 (dmL dm i ks) kA i True) (up2 (up2 (ceL g ce i ks) 15 i (.inr (7, fs))) kA i (.inr (0, [.int 0, .null, .int 0]))) H ∧ H.size = n0 + 1) C G ⟨hI1, by rw [hz1, hz]⟩ hS1 mi_Jx4a65c_init km_X6_11 (ga g kA i) [] (k_Jx4a65c_init l g (ad := ga g) (k := kA) (i := i) (by rw [up2_same]; trivial) (up2_same _ _ _ _) (n0 + 1)) rfl ⟨by omega, by omega⟩ ⟨hcells, hslots⟩ hsz rfl (Nat.le_of_ble_eq_true rfl) hdg2 (fun v H2 locs2 hp hS2 => ?_)
  obtain ⟨rfl, hI2, hz2⟩ := hp
  rw [up2_up2, up2_comm (fun c => hkA c.1)] at hI2
  refine r_putF C G hI2 hS2 15 i ?_ (up2_same _ _ _ _) rfl in_X6 tyX6 tyX6_ok nmX6 j hj hl hsame hfin hin2 hdecl hdc rfl rfl hlen hdg3 (fun H3 locs3 hI3 hS3 hz3 => ?_)
  · rw [up2_ne _ _ (fun c => hkA c.1)]
    exact dmL_iff.mpr (Or.inl hd)
  · rw [up2_up2] at hI3
    refine kk H3 locs3 ⟨?_, by rw [hz3, hz2]⟩ hS3
    unfold dmL ceL
    rw [hfz]
    exact hI3
end LL
theorem fz_l {g : gT} {i : Nat} (h1 : ga g 24 i = ge g 20) (h2 : ga g 25 i = ge g 20) (h3 : ga g 26 i = ge g 20) : fz g 21 i = .inr (0, [.int 0, .ref (ge g 20), .int 0]) ∧ fz g 22 i = .inr (0, [.int 0, .ref (ge g 20), .int 0]) ∧ fz g 23 i = .inr (0, [.int 0, .ref (ge g 20), .int 0]) := by
  rw [← h1]
  refine ⟨rfl, ?_, ?_⟩
  · rw [h1, ← h2]; rfl
  · rw [h1, ← h3]; rfl
set_option maxHeartbeats 4000000 in
theorem k_X6_init (l : Launch) (g : gT) (i : Nat) {dm : Nat → Nat → Prop} {ce : Nat → Nat → va_E} (hd : dm 15 i) (he : ce 15 i = .inr (7, [.null, .null, .null])) (n0 : Nat) (hq0 : ga g 21 i = n0 + 0) (hq1 : ga g 22 i = n0 + 1) (hq2 : ga g 23 i = n0 + 2) (h1 : ga g 24 i = ge g 20) (h2 : ga g 25 i = ge g 20) (h3 : ga g 26 i = ge g 20) :
    Kr l yX6_init cX6_init 1 none 4 72 3 9 g [.ref (ga g 15 i)] (fun H => iw (gD g) (gz g) (ga g) dm ce H ∧ H.size = n0) (fun v H => v = none ∧ iw (gD g) (gz g) (ga g) (dmL dm i [23, 22, 21]) (up2 (ceL g ce i [23, 22, 21]) 15 i (fz g 15 i)) H ∧ H.size = n0 + 3) := by
  refine Kr.of (by decide) (fun p e s m below meth c C hnm G hP => ?_)
  have hl := lv_entry ([.ref (ga g 15 i)]) (n := 1) (Nat.le_of_ble_eq_true rfl)
  rw [lg_entry_eq]
  generalize (lg_sl ([.ref (ga g 15 i)]) ++ List.replicate (1 - (lg_sl ([.ref (ga g 15 i)])).length) Slot.unset).toArray = ls at hl ⊢
  have hl : lv_has ls 1 [(0, .ref (ga g 15 i))] := hl
  obtain ⟨hx, hb, hml, hown, hts, hlk, hrt⟩ := id C
  obtain ⟨f1, f2, f3⟩ := fz_l h1 h2 h3
  have hI : iw (gD g) (gz g) (ga g) (dmL dm i []) (up2 (ceL g ce i []) 15 i (.inr (7, [.null, .null, .null]))) s.heap ∧ s.heap.size = n0 := ⟨by show iw _ _ _ dm (up2 ce 15 i _) _; rw [up2_nop he]; exact hP.1, hP.2⟩
  have hS : va_S (zA (gz g)) s.heap s.heap [] := va_S.rf
  clear hP
  refine lv_aload_n hx hb dX6_init_0 rfl (lv_at hl 0 rfl) ?_
  refine r_obj C km_X6_3 (ga g 15 i) hl.1 (by decide) dX6_init_1 ?_
  refine lv_aload_n hx hb dX6_init_4 rfl (lv_at hl 0 rfl) ?_
  refine r_lst C hnm G i hI hS hd 21 (by decide) hq0 f1 (by decide) (by decide) (by decide) hl.1 dX6_init_5 dX6_init_8 dX6_init_9 0 (by decide) kf_X6_12 (fun _ h => h) rfl rfl (by decide +kernel) (Nat.le_of_ble_eq_true rfl) dX6_init_12 (fun H locs hI hS => ?_)
  refine lv_aload_n hx hb dX6_init_15 rfl (lv_at hl 0 rfl) ?_
  refine r_lst C hnm G i hI hS hd 22 (by decide) hq1 f2 (by decide) (by decide) (by decide) hl.1 dX6_init_16 dX6_init_19 dX6_init_20 1 (by decide) kf_X6_18 (fun _ h => h) rfl rfl (by decide +kernel) (Nat.le_of_ble_eq_true rfl) dX6_init_23 (fun H locs hI hS => ?_)
  refine lv_aload_n hx hb dX6_init_26 rfl (lv_at hl 0 rfl) ?_
  refine r_lst C hnm G i hI hS hd 23 (by decide) hq2 f3 (by decide) (by decide) (by decide) hl.1 dX6_init_27 dX6_init_30 dX6_init_31 2 (by decide) kf_X6_21 (fun _ h => h) rfl rfl (by decide +kernel) (Nat.le_of_ble_eq_true rfl) dX6_init_34 (fun H locs hI hS => ?_)
  exact r_vret C ⟨rfl, hI⟩ hS (by decide) (by decide) dX6_init_37
