/-! rows of the layer: an instruction a row -/
/-- the method that is walked: the machine, its code, its class, the tables' words -/
def cxt (p : Program) (s : State) (m : MethodId) (meth : Method) (c : Code) (args : Array Value) (cc : ByteArray) (nL : Nat) (own : String) (ret : Option FieldType) : Prop :=
  p.tables.exec = Jvm.exec ∧ c.code = cc ∧ c.maxLocals = nL ∧ s.vm.findClass own = some m.cls ∧ (∀ w ∈ Tg, w.before args s = true) ∧ meth.locks = false ∧ meth.sig.returnType = ret
theorem Tg_good {w : Cond} (h : w ∈ Tg) : (w.onTables && w.keeps) = true ∨ ∃ ty, w = .arrayClass ty := good_of_word (List.mem_filter.mp h).2
theorem good_Tg {ws : List Cond} (h : ∀ w ∈ ws, w ∈ Tg) : GoodIn Tg ws := fun w hw => ⟨h w hw, Tg_good (h w hw)⟩
theorem iw.set {D : va_G} {z : Nat} {ad : Nat → Nat → Nat} {dm : Nat → Nat → Prop} {ce : Nat → Nat → va_E} {H H1 : Heap} {k i : Nat} {e : va_E} (h : iw D z ad dm ce H) (hd : dm k i) (he : va_at D vwCl (ad k i, e) H1) (oq : ∀ q : Nat, q ≠ ad k i → H1[q]? = H[q]?) : iw D z ad dm (up2 ce k i e) H1 := by
  refine ⟨fun k' i' h' => ?_, h.2.1, h.2.2⟩
  by_cases hk : k' = k ∧ i' = i
  · obtain ⟨rfl, rfl⟩ := hk
    rw [up2_same]; exact he
  · rw [up2_ne _ _ hk]
    exact (h.1 k' i' h').kept (oq _ (fun e => hk (h.2.1 k' i' k i h' hd e)))
theorem iw.cg {D : va_G} {z : Nat} {ad : Nat → Nat → Nat} {dm : Nat → Nat → Prop} {ce ce' : Nat → Nat → va_E} {H : Heap} (h : iw D z ad dm ce H) (hc : ∀ k i, dm k i → ce k i = ce' k i) : iw D z ad dm ce' H :=
  ⟨fun k i hd => by rw [← hc k i hd]; exact h.1 k i hd, h.2⟩
theorem gok.keep {g : gT} {x : st} {k i : Nat} {f : Nat → Int32} (h : gok g x) (hk : lsF k = false) : gok g (sxA x k i f) := by
  have e : ∀ k', lsF k' = true → ∀ m, sxA x k i f k' m = x k' m := fun k' h' m => up2_ne _ _ (fun q => by rw [q.1, hk] at h'; cases h')
  obtain ⟨h1, h2, h3, h4, h5⟩ := h
  refine ⟨h1, fun m hm => ?_, fun m j hm hj => ?_, fun m j hm hj => ?_, fun m j hm hj => ?_⟩
  · rw [e 21 rfl, e 22 rfl, e 23 rfl, e 24 rfl, e 25 rfl, e 26 rfl]; exact h2 m hm
  · rw [e 24 rfl] at hj ⊢; exact h3 m j hm hj
  · rw [e 25 rfl] at hj ⊢; exact h4 m j hm hj
  · rw [e 26 rfl] at hj ⊢; exact h5 m j hm hj
theorem wst.set {g : gT} {x : st} {H H1 : Heap} {k i : Nat} {f : Nat → Int32} (h : wst g x H) (hd : gd g k i) (hk : lsF k = false) (he : va_at (gD g) vwCl (ga g k i, fc g k i f) H1) (oq : ∀ q : Nat, q ≠ ga g k i → H1[q]? = H[q]?) : wst g (sxA x k i f) H1 := by
  refine ⟨(h.1.set hd he oq).cg (fun k' i' _ => ?_), h.2.keep hk⟩
  by_cases hq : k' = k ∧ i' = i
  · obtain ⟨rfl, rfl⟩ := hq
    rw [up2_same]; show _ = fc g k' i' (up2 x k' i' f k' i'); rw [up2_same]
  · rw [up2_ne _ _ hq]; show _ = fc g k' i' (up2 x k i f k' i'); rw [up2_ne _ _ hq]; rfl
theorem wst.at {g : gT} {x : st} {H : Heap} (h : wst g x H) (k i : Nat) (hd : gd g k i) {e : va_E} (he : fc g k i (x k i) = e) : va_P (gD g) vwCl [(ga g k i, e)] H := by
  intro n q hn
  match n, hn with
  | 0, hn => cases hn; rw [← he]; exact h.1.1 k i hd
  | n + 1, hn => simp at hn
theorem wst.fx {g : gT} {x : st} {H : Heap} (h : wst g x H) {k i : Nat} (hi : i < famN.getD k 0) : gd g k i := h.2.1 k i hi
theorem zS {z : Nat} {s : State} {H H1 : Heap} {locs : List Loc} {a k : Nat} (h : va_S (zA z) s.heap H locs) (ha : z ≤ a) (hz : H1.size = H.size) (oq : ∀ q : Nat, q ≠ a → H1[q]? = H[q]?) : va_S (zA z) s.heap H1 (locs ++ [⟨a, k⟩]) := h.put hz oq ha
section LR
variable {p : Program} {l : Launch} {e : Env} {R : Room} {s : State} {m : MethodId} {args : Array Value} {below : List Frame} {meth : Method} {c : Code} {H : Heap} {locs : List Loc} {cells slots : Nat} {Q : State → Prop}
variable {cc : ByteArray} {nL : Nat} {own : String} {ret : Option FieldType} {pc : Nat} {ls : Array Slot} {rest : List Value} {g : gT} {x : st}
theorem w_get (C : cxt p s m meth c args cc nL own ret) (G : gst g s) (hI : wst g x H) (k i : Nat) (hd : gd g k i) {ci : Nat} {fs : List Value} (he : fc g k i (x k i) = .inr (ci, fs)) {Cn ref : String} {T : u_T} {N index : Nat} (hc : vwCl[ci]? = some (Cn, T, N)) (hin : ∀ w ∈ u_ws Cn T N, w ∈ Tg) (j : Nat) (hj : j < N) (hl : Cond.fieldLink own index ref (T j).2.1 (T j).2.2.1 ∈ Tg) (hsame : ∀ y, s.fieldFound? (T j).1 (T j).2.1 (T j).2.2.1 = some y → s.fieldFound? ref (T j).2.1 (T j).2.2.1 = some y) {v : Value} (hv : fs[j]? = some v) (hdg : decode cc pc = .ok (.getfield index, 3))
    (kk : W p l e R s m args below meth c H locs cells slots Q (F0 m (pc + 3) ls (v :: rest))) : W p l e R s m args below meth c H locs cells slots Q (F0 m pc ls (.ref (ga g k i) :: rest)) :=
  va_get C.1 C.2.1 C.2.2.2.2.1 hin C.2.2.2.1 G.2.1 (hI.at k i hd he) 0 rfl hc j hj (C.2.2.2.2.1 _ hl) hsame hv hdg kk
theorem w_put (C : cxt p s m meth c args cc nL own ret) (G : gst g s) (hI : wst g x H) (hS0 : va_S (zA (gz g)) s.heap H locs) (k i : Nat) (hd : gd g k i) (hk : lsF k = false) {ci : Nat} {fs : List Value} (he : fc g k i (x k i) = .inr (ci, fs)) {Cn ref : String} {T : u_T} {N index : Nat} (hc : vwCl[ci]? = some (Cn, T, N)) (hin : ∀ w ∈ u_ws Cn T N, w ∈ Tg) (ty0 : Nat → FieldType) (hty : ∀ k, k < N → parseFieldDescriptor (T k).2.2.1 = some (ty0 k)) (hnm : ∀ a, a < N → ∀ b, b < N → a ≠ b → (T a).2.1 ≠ (T b).2.1) (j : Nat) (hj : j < N) (hl : Cond.fieldLink own index ref (T j).2.1 (T j).2.2.1 ∈ Tg) (hsame : ∀ y, s.fieldFound? (T j).1 (T j).2.1 (T j).2.2.1 = some y → s.fieldFound? ref (T j).2.1 (T j).2.2.1 = some y) (hfin : (T j).2.2.2 = false) {ty : FieldType} {y : Int32} (hdc : parseFieldDescriptor (T j).2.2.1 = some ty) (hn : narrow ty (.int y) = .int y) (hfit : fits ty (.int y) = true) (hlen : j < fs.length) (he' : fc g k i (upd (x k i) j y) = .inr (ci, fs.set j (.int y))) (hdg : decode cc pc = .ok (.putfield index, 3))
    (kk : ∀ (H1 : Heap) (locs1 : List Loc), wst g (sx x k i j y) H1 → va_S (zA (gz g)) s.heap H1 locs1 → W p l e R s m args below meth c H1 locs1 cells slots Q (F0 m (pc + 3) ls rest)) : W p l e R s m args below meth c H locs cells slots Q (F0 m pc ls (.int y :: .ref (ga g k i) :: rest)) := by
  have hK := G.2.1
  have hts := C.2.2.2.2.1
  have hap := va_apart (own := own) hts hin ty0 hty hnm hK hc
  obtain ⟨r, h1, cell, q1, q2, q3, q4⟩ := hI.at k i hd he 0 _ rfl
  have hr : r = (Cn, T, N) := Option.some.inj (h1.symm.trans hc)
  subst hr
  obtain ⟨hSl, hfc, kC, hkC, hkind⟩ := hK.1 ci _ hc
  obtain ⟨cf, kf, fi, f, hi, hsl⟩ := hSl j hj
  have hlay := hts _ (hin _ (u_in_lay hj))
  unfold u_lay at hlay
  rw [if_neg (by rw [hfin]; decide)] at hlay
  have hst := (u_facts hfc hkC (u_lays hts hin hj) hi).1
  have h6 := u_store hfc hkC hkind hlay hi hdc hn hfit
  refine W.putK C.1 C.2.1 (f := f) ⟨C.2.2.2.1, hts _ hl, ⟨_, _, _, hsame _ hi⟩, hst⟩ (by rw [q2]; exact h6) q1 q3 (by rw [hsl]; exact k2_hasslot (q4 j hj)) rfl rfl hdg fun H' e1 e2 e3 => ?_
  rw [hsl] at e1 ⊢
  refine kk H' _ (hI.set hd hk ?_ e3) (hS0.put e2 e3 (hI.1.2.2 k i hd))
  rw [he']
  exact ⟨_, hc, t_OB.to (V := updV (vp_V fs) j (.int y)) ⟨_, e1, q2, q3, t_set q4 hap hj (.int y)⟩ (fun n _ => vp_updV_set hlen (.int y) n)⟩
theorem w_iald (C : cxt p s m meth c args cc nL own ret) (G : gst g s) (hI : wst g x H) (k i : Nat) (hd : gd g k i) {n : Nat} {f : Nat → Int32} (he : fc g k i (x k i) = .inl (gy g 0, n, .inl f)) {j : Int32} (hin : vp_in j n) (hdg : decode cc pc = .ok (.iaload, 1))
    (kk : W p l e R s m args below meth c H locs cells slots Q (F0 m (pc + 1) ls (.int (f j.toNatClampNeg) :: rest))) : W p l e R s m args below meth c H locs cells slots Q (F0 m pc ls (.int j :: .ref (ga g k i) :: rest)) :=
  va_iald C.1 C.2.1 G.2.1 (hI.at k i hd he) 0 0 rfl rfl hin hdg kk
theorem w_zald (C : cxt p s m meth c args cc nL own ret) (G : gst g s) (hI : wst g x H) (k i : Nat) (hd : gd g k i) {n : Nat} {f : Nat → Int32} (he : fc g k i (x k i) = .inl (gy g 1, n, .inl f)) {j : Int32} (hin : vp_in j n) (hdg : decode cc pc = .ok (.baload, 1))
    (kk : W p l e R s m args below meth c H locs cells slots Q (F0 m (pc + 1) ls (.int (f j.toNatClampNeg) :: rest))) : W p l e R s m args below meth c H locs cells slots Q (F0 m pc ls (.int j :: .ref (ga g k i) :: rest)) :=
  va_zald C.1 C.2.1 G.2.1 (hI.at k i hd he) 0 1 rfl rfl hin hdg kk
theorem w_lald (C : cxt p s m meth c args cc nL own ret) (G : gst g s) (hI : wst g x H) (k i : Nat) (hd : gd g k i) {n : Nat} {f : Nat → Int64} (he : fc g k i (x k i) = .inl (gy g 2, n, .inr (.inl f))) {j : Int32} (hin : vp_in j n) (hdg : decode cc pc = .ok (.laload, 1))
    (kk : W p l e R s m args below meth c H locs cells slots Q (F0 m (pc + 1) ls (.long (f j.toNatClampNeg) :: rest))) : W p l e R s m args below meth c H locs cells slots Q (F0 m pc ls (.int j :: .ref (ga g k i) :: rest)) :=
  va_lald C.1 C.2.1 G.2.1 (hI.at k i hd he) 0 2 rfl rfl hin hdg kk
theorem w_aald (C : cxt p s m meth c args cc nL own ret) (G : gst g s) (hI : wst g x H) (k i : Nat) (hd : gd g k i) (t0 : Nat) {cA : ClassId} {Cn : String} {n : Nat} {f : Nat → Option Nat} (he : fc g k i (x k i) = .inl (cA, n, qa f)) (ht : (tyl g)[t0]? = some (cA, .object Cn)) {j : Int32} (hin : vp_in j n) {a : Nat} (hv : f j.toNatClampNeg = some a) (hdg : decode cc pc = .ok (.aaload, 1))
    (kk : W p l e R s m args below meth c H locs cells slots Q (F0 m (pc + 1) ls (.ref a :: rest))) : W p l e R s m args below meth c H locs cells slots Q (F0 m pc ls (.int j :: .ref (ga g k i) :: rest)) :=
  va_aldq C.1 C.2.1 G.2.1 (hI.at k i hd he) 0 t0 rfl ht hin hdg (by rw [hv]; exact kk)
theorem w_iast (C : cxt p s m meth c args cc nL own ret) (G : gst g s) (hI : wst g x H) (hS : va_S (zA (gz g)) s.heap H locs) (k i : Nat) (hd : gd g k i) (hk : lsF k = false) {n : Nat} (he : ∀ f, fc g k i f = .inl (gy g 0, n, .inl f)) {j y : Int32} (hin : vp_in j n) (hdg : decode cc pc = .ok (.iastore, 1))
    (kk : ∀ (H1 : Heap) (locs1 : List Loc), wst g (sx x k i j.toNatClampNeg y) H1 → va_S (zA (gz g)) s.heap H1 locs1 → W p l e R s m args below meth c H1 locs1 cells slots Q (F0 m (pc + 1) ls rest)) : W p l e R s m args below meth c H locs cells slots Q (F0 m pc ls (.int y :: .int j :: .ref (ga g k i) :: rest)) := by
  refine W.iast C.1 C.2.1 (hI.at k i hd (he _) 0 _ rfl) ((G.2.1.2 0 (gy g 0, .int) rfl).1 n (fun q => .int (x k i q))) (fun q => by cases q) (by show ¬ (j < 0 ∨ (arrV _ _ _).slots.size ≤ _); rw [arrV_size]; exact hin) rfl rfl hdg fun H1 e z oq => ?_
  refine kk H1 _ (hI.set hd hk ?_ oq) (hS.put z oq (hI.1.2.2 k i hd))
  rw [he]
  show H1[ga g k i]? = some (vp_cell _ _)
  rw [e]
  rw [vp_cell_i, vp_cell_i, arrV_store]
  congr 2
  funext q
  by_cases hq : q = j.toNatClampNeg
  · subst hq
    simp [updV, upd]
  · simp [updV, upd, hq]
theorem w_zast (C : cxt p s m meth c args cc nL own ret) (G : gst g s) (hI : wst g x H) (hS : va_S (zA (gz g)) s.heap H locs) (k i : Nat) (hd : gd g k i) (hk : lsF k = false) {n : Nat} (he : ∀ f, fc g k i f = .inl (gy g 1, n, .inl f)) {j y : Int32} (hin : vp_in j n) (hy : y = 0 ∨ y = 1) (hdg : decode cc pc = .ok (.bastore, 1))
    (kk : ∀ (H1 : Heap) (locs1 : List Loc), wst g (sx x k i j.toNatClampNeg y) H1 → va_S (zA (gz g)) s.heap H1 locs1 → W p l e R s m args below meth c H1 locs1 cells slots Q (F0 m (pc + 1) ls rest)) : W p l e R s m args below meth c H locs cells slots Q (F0 m pc ls (.int y :: .int j :: .ref (ga g k i) :: rest)) := by
  have hy1 : vp_nar .boolean y = y := by rcases hy with rfl | rfl <;> rfl
  refine W.zast C.1 C.2.1 (hI.at k i hd (he _) 0 _ rfl) ((G.2.1.2 1 (gy g 1, .boolean) rfl).1 n (fun q => .int (x k i q))) (fun q => by cases q) (by show ¬ (j < 0 ∨ (arrV _ _ _).slots.size ≤ _); rw [arrV_size]; exact hin) rfl rfl hdg fun H1 e z oq => ?_
  refine kk H1 _ (hI.set hd hk ?_ oq) (hS.put z oq (hI.1.2.2 k i hd))
  rw [he]
  show H1[ga g k i]? = some (vp_cell _ _)
  rw [e]
  rw [vp_cell_i, vp_cell_i, arrV_store]
  congr 2
  funext q
  by_cases hq : q = j.toNatClampNeg
  · subst hq
    rcases hy with rfl | rfl <;> simp [updV, upd] <;> rfl
  · simp [updV, upd, hq]
theorem w_last (C : cxt p s m meth c args cc nL own ret) (G : gst g s) (hI : wst g x H) (hS : va_S (zA (gz g)) s.heap H locs) (k i : Nat) (hd : gd g k i) (hk : lsF k = false) {n : Nat} (he : ∀ f, fc g k i f = .inl (gy g 2, n, .inr (.inl (fun q => (f q).toInt64)))) {j y : Int32} (hin : vp_in j n) (hdg : decode cc pc = .ok (.lastore, 1))
    (kk : ∀ (H1 : Heap) (locs1 : List Loc), wst g (sx x k i j.toNatClampNeg y) H1 → va_S (zA (gz g)) s.heap H1 locs1 → W p l e R s m args below meth c H1 locs1 cells slots Q (F0 m (pc + 1) ls rest)) : W p l e R s m args below meth c H locs cells slots Q (F0 m pc ls (.long y.toInt64 :: .int j :: .ref (ga g k i) :: rest)) := by
  refine W.last C.1 C.2.1 (hI.at k i hd (he _) 0 _ rfl) ((G.2.1.2 2 (gy g 2, .long) rfl).1 n (fun q => .long (x k i q).toInt64)) (fun q => by cases q) (by show ¬ (j < 0 ∨ (arrV _ _ _).slots.size ≤ _); rw [arrV_size]; exact hin) rfl rfl hdg fun H1 e z oq => ?_
  refine kk H1 _ (hI.set hd hk ?_ oq) (hS.put z oq (hI.1.2.2 k i hd))
  rw [he]
  show H1[ga g k i]? = some (vp_cell _ _)
  rw [e]
  rw [vp_cell_l, vp_cell_l, arrV_store]
  congr 2
  funext q
  by_cases hq : q = j.toNatClampNeg
  · subst hq
    simp [updV, upd]
  · simp [updV, upd, hq]
/-- an enum's constant -/
theorem w_out (C : cxt p s m meth c args cc nL own ret) (G : gst g s) (hS : va_S (zA (gz g)) s.heap H locs) (q : Nat) (hq : q < 5) {index : Nat} {nm : String} (hnm : outN.getD q "" = nm) (hl : Cond.fieldLink own index "StepBudgets$Outcome" nm "LStepBudgets$Outcome;" ∈ Tg) (hdg : decode cc pc = .ok (.getstatic index, 3))
    (kk : W p l e R s m args below meth c H locs cells slots Q (F0 m (pc + 3) ls (.ref (ge g q) :: rest))) : W p l e R s m args below meth c H locs cells slots Q (F0 m pc ls rest) := by
  subst hnm
  exact va_gets C.1 C.2.1 (G.2.2.2.1.1 q hq).1 hS C.2.2.2.1 (C.2.2.2.2.1 _ hl) (fun _ h => h) hdg kk
theorem ge_inj (G : gst g s) {a b : Nat} (ha : a < 5) (hb : b < 5) (h : ge g a = ge g b) : a = b := G.2.2.2.1.2 a b ha hb h
end LR
