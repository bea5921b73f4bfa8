/-! THE RAW LAYER: cells come; a world is addresses, which cells there are, what they hold -/
theorem iw.at {D : va_G} {z : Nat} {ad : Nat → Nat → Nat} {dm : Nat → Nat → Prop} {ce : Nat → Nat → va_E} {H : Heap} (h : iw D z ad dm ce H) (k i : Nat) (hd : dm k i) {e : va_E} (he : ce k i = e) : va_P D vwCl [(ad k i, e)] H := by
  intro n q hn
  match n, hn with
  | 0, hn => cases hn; rw [← he]; exact h.1 k i hd
  | n + 1, hn => simp at hn
theorem iw.lt {D : va_G} {z : Nat} {ad : Nat → Nat → Nat} {dm : Nat → Nat → Prop} {ce : Nat → Nat → va_E} {H : Heap} (h : iw D z ad dm ce H) {k i : Nat} (hd : dm k i) : ad k i < H.size := (h.1 k i hd).lt
theorem iw.re {D : va_G} {z : Nat} {ad ad' : Nat → Nat → Nat} {dm dm' : Nat → Nat → Prop} {ce ce' : Nat → Nat → va_E} {H : Heap} (h : iw D z ad dm ce H) (hc : ∀ k i, dm' k i → dm k i ∧ ad' k i = ad k i ∧ ce' k i = ce k i) : iw D z ad' dm' ce' H := by
  refine ⟨fun k i hd => ?_, fun k i k' i' h1 h2 e => ?_, fun k i hd => ?_⟩
  · obtain ⟨a1, a2, a3⟩ := hc k i hd
    rw [a2, a3]; exact h.1 k i a1
  · obtain ⟨a1, a2, -⟩ := hc k i h1
    obtain ⟨b1, b2, -⟩ := hc k' i' h2
    rw [a2, b2] at e
    exact h.2.1 k i k' i' a1 b1 e
  · obtain ⟨a1, a2, -⟩ := hc k i hd
    rw [a2]; exact h.2.2 k i a1
theorem iw.new {D : va_G} {z : Nat} {ad : Nat → Nat → Nat} {dm : Nat → Nat → Prop} {ce : Nat → Nat → va_E} {H H1 : Heap} {k i : Nat} {e : va_E} (h : iw D z ad dm ce H) (hq : H.size = ad k i) (hz : z ≤ H.size) (he : va_at D vwCl (ad k i, e) H1) (o1 : ∀ q : Nat, q < H.size → H1[q]? = H[q]?) : iw D z ad (up2 dm k i True) (up2 ce k i e) H1 := by
  have key : ∀ k' i', up2 dm k i True k' i' → (k' = k ∧ i' = i) ∨ (¬ (k' = k ∧ i' = i) ∧ dm k' i') := by
    intro k' i' hd
    by_cases c : k' = k ∧ i' = i
    · exact Or.inl c
    · rw [up2_ne _ _ c] at hd; exact Or.inr ⟨c, hd⟩
  refine ⟨fun k' i' hd => ?_, fun k1 i1 k2 i2 h1 h2 e => ?_, fun k' i' hd => ?_⟩
  · rcases key k' i' hd with ⟨rfl, rfl⟩ | ⟨c, hd'⟩
    · rw [up2_same]; exact he
    · rw [up2_ne _ _ c]
      exact (h.1 k' i' hd').kept (o1 _ (h.lt hd'))
  · rcases key k1 i1 h1 with c1 | ⟨c1, d1⟩ <;> rcases key k2 i2 h2 with c2 | ⟨c2, d2⟩
    · exact ⟨c1.1.trans c2.1.symm, c1.2.trans c2.2.symm⟩
    · exfalso
      have := h.lt d2
      rw [← e, c1.1, c1.2] at this
      omega
    · exfalso
      have := h.lt d1
      rw [e, c2.1, c2.2] at this
      omega
    · exact h.2.1 k1 i1 k2 i2 d1 d2 e
  · rcases key k' i' hd with ⟨rfl, rfl⟩ | ⟨c, hd'⟩
    · omega
    · exact h.2.2 k' i' hd'
def Qr (g : gT) (post : Option Value → Heap → Prop) : Array Value → State → Outcome → State → Prop := fun _ st oc t => (∃ v, oc = .returned v ∧ post v t.heap) ∧ va_F (zA (gz g)) st t
abbrev rmA (fr lo mc ms : Nat) : Room := { frames := fr, cells := mc, slots := ms, locals := lo }
/-- method y, called with av on a heap with P, ends with post; at most mc new cells of ms slots -/
def Kr (l : Launch) (y : MethodName) (cc : ByteArray) (nL : Nat) (ret : Option FieldType) (fr lo mc ms : Nat) (g : gT) (av : List Value) (P : Heap → Prop) (post : Option Value → Heap → Prop) : Prop :=
  Met l y (Cond.code y cc nL ret :: Tg) (rmA fr lo mc ms) (va_Pc av (fun U => gst g U ∧ P U.heap)) (Qr g post) mc ms (zA (gz g))
theorem Kr.of {l : Launch} {y : MethodName} {cc : ByteArray} {nL : Nat} {ret : Option FieldType} {fr lo mc ms : Nat} {g : gT} {av : List Value} {P : Heap → Prop} {post : Option Value → Heap → Prop} (hy : plainName y.cls = true)
    (body : ∀ p e s m below meth c, cxt p s m meth c av.toArray cc nL y.cls ret → meth.name = y.name → gst g s → P s.heap →
      W p l e (rmA fr lo mc ms) s m av.toArray below meth c s.heap [] 0 0 (MQ below (Qr g post) av.toArray s mc ms (zA (gz g))) (entryFrame m av.toArray nL)) : Kr l y cc nL ret fr lo mc ms g av P post := by
  refine Met.ofW (cc := cc) (maxL := nL) (ret := ret) hy rfl ?_
  intro p e s m args below meth c s₁ B hml hv
  obtain ⟨rfl, hG, hI⟩ := hv
  have hts := atoms_spec (ws := Cond.code y cc nL ret :: Tg) B.pre
  exact body p e s m below meth c ⟨B.exec, B.bytes, hml, findClass_of_methodNamed B.named, fun w hw => hts w (List.mem_cons_of_mem _ hw), B.notSynchronized, B.returns⟩ (name_of_methodNamed B.named B.method).1 hG hI
def mtI (y : MethodName) (cc : ByteArray) (nL n : Nat) : Prop :=
  Cond.instanceMethod y ∈ Tg ∧ Cond.initialized y.cls ∈ Tg ∧ Cond.code y cc nL none ∈ Tg ∧ (y.name = "<init>" ∧ y.cls ≠ "java/lang/invoke/MethodHandle" ∧ y.cls ≠ "java/lang/invoke/VarHandle" ∧ (parseMethodDescriptor y.desc).map (fun d => d.parameters.length) = some n)
section LRaw
variable {p : Program} {l : Launch} {e : Env} {R : Room} {s : State} {m : MethodId} {args : Array Value} {below : List Frame} {meth : Method} {c : Code} {H : Heap} {locs : List Loc} {cells slots : Nat} {Q : State → Prop}
variable {cc : ByteArray} {nL : Nat} {own : String} {ret : Option FieldType} {pc : Nat} {ls : Array Slot} {rest : List Value} {g : gT}
variable {ad : Nat → Nat → Nat} {dm : Nat → Nat → Prop} {ce : Nat → Nat → va_E}
variable {y : MethodName} {bytes : ByteArray} {maxL fr lo mc ms n index : Nat} {ret' : Option FieldType} {P : Heap → Prop} {post : Option Value → Heap → Prop} {As st0 : List Value} {Cn : String}
theorem r_done {a : Array Value} (hr : va_Run p l e R s m args below meth c H locs cells slots mc ms (F0 m pc ls st0) rest (Qr g post a) (zA (gz g))) (hS : va_S (zA (gz g)) s.heap H locs)
    (kk : ∀ (v : Option Value) (H1 : Heap) (locs1 : List Loc), post v H1 → va_S (zA (gz g)) s.heap H1 locs1 → W p l e R s m args below meth c H1 locs1 (cells + mc) (slots + ms) Q (F0 m (pc + 3) ls (v.toList ++ rest))) : W p l e R s m args below meth c H locs cells slots Q (F0 m pc ls st0) := by
  intro T hT X
  obtain ⟨w, st₀, t, T', L, h0, X', hL, e1, e2, ⟨⟨v, hv, hI⟩, hz, hk⟩, st⟩ := hr T hT X
  cases hv
  rw [h0] at hz hk
  obtain ⟨t2, a1, b1⟩ := kk _ T'.heap (locs ++ L) (by rw [e1]; exact hI)
    ⟨Nat.le_trans hS.1 (by rw [e1]; exact hz), fun q h1 h2 => by rw [e1, hk q (Nat.lt_of_lt_of_le h1 hS.1) h2]; exact hS.2.1 q h1 h2, fun q hq => by
      rcases List.mem_append.mp hq with h | h
      · exact hS.2.2 q h
      · exact hL q h⟩ T' rfl X'
  exact ⟨t2, st t2 a1, b1⟩
theorem r_blind : FrameBlind (va_Pc As (fun U => gst g U ∧ P U.heap)) := fun _ _ _ _ q => ⟨q.1, q.2.1.calling, q.2.2⟩
theorem r_in {y : MethodName} {bytes : ByteArray} {maxL : Nat} {ret' : Option FieldType} (h : Cond.code y bytes maxL ret' ∈ Tg) : ∀ w ∈ (Cond.code y bytes maxL ret' :: Tg), w ∈ Tg := by
  intro w hw
  rcases List.mem_cons.mp hw with rfl | h'
  · exact h
  · exact h'
/-- a constructor's call -/
theorem r_callI (C : cxt p s m meth c args cc nL own ret) (G : gst g s) (hP : P H) (hS : va_S (zA (gz g)) s.heap H locs) (hm : mtI y bytes maxL n) (hl : Cond.methodLink own index y ∈ Tg) (a : Nat) (As : List Value) (hM : Kr l y bytes maxL none fr lo mc ms g (.ref a :: As) P post) (hn : As.length = n) (hfr : fr + 1 ≤ R.frames ∧ 8 + (maxL + 11) + lo ≤ R.locals) (hfc : cells + mc ≤ R.cells ∧ slots + ms ≤ R.slots) (hsz : ls.size = nL) (hst : st0 = As.reverse ++ .ref a :: rest) (hroom : (rest.map fun v => v.category).sum ≤ 8) (hdg : decode cc pc = .ok (.invokespecial index, 3))
    (kk : ∀ (v : Option Value) (H1 : Heap) (locs1 : List Loc), post v H1 → va_S (zA (gz g)) s.heap H1 locs1 → W p l e R s m args below meth c H1 locs1 (cells + mc) (slots + ms) Q (F0 m (pc + 3) ls (v.toList ++ rest))) : W p l e R s m args below meth c H locs cells slots Q (F0 m pc ls st0) := by
  obtain ⟨a1, a3, a4, a5⟩ := hm
  have hts := C.2.2.2.2.1
  exact r_done (va_runI (As := As) (rest := rest) ⟨C.1, C.2.1, C.2.2.1, C.2.2.2.1, hts⟩ hM (cwI n hts (good_Tg (r_in a4)) rfl rfl rfl (hts _ a3) (hts _ hl) (hts _ a1) a5.1 a5.2 hfr) ⟨r_blind, fun U hU hW => ⟨rfl, G.call hS U hU hW, by rw [hU]; exact hP⟩⟩ rfl hn hsz hst (lv_room hroom) hdg hfc) hS kk
theorem r_callIN (C : cxt p s m meth c args cc nL own ret) (G : gst g s) (hP : P H) (hS : va_S (zA (gz g)) s.heap H locs) (hm : mtI y bytes maxL n) {host : String} (hl : Cond.methodLinkNest own index y host ∈ nestL) (a : Nat) (As : List Value) (hM : Kr l y bytes maxL none fr lo mc ms g (.ref a :: As) P post) (hn : As.length = n) (hfr : fr + 1 ≤ R.frames ∧ 8 + (maxL + 11) + lo ≤ R.locals) (hfc : cells + mc ≤ R.cells ∧ slots + ms ≤ R.slots) (hsz : ls.size = nL) (hst : st0 = As.reverse ++ .ref a :: rest) (hroom : (rest.map fun v => v.category).sum ≤ 8) (hdg : decode cc pc = .ok (.invokespecial index, 3))
    (kk : ∀ (v : Option Value) (H1 : Heap) (locs1 : List Loc), post v H1 → va_S (zA (gz g)) s.heap H1 locs1 → W p l e R s m args below meth c H1 locs1 (cells + mc) (slots + ms) Q (F0 m (pc + 3) ls (v.toList ++ rest))) : W p l e R s m args below meth c H locs cells slots Q (F0 m pc ls st0) := by
  obtain ⟨a1, a3, a4, a5⟩ := hm
  have hts := C.2.2.2.2.1
  exact r_done (va_runIN (As := As) (rest := rest) ⟨C.1, C.2.1, C.2.2.1, C.2.2.2.1, hts⟩ hM ⟨va_cnB n hts (good_Tg (r_in a4)) rfl rfl rfl (G.2.2.1 _ hl) (hts _ a3) a5.2 hfr, a5.1, hts _ a1⟩ ⟨r_blind, fun U hU hW => ⟨rfl, G.call hS U hU hW, by rw [hU]; exact hP⟩⟩ rfl hn hsz hst (lv_room hroom) hdg hfc) hS kk
/-- a method's call -/
theorem r_callV (C : cxt p s m meth c args cc nL own ret) (G : gst g s) (hP : P H) (hS : va_S (zA (gz g)) s.heap H locs) (a : Nat) (hrc : ∃ cell : Cell, H[a]? = some cell ∧ cell.vm.isStatics = false ∧ s.vm.findClass Cn = some cell.cls) (hm : mtV y Cn bytes maxL ret' n) (hl : Cond.methodLink own index y ∈ Tg) (As : List Value) (hM : Kr l y bytes maxL ret' fr lo mc ms g (.ref a :: As) P post) (hn : As.length = n) (hfr : fr + 1 ≤ R.frames ∧ 8 + (maxL + 11) + lo ≤ R.locals) (hfc : cells + mc ≤ R.cells ∧ slots + ms ≤ R.slots) (hsz : ls.size = nL) (hst : st0 = As.reverse ++ .ref a :: rest) (hroom : (rest.map fun v => v.category).sum ≤ 8) (hdg : decode cc pc = .ok (.invokevirtual index, 3))
    (kk : ∀ (v : Option Value) (H1 : Heap) (locs1 : List Loc), post v H1 → va_S (zA (gz g)) s.heap H1 locs1 → W p l e R s m args below meth c H1 locs1 (cells + mc) (slots + ms) Q (F0 m (pc + 3) ls (v.toList ++ rest))) : W p l e R s m args below meth c H locs cells slots Q (F0 m pc ls st0) := by
  obtain ⟨a1, a2, a3, a4, a5⟩ := hm
  have hts := C.2.2.2.2.1
  have hin : ∀ w ∈ wsV own index Cn y (Cond.code y bytes maxL ret' :: Tg), w ∈ Tg := by
    intro w hw
    simp only [wsV, List.cons_append, List.nil_append, List.mem_cons] at hw
    rcases hw with rfl | rfl | rfl | rfl | rfl | h
    · exact hl
    · exact a1
    · exact a2
    · exact a3
    · exact a4
    · exact h
  exact r_done (va_runV (As := As) (rest := rest) ⟨C.1, C.2.1, C.2.2.1, C.2.2.2.1, hts⟩ hM (cwV n hts (good_Tg hin) rfl rfl rfl a5 hfr) ⟨r_blind, hrc, fun U hU hW => ⟨rfl, G.call hS U hU hW, by rw [hU]; exact hP⟩⟩ rfl hn hsz hst (lv_room hroom) hdg hfc) hS kk
theorem r_callS (C : cxt p s m meth c args cc nL own ret) (G : gst g s) (hP : P H) (hS : va_S (zA (gz g)) s.heap H locs) (hm : mtS y Cn bytes maxL ret' n) (hl : Cond.methodLink own index y ∈ Tg) (As : List Value) (hM : Kr l y bytes maxL ret' fr lo mc ms g As P post) (hn : As.length = n) (hfr : fr + 1 ≤ R.frames ∧ 8 + (maxL + 11) + lo ≤ R.locals) (hfc : cells + mc ≤ R.cells ∧ slots + ms ≤ R.slots) (hsz : ls.size = nL) (hst : st0 = As.reverse ++ rest) (hroom : (rest.map fun v => v.category).sum ≤ 8) (hdg : decode cc pc = .ok (.invokestatic index, 3))
    (kk : ∀ (v : Option Value) (H1 : Heap) (locs1 : List Loc), post v H1 → va_S (zA (gz g)) s.heap H1 locs1 → W p l e R s m args below meth c H1 locs1 (cells + mc) (slots + ms) Q (F0 m (pc + 3) ls (v.toList ++ rest))) : W p l e R s m args below meth c H locs cells slots Q (F0 m pc ls st0) := by
  obtain ⟨a1, a3, a4, a5⟩ := hm
  have hts := C.2.2.2.2.1
  have hin : ∀ w ∈ va_wsS own index y (Cond.code y bytes maxL ret' :: Tg), w ∈ Tg := by
    intro w hw
    simp only [va_wsS, List.cons_append, List.nil_append, List.mem_cons] at hw
    rcases hw with rfl | rfl | rfl | rfl | h
    · exact hl
    · exact a1
    · rw [a5.1]; exact a3
    · exact a4
    · exact h
  exact r_done (va_runS (As := As) (rest := rest) ⟨C.1, C.2.1, C.2.2.1, C.2.2.2.1, hts⟩ hM (va_cwS n hts (good_Tg hin) rfl rfl rfl a5.2 hfr) ⟨r_blind, fun U hU hW => ⟨rfl, G.call hS U hU hW, by rw [hU]; exact hP⟩⟩ rfl hn hsz hst (lv_room hroom) hdg hfc) hS kk
theorem r_recv (G : gst g s) (hI : iw (gD g) (gz g) ad dm ce H) (k i : Nat) (hd : dm k i) {ci : Nat} {fs : List Value} (he : ce k i = .inr (ci, fs)) {T : u_T} {N : Nat} (hc : vwCl[ci]? = some (Cn, T, N)) : ∃ cell : Cell, H[ad k i]? = some cell ∧ cell.vm.isStatics = false ∧ s.vm.findClass Cn = some cell.cls :=
  va_recv G.2.1 (hI.at k i hd he) (q0 := 0) hc rfl
theorem r_get (C : cxt p s m meth c args cc nL own ret) (G : gst g s) (hI : iw (gD g) (gz g) ad dm ce H) (k i : Nat) (hd : dm k i) {ci : Nat} {fs : List Value} (he : ce k i = .inr (ci, fs)) {Cn ref : String} {T : u_T} {N index : Nat} (hc : vwCl[ci]? = some (Cn, T, N)) (hin : ∀ w ∈ u_ws Cn T N, w ∈ Tg) (j : Nat) (hj : j < N) (hl : Cond.fieldLink own index ref (T j).2.1 (T j).2.2.1 ∈ Tg) (hsame : ∀ y, s.fieldFound? (T j).1 (T j).2.1 (T j).2.2.1 = some y → s.fieldFound? ref (T j).2.1 (T j).2.2.1 = some y) {v : Value} (hv : fs[j]? = some v) (hdg : decode cc pc = .ok (.getfield index, 3))
    (kk : W p l e R s m args below meth c H locs cells slots Q (F0 m (pc + 3) ls (v :: rest))) : W p l e R s m args below meth c H locs cells slots Q (F0 m pc ls (.ref (ad k i) :: rest)) :=
  va_get C.1 C.2.1 C.2.2.2.2.1 hin C.2.2.2.1 G.2.1 (hI.at k i hd he) 0 rfl hc j hj (C.2.2.2.2.1 _ hl) hsame hv hdg kk
theorem r_put (C : cxt p s m meth c args cc nL own ret) (G : gst g s) (hI : iw (gD g) (gz g) ad dm ce H) (hS0 : va_S (zA (gz g)) s.heap H locs) (k i : Nat) (hd : dm k i) {ci : Nat} {fs : List Value} (he : ce k i = .inr (ci, fs)) {Cn ref : String} {T : u_T} {N index : Nat} (hc : vwCl[ci]? = some (Cn, T, N)) (hin : ∀ w ∈ u_ws Cn T N, w ∈ Tg) (ty0 : Nat → FieldType) (hty : ∀ k, k < N → parseFieldDescriptor (T k).2.2.1 = some (ty0 k)) (hnm : ∀ a, a < N → ∀ b, b < N → a ≠ b → (T a).2.1 ≠ (T b).2.1) (j : Nat) (hj : j < N) (hl : Cond.fieldLink own index ref (T j).2.1 (T j).2.2.1 ∈ Tg) (hsame : ∀ y, s.fieldFound? (T j).1 (T j).2.1 (T j).2.2.1 = some y → s.fieldFound? ref (T j).2.1 (T j).2.2.1 = some y) (hfin : (T j).2.2.2 = false) {ty : FieldType} {y : Value} (hdc : parseFieldDescriptor (T j).2.2.1 = some ty) (hn : narrow ty y = y) (hfit : fits ty y = true) (hlen : j < fs.length) (hdg : decode cc pc = .ok (.putfield index, 3))
    (kk : ∀ (H1 : Heap) (locs1 : List Loc), iw (gD g) (gz g) ad dm (up2 ce k i (.inr (ci, fs.set j y))) H1 → va_S (zA (gz g)) s.heap H1 locs1 → H1.size = H.size → W p l e R s m args below meth c H1 locs1 cells slots Q (F0 m (pc + 3) ls rest)) : W p l e R s m args below meth c H locs cells slots Q (F0 m pc ls (y :: .ref (ad k i) :: rest)) := by
  have hK := G.2.1
  have hts := C.2.2.2.2.1
  have hap := va_apart (own := own) hts hin ty0 hty hnm hK hc
  obtain ⟨r, h1, cell, q1, q2, q3, q4⟩ := hI.at k i hd he 0 _ rfl
  have hr : r = (Cn, T, N) := Option.some.inj (h1.symm.trans hc)
  subst hr
  obtain ⟨hSl, hfc, kC, hkC, hkind⟩ := hK.1 ci _ hc
  obtain ⟨cf, kf, fi, f, hi, hsl⟩ := hSl j hj
  have hlay := hts _ (hin _ (u_in_lay hj))
  unfold u_lay at hlay
  rw [if_neg (by rw [hfin]; decide)] at hlay
  have hst := (u_facts hfc hkC (u_lays hts hin hj) hi).1
  have h6 := u_store hfc hkC hkind hlay hi hdc hn hfit
  refine W.putK C.1 C.2.1 (f := f) ⟨C.2.2.2.1, hts _ hl, ⟨_, _, _, hsame _ hi⟩, hst⟩ (by rw [q2]; exact h6) q1 q3 (by rw [hsl]; exact k2_hasslot (q4 j hj)) rfl rfl hdg fun H' e1 e2 e3 => ?_
  rw [hsl] at e1 ⊢
  exact kk H' _ (hI.set hd ⟨_, hc, t_OB.to (V := updV (vp_V fs) j y) ⟨_, e1, q2, q3, t_set q4 hap hj y⟩ (fun n _ => vp_updV_set hlen y n)⟩ e3) (hS0.put e2 e3 (hI.2.2 k i hd)) e2
theorem r_putF (C : cxt p s m meth c args cc nL own ret) (G : gst g s) (hI : iw (gD g) (gz g) ad dm ce H) (hS0 : va_S (zA (gz g)) s.heap H locs) (k i : Nat) (hd : dm k i) {ci : Nat} {fs : List Value} (he : ce k i = .inr (ci, fs)) {Cn ref : String} {T : u_T} {N index : Nat} (hc : vwCl[ci]? = some (Cn, T, N)) (hin : ∀ w ∈ u_ws Cn T N, w ∈ Tg) (ty0 : Nat → FieldType) (hty : ∀ k, k < N → parseFieldDescriptor (T k).2.2.1 = some (ty0 k)) (hnm : ∀ a, a < N → ∀ b, b < N → a ≠ b → (T a).2.1 ≠ (T b).2.1) (j : Nat) (hj : j < N) (hl : Cond.fieldLink own index ref (T j).2.1 (T j).2.2.1 ∈ Tg) (hsame : ∀ y, s.fieldFound? (T j).1 (T j).2.1 (T j).2.2.1 = some y → s.fieldFound? ref (T j).2.1 (T j).2.2.1 = some y) (hfin : (T j).2.2.2 = true) (hin2 : meth.name = "<init>") (hdecl : (T j).1 = own) {ty : FieldType} {y : Value} (hdc : parseFieldDescriptor (T j).2.2.1 = some ty) (hn : narrow ty y = y) (hfit : fits ty y = true) (hlen : j < fs.length) (hdg : decode cc pc = .ok (.putfield index, 3))
    (kk : ∀ (H1 : Heap) (locs1 : List Loc), iw (gD g) (gz g) ad dm (up2 ce k i (.inr (ci, fs.set j y))) H1 → va_S (zA (gz g)) s.heap H1 locs1 → H1.size = H.size → W p l e R s m args below meth c H1 locs1 cells slots Q (F0 m (pc + 3) ls rest)) : W p l e R s m args below meth c H locs cells slots Q (F0 m pc ls (y :: .ref (ad k i) :: rest)) := by
  have hK := G.2.1
  have hts := C.2.2.2.2.1
  have hap := va_apart (own := own) hts hin ty0 hty hnm hK hc
  obtain ⟨r, h1, cell, q1, q2, q3, q4⟩ := hI.at k i hd he 0 _ rfl
  have hr : r = (Cn, T, N) := Option.some.inj (h1.symm.trans hc)
  subst hr
  obtain ⟨hSl, hfc, kC, hkC, hkind⟩ := hK.1 ci _ hc
  obtain ⟨cf, kf, fi, f, hi, hsl⟩ := hSl j hj
  have hlay := hts _ (hin _ (u_in_lay hj))
  unfold u_lay at hlay
  rw [if_pos hfin] at hlay
  have hst := (u_facts hfc hkC (u_lays hts hin hj) hi).1
  have hcf : m.cls = cf := by
    obtain ⟨_, _, c', _, _, _, -, -, hf', -, -, -, hown2, -⟩ := Cond.laysFinal_spec hlay
    have e1 : c' = cf := by have := hi.symm.trans hf'; simp at this; exact this.1.symm
    rw [hdecl] at hown2
    rw [← e1]; exact Option.some.inj (C.2.2.2.1.symm.trans hown2)
  have h6 := u_fits hfc hkC hkind (Or.inr hlay) hi hdc hn hfit
  refine W.putFinK C.1 C.2.1 C.2.2.2.1 (hts _ hl) (hsame _ hi) hst hcf hin2 (by rw [q2]; exact h6) q1 q3 (by rw [hsl]; exact k2_hasslot (q4 j hj)) rfl rfl hdg fun H' e1 e2 e3 => ?_
  rw [hsl] at e1 ⊢
  exact kk H' _ (hI.set hd ⟨_, hc, t_OB.to (V := updV (vp_V fs) j y) ⟨_, e1, q2, q3, t_set q4 hap hj y⟩ (fun n _ => vp_updV_set hlen y n)⟩ e3) (hS0.put e2 e3 (hI.2.2 k i hd)) e2
theorem r_zS {H1 : Heap} (hS : va_S (zA (gz g)) s.heap H locs) (z1 : H1.size = H.size + 1) (o1 : ∀ q : Nat, q < H.size → H1[q]? = H[q]?) : va_S (zA (gz g)) s.heap H1 locs :=
  ⟨Nat.le_trans hS.1 (by omega), fun x h1 h2 => (o1 x (Nat.lt_of_lt_of_le h1 hS.1)).trans (hS.2.1 x h1 h2), hS.2.2⟩
theorem r_new (C : cxt p s m meth c args cc nL own ret) (G : gst g s) (hI : iw (gD g) (gz g) ad dm ce H) (hS : va_S (zA (gz g)) s.heap H locs) (k i : Nat) (hq : H.size = ad k i) {ci : Nat} {Cn : String} {T : u_T} {N index : Nat} (hc : vwCl[ci]? = some (Cn, T, N)) (hin : ∀ w ∈ u_ws Cn T N, w ∈ Tg) (ty : Nat → FieldType) (hty : ∀ k, k < N → parseFieldDescriptor (T k).2.2.1 = some (ty k)) (hcl : Cond.classLink own index Cn ∈ Tg) (hinst : Cond.instantiable Cn N ∈ Tg) (hini : Cond.initialized Cn ∈ Tg) {fs : List Value} (hfs : ∀ j, j < N → defaultValue (ty j) = vp_V fs j) (hcells : cells + 1 ≤ R.cells) (hslots : slots + N ≤ R.slots) (hdg : decode cc pc = .ok (.new index, 3))
    (kk : ∀ (H1 : Heap), iw (gD g) (gz g) ad (up2 dm k i True) (up2 ce k i (.inr (ci, fs))) H1 → va_S (zA (gz g)) s.heap H1 locs → H1.size = H.size + 1 → W p l e R s m args below meth c H1 locs (cells + 1) (slots + N) Q (F0 m (pc + 3) ls (.ref (ad k i) :: rest))) : W p l e R s m args below meth c H locs cells slots Q (F0 m pc ls rest) := by
  have hts := C.2.2.2.2.1
  have hKn := G.2.1.1 ci _ hc
  refine W.newcK C.1 C.2.1 C.2.2.2.1 (hts _ hcl) (hts _ hinst) (hts _ hini) rfl hdg hcells hslots hKn.2.1 rfl fun H1 kC hkC e1 z1 o1 => ?_
  rw [hq] at e1
  have := kk H1 (hI.new hq (Nat.le_trans G.1 hS.1) ⟨_, hc, (u_born ty hts hin hKn hkC e1 hty).to hfs⟩ o1) (r_zS hS z1 o1) z1
  rw [hq]
  exact this
theorem r_newa (C : cxt p s m meth c args cc nL own ret) (G : gst g s) (hI : iw (gD g) (gz g) ad dm ce H) (hS : va_S (zA (gz g)) s.heap H locs) (k i : Nat) (hq : H.size = ad k i) {atype : ArrayType} {ty : FieldType} (harr : Cond.arrayClass ty ∈ Tg) (hty : newarray.typeOf atype = ty) (t : Nat) {cA : ClassId} (ht : (tyl g)[t]? = some (cA, ty)) (hRA : va_RA s cA ty → s.vm.findClass ("[" ++ ty.toString) = some cA)
    {n : Int32} {N' : Nat} {a0 : vp_A} (ha : ∀ cA : ClassId, vp_cell cA a0 = arrV cA N' (fun _ => defaultValue ty)) (hn : ¬ n < 0) (hN : n.toNatClampNeg = N') (hbytes : N' * componentBytes ty ≤ 536870912) (hcells : cells + 1 ≤ R.cells) (hslots : slots + N' ≤ R.slots) (hdg : decode cc pc = .ok (.newarray atype, 2))
    (kk : ∀ (H1 : Heap), iw (gD g) (gz g) ad (up2 dm k i True) (up2 ce k i (.inl (cA, a0))) H1 → va_S (zA (gz g)) s.heap H1 locs → H1.size = H.size + 1 → W p l e R s m args below meth c H1 locs (cells + 1) (slots + N') Q (F0 m (pc + 2) ls (.ref (ad k i) :: rest))) : W p l e R s m args below meth c H locs cells slots Q (F0 m pc ls (.int n :: rest)) := by
  have hts := C.2.2.2.2.1
  subst hty
  refine va_newaK C.1 C.2.1 (hts _ harr) rfl hdg rfl hn hN hbytes hcells hslots rfl fun H1 cA' e1 z1 o1 hAr hNm => ?_
  have hcc : cA' = cA := Option.some.inj (hNm.symm.trans (hRA (G.2.1.2 t _ ht).2))
  subst hcc
  have hat : va_at (gD g) vwCl (ad k i, .inl (cA', a0)) H1 := by
    show H1[ad k i]? = some (vp_cell _ _)
    rw [ha, ← hq]; exact e1
  have := kk H1 (hI.new hq (Nat.le_trans G.1 hS.1) hat o1) (r_zS hS z1 o1) z1
  show W _ _ _ _ _ _ _ _ _ _ _ _ _ _ _ (F0 m (pc + 2) ls (.ref H.size :: rest))
  rw [hq]
  exact this
theorem r_newq (C : cxt p s m meth c args cc nL own ret) (G : gst g s) (hI : iw (gD g) (gz g) ad dm ce H) (hS : va_S (zA (gz g)) s.heap H locs) (k i : Nat) (hq : H.size = ad k i) {Cn : String} {index : Nat} (hcl : Cond.classLink own index Cn ∈ Tg) (hover : va_AO Cn s) (t : Nat) {cA : ClassId} (ht : (tyl g)[t]? = some (cA, .object Cn))
    {n : Int32} {N' : Nat} (hn : ¬ n < 0) (hN : n.toNatClampNeg = N') (hbytes : N' * 4 ≤ 536870912) (hcells : cells + 1 ≤ R.cells) (hslots : slots + N' ≤ R.slots) (hdg : decode cc pc = .ok (.anewarray index, 3))
    (kk : ∀ (H1 : Heap), iw (gD g) (gz g) ad (up2 dm k i True) (up2 ce k i (.inl (cA, N', qa (fun _ => none)))) H1 → va_S (zA (gz g)) s.heap H1 locs → H1.size = H.size + 1 → W p l e R s m args below meth c H1 locs (cells + 1) (slots + N') Q (F0 m (pc + 3) ls (.ref (ad k i) :: rest))) : W p l e R s m args below meth c H locs cells slots Q (F0 m pc ls (.int n :: rest)) := by
  have hts := C.2.2.2.2.1
  subst hN
  refine W.anew C.1 C.2.1 C.2.2.2.1 (hts _ hcl) (va_AO.use hover) rfl hdg rfl hn hbytes hcells hslots fun cA' kA comp f1 f2 f3 f4 => ?_
  obtain ⟨-, -, -, -, -, h4⟩ := (G.2.1.2 t _ ht).2
  have hcc : cA' = cA := Option.some.inj (f1.symm.trans h4)
  subst hcc
  generalize hH1 : H.push ({ cls := cA', slots := Array.replicate n.toNatClampNeg .null, vm := .none } : Cell) = H1
  have z1 : H1.size = H.size + 1 := by rw [← hH1, Array.size_push]
  have e1 : H1[H.size]? = some (arrV cA' n.toNatClampNeg (fun _ => .null)) := by rw [← hH1, Array.getElem?_push_size, ← arrV_new]
  have o1 : ∀ q : Nat, q < H.size → H1[q]? = H[q]? := fun q hq => by rw [← hH1, Array.getElem?_push, if_neg (Nat.ne_of_lt hq)]
  have hat : va_at (gD g) vwCl (ad k i, .inl (cA', n.toNatClampNeg, qa (fun _ => none))) H1 := by
    show H1[ad k i]? = some (vp_cell _ _)
    rw [vp_cell_q, ← hq]; exact e1
  have := kk H1 (hI.new hq (Nat.le_trans G.1 hS.1) hat o1) (r_zS hS z1 o1) z1
  show W _ _ _ _ _ _ _ _ _ _ _ _ _ _ _ (F0 m (pc + 3) ls (.ref H.size :: rest))
  rw [hq]
  exact this
/-- a reference is stored: its class goes into the array's -/
theorem r_astq (C : cxt p s m meth c args cc nL own ret) (G : gst g s) (hI : iw (gD g) (gz g) ad dm ce H) (hS : va_S (zA (gz g)) s.heap H locs) (k i : Nat) (hd : dm k i) (t : Nat) {cA : ClassId} {E : String} {n' : Nat} {f : Nat → Option Nat} (he : ce k i = .inl (cA, n', qa f)) (ht : (tyl g)[t]? = some (cA, .object E)) {v : Nat} (hr : ∃ cell : Cell, H[v]? = some cell ∧ cell.vm.isStatics = false ∧ s.vm.findClass Cn = some cell.cls) (hasg : ∀ comp c0 : ClassId, s.vm.findClass E = some comp → s.vm.findClass Cn = some c0 → s.vm.assignable c0 comp = true) {j : Int32} (hin : vp_in j n') (hdg : decode cc pc = .ok (.aastore, 1))
    (kk : ∀ (H1 : Heap) (locs1 : List Loc), iw (gD g) (gz g) ad dm (up2 ce k i (.inl (cA, n', qa (va_up f j.toNatClampNeg (some v))))) H1 → va_S (zA (gz g)) s.heap H1 locs1 → H1.size = H.size → W p l e R s m args below meth c H1 locs1 cells slots Q (F0 m (pc + 1) ls rest)) : W p l e R s m args below meth c H locs cells slots Q (F0 m pc ls (.ref v :: .int j :: .ref (ad k i) :: rest)) := by
  have hlt : j.toNatClampNeg < n' := Nat.not_le.mp fun q => hin (Or.inr q)
  have h0 : ¬ j < 0 := fun q => hin (Or.inl q)
  obtain ⟨cellV, g1, g3, g2⟩ := hr
  obtain ⟨kA, comp, k1, k2, k3, -⟩ := (G.2.1.2 t _ ht).2
  obtain ⟨kE, hkE, -⟩ := Vm.findClass_spec k3
  obtain ⟨kC, hkC, -⟩ := Vm.findClass_spec g2
  refine W.aast C.1 C.2.1 (hI.at k i hd he 0 _ rfl) (fun q h => by cases h) (fun h => by cases h) k1 k2 rfl hkE ⟨h0, by show _ < (arrV _ _ _).slots.size; rw [arrV_size]; exact hlt⟩ g1 (fun q h => by rw [h] at g3; cases g3) hkC (hasg _ _ k3 g2) rfl rfl hdg fun H1 e z oq => ?_
  refine kk H1 _ (hI.set hd ?_ oq) (hS.put z oq (hI.2.2 k i hd)) z
  show H1[ad k i]? = some (vp_cell _ _)
  rw [e]
  rw [vp_cell_q, vp_cell_q, arrV_store]
  congr 2
  funext q
  by_cases hq : q = j.toNatClampNeg
  · subst hq
    simp [updV, va_up, va_rf]
  · simp [updV, va_up, hq]
theorem r_astN (C : cxt p s m meth c args cc nL own ret) (G : gst g s) (hI : iw (gD g) (gz g) ad dm ce H) (hS : va_S (zA (gz g)) s.heap H locs) (k i : Nat) (hd : dm k i) (t : Nat) {cA : ClassId} {E : String} {n' : Nat} {f : Nat → Option Nat} (he : ce k i = .inl (cA, n', qa f)) (ht : (tyl g)[t]? = some (cA, .object E)) {j : Int32} (hin : vp_in j n') (hdg : decode cc pc = .ok (.aastore, 1))
    (kk : ∀ (H1 : Heap) (locs1 : List Loc), iw (gD g) (gz g) ad dm (up2 ce k i (.inl (cA, n', qa (va_up f j.toNatClampNeg none)))) H1 → va_S (zA (gz g)) s.heap H1 locs1 → H1.size = H.size → W p l e R s m args below meth c H1 locs1 cells slots Q (F0 m (pc + 1) ls rest)) : W p l e R s m args below meth c H locs cells slots Q (F0 m pc ls (.null :: .int j :: .ref (ad k i) :: rest)) := by
  refine va_WaastN (C := E) C.1 C.2.1 (hI.at k i hd he 0 _ rfl) ((G.2.1.2 t _ ht).1 n' (fun j => va_rf (f j))) (fun h => by cases h) (by show ¬ (j < 0 ∨ (arrV _ _ _).slots.size ≤ _); rw [arrV_size]; exact hin) rfl rfl hdg fun H1 e z oq => ?_
  refine kk H1 _ (hI.set hd ?_ oq) (hS.put z oq (hI.2.2 k i hd)) z
  show H1[ad k i]? = some (vp_cell _ _)
  rw [e]
  rw [vp_cell_q, vp_cell_q, arrV_store]
  congr 2
  funext q
  by_cases hq : q = j.toNatClampNeg
  · subst hq
    simp [updV, va_up, va_rf]
  · simp [updV, va_up, hq]
/-- ends -/
theorem r_vret {mc ms : Nat} (C : cxt p s m meth c args cc nL own none) (hp : post none H) (hS : va_S (zA (gz g)) s.heap H locs) (h1 : cells ≤ mc) (h2 : slots ≤ ms) (hdg : decode cc pc = .ok (.return_, 1)) : W p l e R s m args below meth c H locs cells slots (MQ below (Qr g post) args s mc ms (zA (gz g))) (F0 m pc ls []) :=
  W.widen h1 h2 (W.vret C.1 C.2.1 C.2.2.2.2.2.2 (fun t ht _ => ⟨⟨none, rfl, by rw [ht]; exact hp⟩, hS.F ht⟩) hS.2.2 hdg C.2.2.2.2.2.1)
end LRaw
