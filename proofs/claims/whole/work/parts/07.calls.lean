/-! contracts and calls -/
/-- the value that is answered and the state that is left, exactly -/
def Qx (g : gT) (v : Option Value) (x' : st) : Array Value → State → Outcome → State → Prop := fun _ st oc t => oc = .returned v ∧ wst g x' t.heap ∧ va_F (zA (gz g)) st t
abbrev rmC (fr lo : Nat) : Room := { frames := fr, cells := 0, slots := 0, locals := lo }
/-- method y, called with av in state x, answers v and leaves x' -/
def Kt (l : Launch) (y : MethodName) (cc : ByteArray) (nL : Nat) (ret : Option FieldType) (fr lo : Nat) (g : gT) (av : List Value) (x : st) (v : Option Value) (x' : st) : Prop :=
  Met l y (Cond.code y cc nL ret :: Tg) (rmC fr lo) (va_Pc av (fun U => gst g U ∧ wst g x U.heap)) (Qx g v x') 0 0 (zA (gz g))
def mtV (y : MethodName) (Cn : String) (cc : ByteArray) (nL : Nat) (ret : Option FieldType) (n : Nat) : Prop :=
  Cond.instanceMethod y ∈ Tg ∧ Cond.selects Cn y y ∈ Tg ∧ Cond.initialized Cn ∈ Tg ∧ Cond.code y cc nL ret ∈ Tg ∧ (y.cls = Cn ∧ y.cls ≠ "java/lang/invoke/MethodHandle" ∧ y.cls ≠ "java/lang/invoke/VarHandle" ∧ (parseMethodDescriptor y.desc).map (fun d => d.parameters.length) = some n)
def mtS (y : MethodName) (Cn : String) (cc : ByteArray) (nL : Nat) (ret : Option FieldType) (n : Nat) : Prop :=
  Cond.static y ∈ Tg ∧ Cond.initialized Cn ∈ Tg ∧ Cond.code y cc nL ret ∈ Tg ∧ (y.cls = Cn ∧ y.cls ≠ "java/lang/invoke/MethodHandle" ∧ y.cls ≠ "java/lang/invoke/VarHandle" ∧ (parseMethodDescriptor y.desc).map (fun d => d.parameters.length) = some n)
/-- a contract out of the walk of its body -/
theorem Kt.of {l : Launch} {y : MethodName} {cc : ByteArray} {nL : Nat} {ret : Option FieldType} {fr lo : Nat} {g : gT} {av : List Value} {x x' : st} {v : Option Value} (hy : plainName y.cls = true)
    (body : ∀ p e s m below meth c, cxt p s m meth c av.toArray cc nL y.cls ret → gst g s → wst g x s.heap →
      W p l e (rmC fr lo) s m av.toArray below meth c s.heap [] 0 0 (MQ below (Qx g v x') av.toArray s 0 0 (zA (gz g))) (entryFrame m av.toArray nL)) : Kt l y cc nL ret fr lo g av x v x' := by
  refine Met.ofW (cc := cc) (maxL := nL) (ret := ret) hy rfl ?_
  intro p e s m args below meth c s₁ B hml hv
  obtain ⟨rfl, hG, hI⟩ := hv
  have hts := atoms_spec (ws := Cond.code y cc nL ret :: Tg) B.pre
  exact body p e s m below meth c ⟨B.exec, B.bytes, hml, findClass_of_methodNamed B.named, fun w hw => hts w (List.mem_cons_of_mem _ hw), B.notSynchronized, B.returns⟩ hG hI
section LC
variable {p : Program} {l : Launch} {e : Env} {R : Room} {s : State} {m : MethodId} {args : Array Value} {below : List Frame} {meth : Method} {c : Code} {H : Heap} {locs : List Loc} {cells slots : Nat} {Q : State → Prop}
variable {cc : ByteArray} {nL : Nat} {own : String} {ret : Option FieldType} {pc : Nat} {ls : Array Slot} {rest : List Value} {g : gT} {x x' : st}
variable {y : MethodName} {bytes : ByteArray} {maxL fr lo n index : Nat} {ret' : Option FieldType} {v : Option Value} {As st0 : List Value} {Cn : String}
theorem w_done {a : Array Value} (hr : va_Run p l e R s m args below meth c H locs cells slots 0 0 (F0 m pc ls st0) rest (Qx g v x' a) (zA (gz g))) (hS : va_S (zA (gz g)) s.heap H locs)
    (kk : ∀ (H1 : Heap) (locs1 : List Loc), wst g x' H1 → va_S (zA (gz g)) s.heap H1 locs1 → W p l e R s m args below meth c H1 locs1 cells slots Q (F0 m (pc + 3) ls (v.toList ++ rest))) : W p l e R s m args below meth c H locs cells slots Q (F0 m pc ls st0) := by
  intro T hT X
  obtain ⟨w, st₀, t, T', L, h0, X', hL, e1, e2, ⟨hv, hI, hz, hk⟩, st⟩ := hr T hT X
  cases hv
  rw [h0] at hz hk
  obtain ⟨t2, a1, b1⟩ := kk T'.heap (locs ++ L) (by rw [e1]; exact hI)
    ⟨Nat.le_trans hS.1 (by rw [e1]; exact hz), fun q h1 h2 => by rw [e1, hk q (Nat.lt_of_lt_of_le h1 hS.1) h2]; exact hS.2.1 q h1 h2, fun q hq => by
      rcases List.mem_append.mp hq with h | h
      · exact hS.2.2 q h
      · exact hL q h⟩ T' rfl X'
  exact ⟨t2, st t2 a1, b1⟩
theorem w_blind : FrameBlind (va_Pc As (fun U => gst g U ∧ wst g x U.heap)) := fun _ _ _ _ q => ⟨q.1, q.2.1.calling, q.2.2⟩
theorem w_recv (G : gst g s) (hI : wst g x H) (k i : Nat) (hd : gd g k i) {ci : Nat} {fs : List Value} (he : fc g k i (x k i) = .inr (ci, fs)) {T : u_T} {N : Nat} (hc : vwCl[ci]? = some (Cn, T, N)) : ∃ cell : Cell, H[ga g k i]? = some cell ∧ cell.vm.isStatics = false ∧ s.vm.findClass Cn = some cell.cls :=
  va_recv G.2.1 (hI.at k i hd he) (q0 := 0) hc rfl
theorem w_callV (C : cxt p s m meth c args cc nL own ret) (G : gst g s) (hI : wst g x H) (hS : va_S (zA (gz g)) s.heap H locs) (k i : Nat) (hd : gd g k i) {ci : Nat} {fs : List Value} (he : fc g k i (x k i) = .inr (ci, fs)) {T : u_T} {N : Nat} (hc : vwCl[ci]? = some (Cn, T, N)) (hm : mtV y Cn bytes maxL ret' n) (hl : Cond.methodLink own index y ∈ Tg) (As : List Value) (hM : Kt l y bytes maxL ret' fr lo g (.ref (ga g k i) :: As) x v x') (hn : As.length = n) (hfr : fr + 1 ≤ R.frames ∧ 8 + (maxL + 11) + lo ≤ R.locals) (hfc : cells ≤ R.cells ∧ slots ≤ R.slots) (hsz : ls.size = nL) (hst : st0 = As.reverse ++ .ref (ga g k i) :: rest) (hroom : (rest.map fun v => v.category).sum ≤ 8) (hdg : decode cc pc = .ok (.invokevirtual index, 3))
    (kk : ∀ (H1 : Heap) (locs1 : List Loc), wst g x' H1 → va_S (zA (gz g)) s.heap H1 locs1 → W p l e R s m args below meth c H1 locs1 cells slots Q (F0 m (pc + 3) ls (v.toList ++ rest))) : W p l e R s m args below meth c H locs cells slots Q (F0 m pc ls st0) := by
  obtain ⟨a1, a2, a3, a4, a5⟩ := hm
  have hts := C.2.2.2.2.1
  have hin : ∀ w ∈ wsV own index Cn y (Cond.code y bytes maxL ret' :: Tg), w ∈ Tg := by
    intro w hw
    simp only [wsV, List.cons_append, List.nil_append, List.mem_cons] at hw
    rcases hw with rfl | rfl | rfl | rfl | rfl | h
    · exact hl
    · exact a1
    · exact a2
    · exact a3
    · exact a4
    · exact h
  exact w_done (va_runV (As := As) (rest := rest) ⟨C.1, C.2.1, C.2.2.1, C.2.2.2.1, hts⟩ hM (cwV n hts (good_Tg hin) rfl rfl rfl a5 hfr) ⟨w_blind, w_recv G hI k i hd he hc, fun U hU hW => ⟨rfl, G.call hS U hU hW, by rw [hU]; exact hI⟩⟩ rfl hn hsz hst (lv_room hroom) hdg ⟨hfc.1, hfc.2⟩) hS kk
theorem w_callS (C : cxt p s m meth c args cc nL own ret) (G : gst g s) (hI : wst g x H) (hS : va_S (zA (gz g)) s.heap H locs) (hm : mtS y Cn bytes maxL ret' n) (hl : Cond.methodLink own index y ∈ Tg) (As : List Value) (hM : Kt l y bytes maxL ret' fr lo g As x v x') (hn : As.length = n) (hfr : fr + 1 ≤ R.frames ∧ 8 + (maxL + 11) + lo ≤ R.locals) (hfc : cells ≤ R.cells ∧ slots ≤ R.slots) (hsz : ls.size = nL) (hst : st0 = As.reverse ++ rest) (hroom : (rest.map fun v => v.category).sum ≤ 8) (hdg : decode cc pc = .ok (.invokestatic index, 3))
    (kk : ∀ (H1 : Heap) (locs1 : List Loc), wst g x' H1 → va_S (zA (gz g)) s.heap H1 locs1 → W p l e R s m args below meth c H1 locs1 cells slots Q (F0 m (pc + 3) ls (v.toList ++ rest))) : W p l e R s m args below meth c H locs cells slots Q (F0 m pc ls st0) := by
  obtain ⟨a1, a3, a4, a5⟩ := hm
  have hts := C.2.2.2.2.1
  have hin : ∀ w ∈ va_wsS own index y (Cond.code y bytes maxL ret' :: Tg), w ∈ Tg := by
    intro w hw
    simp only [va_wsS, List.cons_append, List.nil_append, List.mem_cons] at hw
    rcases hw with rfl | rfl | rfl | rfl | h
    · exact hl
    · exact a1
    · rw [a5.1]; exact a3
    · exact a4
    · exact h
  exact w_done (va_runS (As := As) (rest := rest) ⟨C.1, C.2.1, C.2.2.1, C.2.2.2.1, hts⟩ hM (va_cwS n hts (good_Tg hin) rfl rfl rfl a5.2 hfr) ⟨w_blind, fun U hU hW => ⟨rfl, G.call hS U hU hW, by rw [hU]; exact hI⟩⟩ rfl hn hsz hst (lv_room hroom) hdg ⟨hfc.1, hfc.2⟩) hS kk
theorem w_callN (C : cxt p s m meth c args cc nL own ret) (G : gst g s) (hI : wst g x H) (hS : va_S (zA (gz g)) s.heap H locs) (hm : mtS y Cn bytes maxL ret' n) {host : String} (hl : Cond.methodLinkNest own index y host ∈ nestL) (As : List Value) (hM : Kt l y bytes maxL ret' fr lo g As x v x') (hn : As.length = n) (hfr : fr + 1 ≤ R.frames ∧ 8 + (maxL + 11) + lo ≤ R.locals) (hfc : cells ≤ R.cells ∧ slots ≤ R.slots) (hsz : ls.size = nL) (hst : st0 = As.reverse ++ rest) (hroom : (rest.map fun v => v.category).sum ≤ 8) (hdg : decode cc pc = .ok (.invokestatic index, 3))
    (kk : ∀ (H1 : Heap) (locs1 : List Loc), wst g x' H1 → va_S (zA (gz g)) s.heap H1 locs1 → W p l e R s m args below meth c H1 locs1 cells slots Q (F0 m (pc + 3) ls (v.toList ++ rest))) : W p l e R s m args below meth c H locs cells slots Q (F0 m pc ls st0) := by
  obtain ⟨a1, a3, a4, a5⟩ := hm
  have hts := C.2.2.2.2.1
  have hin : ∀ w ∈ (Cond.code y bytes maxL ret' :: Tg), w ∈ Tg := by
    intro w hw
    rcases List.mem_cons.mp hw with rfl | h
    · exact a4
    · exact h
  exact w_done (va_runSN (As := As) (rest := rest) ⟨C.1, C.2.1, C.2.2.1, C.2.2.2.1, hts⟩ hM ⟨va_cnB n hts (good_Tg hin) rfl rfl rfl (G.2.2.1 _ hl) (by rw [a5.1]; exact hts _ a3) a5.2 hfr, hts _ a1, trivial⟩ ⟨w_blind, fun U hU hW => ⟨rfl, G.call hS U hU hW, by rw [hU]; exact hI⟩⟩ rfl hn hsz hst (lv_room hroom) hdg ⟨hfc.1, hfc.2⟩) hS kk
/-- ends -/
theorem w_ireti {r : Int32} (C : cxt p s m meth c args cc nL own (some .int)) (hI : wst g x H) (hS : va_S (zA (gz g)) s.heap H locs) (hdg : decode cc pc = .ok (.ireturn, 1)) : W p l e R s m args below meth c H locs cells slots (MQ below (Qx g (some (.int r)) x) args s cells slots (zA (gz g))) (F0 m pc ls [.int r]) :=
  W.iret C.1 C.2.1 C.2.2.2.2.2.2 (fun t ht _ => ⟨rfl, by rw [ht]; exact hI, hS.F ht⟩) hS.2.2 hdg C.2.2.2.2.2.1
theorem w_iretz {r : Int32} (C : cxt p s m meth c args cc nL own (some .boolean)) (hI : wst g x H) (hS : va_S (zA (gz g)) s.heap H locs) (hz : r = 0 ∨ r = 1) (hdg : decode cc pc = .ok (.ireturn, 1)) : W p l e R s m args below meth c H locs cells slots (MQ below (Qx g (some (.int r)) x) args s cells slots (zA (gz g))) (F0 m pc ls [.int r]) :=
  W.zret C.1 C.2.1 C.2.2.2.2.2.2 (by rcases hz with rfl | rfl <;> rfl) (fun t ht _ => ⟨rfl, by rw [ht]; exact hI, hS.F ht⟩) hS.2.2 hdg C.2.2.2.2.2.1
theorem w_vret (C : cxt p s m meth c args cc nL own none) (hI : wst g x H) (hS : va_S (zA (gz g)) s.heap H locs) (hdg : decode cc pc = .ok (.return_, 1)) : W p l e R s m args below meth c H locs cells slots (MQ below (Qx g none x) args s cells slots (zA (gz g))) (F0 m pc ls []) :=
  W.vret C.1 C.2.1 C.2.2.2.2.2.2 (fun t ht _ => ⟨rfl, by rw [ht]; exact hI, hS.F ht⟩) hS.2.2 hdg C.2.2.2.2.2.1
theorem w_aret {a : Nat} {on : String} (C : cxt p s m meth c args cc nL own (some (.object on))) (hI : wst g x H) (hS : va_S (zA (gz g)) s.heap H locs) (hdg : decode cc pc = .ok (.areturn, 1)) : W p l e R s m args below meth c H locs cells slots (MQ below (Qx g (some (.ref a)) x) args s cells slots (zA (gz g))) (F0 m pc ls [.ref a]) :=
  W.aret C.1 C.2.1 C.2.2.2.2.2.2 (Or.inl ⟨_, rfl⟩) (Or.inr ⟨_, rfl⟩) (fun t ht _ => ⟨rfl, by rw [ht]; exact hI, hS.F ht⟩) hS.2.2 hdg C.2.2.2.2.2.1
theorem w_lret {r : Int64} (C : cxt p s m meth c args cc nL own (some .long)) (hI : wst g x H) (hS : va_S (zA (gz g)) s.heap H locs) (hdg : decode cc pc = .ok (.lreturn, 1)) : W p l e R s m args below meth c H locs cells slots (MQ below (Qx g (some (.long r)) x) args s cells slots (zA (gz g))) (F0 m pc ls [.long r]) :=
  W.lret C.1 C.2.1 C.2.2.2.2.2.2 (fun t ht _ => ⟨rfl, by rw [ht]; exact hI, hS.F ht⟩) hS.2.2 hdg C.2.2.2.2.2.1
end LC
