/-! the call of add, in the state's words -/
def adA (g : gT) (ke e q : Nat) : Nat → Nat → Nat := up2 (up2 (ga g) ke e q) 90 0 (q + 1)
def dmA0 (g : gT) (ke e : Nat) : Nat → Nat → Prop := fun k i => gd g k i ∧ ¬ (k = ke ∧ i = e)
theorem adA_n {g : gT} {ke e q k i : Nat} (h1 : ¬ k = 90) (h2 : ¬ (k = ke ∧ i = e)) : adA g ke e q k i = ga g k i := by
  unfold adA
  rw [up2_ne _ _ (fun c => h1 c.1), up2_ne _ _ h2]
theorem adA_e {g : gT} {ke e q : Nat} (h : ¬ ke = 90) : adA g ke e q ke e = q := by
  unfold adA
  rw [up2_ne _ _ (fun c => h c.1), up2_same]
theorem adA_90 {g : gT} {ke e q : Nat} : adA g ke e q 90 0 = q + 1 := by
  unfold adA
  rw [up2_same]
theorem LK.fam {kl ka ke mul ci : Nat} (h : LK kl ka ke mul ci) {g : gT} {x : st} {m : Nat} (hk : gok g x) (hm : m < 8) : gd g kl m := by
  rcases h with ⟨rfl, rfl, rfl, rfl, rfl⟩ | ⟨rfl, rfl, rfl, rfl, rfl⟩ | ⟨rfl, rfl, rfl, rfl, rfl⟩ <;> exact hk.1 _ m hm
section LAdd
variable {p : Program} {l : Launch} {e : Env} {R : Room} {s : State} {m : MethodId} {args : Array Value} {below : List Frame} {meth : Method} {c : Code} {H : Heap} {locs : List Loc} {cells slots : Nat} {Q : State → Prop}
variable {cc : ByteArray} {nL : Nat} {own : String} {ret : Option FieldType} {pc : Nat} {ls : Array Slot} {rest : List Value} {g : gT} {x : st}
set_option maxHeartbeats 8000000 in
theorem r_add (C : cxt p s m meth c args cc nL own ret) (G : gst g s) {kl ka ke mul ci : Nat} (hL : LK kl ka ke mul ci) {t n q Nf : Nat} {F : Nat → Int32} {vs : List Value} {Cn : String} {T : u_T} (hc : vwCl[ci]? = some (Cn, T, Nf)) (hca : Cond.castable Cn "java/lang/Object" ∈ nestL) (hE : ∀ g', fc g' ke (mul * t + n) F = .inr (ci, vs)) (hm : t < 8) (hk : gok g x) (hk2 : gok2 g x) (hn : x ka t 0 = nI n) (hnm : n < mul)
    (hI : iw (gD g) (gz g) (adA g ke (mul * t + n) q) (up2 (dmA0 g ke (mul * t + n)) ke (mul * t + n) True) (up2 (fcs g x) ke (mul * t + n) (.inr (ci, vs))) H ∧ H.size = q + 1) (hS : va_S (zA (gz g)) s.heap H locs) {index : Nat} (hl : Cond.methodLink own index yJx4a65c_add_9ea2d ∈ Tg) (hfr : 7 ≤ R.frames ∧ 231 ≤ R.locals) (hfc : cells + 1 ≤ R.cells ∧ slots + 200 ≤ R.slots) (hsz : ls.size = nL) (hroom : (rest.map fun v => v.category).sum ≤ 8) (hdg : decode cc pc = .ok (.invokevirtual index, 3))
    (kk : ∀ (q2 : Nat) (H1 : Heap) (locs1 : List Loc), wst (addG g ka ke (mul * t + n) t q q2) (addX x kl ka ke mul t n F) H1 → gok2 (addG g ka ke (mul * t + n) t q q2) (addX x kl ka ke mul t n F) → gx g (addG g ka ke (mul * t + n) t q q2) → va_S (zA (gz g)) s.heap H1 locs1 → W p l e R s m args below meth c H1 locs1 (cells + 1) (slots + 200) Q (F0 m (pc + 3) ls (.int 1 :: rest))) : W p l e R s m args below meth c H locs cells slots Q (F0 m pc ls (.ref q :: .ref (ga g kl t) :: rest)) := by
  obtain ⟨⟨h90, ha90, hlka⟩, hke90, hea, hel, hci, ⟨hmul, hmul0⟩⟩ := hL.ne
  obtain ⟨hlo, hN⟩ := hL.lok hk2 hm
  have hgl := hL.gl hk hm
  have hdl := hL.fam hk hm
  have hnn : nv (x ka t 0) = n := by rw [hn, nv_nI (by omega)]
  generalize he : mul * t + n = e0 at *
  have al : adA g ke e0 q kl t = ga g kl t := adA_n h90 (fun c => hel c.1.symm)
  have aa : adA g ke e0 q ka t = ga g ka t := adA_n ha90 (fun c => hea c.1.symm)
  have ae : adA g ke e0 q ke e0 = q := adA_e hke90
  have d1 : up2 (dmA0 g ke e0) ke e0 True kl t := by rw [up2_ne _ _ (fun c => hel c.1.symm)]; exact ⟨hdl, fun c => hel c.1.symm⟩
  have dv : up2 (dmA0 g ke e0) ke e0 True ke e0 := by rw [up2_same]; trivial
  have c1 : up2 (fcs g x) ke e0 (.inr (ci, vs)) kl t = .inr (0, [.int (x kl t 0), .ref (ga g ka t), .int (nI n)]) := by
    rw [up2_ne _ _ (fun c => hel c.1.symm)]
    show fc g kl t (x kl t) = _
    rw [(hL.fl g t _).1, hgl.1, hn]
  have ca : up2 (fcs g x) ke e0 (.inr (ci, vs)) ka t = .inl (gy g 3, nv (x ka t 1), qa (fun j => if j < n then some (ga g ke (mul * t + j)) else none)) := by
    rw [up2_ne _ _ (fun c => hea c.1.symm)]
    show fc g ka t (x ka t) = _
    rw [(hL.fl g t _).2, hnn]
  have cv : up2 (fcs g x) ke e0 (.inr (ci, vs)) ke e0 = .inr (ci, vs) := up2_same _ _ _ _
  have key : ∀ (q2 : Nat) (H1 : Heap), iw (gD g) (gz g) (up2 (up2 (ga g) ke e0 q) ka t q2) (up2 (up2 (gd g) ke e0 True) ka t True) (up2 (up2 (up2 (fcs g x) ke e0 (.inr (ci, vs))) ka t (.inl (gy g 3, newcap n (nv (x ka t 1)), qa (va_up (fun j => if j < n then some (ga g ke (mul * t + j)) else none) n (some q))))) kl t (.inr (0, [.int (x kl t 0 + 1), .ref q2, .int (nI (n + 1))]))) H1 → wst (addG g ka ke e0 t q q2) (addX x kl ka ke mul t n F) H1 ∧ gok2 (addG g ka ke e0 t q q2) (addX x kl ka ke mul t n F) ∧ gx g (addG g ka ke e0 t q q2) := by
    intro q2 H1 h
    subst he
    rw [← hE (addG g ka ke (mul * t + n) t q q2)] at h
    exact add_fin hL hm hk hk2 hn hnm h
  by_cases hA : gd g ka t ∧ n < nv (x ka t 1)
  · obtain ⟨hda, hlt⟩ := hA
    have hcap : nv (x ka t 1) < 100 := by
      rcases hlo with ⟨-, -, -, h⟩ | ⟨h, -⟩
      · exact h
      · exact absurd hda h
    have da : up2 (dmA0 g ke e0) ke e0 True ka t := by rw [up2_ne _ _ (fun c => hea c.1.symm)]; exact ⟨hda, fun c => hea c.1.symm⟩
    refine r_callV (P := fun H => iw (gD g) (gz g) (adA g ke e0 q) (up2 (dmA0 g ke e0) ke e0 True) (up2 (fcs g x) ke e0 (.inr (ci, vs))) H ∧ H.size = q + 1) C G hI hS (ga g kl t) (by rw [← al]; exact r_recv G hI.1 kl t d1 c1 rfl) mv_add hl [.ref q] (by
      have := k_addA l g (ad := adA g ke e0 q) kl ka t ke e0 hlka d1 (c0 := x kl t 0) (n := n) (by rw [aa]; exact c1) da ca hlt (by omega) hci dv cv hc hca (q + 1)
      rw [al, ae] at this
      exact this) rfl hfr hfc hsz rfl hroom hdg (fun v H1 locs1 hp hS1 => ?_)
    obtain ⟨rfl, hI1⟩ := hp
    have hnc : newcap n (nv (x ka t 1)) = nv (x ka t 1) := by unfold newcap; rw [if_pos hlt]
    obtain ⟨r1, r2, r3⟩ := key (ga g ka t) H1 (by
      rw [hnc]
      rw [aa] at hI1
      refine hI1.re (fun k i hd => ?_)
      have hk90 : ¬ k = 90 := by
        intro c
        subst c
        by_cases c2 : (90 : Nat) = ka ∧ i = t
        · exact ha90 c2.1.symm
        · rw [up2_ne _ _ c2] at hd
          by_cases c3 : (90 : Nat) = ke ∧ i = e0
          · exact hke90 c3.1.symm
          · rw [up2_ne _ _ c3] at hd
            exact (hk2.1 i).1 hd
      refine ⟨?_, ?_, rfl⟩
      · by_cases c2 : k = ka ∧ i = t
        · rw [c2.1, c2.2]; exact da
        · rw [up2_ne _ _ c2] at hd
          by_cases c3 : k = ke ∧ i = e0
          · rw [c3.1, c3.2]; exact dv
          · rw [up2_ne _ _ c3] at hd ⊢
            exact ⟨hd, c3⟩
      · by_cases c2 : k = ka ∧ i = t
        · rw [c2.1, c2.2, up2_same, aa]
        · rw [up2_ne _ _ c2]
          by_cases c3 : k = ke ∧ i = e0
          · rw [c3.1, c3.2, up2_same, ae]
          · rw [up2_ne _ _ c3, adA_n hk90 c3])
    exact kk _ H1 locs1 r1 r2 r3 hS1
  · obtain ⟨N, hNc, hf⟩ : ∃ N, N = newcap n (nv (x ka t 1)) ∧ full g (adA g ke e0 q) (up2 (dmA0 g ke e0) ke e0 True) (up2 (fcs g x) ke e0 (.inr (ci, vs))) ka t n N (ga g ka t) ci (fun j => if j < n then some (ga g ke (mul * t + j)) else none) := by
      refine ⟨_, rfl, ?_⟩
      rcases hlo with ⟨p1, p2, p3, p4⟩ | ⟨p1, p2, p3, p4⟩
      · have hge : ¬ n < nv (x ka t 1) := fun c => hA ⟨p1, c⟩
        rw [hnn] at p2
        have hnc : nv (x ka t 1) = n := by omega
        refine Or.inr ⟨by omega, by omega, ?_, aa.symm, ?_, ?_, fun j y hj hy => ?_⟩
        · rw [up2_ne _ _ (fun c => hea c.1.symm)]; exact ⟨p1, fun c => hea c.1.symm⟩
        · rw [ca, hnc]
        · unfold newcap
          rw [if_neg hge, if_neg (by omega)]
        · have hy : (if j < n then some (ga g ke (mul * t + j)) else none) = some y := hy
          rw [if_pos hj] at hy
          have hje : ¬ (ke = ke ∧ mul * t + j = e0) := by omega
          obtain ⟨-, g2, -⟩ := hgl.2 j (by rw [hnn]; exact hj)
          obtain ⟨ws, hws⟩ := hL.ci g (mul * t + j) (x ke (mul * t + j))
          refine ⟨ke, mul * t + j, ws, ?_, ?_, ?_⟩
          · rw [up2_ne _ _ hje]; exact ⟨g2, hje⟩
          · rw [adA_n hke90 hje]; exact Option.some.inj hy
          · rw [up2_ne _ _ hje]; exact hws
      · have h0 : n = 0 := by rw [← hnn, p3]; rfl
        refine Or.inl ⟨h0, p2, ?_⟩
        unfold newcap
        rw [h0, p4]
        rfl
    refine r_callV (P := fun H => iw (gD g) (gz g) (adA g ke e0 q) (up2 (dmA0 g ke e0) ke e0 True) (up2 (fcs g x) ke e0 (.inr (ci, vs))) H ∧ H.size = q + 1) C G hI hS (ga g kl t) (by rw [← al]; exact r_recv G hI.1 kl t d1 c1 rfl) mv_add hl [.ref q] (by
      have := k_addG l g (ad := adA g ke e0 q) kl ka t ke e0 ⟨h90, ha90, hlka⟩ hke90 d1 (c0 := x kl t 0) (n := n) c1 hci dv cv hc hca hf (q + 1) adA_90
      rw [al, ae] at this
      exact this) rfl hfr hfc hsz rfl hroom hdg (fun v H1 locs1 hp hS1 => ?_)
    obtain ⟨rfl, hI1⟩ := hp
    obtain ⟨r1, r2, r3⟩ := key (q + 1) H1 (by
      rw [← hNc]
      rw [adA_90] at hI1
      rw [show (fun j => if j < n then (fun j => if j < n then some (ga g ke (mul * t + j)) else none) j else none) = (fun j => if j < n then some (ga g ke (mul * t + j)) else none) from by
        funext j
        by_cases h : j < n
        · rw [if_pos h]
        · rw [if_neg h, if_neg h]] at hI1
      have hk90 : ∀ k i, up2 (up2 (gd g) ke e0 True) ka t True k i → ¬ k = 90 := by
        intro k i hd c
        subst c
        by_cases c2 : (90 : Nat) = ka ∧ i = t
        · exact ha90 c2.1.symm
        · rw [up2_ne _ _ c2] at hd
          by_cases c3 : (90 : Nat) = ke ∧ i = e0
          · exact hke90 c3.1.symm
          · rw [up2_ne _ _ c3] at hd
            exact (hk2.1 i).1 hd
      refine hI1.mp (fun k i => if k = ka ∧ i = t then (90, 0) else (k, i)) (fun k i hd => ?_) (fun k i k' i' hd hd' he => ?_)
      · have h9 := hk90 k i hd
        by_cases c2 : k = ka ∧ i = t
        · simp only [if_pos c2]
          rw [c2.1, c2.2]
          refine ⟨by rw [up2_same]; trivial, by rw [up2_same, adA_90], ?_⟩
          rw [up2_ne _ _ (fun c => hlka c.1.symm), up2_same, up2_ne _ _ (fun c => h90 c.1.symm), up2_same]
        · simp only [if_neg c2]
          rw [up2_ne _ _ c2] at hd
          refine ⟨?_, ?_, ?_⟩
          · rw [up2_ne _ _ (fun c => h9 c.1)]
            by_cases c3 : k = ke ∧ i = e0
            · rw [c3.1, c3.2, up2_same]; trivial
            · rw [up2_ne _ _ c3] at hd ⊢
              exact ⟨hd, c3⟩
          · rw [up2_ne _ _ c2]
            by_cases c3 : k = ke ∧ i = e0
            · rw [c3.1, c3.2, up2_same, ae]
            · rw [up2_ne _ _ c3, adA_n h9 c3]
          · by_cases c4 : k = kl ∧ i = t
            · rw [c4.1, c4.2, up2_same, up2_same]
            · rw [up2_ne _ _ c4, up2_ne _ _ c4, up2_ne _ _ c2, up2_ne _ _ (fun c => h9 c.1)]
      · have h9 := hk90 k i hd
        have h9' := hk90 k' i' hd'
        by_cases c2 : k = ka ∧ i = t <;> by_cases c3 : k' = ka ∧ i' = t
        · exact ⟨c2.1.trans c3.1.symm, c2.2.trans c3.2.symm⟩
        · simp only [if_pos c2, if_neg c3] at he
          exact absurd (Prod.mk.inj he).1.symm h9'
        · simp only [if_neg c2, if_pos c3] at he
          exact absurd (Prod.mk.inj he).1 h9
        · simp only [if_neg c2, if_neg c3] at he
          exact Prod.mk.inj he)
    rw [ae] at *
    exact kk _ H1 locs1 r1 r2 r3 hS1
end LAdd
