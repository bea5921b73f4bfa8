/-! the law: a call of both -/
theorem gok2.cg {g : gT} {x x' : st} (h : gok2 g x) (e1 : x' 24 = x 24) (e2 : x' 25 = x 25) (e3 : x' 26 = x 26) : gok2 g x' := by
  refine ⟨h.1, fun m hm => ?_⟩
  have := h.2 m hm
  unfold lok at this ⊢
  rw [e1, e2, e3]
  exact this
def Kp (F : st → Option (Int32 × st)) : Prop := ∀ x r x1, Sim x x → F x = some (r, x1) → ∀ k, 15 ≤ k → x1 k = x k
theorem Kp.of {F : st → Option (Int32 × st)} (h : ∀ x, Sim x x → ∃ r y', F x = some (r, y') ∧ ∀ k, 15 ≤ k → y' k = x k) : Kp F := by
  intro x r x1 hs e k hk
  obtain ⟨r', y', e', f⟩ := h x hs
  have hq := Option.some.inj (e.symm.trans e')
  rw [show x1 = y' from congrArg Prod.snd hq]
  exact f k hk
theorem run_kp (m v b : Int32) : Kp (f_X10_run (pfn 12) m v b) := Kp.of (fun x hs => by
  obtain ⟨fu, r, y', z', e1, e2, s, f1, f2⟩ := run_pair (m := m) (v := v) (b := b) hs
  exact ⟨r, y', e1, f1⟩)
theorem reserve_kp (a : Int32) : Kp (f_X10_reserve a) := Kp.of (fun x hs => by
  obtain ⟨r, y', z', e1, e2, s, f1, f2⟩ := reserve_pair (a := a) hs
  exact ⟨r, y', e1, f1⟩)
theorem latest_kp (a : Int32) : Kp (f_X10_latest a) := Kp.of (fun x hs => by
  obtain ⟨r, e1, e2⟩ := latest_pair (a := a) hs
  exact ⟨r, x, e1, fun _ _ => rfl⟩)
theorem cleaned_kp (k a : Int32) : Kp (f_X10_cleaned k a) := Kp.of (fun x hs => by
  obtain ⟨r, e1, e2⟩ := cleaned_pair (k := k) (a := a) hs
  exact ⟨r, x, e1, fun _ _ => rfl⟩)
theorem told_kp (m a : Int32) : Kp (f_X10_told m a) := Kp.of (fun x hs => by
  obtain ⟨r, e1, e2⟩ := told_pair (m := m) (a := a) hs
  exact ⟨r, x, e1, fun _ _ => rfl⟩)
/-- between two calls of the law -/
def lwI (s : State) (b q : Nat) (g : gT) (x : st) (H : Heap) (locs : List Loc) (ls : Array Slot) : Prop := (gst g s ∧ gz g = s.heap.size) ∧ va_S (zA (gz g)) s.heap H locs ∧ (wst g x H ∧ gok2 g x ∧ Sim x x) ∧ lv_has ls 4 [(3, .int (nI (7 * q))), (2, .ref (ga g 30 0)), (1, .ref (ga g 0 0)), (0, .ref b)]
section LLaw
variable {p : Program} {l : Launch} {e : Env} {s : State} {m : MethodId} {args : Array Value} {below : List Frame} {meth : Method} {c : Code} {H : Heap} {locs : List Loc} {cells slots : Nat} {Q : State → Prop}
variable {pc : Nat} {ls : Array Slot} {rest : List Value} {g : gT} {x : st} {b L q : Nat} {xs : Nat → Int32}
/-- an int of the script -/
theorem l_rd {R : Room} (hx : p.tables.exec = Jvm.exec) (hb : c.code = cL_law) (hX : va_X b L xs s s.heap) (hbl : b < s.heap.size) (hz : gz g = s.heap.size) (hS : va_S (zA (gz g)) s.heap H locs) (hL : L ≤ 3584) {a n : Nat} {j : Int32} (hj : j = nI n) (hn : a + n < L) (hdg : decode cL_law pc = .ok (.iaload, 1))
    (kk : W p l e R s m args below meth c H locs cells slots Q (F0 m (pc + 1) ls (.int (xs (a + n)) :: rest))) : W p l e R s m args below meth c H locs cells slots Q (F0 m pc ls (.int (nI a + j) :: .ref b :: rest)) := by
  subst hj
  rw [nI_add]
  refine va_sld hx hb hX hbl (A := zA (gz g)) (fun h => ?_) hS (vp_in_nI hn (by omega)) hdg ?_
  · have h : gz g ≤ b := h
    omega
  · rw [nI_clamp (by omega)]
    exact kk

set_option maxHeartbeats 8000000 in
set_option maxRecDepth 100000 in
theorem c_act (C : cxt p s m meth c args cL_law 4 RL (some .boolean)) (hX : va_X b L xs s s.heap) (hbl : b < s.heap.size) (hL : L ≤ 3584) (hq : 7 * q + 7 ≤ L) (h : lwI s b q g x H locs ls) (hc : cells + 2 ≤ 600000) (hs : slots + 205 ≤ 7302250)
    (kk : ∀ (g' : gT) (x' : st) (H' : Heap) (locs' : List Loc) (ls' : Array Slot) (cells' slots' : Nat), lwI s b q g' x' H' locs' ls' → cells' ≤ cells + 2 → slots' ≤ slots + 205 → W p l e room_1 s m args below meth c H' locs' cells' slots' Q (F0 m 453 ls' [])) : W p l e room_1 s m args below meth c H locs cells slots Q (F0 m 84 ls []) := by
  obtain ⟨hx, hb, hml, hown, hts, hlk, hrt⟩ := id C
  obtain ⟨⟨G, hz⟩, hS, ⟨hI, hk2, hSim⟩, hl⟩ := h
  obtain ⟨r, x1, x2, e1, e2, hs2, hf2⟩ := (act_pair (xs (7 * q + 1)) (xs (7 * q + 2)) (xs (7 * q + 3)) (xs (7 * q + 4)) (xs (7 * q + 5)) (xs (7 * q + 6))).step hSim
  refine lv_aload_n hx hb dL_law_84 rfl (lv_at hl 2 rfl) ?_
  refine lv_aload_n hx hb dL_law_85 rfl (lv_at hl 3 rfl) ?_
  refine lv_iload_n hx hb dL_law_86 rfl (lv_at hl 0 rfl) ?_
  refine lv_iconst (v := 1) hx hb dL_law_87 (by decide) ?_
  refine lv_iadd hx hb dL_law_88 ?_
  refine l_rd hx hb hX hbl hz hS hL (n := 1) rfl (by omega) dL_law_89 ?_
  refine lv_aload_n hx hb dL_law_90 rfl (lv_at hl 3 rfl) ?_
  refine lv_iload_n hx hb dL_law_91 rfl (lv_at hl 0 rfl) ?_
  refine lv_iconst (v := 2) hx hb dL_law_92 (by decide) ?_
  refine lv_iadd hx hb dL_law_93 ?_
  refine l_rd hx hb hX hbl hz hS hL (n := 2) rfl (by omega) dL_law_94 ?_
  refine lv_aload_n hx hb dL_law_95 rfl (lv_at hl 3 rfl) ?_
  refine lv_iload_n hx hb dL_law_96 rfl (lv_at hl 0 rfl) ?_
  refine lv_iconst (v := 3) hx hb dL_law_97 (by decide) ?_
  refine lv_iadd hx hb dL_law_98 ?_
  refine l_rd hx hb hX hbl hz hS hL (n := 3) rfl (by omega) dL_law_99 ?_
  refine lv_aload_n hx hb dL_law_100 rfl (lv_at hl 3 rfl) ?_
  refine lv_iload_n hx hb dL_law_101 rfl (lv_at hl 0 rfl) ?_
  refine lv_iconst (v := 4) hx hb dL_law_102 (by decide) ?_
  refine lv_iadd hx hb dL_law_103 ?_
  refine l_rd hx hb hX hbl hz hS hL (n := 4) rfl (by omega) dL_law_104 ?_
  refine lv_aload_n hx hb dL_law_105 rfl (lv_at hl 3 rfl) ?_
  refine lv_iload_n hx hb dL_law_106 rfl (lv_at hl 0 rfl) ?_
  refine lv_iconst (v := 5) hx hb dL_law_107 (by decide) ?_
  refine lv_iadd hx hb dL_law_108 ?_
  refine l_rd hx hb hX hbl hz hS hL (n := 5) rfl (by omega) dL_law_109 ?_
  refine lv_aload_n hx hb dL_law_110 rfl (lv_at hl 3 rfl) ?_
  refine lv_iload_n hx hb dL_law_111 rfl (lv_at hl 0 rfl) ?_
  refine lv_bipush (v := 6) hx hb dL_law_112 (by decide) ?_
  refine lv_iadd hx hb dL_law_114 ?_
  refine l_rd hx hb hX hbl hz hS hL (n := 6) rfl (by omega) dL_law_115 ?_
  refine r_callV (P := fun H => wst g x H) C G hI hS (ga g 0 0) (w_recv G hI 0 0 (hI.at1 rfl) (fcE_0 g _ _) rfl) mv_X10_act km_L_13 [.int (xs (7 * q + 1)), .int (xs (7 * q + 2)), .int (xs (7 * q + 3)), .int (xs (7 * q + 4)), .int (xs (7 * q + 5)), .int (xs (7 * q + 6))] (k_X10_act l g (xs (7 * q + 1)) (xs (7 * q + 2)) (xs (7 * q + 3)) (xs (7 * q + 4)) (xs (7 * q + 5)) (xs (7 * q + 6)) e1 hk2) rfl ⟨by show _ ≤ 2048; decide, by show _ ≤ 84000; decide⟩ ⟨hc, by show _ ≤ 7302250; omega⟩ hl.1 rfl (Nat.le_of_ble_eq_true rfl) dL_law_116 (fun v H1 locs1 hp hS1 => ?_)
  obtain ⟨rfl, g1, hgx, hI1, hk1⟩ := hp
  have G1 := hgx.gst G
  rw [← hgx.a0.1, ← hgx.a0.2] at hl
  rw [← hgx.z] at hS1 hz
  clear hI hk2 hS G
  have hS := hS1
  refine lv_aload_n hx hb dL_law_119 rfl (lv_at hl 1 rfl) ?_
  refine lv_aload_n hx hb dL_law_120 rfl (lv_at hl 3 rfl) ?_
  refine lv_iload_n hx hb dL_law_121 rfl (lv_at hl 0 rfl) ?_
  refine lv_iconst (v := 1) hx hb dL_law_122 (by decide) ?_
  refine lv_iadd hx hb dL_law_123 ?_
  refine l_rd hx hb hX hbl hz hS hL (n := 1) rfl (by omega) dL_law_124 ?_
  refine lv_aload_n hx hb dL_law_125 rfl (lv_at hl 3 rfl) ?_
  refine lv_iload_n hx hb dL_law_126 rfl (lv_at hl 0 rfl) ?_
  refine lv_iconst (v := 2) hx hb dL_law_127 (by decide) ?_
  refine lv_iadd hx hb dL_law_128 ?_
  refine l_rd hx hb hX hbl hz hS hL (n := 2) rfl (by omega) dL_law_129 ?_
  refine lv_aload_n hx hb dL_law_130 rfl (lv_at hl 3 rfl) ?_
  refine lv_iload_n hx hb dL_law_131 rfl (lv_at hl 0 rfl) ?_
  refine lv_iconst (v := 3) hx hb dL_law_132 (by decide) ?_
  refine lv_iadd hx hb dL_law_133 ?_
  refine l_rd hx hb hX hbl hz hS hL (n := 3) rfl (by omega) dL_law_134 ?_
  refine lv_aload_n hx hb dL_law_135 rfl (lv_at hl 3 rfl) ?_
  refine lv_iload_n hx hb dL_law_136 rfl (lv_at hl 0 rfl) ?_
  refine lv_iconst (v := 4) hx hb dL_law_137 (by decide) ?_
  refine lv_iadd hx hb dL_law_138 ?_
  refine l_rd hx hb hX hbl hz hS hL (n := 4) rfl (by omega) dL_law_139 ?_
  refine lv_aload_n hx hb dL_law_140 rfl (lv_at hl 3 rfl) ?_
  refine lv_iload_n hx hb dL_law_141 rfl (lv_at hl 0 rfl) ?_
  refine lv_iconst (v := 5) hx hb dL_law_142 (by decide) ?_
  refine lv_iadd hx hb dL_law_143 ?_
  refine l_rd hx hb hX hbl hz hS hL (n := 5) rfl (by omega) dL_law_144 ?_
  refine lv_aload_n hx hb dL_law_145 rfl (lv_at hl 3 rfl) ?_
  refine lv_iload_n hx hb dL_law_146 rfl (lv_at hl 0 rfl) ?_
  refine lv_bipush (v := 6) hx hb dL_law_147 (by decide) ?_
  refine lv_iadd hx hb dL_law_149 ?_
  refine l_rd hx hb hX hbl hz hS hL (n := 6) rfl (by omega) dL_law_150 ?_
  refine w_callV C G1 hI1 hS 30 0 (hI1.at1 rfl) (fcE_30 g1 _ _) rfl mv_X11_act km_L_17 [.int (xs (7 * q + 1)), .int (xs (7 * q + 2)), .int (xs (7 * q + 3)), .int (xs (7 * q + 4)), .int (xs (7 * q + 5)), .int (xs (7 * q + 6))] (k_X11_act l g1 (xs (7 * q + 1)) (xs (7 * q + 2)) (xs (7 * q + 3)) (xs (7 * q + 4)) (xs (7 * q + 5)) (xs (7 * q + 6)) x1 _ _ e2) rfl ⟨by show _ ≤ 2048; decide, by show _ ≤ 84000; decide⟩ ⟨by show _ ≤ 600000; omega, by show _ ≤ 7302250; omega⟩ hl.1 rfl (Nat.le_of_ble_eq_true rfl) dL_law_151 (fun H2 locs2 hI2 hS2 => ?_)
  refine lv_icmp_eq (tgt := 453) hx hb dL_law_154 (by decide) (fun _ => ?_) (fun hc => absurd rfl hc)
  exact kk g1 x2 H2 locs2 ls (cells + 2) (slots + 205) ⟨⟨G1, hz⟩, hS2, ⟨hI2, hk1.cg (hf2 24 (by decide)) (hf2 25 (by decide)) (hf2 26 (by decide)), hs2⟩, hl⟩ (by omega) (by omega)
set_option maxHeartbeats 8000000 in
set_option maxRecDepth 100000 in
theorem c_guard (C : cxt p s m meth c args cL_law 4 RL (some .boolean)) (hX : va_X b L xs s s.heap) (hbl : b < s.heap.size) (hL : L ≤ 3584) (hq : 7 * q + 7 ≤ L) (h : lwI s b q g x H locs ls) (hc : cells + 2 ≤ 600000) (hs : slots + 205 ≤ 7302250)
    (kk : ∀ (g' : gT) (x' : st) (H' : Heap) (locs' : List Loc) (ls' : Array Slot) (cells' slots' : Nat), lwI s b q g' x' H' locs' ls' → cells' ≤ cells + 2 → slots' ≤ slots + 205 → W p l e room_1 s m args below meth c H' locs' cells' slots' Q (F0 m 453 ls' [])) : W p l e room_1 s m args below meth c H locs cells slots Q (F0 m 159 ls []) := by
  obtain ⟨hx, hb, hml, hown, hts, hlk, hrt⟩ := id C
  obtain ⟨⟨G, hz⟩, hS, ⟨hI, hk2, hSim⟩, hl⟩ := h
  obtain ⟨r, x1, x2, e1, e2, hs2, hf2⟩ := (guard_pair (xs (7 * q + 1)) (xs (7 * q + 2)) (xs (7 * q + 3)) (xs (7 * q + 4)) (xs (7 * q + 5))).step hSim
  refine lv_aload_n hx hb dL_law_159 rfl (lv_at hl 2 rfl) ?_
  refine lv_aload_n hx hb dL_law_160 rfl (lv_at hl 3 rfl) ?_
  refine lv_iload_n hx hb dL_law_161 rfl (lv_at hl 0 rfl) ?_
  refine lv_iconst (v := 1) hx hb dL_law_162 (by decide) ?_
  refine lv_iadd hx hb dL_law_163 ?_
  refine l_rd hx hb hX hbl hz hS hL (n := 1) rfl (by omega) dL_law_164 ?_
  refine lv_aload_n hx hb dL_law_165 rfl (lv_at hl 3 rfl) ?_
  refine lv_iload_n hx hb dL_law_166 rfl (lv_at hl 0 rfl) ?_
  refine lv_iconst (v := 2) hx hb dL_law_167 (by decide) ?_
  refine lv_iadd hx hb dL_law_168 ?_
  refine l_rd hx hb hX hbl hz hS hL (n := 2) rfl (by omega) dL_law_169 ?_
  refine lv_aload_n hx hb dL_law_170 rfl (lv_at hl 3 rfl) ?_
  refine lv_iload_n hx hb dL_law_171 rfl (lv_at hl 0 rfl) ?_
  refine lv_iconst (v := 3) hx hb dL_law_172 (by decide) ?_
  refine lv_iadd hx hb dL_law_173 ?_
  refine l_rd hx hb hX hbl hz hS hL (n := 3) rfl (by omega) dL_law_174 ?_
  refine lv_aload_n hx hb dL_law_175 rfl (lv_at hl 3 rfl) ?_
  refine lv_iload_n hx hb dL_law_176 rfl (lv_at hl 0 rfl) ?_
  refine lv_iconst (v := 4) hx hb dL_law_177 (by decide) ?_
  refine lv_iadd hx hb dL_law_178 ?_
  refine l_rd hx hb hX hbl hz hS hL (n := 4) rfl (by omega) dL_law_179 ?_
  refine lv_aload_n hx hb dL_law_180 rfl (lv_at hl 3 rfl) ?_
  refine lv_iload_n hx hb dL_law_181 rfl (lv_at hl 0 rfl) ?_
  refine lv_iconst (v := 5) hx hb dL_law_182 (by decide) ?_
  refine lv_iadd hx hb dL_law_183 ?_
  refine l_rd hx hb hX hbl hz hS hL (n := 5) rfl (by omega) dL_law_184 ?_
  refine r_callV (P := fun H => wst g x H) C G hI hS (ga g 0 0) (w_recv G hI 0 0 (hI.at1 rfl) (fcE_0 g _ _) rfl) mv_X10_guard km_L_18 [.int (xs (7 * q + 1)), .int (xs (7 * q + 2)), .int (xs (7 * q + 3)), .int (xs (7 * q + 4)), .int (xs (7 * q + 5))] (k_X10_guard l g (xs (7 * q + 1)) (xs (7 * q + 2)) (xs (7 * q + 3)) (xs (7 * q + 4)) (xs (7 * q + 5)) e1 hk2) rfl ⟨by show _ ≤ 2048; decide, by show _ ≤ 84000; decide⟩ ⟨hc, by show _ ≤ 7302250; omega⟩ hl.1 rfl (Nat.le_of_ble_eq_true rfl) dL_law_185 (fun v H1 locs1 hp hS1 => ?_)
  obtain ⟨rfl, g1, hgx, hI1, hk1⟩ := hp
  have G1 := hgx.gst G
  rw [← hgx.a0.1, ← hgx.a0.2] at hl
  rw [← hgx.z] at hS1 hz
  clear hI hk2 hS G
  have hS := hS1
  refine lv_aload_n hx hb dL_law_188 rfl (lv_at hl 1 rfl) ?_
  refine lv_aload_n hx hb dL_law_189 rfl (lv_at hl 3 rfl) ?_
  refine lv_iload_n hx hb dL_law_190 rfl (lv_at hl 0 rfl) ?_
  refine lv_iconst (v := 1) hx hb dL_law_191 (by decide) ?_
  refine lv_iadd hx hb dL_law_192 ?_
  refine l_rd hx hb hX hbl hz hS hL (n := 1) rfl (by omega) dL_law_193 ?_
  refine lv_aload_n hx hb dL_law_194 rfl (lv_at hl 3 rfl) ?_
  refine lv_iload_n hx hb dL_law_195 rfl (lv_at hl 0 rfl) ?_
  refine lv_iconst (v := 2) hx hb dL_law_196 (by decide) ?_
  refine lv_iadd hx hb dL_law_197 ?_
  refine l_rd hx hb hX hbl hz hS hL (n := 2) rfl (by omega) dL_law_198 ?_
  refine lv_aload_n hx hb dL_law_199 rfl (lv_at hl 3 rfl) ?_
  refine lv_iload_n hx hb dL_law_200 rfl (lv_at hl 0 rfl) ?_
  refine lv_iconst (v := 3) hx hb dL_law_201 (by decide) ?_
  refine lv_iadd hx hb dL_law_202 ?_
  refine l_rd hx hb hX hbl hz hS hL (n := 3) rfl (by omega) dL_law_203 ?_
  refine lv_aload_n hx hb dL_law_204 rfl (lv_at hl 3 rfl) ?_
  refine lv_iload_n hx hb dL_law_205 rfl (lv_at hl 0 rfl) ?_
  refine lv_iconst (v := 4) hx hb dL_law_206 (by decide) ?_
  refine lv_iadd hx hb dL_law_207 ?_
  refine l_rd hx hb hX hbl hz hS hL (n := 4) rfl (by omega) dL_law_208 ?_
  refine lv_aload_n hx hb dL_law_209 rfl (lv_at hl 3 rfl) ?_
  refine lv_iload_n hx hb dL_law_210 rfl (lv_at hl 0 rfl) ?_
  refine lv_iconst (v := 5) hx hb dL_law_211 (by decide) ?_
  refine lv_iadd hx hb dL_law_212 ?_
  refine l_rd hx hb hX hbl hz hS hL (n := 5) rfl (by omega) dL_law_213 ?_
  refine w_callV C G1 hI1 hS 30 0 (hI1.at1 rfl) (fcE_30 g1 _ _) rfl mv_X11_guard km_L_22 [.int (xs (7 * q + 1)), .int (xs (7 * q + 2)), .int (xs (7 * q + 3)), .int (xs (7 * q + 4)), .int (xs (7 * q + 5))] (k_X11_guard l g1 (xs (7 * q + 1)) (xs (7 * q + 2)) (xs (7 * q + 3)) (xs (7 * q + 4)) (xs (7 * q + 5)) x1 _ _ e2) rfl ⟨by show _ ≤ 2048; decide, by show _ ≤ 84000; decide⟩ ⟨by show _ ≤ 600000; omega, by show _ ≤ 7302250; omega⟩ hl.1 rfl (Nat.le_of_ble_eq_true rfl) dL_law_214 (fun H2 locs2 hI2 hS2 => ?_)
  refine lv_icmp_eq (tgt := 453) hx hb dL_law_217 (by decide) (fun _ => ?_) (fun hc => absurd rfl hc)
  exact kk g1 x2 H2 locs2 ls (cells + 2) (slots + 204) ⟨⟨G1, hz⟩, hS2, ⟨hI2, hk1.cg (hf2 24 (by decide)) (hf2 25 (by decide)) (hf2 26 (by decide)), hs2⟩, hl⟩ (by omega) (by omega)
set_option maxHeartbeats 8000000 in
set_option maxRecDepth 100000 in
theorem c_clean (C : cxt p s m meth c args cL_law 4 RL (some .boolean)) (hX : va_X b L xs s s.heap) (hbl : b < s.heap.size) (hL : L ≤ 3584) (hq : 7 * q + 7 ≤ L) (h : lwI s b q g x H locs ls) (hc : cells + 2 ≤ 600000) (hs : slots + 205 ≤ 7302250)
    (kk : ∀ (g' : gT) (x' : st) (H' : Heap) (locs' : List Loc) (ls' : Array Slot) (cells' slots' : Nat), lwI s b q g' x' H' locs' ls' → cells' ≤ cells + 2 → slots' ≤ slots + 205 → W p l e room_1 s m args below meth c H' locs' cells' slots' Q (F0 m 453 ls' [])) : W p l e room_1 s m args below meth c H locs cells slots Q (F0 m 222 ls []) := by
  obtain ⟨hx, hb, hml, hown, hts, hlk, hrt⟩ := id C
  obtain ⟨⟨G, hz⟩, hS, ⟨hI, hk2, hSim⟩, hl⟩ := h
  obtain ⟨r, x1, x2, e1, e2, hs2, hf2⟩ := (clean_pair (xs (7 * q + 1)) (xs (7 * q + 2)) (xs (7 * q + 3)) (xs (7 * q + 4))).step hSim
  refine lv_aload_n hx hb dL_law_222 rfl (lv_at hl 2 rfl) ?_
  refine lv_aload_n hx hb dL_law_223 rfl (lv_at hl 3 rfl) ?_
  refine lv_iload_n hx hb dL_law_224 rfl (lv_at hl 0 rfl) ?_
  refine lv_iconst (v := 1) hx hb dL_law_225 (by decide) ?_
  refine lv_iadd hx hb dL_law_226 ?_
  refine l_rd hx hb hX hbl hz hS hL (n := 1) rfl (by omega) dL_law_227 ?_
  refine lv_aload_n hx hb dL_law_228 rfl (lv_at hl 3 rfl) ?_
  refine lv_iload_n hx hb dL_law_229 rfl (lv_at hl 0 rfl) ?_
  refine lv_iconst (v := 2) hx hb dL_law_230 (by decide) ?_
  refine lv_iadd hx hb dL_law_231 ?_
  refine l_rd hx hb hX hbl hz hS hL (n := 2) rfl (by omega) dL_law_232 ?_
  refine lv_aload_n hx hb dL_law_233 rfl (lv_at hl 3 rfl) ?_
  refine lv_iload_n hx hb dL_law_234 rfl (lv_at hl 0 rfl) ?_
  refine lv_iconst (v := 3) hx hb dL_law_235 (by decide) ?_
  refine lv_iadd hx hb dL_law_236 ?_
  refine l_rd hx hb hX hbl hz hS hL (n := 3) rfl (by omega) dL_law_237 ?_
  refine lv_aload_n hx hb dL_law_238 rfl (lv_at hl 3 rfl) ?_
  refine lv_iload_n hx hb dL_law_239 rfl (lv_at hl 0 rfl) ?_
  refine lv_iconst (v := 4) hx hb dL_law_240 (by decide) ?_
  refine lv_iadd hx hb dL_law_241 ?_
  refine l_rd hx hb hX hbl hz hS hL (n := 4) rfl (by omega) dL_law_242 ?_
  refine r_callV (P := fun H => wst g x H) C G hI hS (ga g 0 0) (w_recv G hI 0 0 (hI.at1 rfl) (fcE_0 g _ _) rfl) mv_X10_clean km_L_23 [.int (xs (7 * q + 1)), .int (xs (7 * q + 2)), .int (xs (7 * q + 3)), .int (xs (7 * q + 4))] (k_X10_clean l g (xs (7 * q + 1)) (xs (7 * q + 2)) (xs (7 * q + 3)) (xs (7 * q + 4)) e1 hk2) rfl ⟨by show _ ≤ 2048; decide, by show _ ≤ 84000; decide⟩ ⟨hc, by show _ ≤ 7302250; omega⟩ hl.1 rfl (Nat.le_of_ble_eq_true rfl) dL_law_243 (fun v H1 locs1 hp hS1 => ?_)
  obtain ⟨rfl, g1, hgx, hI1, hk1⟩ := hp
  have G1 := hgx.gst G
  rw [← hgx.a0.1, ← hgx.a0.2] at hl
  rw [← hgx.z] at hS1 hz
  clear hI hk2 hS G
  have hS := hS1
  refine lv_aload_n hx hb dL_law_246 rfl (lv_at hl 1 rfl) ?_
  refine lv_aload_n hx hb dL_law_247 rfl (lv_at hl 3 rfl) ?_
  refine lv_iload_n hx hb dL_law_248 rfl (lv_at hl 0 rfl) ?_
  refine lv_iconst (v := 1) hx hb dL_law_249 (by decide) ?_
  refine lv_iadd hx hb dL_law_250 ?_
  refine l_rd hx hb hX hbl hz hS hL (n := 1) rfl (by omega) dL_law_251 ?_
  refine lv_aload_n hx hb dL_law_252 rfl (lv_at hl 3 rfl) ?_
  refine lv_iload_n hx hb dL_law_253 rfl (lv_at hl 0 rfl) ?_
  refine lv_iconst (v := 2) hx hb dL_law_254 (by decide) ?_
  refine lv_iadd hx hb dL_law_255 ?_
  refine l_rd hx hb hX hbl hz hS hL (n := 2) rfl (by omega) dL_law_256 ?_
  refine lv_aload_n hx hb dL_law_257 rfl (lv_at hl 3 rfl) ?_
  refine lv_iload_n hx hb dL_law_258 rfl (lv_at hl 0 rfl) ?_
  refine lv_iconst (v := 3) hx hb dL_law_259 (by decide) ?_
  refine lv_iadd hx hb dL_law_260 ?_
  refine l_rd hx hb hX hbl hz hS hL (n := 3) rfl (by omega) dL_law_261 ?_
  refine lv_aload_n hx hb dL_law_262 rfl (lv_at hl 3 rfl) ?_
  refine lv_iload_n hx hb dL_law_263 rfl (lv_at hl 0 rfl) ?_
  refine lv_iconst (v := 4) hx hb dL_law_264 (by decide) ?_
  refine lv_iadd hx hb dL_law_265 ?_
  refine l_rd hx hb hX hbl hz hS hL (n := 4) rfl (by omega) dL_law_266 ?_
  refine w_callV C G1 hI1 hS 30 0 (hI1.at1 rfl) (fcE_30 g1 _ _) rfl mv_X11_clean km_L_27 [.int (xs (7 * q + 1)), .int (xs (7 * q + 2)), .int (xs (7 * q + 3)), .int (xs (7 * q + 4))] (k_X11_clean l g1 (xs (7 * q + 1)) (xs (7 * q + 2)) (xs (7 * q + 3)) (xs (7 * q + 4)) x1 _ _ e2) rfl ⟨by show _ ≤ 2048; decide, by show _ ≤ 84000; decide⟩ ⟨by show _ ≤ 600000; omega, by show _ ≤ 7302250; omega⟩ hl.1 rfl (Nat.le_of_ble_eq_true rfl) dL_law_267 (fun H2 locs2 hI2 hS2 => ?_)
  refine lv_icmp_eq (tgt := 453) hx hb dL_law_270 (by decide) (fun _ => ?_) (fun hc => absurd rfl hc)
  exact kk g1 x2 H2 locs2 ls (cells + 2) (slots + 203) ⟨⟨G1, hz⟩, hS2, ⟨hI2, hk1.cg (hf2 24 (by decide)) (hf2 25 (by decide)) (hf2 26 (by decide)), hs2⟩, hl⟩ (by omega) (by omega)
set_option maxHeartbeats 8000000 in
set_option maxRecDepth 100000 in
theorem c_clear (C : cxt p s m meth c args cL_law 4 RL (some .boolean)) (hX : va_X b L xs s s.heap) (hbl : b < s.heap.size) (hL : L ≤ 3584) (hq : 7 * q + 7 ≤ L) (h : lwI s b q g x H locs ls) (hc : cells + 2 ≤ 600000) (hs : slots + 205 ≤ 7302250)
    (kk : ∀ (g' : gT) (x' : st) (H' : Heap) (locs' : List Loc) (ls' : Array Slot) (cells' slots' : Nat), lwI s b q g' x' H' locs' ls' → cells' ≤ cells + 2 → slots' ≤ slots + 205 → W p l e room_1 s m args below meth c H' locs' cells' slots' Q (F0 m 453 ls' [])) : W p l e room_1 s m args below meth c H locs cells slots Q (F0 m 275 ls []) := by
  obtain ⟨hx, hb, hml, hown, hts, hlk, hrt⟩ := id C
  obtain ⟨⟨G, hz⟩, hS, ⟨hI, hk2, hSim⟩, hl⟩ := h
  obtain ⟨r, x1, x2, e1, e2, hs2, hf2⟩ := (clear_pair (xs (7 * q + 1))).step hSim
  refine lv_aload_n hx hb dL_law_275 rfl (lv_at hl 2 rfl) ?_
  refine lv_aload_n hx hb dL_law_276 rfl (lv_at hl 3 rfl) ?_
  refine lv_iload_n hx hb dL_law_277 rfl (lv_at hl 0 rfl) ?_
  refine lv_iconst (v := 1) hx hb dL_law_278 (by decide) ?_
  refine lv_iadd hx hb dL_law_279 ?_
  refine l_rd hx hb hX hbl hz hS hL (n := 1) rfl (by omega) dL_law_280 ?_
  refine r_callV (P := fun H => wst g x H) C G hI hS (ga g 0 0) (w_recv G hI 0 0 (hI.at1 rfl) (fcE_0 g _ _) rfl) mv_X10_clear km_L_28 [.int (xs (7 * q + 1))] (k_X10_clear l g (xs (7 * q + 1)) (Option.some.inj e1) hk2) rfl ⟨by show _ ≤ 2048; decide, by show _ ≤ 84000; decide⟩ ⟨hc, by show _ ≤ 7302250; omega⟩ hl.1 rfl (Nat.le_of_ble_eq_true rfl) dL_law_281 (fun v H1 locs1 hp hS1 => ?_)
  obtain ⟨rfl, g1, hgx, hI1, hk1⟩ := hp
  have G1 := hgx.gst G
  rw [← hgx.a0.1, ← hgx.a0.2] at hl
  rw [← hgx.z] at hS1 hz
  clear hI hk2 hS G
  have hS := hS1
  refine lv_aload_n hx hb dL_law_284 rfl (lv_at hl 1 rfl) ?_
  refine lv_aload_n hx hb dL_law_285 rfl (lv_at hl 3 rfl) ?_
  refine lv_iload_n hx hb dL_law_286 rfl (lv_at hl 0 rfl) ?_
  refine lv_iconst (v := 1) hx hb dL_law_287 (by decide) ?_
  refine lv_iadd hx hb dL_law_288 ?_
  refine l_rd hx hb hX hbl hz hS hL (n := 1) rfl (by omega) dL_law_289 ?_
  refine w_callV C G1 hI1 hS 30 0 (hI1.at1 rfl) (fcE_30 g1 _ _) rfl mv_X11_clear km_L_32 [.int (xs (7 * q + 1))] (k_X11_clear l g1 (xs (7 * q + 1)) x1 _ _ e2) rfl ⟨by show _ ≤ 2048; decide, by show _ ≤ 84000; decide⟩ ⟨by show _ ≤ 600000; omega, by show _ ≤ 7302250; omega⟩ hl.1 rfl (Nat.le_of_ble_eq_true rfl) dL_law_290 (fun H2 locs2 hI2 hS2 => ?_)
  refine lv_icmp_eq (tgt := 453) hx hb dL_law_293 (by decide) (fun _ => ?_) (fun hc => absurd rfl hc)
  exact kk g1 x2 H2 locs2 ls (cells + 2) (slots + 205) ⟨⟨G1, hz⟩, hS2, ⟨hI2, hk1.cg (hf2 24 (by decide)) (hf2 25 (by decide)) (hf2 26 (by decide)), hs2⟩, hl⟩ (by omega) (by omega)
set_option maxHeartbeats 8000000 in
set_option maxRecDepth 100000 in
theorem c_reserve (C : cxt p s m meth c args cL_law 4 RL (some .boolean)) (hX : va_X b L xs s s.heap) (hbl : b < s.heap.size) (hL : L ≤ 3584) (hq : 7 * q + 7 ≤ L) (h : lwI s b q g x H locs ls) (hc : cells + 2 ≤ 600000) (hs : slots + 205 ≤ 7302250)
    (kk : ∀ (g' : gT) (x' : st) (H' : Heap) (locs' : List Loc) (ls' : Array Slot) (cells' slots' : Nat), lwI s b q g' x' H' locs' ls' → cells' ≤ cells + 2 → slots' ≤ slots + 205 → W p l e room_1 s m args below meth c H' locs' cells' slots' Q (F0 m 453 ls' [])) : W p l e room_1 s m args below meth c H locs cells slots Q (F0 m 298 ls []) := by
  obtain ⟨hx, hb, hml, hown, hts, hlk, hrt⟩ := id C
  obtain ⟨⟨G, hz⟩, hS, ⟨hI, hk2, hSim⟩, hl⟩ := h
  obtain ⟨r, x1, x2, e1, e2, hs2, hf2⟩ := (reserve_prs (xs (7 * q + 1))).step hSim
  have hkp := reserve_kp (xs (7 * q + 1)) x r x1 hSim e1
  refine lv_aload_n hx hb dL_law_298 rfl (lv_at hl 2 rfl) ?_
  refine lv_aload_n hx hb dL_law_299 rfl (lv_at hl 3 rfl) ?_
  refine lv_iload_n hx hb dL_law_300 rfl (lv_at hl 0 rfl) ?_
  refine lv_iconst (v := 1) hx hb dL_law_301 (by decide) ?_
  refine lv_iadd hx hb dL_law_302 ?_
  refine l_rd hx hb hX hbl hz hS hL (n := 1) rfl (by omega) dL_law_303 ?_
  refine w_callV C G hI hS 0 0 (hI.at1 rfl) (fcE_0 g _ _) rfl mv_X10_reserve km_L_33 [.int (xs (7 * q + 1))] (k_X10_reserve l g (xs (7 * q + 1)) x _ _ e1) rfl ⟨by show _ ≤ 2048; decide, by show _ ≤ 84000; decide⟩ ⟨by show _ ≤ 600000; omega, by show _ ≤ 7302250; omega⟩ hl.1 rfl (Nat.le_of_ble_eq_true rfl) dL_law_304 (fun H1 locs1 hI1 hS1 => ?_)
  have hk1 : gok2 g x1 := hk2.cg (hkp 24 (by decide)) (hkp 25 (by decide)) (hkp 26 (by decide))
  have G1 := G
  clear hI hk2 hS G
  have hS := hS1
  refine lv_aload_n hx hb dL_law_307 rfl (lv_at hl 1 rfl) ?_
  refine lv_aload_n hx hb dL_law_308 rfl (lv_at hl 3 rfl) ?_
  refine lv_iload_n hx hb dL_law_309 rfl (lv_at hl 0 rfl) ?_
  refine lv_iconst (v := 1) hx hb dL_law_310 (by decide) ?_
  refine lv_iadd hx hb dL_law_311 ?_
  refine l_rd hx hb hX hbl hz hS hL (n := 1) rfl (by omega) dL_law_312 ?_
  refine w_callV C G1 hI1 hS 30 0 (hI1.at1 rfl) (fcE_30 g _ _) rfl mv_X11_reserve km_L_36 [.int (xs (7 * q + 1))] (k_X11_reserve l g (xs (7 * q + 1)) x1 _ _ e2) rfl ⟨by show _ ≤ 2048; decide, by show _ ≤ 84000; decide⟩ ⟨by show _ ≤ 600000; omega, by show _ ≤ 7302250; omega⟩ hl.1 rfl (Nat.le_of_ble_eq_true rfl) dL_law_313 (fun H2 locs2 hI2 hS2 => ?_)
  refine lv_icmp_eq (tgt := 453) hx hb dL_law_316 (by decide) (fun _ => ?_) (fun hc => absurd rfl hc)
  exact kk g x2 H2 locs2 ls cells slots ⟨⟨G1, hz⟩, hS2, ⟨hI2, hk1.cg (hf2 24 (by decide)) (hf2 25 (by decide)) (hf2 26 (by decide)), hs2⟩, hl⟩ (by omega) (by omega)
set_option maxHeartbeats 8000000 in
set_option maxRecDepth 100000 in
theorem c_run (C : cxt p s m meth c args cL_law 4 RL (some .boolean)) (hX : va_X b L xs s s.heap) (hbl : b < s.heap.size) (hL : L ≤ 3584) (hq : 7 * q + 7 ≤ L) (h : lwI s b q g x H locs ls) (hc : cells + 2 ≤ 600000) (hs : slots + 205 ≤ 7302250)
    (kk : ∀ (g' : gT) (x' : st) (H' : Heap) (locs' : List Loc) (ls' : Array Slot) (cells' slots' : Nat), lwI s b q g' x' H' locs' ls' → cells' ≤ cells + 2 → slots' ≤ slots + 205 → W p l e room_1 s m args below meth c H' locs' cells' slots' Q (F0 m 453 ls' [])) : W p l e room_1 s m args below meth c H locs cells slots Q (F0 m 321 ls []) := by
  obtain ⟨hx, hb, hml, hown, hts, hlk, hrt⟩ := id C
  obtain ⟨⟨G, hz⟩, hS, ⟨hI, hk2, hSim⟩, hl⟩ := h
  obtain ⟨r, x1, x2, e1, e2, hs2, hf2⟩ := (run_prs (xs (7 * q + 1)) (xs (7 * q + 2)) (xs (7 * q + 3))).step hSim
  have hkp := run_kp (xs (7 * q + 1)) (xs (7 * q + 2)) (xs (7 * q + 3)) x r x1 hSim e1
  obtain ⟨fu, e2⟩ := e2
  refine lv_aload_n hx hb dL_law_321 rfl (lv_at hl 2 rfl) ?_
  refine lv_aload_n hx hb dL_law_322 rfl (lv_at hl 3 rfl) ?_
  refine lv_iload_n hx hb dL_law_323 rfl (lv_at hl 0 rfl) ?_
  refine lv_iconst (v := 1) hx hb dL_law_324 (by decide) ?_
  refine lv_iadd hx hb dL_law_325 ?_
  refine l_rd hx hb hX hbl hz hS hL (n := 1) rfl (by omega) dL_law_326 ?_
  refine lv_aload_n hx hb dL_law_327 rfl (lv_at hl 3 rfl) ?_
  refine lv_iload_n hx hb dL_law_328 rfl (lv_at hl 0 rfl) ?_
  refine lv_iconst (v := 2) hx hb dL_law_329 (by decide) ?_
  refine lv_iadd hx hb dL_law_330 ?_
  refine l_rd hx hb hX hbl hz hS hL (n := 2) rfl (by omega) dL_law_331 ?_
  refine lv_aload_n hx hb dL_law_332 rfl (lv_at hl 3 rfl) ?_
  refine lv_iload_n hx hb dL_law_333 rfl (lv_at hl 0 rfl) ?_
  refine lv_iconst (v := 3) hx hb dL_law_334 (by decide) ?_
  refine lv_iadd hx hb dL_law_335 ?_
  refine l_rd hx hb hX hbl hz hS hL (n := 3) rfl (by omega) dL_law_336 ?_
  refine w_callV C G hI hS 0 0 (hI.at1 rfl) (fcE_0 g _ _) rfl mv_X10_run km_L_37 [.int (xs (7 * q + 1)), .int (xs (7 * q + 2)), .int (xs (7 * q + 3))] (k_X10_run l g (frp := 9 * 12) (lop := 214 * 12) (pfn 12) (k_pfn l g 12) (xs (7 * q + 1)) (xs (7 * q + 2)) (xs (7 * q + 3)) x _ _ e1) rfl ⟨by show _ ≤ 2048; decide, by show _ ≤ 84000; decide⟩ ⟨by show _ ≤ 600000; omega, by show _ ≤ 7302250; omega⟩ hl.1 rfl (Nat.le_of_ble_eq_true rfl) dL_law_337 (fun H1 locs1 hI1 hS1 => ?_)
  have hk1 : gok2 g x1 := hk2.cg (hkp 24 (by decide)) (hkp 25 (by decide)) (hkp 26 (by decide))
  have G1 := G
  clear hI hk2 hS G
  have hS := hS1
  refine lv_aload_n hx hb dL_law_340 rfl (lv_at hl 1 rfl) ?_
  refine lv_aload_n hx hb dL_law_341 rfl (lv_at hl 3 rfl) ?_
  refine lv_iload_n hx hb dL_law_342 rfl (lv_at hl 0 rfl) ?_
  refine lv_iconst (v := 1) hx hb dL_law_343 (by decide) ?_
  refine lv_iadd hx hb dL_law_344 ?_
  refine l_rd hx hb hX hbl hz hS hL (n := 1) rfl (by omega) dL_law_345 ?_
  refine lv_aload_n hx hb dL_law_346 rfl (lv_at hl 3 rfl) ?_
  refine lv_iload_n hx hb dL_law_347 rfl (lv_at hl 0 rfl) ?_
  refine lv_iconst (v := 2) hx hb dL_law_348 (by decide) ?_
  refine lv_iadd hx hb dL_law_349 ?_
  refine l_rd hx hb hX hbl hz hS hL (n := 2) rfl (by omega) dL_law_350 ?_
  refine lv_aload_n hx hb dL_law_351 rfl (lv_at hl 3 rfl) ?_
  refine lv_iload_n hx hb dL_law_352 rfl (lv_at hl 0 rfl) ?_
  refine lv_iconst (v := 3) hx hb dL_law_353 (by decide) ?_
  refine lv_iadd hx hb dL_law_354 ?_
  refine l_rd hx hb hX hbl hz hS hL (n := 3) rfl (by omega) dL_law_355 ?_
  refine w_callV C G1 hI1 hS 30 0 (hI1.at1 rfl) (fcE_30 g _ _) rfl mv_X11_run km_L_41 [.int (xs (7 * q + 1)), .int (xs (7 * q + 2)), .int (xs (7 * q + 3))] (k_X11_run l g fu (xs (7 * q + 1)) (xs (7 * q + 2)) (xs (7 * q + 3)) x1 _ _ e2) rfl ⟨by show _ ≤ 2048; decide, by show _ ≤ 84000; decide⟩ ⟨by show _ ≤ 600000; omega, by show _ ≤ 7302250; omega⟩ hl.1 rfl (Nat.le_of_ble_eq_true rfl) dL_law_356 (fun H2 locs2 hI2 hS2 => ?_)
  refine lv_icmp_eq (tgt := 453) hx hb dL_law_359 (by decide) (fun _ => ?_) (fun hc => absurd rfl hc)
  exact kk g x2 H2 locs2 ls cells slots ⟨⟨G1, hz⟩, hS2, ⟨hI2, hk1.cg (hf2 24 (by decide)) (hf2 25 (by decide)) (hf2 26 (by decide)), hs2⟩, hl⟩ (by omega) (by omega)
set_option maxHeartbeats 8000000 in
set_option maxRecDepth 100000 in
theorem c_latest (C : cxt p s m meth c args cL_law 4 RL (some .boolean)) (hX : va_X b L xs s s.heap) (hbl : b < s.heap.size) (hL : L ≤ 3584) (hq : 7 * q + 7 ≤ L) (h : lwI s b q g x H locs ls) (hc : cells + 2 ≤ 600000) (hs : slots + 205 ≤ 7302250)
    (kk : ∀ (g' : gT) (x' : st) (H' : Heap) (locs' : List Loc) (ls' : Array Slot) (cells' slots' : Nat), lwI s b q g' x' H' locs' ls' → cells' ≤ cells + 2 → slots' ≤ slots + 205 → W p l e room_1 s m args below meth c H' locs' cells' slots' Q (F0 m 453 ls' [])) : W p l e room_1 s m args below meth c H locs cells slots Q (F0 m 364 ls []) := by
  obtain ⟨hx, hb, hml, hown, hts, hlk, hrt⟩ := id C
  obtain ⟨⟨G, hz⟩, hS, ⟨hI, hk2, hSim⟩, hl⟩ := h
  obtain ⟨r, x1, x2, e1, e2, hs2, hf2⟩ := (latest_prs (xs (7 * q + 1))).step hSim
  have hkp := latest_kp (xs (7 * q + 1)) x r x1 hSim e1
  refine lv_aload_n hx hb dL_law_364 rfl (lv_at hl 2 rfl) ?_
  refine lv_aload_n hx hb dL_law_365 rfl (lv_at hl 3 rfl) ?_
  refine lv_iload_n hx hb dL_law_366 rfl (lv_at hl 0 rfl) ?_
  refine lv_iconst (v := 1) hx hb dL_law_367 (by decide) ?_
  refine lv_iadd hx hb dL_law_368 ?_
  refine l_rd hx hb hX hbl hz hS hL (n := 1) rfl (by omega) dL_law_369 ?_
  refine w_callV C G hI hS 0 0 (hI.at1 rfl) (fcE_0 g _ _) rfl mv_X10_latest km_L_42 [.int (xs (7 * q + 1))] (k_X10_latest l g (xs (7 * q + 1)) x _ _ e1) rfl ⟨by show _ ≤ 2048; decide, by show _ ≤ 84000; decide⟩ ⟨by show _ ≤ 600000; omega, by show _ ≤ 7302250; omega⟩ hl.1 rfl (Nat.le_of_ble_eq_true rfl) dL_law_370 (fun H1 locs1 hI1 hS1 => ?_)
  have hk1 : gok2 g x1 := hk2.cg (hkp 24 (by decide)) (hkp 25 (by decide)) (hkp 26 (by decide))
  have G1 := G
  clear hI hk2 hS G
  have hS := hS1
  refine lv_aload_n hx hb dL_law_373 rfl (lv_at hl 1 rfl) ?_
  refine lv_aload_n hx hb dL_law_374 rfl (lv_at hl 3 rfl) ?_
  refine lv_iload_n hx hb dL_law_375 rfl (lv_at hl 0 rfl) ?_
  refine lv_iconst (v := 1) hx hb dL_law_376 (by decide) ?_
  refine lv_iadd hx hb dL_law_377 ?_
  refine l_rd hx hb hX hbl hz hS hL (n := 1) rfl (by omega) dL_law_378 ?_
  refine w_callV C G1 hI1 hS 30 0 (hI1.at1 rfl) (fcE_30 g _ _) rfl mv_X11_latest km_L_45 [.int (xs (7 * q + 1))] (k_X11_latest l g (xs (7 * q + 1)) x1 _ _ e2) rfl ⟨by show _ ≤ 2048; decide, by show _ ≤ 84000; decide⟩ ⟨by show _ ≤ 600000; omega, by show _ ≤ 7302250; omega⟩ hl.1 rfl (Nat.le_of_ble_eq_true rfl) dL_law_379 (fun H2 locs2 hI2 hS2 => ?_)
  refine lv_icmp_eq (tgt := 453) hx hb dL_law_382 (by decide) (fun _ => ?_) (fun hc => absurd rfl hc)
  exact kk g x2 H2 locs2 ls cells slots ⟨⟨G1, hz⟩, hS2, ⟨hI2, hk1.cg (hf2 24 (by decide)) (hf2 25 (by decide)) (hf2 26 (by decide)), hs2⟩, hl⟩ (by omega) (by omega)
set_option maxHeartbeats 8000000 in
set_option maxRecDepth 100000 in
theorem c_cleaned (C : cxt p s m meth c args cL_law 4 RL (some .boolean)) (hX : va_X b L xs s s.heap) (hbl : b < s.heap.size) (hL : L ≤ 3584) (hq : 7 * q + 7 ≤ L) (h : lwI s b q g x H locs ls) (hc : cells + 2 ≤ 600000) (hs : slots + 205 ≤ 7302250)
    (kk : ∀ (g' : gT) (x' : st) (H' : Heap) (locs' : List Loc) (ls' : Array Slot) (cells' slots' : Nat), lwI s b q g' x' H' locs' ls' → cells' ≤ cells + 2 → slots' ≤ slots + 205 → W p l e room_1 s m args below meth c H' locs' cells' slots' Q (F0 m 453 ls' [])) : W p l e room_1 s m args below meth c H locs cells slots Q (F0 m 387 ls []) := by
  obtain ⟨hx, hb, hml, hown, hts, hlk, hrt⟩ := id C
  obtain ⟨⟨G, hz⟩, hS, ⟨hI, hk2, hSim⟩, hl⟩ := h
  obtain ⟨r, x1, x2, e1, e2, hs2, hf2⟩ := (cleaned_prs (xs (7 * q + 1)) (xs (7 * q + 2))).step hSim
  have hkp := cleaned_kp (xs (7 * q + 1)) (xs (7 * q + 2)) x r x1 hSim e1
  refine lv_aload_n hx hb dL_law_387 rfl (lv_at hl 2 rfl) ?_
  refine lv_aload_n hx hb dL_law_388 rfl (lv_at hl 3 rfl) ?_
  refine lv_iload_n hx hb dL_law_389 rfl (lv_at hl 0 rfl) ?_
  refine lv_iconst (v := 1) hx hb dL_law_390 (by decide) ?_
  refine lv_iadd hx hb dL_law_391 ?_
  refine l_rd hx hb hX hbl hz hS hL (n := 1) rfl (by omega) dL_law_392 ?_
  refine lv_aload_n hx hb dL_law_393 rfl (lv_at hl 3 rfl) ?_
  refine lv_iload_n hx hb dL_law_394 rfl (lv_at hl 0 rfl) ?_
  refine lv_iconst (v := 2) hx hb dL_law_395 (by decide) ?_
  refine lv_iadd hx hb dL_law_396 ?_
  refine l_rd hx hb hX hbl hz hS hL (n := 2) rfl (by omega) dL_law_397 ?_
  refine w_callV C G hI hS 0 0 (hI.at1 rfl) (fcE_0 g _ _) rfl mv_X10_cleaned km_L_46 [.int (xs (7 * q + 1)), .int (xs (7 * q + 2))] (k_X10_cleaned l g (xs (7 * q + 1)) (xs (7 * q + 2)) x _ _ e1) rfl ⟨by show _ ≤ 2048; decide, by show _ ≤ 84000; decide⟩ ⟨by show _ ≤ 600000; omega, by show _ ≤ 7302250; omega⟩ hl.1 rfl (Nat.le_of_ble_eq_true rfl) dL_law_398 (fun H1 locs1 hI1 hS1 => ?_)
  have hk1 : gok2 g x1 := hk2.cg (hkp 24 (by decide)) (hkp 25 (by decide)) (hkp 26 (by decide))
  have G1 := G
  clear hI hk2 hS G
  have hS := hS1
  refine lv_aload_n hx hb dL_law_401 rfl (lv_at hl 1 rfl) ?_
  refine lv_aload_n hx hb dL_law_402 rfl (lv_at hl 3 rfl) ?_
  refine lv_iload_n hx hb dL_law_403 rfl (lv_at hl 0 rfl) ?_
  refine lv_iconst (v := 1) hx hb dL_law_404 (by decide) ?_
  refine lv_iadd hx hb dL_law_405 ?_
  refine l_rd hx hb hX hbl hz hS hL (n := 1) rfl (by omega) dL_law_406 ?_
  refine lv_aload_n hx hb dL_law_407 rfl (lv_at hl 3 rfl) ?_
  refine lv_iload_n hx hb dL_law_408 rfl (lv_at hl 0 rfl) ?_
  refine lv_iconst (v := 2) hx hb dL_law_409 (by decide) ?_
  refine lv_iadd hx hb dL_law_410 ?_
  refine l_rd hx hb hX hbl hz hS hL (n := 2) rfl (by omega) dL_law_411 ?_
  refine w_callV C G1 hI1 hS 30 0 (hI1.at1 rfl) (fcE_30 g _ _) rfl mv_X11_cleaned km_L_50 [.int (xs (7 * q + 1)), .int (xs (7 * q + 2))] (k_X11_cleaned l g (xs (7 * q + 1)) (xs (7 * q + 2)) x1 _ _ e2) rfl ⟨by show _ ≤ 2048; decide, by show _ ≤ 84000; decide⟩ ⟨by show _ ≤ 600000; omega, by show _ ≤ 7302250; omega⟩ hl.1 rfl (Nat.le_of_ble_eq_true rfl) dL_law_412 (fun H2 locs2 hI2 hS2 => ?_)
  refine lv_icmp_eq (tgt := 453) hx hb dL_law_415 (by decide) (fun _ => ?_) (fun hc => absurd rfl hc)
  exact kk g x2 H2 locs2 ls cells slots ⟨⟨G1, hz⟩, hS2, ⟨hI2, hk1.cg (hf2 24 (by decide)) (hf2 25 (by decide)) (hf2 26 (by decide)), hs2⟩, hl⟩ (by omega) (by omega)
set_option maxHeartbeats 8000000 in
set_option maxRecDepth 100000 in
theorem c_told (C : cxt p s m meth c args cL_law 4 RL (some .boolean)) (hX : va_X b L xs s s.heap) (hbl : b < s.heap.size) (hL : L ≤ 3584) (hq : 7 * q + 7 ≤ L) (h : lwI s b q g x H locs ls) (hc : cells + 2 ≤ 600000) (hs : slots + 205 ≤ 7302250)
    (kk : ∀ (g' : gT) (x' : st) (H' : Heap) (locs' : List Loc) (ls' : Array Slot) (cells' slots' : Nat), lwI s b q g' x' H' locs' ls' → cells' ≤ cells + 2 → slots' ≤ slots + 205 → W p l e room_1 s m args below meth c H' locs' cells' slots' Q (F0 m 453 ls' [])) : W p l e room_1 s m args below meth c H locs cells slots Q (F0 m 420 ls []) := by
  obtain ⟨hx, hb, hml, hown, hts, hlk, hrt⟩ := id C
  obtain ⟨⟨G, hz⟩, hS, ⟨hI, hk2, hSim⟩, hl⟩ := h
  obtain ⟨r, x1, x2, e1, e2, hs2, hf2⟩ := (told_prs (xs (7 * q + 1)) (xs (7 * q + 2))).step hSim
  have hkp := told_kp (xs (7 * q + 1)) (xs (7 * q + 2)) x r x1 hSim e1
  refine lv_aload_n hx hb dL_law_420 rfl (lv_at hl 2 rfl) ?_
  refine lv_aload_n hx hb dL_law_421 rfl (lv_at hl 3 rfl) ?_
  refine lv_iload_n hx hb dL_law_422 rfl (lv_at hl 0 rfl) ?_
  refine lv_iconst (v := 1) hx hb dL_law_423 (by decide) ?_
  refine lv_iadd hx hb dL_law_424 ?_
  refine l_rd hx hb hX hbl hz hS hL (n := 1) rfl (by omega) dL_law_425 ?_
  refine lv_aload_n hx hb dL_law_426 rfl (lv_at hl 3 rfl) ?_
  refine lv_iload_n hx hb dL_law_427 rfl (lv_at hl 0 rfl) ?_
  refine lv_iconst (v := 2) hx hb dL_law_428 (by decide) ?_
  refine lv_iadd hx hb dL_law_429 ?_
  refine l_rd hx hb hX hbl hz hS hL (n := 2) rfl (by omega) dL_law_430 ?_
  refine w_callV C G hI hS 0 0 (hI.at1 rfl) (fcE_0 g _ _) rfl mv_X10_told km_L_51 [.int (xs (7 * q + 1)), .int (xs (7 * q + 2))] (k_X10_told l g (xs (7 * q + 1)) (xs (7 * q + 2)) x _ _ e1) rfl ⟨by show _ ≤ 2048; decide, by show _ ≤ 84000; decide⟩ ⟨by show _ ≤ 600000; omega, by show _ ≤ 7302250; omega⟩ hl.1 rfl (Nat.le_of_ble_eq_true rfl) dL_law_431 (fun H1 locs1 hI1 hS1 => ?_)
  have hk1 : gok2 g x1 := hk2.cg (hkp 24 (by decide)) (hkp 25 (by decide)) (hkp 26 (by decide))
  have G1 := G
  clear hI hk2 hS G
  have hS := hS1
  refine lv_aload_n hx hb dL_law_434 rfl (lv_at hl 1 rfl) ?_
  refine lv_aload_n hx hb dL_law_435 rfl (lv_at hl 3 rfl) ?_
  refine lv_iload_n hx hb dL_law_436 rfl (lv_at hl 0 rfl) ?_
  refine lv_iconst (v := 1) hx hb dL_law_437 (by decide) ?_
  refine lv_iadd hx hb dL_law_438 ?_
  refine l_rd hx hb hX hbl hz hS hL (n := 1) rfl (by omega) dL_law_439 ?_
  refine lv_aload_n hx hb dL_law_440 rfl (lv_at hl 3 rfl) ?_
  refine lv_iload_n hx hb dL_law_441 rfl (lv_at hl 0 rfl) ?_
  refine lv_iconst (v := 2) hx hb dL_law_442 (by decide) ?_
  refine lv_iadd hx hb dL_law_443 ?_
  refine l_rd hx hb hX hbl hz hS hL (n := 2) rfl (by omega) dL_law_444 ?_
  refine w_callV C G1 hI1 hS 30 0 (hI1.at1 rfl) (fcE_30 g _ _) rfl mv_X11_told km_L_54 [.int (xs (7 * q + 1)), .int (xs (7 * q + 2))] (k_X11_told l g (xs (7 * q + 1)) (xs (7 * q + 2)) x1 _ _ e2) rfl ⟨by show _ ≤ 2048; decide, by show _ ≤ 84000; decide⟩ ⟨by show _ ≤ 600000; omega, by show _ ≤ 7302250; omega⟩ hl.1 rfl (Nat.le_of_ble_eq_true rfl) dL_law_445 (fun H2 locs2 hI2 hS2 => ?_)
  refine lv_icmp_eq (tgt := 453) hx hb dL_law_448 (by decide) (fun _ => ?_) (fun hc => absurd rfl hc)
  exact kk g x2 H2 locs2 ls cells slots ⟨⟨G1, hz⟩, hS2, ⟨hI2, hk1.cg (hf2 24 (by decide)) (hf2 25 (by decide)) (hf2 26 (by decide)), hs2⟩, hl⟩ (by omega) (by omega)
end LLaw
