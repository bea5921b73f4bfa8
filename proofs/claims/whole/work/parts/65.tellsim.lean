/-! METHODS are told and cleared: both sides -/
def LZ (kl ka ke mul ci kz nf : Nat) : Prop := (kl = 21 ∧ ka = 24 ∧ ke = 18 ∧ mul = 48 ∧ ci = 1 ∧ kz = 40 ∧ nf = 5) ∨ (kl = 22 ∧ ka = 25 ∧ ke = 19 ∧ mul = 6 ∧ ci = 4 ∧ kz = 46 ∧ nf = 4) ∨ (kl = 23 ∧ ka = 26 ∧ ke = 20 ∧ mul = 6 ∧ ci = 2 ∧ kz = 51 ∧ nf = 3)
theorem LZ.a : LZ 21 24 18 48 1 40 5 := Or.inl ⟨rfl, rfl, rfl, rfl, rfl, rfl, rfl⟩
theorem LZ.g : LZ 22 25 19 6 4 46 4 := Or.inr (Or.inl ⟨rfl, rfl, rfl, rfl, rfl, rfl, rfl⟩)
theorem LZ.c : LZ 23 26 20 6 2 51 3 := Or.inr (Or.inr ⟨rfl, rfl, rfl, rfl, rfl, rfl, rfl⟩)
theorem LZ.lk {kl ka ke mul ci kz nf : Nat} (h : LZ kl ka ke mul ci kz nf) : LK kl ka ke mul ci := by
  rcases h with ⟨rfl, rfl, rfl, rfl, rfl, rfl, rfl⟩ | ⟨rfl, rfl, rfl, rfl, rfl, rfl, rfl⟩ | ⟨rfl, rfl, rfl, rfl, rfl, rfl, rfl⟩
  · exact LK.a
  · exact LK.g
  · exact LK.c
def okF (kl : Nat) (q : Nat → Int32) : Prop := if kl = 21 then actOK q else if kl = 22 then isN (q 3) 48 else isN (q 1) 48 ∧ isN (q 2) 7
def IPL (y : st) (kl ka ke mul m : Nat) : Prop := isN (y kl m 2) mul ∧ y ka m 0 = y kl m 2 ∧ ∀ j, j < nv (y kl m 2) → okF kl (y ke (mul * m + j))
def SPL (y z : st) (kl ke mul kz nf m : Nat) : Prop := z kz 0 m = y kl m 2 ∧ ∀ j, j < nv (y kl m 2) → ∀ s, s < nf → z (kz + 1 + s) 0 (mul * m + j) = y ke (mul * m + j) s
theorem IP_L {y : st} : IP y ↔ ∀ m, m < 8 → IPL y 21 24 18 48 m ∧ IPL y 22 25 19 6 m ∧ IPL y 23 26 20 6 m := by
  constructor
  · intro h m hm
    obtain ⟨⟨a1, a2, a3⟩, ⟨b1, b2, b3⟩, c1, c2, c3⟩ := h m hm
    exact ⟨⟨a1, b1, c1⟩, ⟨a2, b2, c2⟩, ⟨a3, b3, c3⟩⟩
  · intro h m hm
    obtain ⟨⟨a1, b1, c1⟩, ⟨a2, b2, c2⟩, ⟨a3, b3, c3⟩⟩ := h m hm
    exact ⟨⟨a1, a2, a3⟩, ⟨b1, b2, b3⟩, c1, c2, c3⟩
theorem SP_L {y z : st} : SP y z ↔ ∀ m, m < 8 → SPL y z 21 18 48 40 5 m ∧ SPL y z 22 19 6 46 4 m ∧ SPL y z 23 20 6 51 3 m := by
  constructor
  · intro h m hm
    obtain ⟨⟨a1, a2, a3⟩, c1, c2, c3⟩ := h m hm
    exact ⟨⟨a1, c1⟩, ⟨a2, c2⟩, ⟨a3, c3⟩⟩
  · intro h m hm
    obtain ⟨⟨a1, c1⟩, ⟨a2, c2⟩, ⟨a3, c3⟩⟩ := h m hm
    exact ⟨⟨a1, a2, a3⟩, c1, c2, c3⟩
theorem Sim.ms {y z y' z' : st} (h : Sim y z) (hy : ∀ k, k < 18 → y' k = y k) (hz0 : z' 30 = z 30) (hz : ∀ k, 70 ≤ k → z' k = z k) (h1 : IP y') (h2 : SP y' z') : Sim y' z' := by
  obtain ⟨-, -, h3, h4, h5, h6⟩ := h
  refine ⟨h1, h2, ?_, ?_, ?_, ?_⟩
  · rw [hz0, hy 0 (by decide)]; exact h3
  · rw [hz 80 (by decide), hy 2 (by decide), hy 4 (by decide)]; exact h4
  · rw [hy 2 (by decide), hy 4 (by decide)]; exact h5
  · unfold AR at h6 ⊢
    rw [hz 72 (by decide), hz 71 (by decide), hz 70 (by decide), hz 73 (by decide), hz 81 (by decide), hz 82 (by decide), hz 83 (by decide), hy 7 (by decide), hy 8 (by decide), hy 9 (by decide), hy 6 (by decide), hy 3 (by decide)]
    exact h6
theorem Sim.yz {y z y' z' : st} (h : Sim y z) (hy : ∀ k, k < 30 → y' k = y k) (hz : ∀ k, 30 ≤ k → z' k = z k) : Sim y' z' := by
  refine h.ms (fun k hk => hy k (by omega)) (hz 30 (by decide)) (fun k hk => hz k (by omega)) ?_ ?_
  · intro m hm
    rw [hy 21 (by decide), hy 22 (by decide), hy 23 (by decide), hy 24 (by decide), hy 25 (by decide), hy 26 (by decide), hy 18 (by decide), hy 19 (by decide), hy 20 (by decide)]
    exact h.1 m hm
  · intro m hm
    rw [hy 21 (by decide), hy 22 (by decide), hy 23 (by decide), hy 18 (by decide), hy 19 (by decide), hy 20 (by decide), hz 40 (by decide), hz 46 (by decide), hz 51 (by decide)]
    obtain ⟨q1, q2, q3, q4⟩ := h.2.1 m hm
    refine ⟨q1, fun j hj s hs => ?_, fun j hj s hs => ?_, fun j hj s hs => ?_⟩
    · rw [hz (41 + s) (by omega)]; exact q2 j hj s hs
    · rw [hz (47 + s) (by omega)]; exact q3 j hj s hs
    · rw [hz (52 + s) (by omega)]; exact q4 j hj s hs
theorem mul_ne {mul m t j n : Nat} (hj : j < mul) (hn : n < mul) (h : ¬ m = t) : ¬ mul * m + j = mul * t + n := by
  intro q
  rcases Nat.lt_or_ge m t with hlt | hge
  · have h1 : mul * m + mul ≤ mul * t := by
      have := Nat.mul_le_mul_left mul (show m + 1 ≤ t by omega)
      rw [Nat.mul_add, Nat.mul_one] at this
      exact this
    omega
  · have h1 : mul * t + mul ≤ mul * m := by
      have := Nat.mul_le_mul_left mul (show t + 1 ≤ m by omega)
      rw [Nat.mul_add, Nat.mul_one] at this
      exact this
    omega
/-- the list itself -/
theorem add_self {kl ka ke mul ci : Nat} (hL : LK kl ka ke mul ci) {y : st} {t n m : Nat} {F : Nat → Int32} (hn : y kl t 2 = nI n) (hlt : n < mul) (hF : okF kl F) (h : IPL y kl ka ke mul m) : IPL (addX y kl ka ke mul t n F) kl ka ke mul m ∧ (addX y kl ka ke mul t n F kl m 2 = if m = t then nI (n + 1) else y kl m 2) ∧ ∀ j, j < mul → addX y kl ka ke mul t n F ke (mul * m + j) = if m = t ∧ j = n then F else y ke (mul * m + j) := by
  obtain ⟨⟨h90, ha90, hlka⟩, hke90, hea, hel, hci, ⟨hmul, hmul0⟩⟩ := hL.ne
  have v1 : addX y kl ka ke mul t n F kl m 2 = if m = t then nI (n + 1) else y kl m 2 := by
    rw [addX_app]
    by_cases c : m = t
    · rw [if_pos ⟨rfl, c⟩, if_pos c]; rfl
    · rw [if_neg (fun q => c q.2), if_neg (fun q => c q.2), if_neg (fun q => hel q.1.symm), if_neg c]
  have v2 : addX y kl ka ke mul t n F ka m 0 = if m = t then nI (n + 1) else y ka m 0 := by
    rw [addX_app, if_neg (fun q => hlka q.1.symm)]
    by_cases c : m = t
    · rw [if_pos ⟨rfl, c⟩, if_pos c]; rfl
    · rw [if_neg (fun q => c q.2), if_neg (fun q => hea q.1.symm), if_neg c]
  have v3 : ∀ j, j < mul → addX y kl ka ke mul t n F ke (mul * m + j) = if m = t ∧ j = n then F else y ke (mul * m + j) := by
    intro j hj
    rw [addX_app, if_neg (fun q => hel q.1), if_neg (fun q => hea q.1)]
    by_cases c : m = t ∧ j = n
    · rw [if_pos c, if_pos ⟨rfl, by rw [c.1, c.2]⟩]
    · rw [if_neg c, if_neg ?_]
      rintro ⟨-, q⟩
      by_cases c2 : m = t
      · subst c2; exact c ⟨rfl, by omega⟩
      · exact mul_ne hj hlt c2 q
  refine ⟨?_, v1, v3⟩
  obtain ⟨h1, h2, h3⟩ := h
  unfold IPL
  rw [v1, v2]
  by_cases c : m = t
  · subst c
    rw [if_pos rfl, if_pos rfl]
    refine ⟨isN.of (by omega) (by omega), rfl, fun j hj => ?_⟩
    rw [nv_nI (by omega)] at hj
    rw [v3 j (by omega)]
    by_cases c2 : j = n
    · rw [if_pos ⟨rfl, c2⟩]; exact hF
    · rw [if_neg (fun q => c2 q.2)]
      exact h3 j (by rw [hn, nv_nI (by omega)]; omega)
  · rw [if_neg c, if_neg c]
    refine ⟨h1, h2, fun j hj => ?_⟩
    rw [v3 j (Nat.lt_of_lt_of_le hj h1.2), if_neg (fun q => c q.1)]
    exact h3 j hj
theorem LK.ks {kl ka ke mul ci : Nat} (h : LK kl ka ke mul ci) : 21 ≤ kl ∧ kl ≤ 23 ∧ 24 ≤ ka ∧ ka ≤ 26 ∧ 18 ≤ ke ∧ ke ≤ 20 ∧ ka = kl + 3 ∧ kl = ke + 3 := by
  rcases h with ⟨rfl, rfl, rfl, rfl, rfl⟩ | ⟨rfl, rfl, rfl, rfl, rfl⟩ | ⟨rfl, rfl, rfl, rfl, rfl⟩ <;> decide
theorem add_oth {kl ka ke mul ci : Nat} (hL : LK kl ka ke mul ci) {y : st} {t n : Nat} {F : Nat → Int32} {k : Nat} (h1 : ¬ k = kl) (h2 : ¬ k = ka) (h3 : ¬ k = ke) : addX y kl ka ke mul t n F k = y k := by
  funext i
  rw [addX_app, if_neg (fun q => h1 q.1), if_neg (fun q => h2 q.1), if_neg (fun q => h3 q.1)]
/-- what the reference does -/
def aZ (z z' : st) (kz nf t e n : Nat) (F : Nat → Int32) : Prop := z' kz 0 t = nI (n + 1) ∧ (∀ m, ¬ m = t → z' kz 0 m = z kz 0 m) ∧ (∀ s, s < nf → z' (kz + 1 + s) 0 e = F s ∧ ∀ i, ¬ i = e → z' (kz + 1 + s) 0 i = z (kz + 1 + s) 0 i) ∧ ∀ k, k < kz ∨ kz + nf < k → z' k = z k
theorem add_sp {kl ka ke mul ci kz nf : Nat} (hL : LZ kl ka ke mul ci kz nf) {y z z' : st} {t n m : Nat} {F : Nat → Int32} (hn : y kl t 2 = nI n) (hlt : n < mul) (hF : okF kl F) (hZ : aZ z z' kz nf t (mul * t + n) n F) (hi : IPL y kl ka ke mul m) (h : SPL y z kl ke mul kz nf m) : SPL (addX y kl ka ke mul t n F) z' kl ke mul kz nf m := by
  obtain ⟨-, v1, v3⟩ := add_self hL.lk (m := m) hn hlt hF hi
  obtain ⟨z1, z2, z3, -⟩ := hZ
  obtain ⟨hmul, -⟩ := hL.lk.ne.2.2.2.2.2
  unfold SPL
  rw [v1]
  by_cases c : m = t
  · subst c
    rw [if_pos rfl]
    refine ⟨z1, fun j hj s hs => ?_⟩
    rw [nv_nI (by omega)] at hj
    rw [v3 j (by omega)]
    by_cases c2 : j = n
    · rw [if_pos ⟨rfl, c2⟩, c2]; exact (z3 s hs).1
    · rw [if_neg (fun q => c2 q.2), (z3 s hs).2 _ (by omega)]
      exact h.2 j (by rw [hn, nv_nI (by omega)]; omega) s hs
  · rw [if_neg c]
    refine ⟨(z2 m c).trans h.1, fun j hj s hs => ?_⟩
    have hjm := Nat.lt_of_lt_of_le hj hi.1.2
    rw [v3 j hjm, if_neg (fun q => c q.1), (z3 s hs).2 _ (mul_ne hjm hlt c)]
    exact h.2 j hj s hs
theorem IPL.cg {y y' : st} {kl ka ke mul m : Nat} (h : IPL y kl ka ke mul m) (e1 : y' kl = y kl) (e2 : y' ka = y ka) (e3 : y' ke = y ke) : IPL y' kl ka ke mul m := by
  unfold IPL at h ⊢
  rw [e1, e2, e3]; exact h
theorem SPL.cg {y y' z z' : st} {kl ke mul kz nf m : Nat} (h : SPL y z kl ke mul kz nf m) (e1 : y' kl = y kl) (e3 : y' ke = y ke) (ez : ∀ k, kz ≤ k → k ≤ kz + nf → z' k = z k) : SPL y' z' kl ke mul kz nf m := by
  unfold SPL at h ⊢
  rw [e1, e3, ez kz (Nat.le_refl _) (by omega)]
  refine ⟨h.1, fun j hj s hs => ?_⟩
  rw [ez (kz + 1 + s) (by omega) (by omega)]
  exact h.2 j hj s hs
theorem Sim.add {kl ka ke mul ci kz nf : Nat} (hL : LZ kl ka ke mul ci kz nf) {y z z' : st} {t n : Nat} {F : Nat → Int32} (h : Sim y z) (hn : y kl t 2 = nI n) (hlt : n < mul) (hF : okF kl F) (hZ : aZ z z' kz nf t (mul * t + n) n F) : Sim (addX y kl ka ke mul t n F) z' := by
  have hks := hL.lk.ks
  have hkz : 40 ≤ kz ∧ kz + nf ≤ 54 := by
    rcases hL with ⟨rfl, rfl, rfl, rfl, rfl, rfl, rfl⟩ | ⟨rfl, rfl, rfl, rfl, rfl, rfl, rfl⟩ | ⟨rfl, rfl, rfl, rfl, rfl, rfl, rfl⟩ <;> decide
  have ho : ∀ k, ¬ k = kl → ¬ k = ka → ¬ k = ke → addX y kl ka ke mul t n F k = y k := fun k a b c => add_oth hL.lk a b c
  have hzo := hZ.2.2.2
  refine h.ms (fun k hk => ho k (by omega) (by omega) (by omega)) (hzo 30 (by omega)) (fun k hk => hzo k (by omega)) (IP_L.mpr (fun m hm => ?_)) (SP_L.mpr (fun m hm => ?_))
  · obtain ⟨a, b, c⟩ := IP_L.mp h.1 m hm
    rcases hL with ⟨rfl, rfl, rfl, rfl, rfl, rfl, rfl⟩ | ⟨rfl, rfl, rfl, rfl, rfl, rfl, rfl⟩ | ⟨rfl, rfl, rfl, rfl, rfl, rfl, rfl⟩
    · exact ⟨(add_self LK.a hn hlt hF a).1, b.cg (ho _ (by decide) (by decide) (by decide)) (ho _ (by decide) (by decide) (by decide)) (ho _ (by decide) (by decide) (by decide)), c.cg (ho _ (by decide) (by decide) (by decide)) (ho _ (by decide) (by decide) (by decide)) (ho _ (by decide) (by decide) (by decide))⟩
    · exact ⟨a.cg (ho _ (by decide) (by decide) (by decide)) (ho _ (by decide) (by decide) (by decide)) (ho _ (by decide) (by decide) (by decide)), (add_self LK.g hn hlt hF b).1, c.cg (ho _ (by decide) (by decide) (by decide)) (ho _ (by decide) (by decide) (by decide)) (ho _ (by decide) (by decide) (by decide))⟩
    · exact ⟨a.cg (ho _ (by decide) (by decide) (by decide)) (ho _ (by decide) (by decide) (by decide)) (ho _ (by decide) (by decide) (by decide)), b.cg (ho _ (by decide) (by decide) (by decide)) (ho _ (by decide) (by decide) (by decide)) (ho _ (by decide) (by decide) (by decide)), (add_self LK.c hn hlt hF c).1⟩
  · obtain ⟨a, b, c⟩ := IP_L.mp h.1 m hm
    obtain ⟨sa, sb, sc⟩ := SP_L.mp h.2.1 m hm
    rcases hL with ⟨rfl, rfl, rfl, rfl, rfl, rfl, rfl⟩ | ⟨rfl, rfl, rfl, rfl, rfl, rfl, rfl⟩ | ⟨rfl, rfl, rfl, rfl, rfl, rfl, rfl⟩
    · exact ⟨add_sp LZ.a hn hlt hF hZ a sa, sb.cg (ho _ (by decide) (by decide) (by decide)) (ho _ (by decide) (by decide) (by decide)) (fun k h1 h2 => hzo k (by omega)), sc.cg (ho _ (by decide) (by decide) (by decide)) (ho _ (by decide) (by decide) (by decide)) (fun k h1 h2 => hzo k (by omega))⟩
    · exact ⟨sa.cg (ho _ (by decide) (by decide) (by decide)) (ho _ (by decide) (by decide) (by decide)) (fun k h1 h2 => hzo k (by omega)), add_sp LZ.g hn hlt hF hZ b sb, sc.cg (ho _ (by decide) (by decide) (by decide)) (ho _ (by decide) (by decide) (by decide)) (fun k h1 h2 => hzo k (by omega))⟩
    · exact ⟨sa.cg (ho _ (by decide) (by decide) (by decide)) (ho _ (by decide) (by decide) (by decide)) (fun k h1 h2 => hzo k (by omega)), sb.cg (ho _ (by decide) (by decide) (by decide)) (ho _ (by decide) (by decide) (by decide)) (fun k h1 h2 => hzo k (by omega)), add_sp LZ.c hn hlt hF hZ c sc⟩
/-- clear -/
theorem clr_sp {kl ka ke mul ci kz nf kl' ka' ke' mul' ci' kz' nf' : Nat} (hL : LZ kl ka ke mul ci kz nf) (hL' : LZ kl' ka' ke' mul' ci' kz' nf') {y z : st} {t m : Nat} (h : IPL y kl' ka' ke' mul' m ∧ SPL y z kl' ke' mul' kz' nf' m) : IPL (clr1 y kl ka t) kl' ka' ke' mul' m ∧ SPL (clr1 y kl ka t) (sx z kz 0 t 0) kl' ke' mul' kz' nf' m := by
  obtain ⟨v1, v2, -⟩ := clr_v hL.lk hL'.lk y t m
  obtain ⟨-, -, -, n1, n2⟩ := hL.lk.two hL'.lk
  have v3 : clr1 y kl ka t ke' = y ke' := by
    funext i
    rw [clr1_app, if_neg (fun q => n1 q.1), if_neg (fun q => n2 q.1)]
  have hzz : (kl' = kl ↔ kz' = kz) ∧ ∀ s, s < nf' → ¬ kz' + 1 + s = kz := by
    rcases hL with ⟨rfl, rfl, rfl, rfl, rfl, rfl, rfl⟩ | ⟨rfl, rfl, rfl, rfl, rfl, rfl, rfl⟩ | ⟨rfl, rfl, rfl, rfl, rfl, rfl, rfl⟩ <;> rcases hL' with ⟨rfl, rfl, rfl, rfl, rfl, rfl, rfl⟩ | ⟨rfl, rfl, rfl, rfl, rfl, rfl, rfl⟩ | ⟨rfl, rfl, rfl, rfl, rfl, rfl, rfl⟩ <;> exact ⟨by decide, fun s hs => by omega⟩
  obtain ⟨⟨i1, i2, i3⟩, s1, s2⟩ := h
  unfold IPL SPL
  rw [v1, v2, v3, sx_app]
  by_cases c : kl' = kl ∧ m = t
  · rw [if_pos c, if_pos c, if_pos ⟨hzz.1.mp c.1, rfl, c.2⟩]
    exact ⟨⟨isN0, rfl, fun j hj => absurd hj (Nat.not_lt_zero _)⟩, rfl, fun j hj => absurd hj (Nat.not_lt_zero _)⟩
  · rw [if_neg c, if_neg c, if_neg (fun q => c ⟨hzz.1.mpr q.1, q.2.2⟩)]
    refine ⟨⟨i1, i2, i3⟩, s1, fun j hj s hs => ?_⟩
    rw [sx_app, if_neg (fun q => hzz.2 s hs q.1)]
    exact s2 j hj s hs
theorem Sim.clr {kl ka ke mul ci kz nf : Nat} (hL : LZ kl ka ke mul ci kz nf) {y z : st} {t : Nat} (h : Sim y z) : Sim (clr1 y kl ka t) (sx z kz 0 t 0) := by
  have hks := hL.lk.ks
  have hkz : 40 ≤ kz ∧ kz + nf ≤ 54 := by
    rcases hL with ⟨rfl, rfl, rfl, rfl, rfl, rfl, rfl⟩ | ⟨rfl, rfl, rfl, rfl, rfl, rfl, rfl⟩ | ⟨rfl, rfl, rfl, rfl, rfl, rfl, rfl⟩ <;> decide
  have hall : ∀ m, m < 8 → _ := fun m hm => ((⟨clr_sp hL LZ.a (t := t) ⟨(IP_L.mp h.1 m hm).1, (SP_L.mp h.2.1 m hm).1⟩, clr_sp hL LZ.g (t := t) ⟨(IP_L.mp h.1 m hm).2.1, (SP_L.mp h.2.1 m hm).2.1⟩, clr_sp hL LZ.c (t := t) ⟨(IP_L.mp h.1 m hm).2.2, (SP_L.mp h.2.1 m hm).2.2⟩⟩) : (IPL (clr1 y kl ka t) 21 24 18 48 m ∧ SPL (clr1 y kl ka t) (sx z kz 0 t 0) 21 18 48 40 5 m) ∧ (IPL (clr1 y kl ka t) 22 25 19 6 m ∧ SPL (clr1 y kl ka t) (sx z kz 0 t 0) 22 19 6 46 4 m) ∧ (IPL (clr1 y kl ka t) 23 26 20 6 m ∧ SPL (clr1 y kl ka t) (sx z kz 0 t 0) 23 20 6 51 3 m))
  refine h.ms (fun k hk => ?_) (sx_k _ (by omega)) (fun k hk => sx_k _ (by omega)) (IP_L.mpr (fun m hm => ⟨(hall m hm).1.1, (hall m hm).2.1.1, (hall m hm).2.2.1⟩)) (SP_L.mpr (fun m hm => ⟨(hall m hm).1.2, (hall m hm).2.1.2, (hall m hm).2.2.2⟩))
  funext i
  rw [clr1_app, if_neg (fun q => by omega), if_neg (fun q => by omega)]
