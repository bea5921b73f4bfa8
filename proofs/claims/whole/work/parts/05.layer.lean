/-! THE LAYER: the system's cells by family and member; one state x for the class and the reference; a contract says which value is answered and which state is left. -/
abbrev st : Type := Nat → Nat → Nat → Int32
/-- what is fixed: class ids and slots, array classes, constants' addresses, the first new address, the cells' addresses, which cells there are -/
abbrev gT : Type := va_G × (Nat → ClassId) × (Nat → Nat) × Nat × (Nat → Nat → Nat) × (Nat → Nat → Prop)
def gD (g : gT) : va_G := g.1
def gy (g : gT) : Nat → ClassId := g.2.1
def ge (g : gT) : Nat → Nat := g.2.2.1
def gz (g : gT) : Nat := g.2.2.2.1
def ga (g : gT) : Nat → Nat → Nat := g.2.2.2.2.1
def gd (g : gT) : Nat → Nat → Prop := g.2.2.2.2.2
def zA (z : Nat) : Nat → Prop := fun q => z ≤ q
def up2 {α : Type} (f : Nat → Nat → α) (k i : Nat) (v : α) : Nat → Nat → α := fun k' i' => if k' = k ∧ i' = i then v else f k' i'
def sxA (x : st) (k i : Nat) (f : Nat → Int32) : st := up2 x k i f
def sx (x : st) (k i j : Nat) (v : Int32) : st := sxA x k i (upd (x k i) j v)
theorem up2_same {α : Type} (f : Nat → Nat → α) (k i : Nat) (v : α) : up2 f k i v k i = v := by simp [up2]
theorem up2_ne {α : Type} (f : Nat → Nat → α) {k i k' i' : Nat} (v : α) (h : ¬ (k' = k ∧ i' = i)) : up2 f k i v k' i' = f k' i' := by simp [up2, h]
/-- the reference's arrays: lengths by field -/
def lenR : List Nat := [8, 384, 384, 384, 384, 384, 8, 48, 48, 48, 48, 8, 48, 48, 48, 0, 0, 13, 13, 78, 39, 13, 13, 13, 13, 13, 13, 13, 0, 0, 4200, 4200, 4200, 34000, 0, 0, 0, 0, 0, 0, 9, 100, 100, 100]
/-- how many members a family has from the start to the end -/
def famN : List Nat := [1, 1, 1, 1, 1, 1, 1, 1, 1, 1, 1, 1, 12, 12, 12, 8, 0, 0, 0, 0, 0, 8, 8, 8, 0, 0, 0, 0, 0, 0, 1, 0, 0, 0, 0, 0, 0, 0, 0, 0,
  1, 1, 1, 1, 1, 1, 1, 1, 1, 1, 1, 1, 1, 1, 1, 0, 0, 1, 1, 1, 1, 1, 1, 1, 1, 1, 1, 1, 0, 0, 1, 1, 1, 1, 0, 0, 0, 0, 0, 0, 1, 1, 1, 1]
abbrev qa (f : Nat → Option Nat) : (Nat → Int32) ⊕ (Nat → Int64) ⊕ (Nat → UInt32) ⊕ (Nat → UInt64) ⊕ (Nat → Option Nat) := .inr (.inr (.inr (.inr f)))
/-- what a cell holds -/
def fc (g : gT) (k i : Nat) (f : Nat → Int32) : va_E :=
  if k = 0 then .inr (10, [.ref (ga g 1 0), .int (f 1)])
  else if k = 1 then .inr (5, [.ref (ga g 2 0), .ref (ga g 4 0), .ref (ga g 10 0), .ref (ga g 5 0), .ref (ga g 11 0), .int (f 5), .int (f 6)])
  else if k = 2 then .inr (8, [.int (f 0), .int (f 1), .int (f 2), .int (f 3), .int (f 4), .int (f 5), .ref (ga g 3 0)])
  else if k = 3 then .inl (gy g 0, 300, .inl f)
  else if k = 4 then .inr (6, [.int (f 0), .int (f 1), .int (f 2), .int (f 3), .int (f 4), .int (f 5), .int (f 6)])
  else if k = 5 then .inr (9, [.ref (ga g 6 0), .ref (ga g 7 0), .ref (ga g 8 0), .ref (ga g 9 0), .int (f 4), .int (f 5)])
  else if k = 6 then .inl (gy g 0, 4800, .inl f)
  else if k = 7 then .inl (gy g 0, 600, .inl f)
  else if k = 8 then .inl (gy g 0, 600, .inl f)
  else if k = 9 then .inl (gy g 0, 600, .inl f)
  else if k = 10 then .inl (gy g 4, 8, qa (fun j => some (ga g 15 j)))
  else if k = 11 then .inl (gy g 5, 12, qa (fun j => some (ga g 12 j)))
  else if k = 12 then .inr (3, [.ref (ga g 13 i), .ref (ga g 14 i), .int (f 2), .int (f 3), .int (f 4), .int (f 5)])
  else if k = 13 then .inl (gy g 0, 6, .inl f)
  else if k = 14 then .inl (gy g 0, 3, .inl f)
  else if k = 15 then .inr (7, [.ref (ga g 21 i), .ref (ga g 22 i), .ref (ga g 23 i)])
  else if k = 18 then .inr (1, [.int (f 0), .int (f 1), .int (f 2), .int (f 3), .int (f 4)])
  else if k = 19 then .inr (4, [.int (f 0), .int (f 1), .int (f 2), .int (f 3)])
  else if k = 20 then .inr (2, [.int (f 0), .int (f 1), .int (f 2)])
  else if k = 21 then .inr (0, [.int (f 0), .ref (ga g 24 i), .int (f 2)])
  else if k = 22 then .inr (0, [.int (f 0), .ref (ga g 25 i), .int (f 2)])
  else if k = 23 then .inr (0, [.int (f 0), .ref (ga g 26 i), .int (f 2)])
  else if k = 24 then .inl (gy g 3, (f 1).toNatClampNeg, qa (fun j => if j < (f 0).toNatClampNeg then some (ga g 18 (48 * i + j)) else none))
  else if k = 25 then .inl (gy g 3, (f 1).toNatClampNeg, qa (fun j => if j < (f 0).toNatClampNeg then some (ga g 19 (6 * i + j)) else none))
  else if k = 26 then .inl (gy g 3, (f 1).toNatClampNeg, qa (fun j => if j < (f 0).toNatClampNeg then some (ga g 20 (6 * i + j)) else none))
  else if k = 30 then .inr (11, [.ref (ga g 40 0), .ref (ga g 41 0), .ref (ga g 42 0), .ref (ga g 43 0), .ref (ga g 44 0), .ref (ga g 45 0), .ref (ga g 46 0), .ref (ga g 47 0), .ref (ga g 48 0), .ref (ga g 49 0), .ref (ga g 50 0), .ref (ga g 51 0), .ref (ga g 52 0), .ref (ga g 53 0), .ref (ga g 54 0), .int (f 15), .int (f 16), .ref (ga g 57 0), .ref (ga g 58 0), .ref (ga g 59 0), .ref (ga g 60 0), .ref (ga g 61 0), .ref (ga g 62 0), .ref (ga g 63 0), .ref (ga g 64 0), .ref (ga g 65 0), .ref (ga g 66 0), .ref (ga g 67 0), .int (f 28), .int (f 29), .ref (ga g 70 0), .ref (ga g 71 0), .ref (ga g 72 0), .ref (ga g 73 0), .int (f 34), .int (f 35), .int (f 36), .int (f 37), .int (f 38), .int (f 39), .ref (ga g 80 0), .ref (ga g 81 0), .ref (ga g 82 0), .ref (ga g 83 0)])
  else if k = 73 then .inl (gy g 2, 34000, .inr (.inl (fun j => (f j).toInt64)))
  else if k = 61 then .inl (gy g 1, 13, .inl f)
  else if k = 62 then .inl (gy g 1, 13, .inl f)
  else .inl (gy g 0, lenR.getD (k - 40) 0, .inl f)
/-- which families the lists are -/
def lsF (k : Nat) : Bool := decide (18 ≤ k) && decide (k ≤ 26)
/-- the cells that must be there: those from the start; the lists' arrays and their elements as far as they are filled -/
def gok (g : gT) (x : st) : Prop :=
  (∀ k i, i < famN.getD k 0 → gd g k i) ∧
  (∀ m, m < 8 → x 21 m 2 = x 24 m 0 ∧ x 22 m 2 = x 25 m 0 ∧ x 23 m 2 = x 26 m 0) ∧
  (∀ m j, m < 8 → j < (x 24 m 0).toNatClampNeg → gd g 24 m ∧ gd g 18 (48 * m + j) ∧ j < (x 24 m 1).toNatClampNeg) ∧
  (∀ m j, m < 8 → j < (x 25 m 0).toNatClampNeg → gd g 25 m ∧ gd g 19 (6 * m + j) ∧ j < (x 25 m 1).toNatClampNeg) ∧
  (∀ m j, m < 8 → j < (x 26 m 0).toNatClampNeg → gd g 26 m ∧ gd g 20 (6 * m + j) ∧ j < (x 26 m 1).toNatClampNeg)
def iw (D : va_G) (z : Nat) (ad : Nat → Nat → Nat) (dm : Nat → Nat → Prop) (ce : Nat → Nat → va_E) (H : Heap) : Prop :=
  (∀ k i, dm k i → va_at D vwCl (ad k i, ce k i) H) ∧ (∀ k i k' i', dm k i → dm k' i' → ad k i = ad k' i' → k = k' ∧ i = i') ∧ ∀ k i, dm k i → z ≤ ad k i
def fcs (g : gT) (x : st) : Nat → Nat → va_E := fun k i => fc g k i (x k i)
def wst (g : gT) (x : st) (H : Heap) : Prop := iw (gD g) (gz g) (ga g) (gd g) (fcs g x) H ∧ gok g x
def tyl (g : gT) : List (ClassId × FieldType) := [(gy g 0, .int), (gy g 1, .boolean), (gy g 2, .long), (gy g 3, .object "java/lang/Object"), (gy g 4, .object "StepBudgets$Method"), (gy g 5, .object "StepBudgets$Frame")]
/-- words that warming may change: carried beside the others -/
def nestL : List Cond := [.methodLinkNest RX0 27 yX10_within "StepBudgets", .methodLinkNest RX9 37 yX10_within "StepBudgets", .methodLinkNest RX8 43 yX10_within "StepBudgets",
  .methodLinkNest RX4 11 yX8_init "StepBudgets", .methodLinkNest RX4 20 yX5_init "StepBudgets", .methodLinkNest RX4 33 yX9_init "StepBudgets", .methodLinkNest RX4 44 yX6_init "StepBudgets", .methodLinkNest RX4 45 yX2_init "StepBudgets",
  .methodLinkNest RX10 46 yX0_init "StepBudgets", .methodLinkNest RX10 61 yX3_init "StepBudgets", .methodLinkNest RX10 69 yX1_init "StepBudgets",
  .castable "StepBudgets$Act" "java/lang/Object", .castable "StepBudgets$Guard" "java/lang/Object", .castable "StepBudgets$Clean" "java/lang/Object",
  .declares ⟨"java/lang/Object", "getClass", "()Ljava/lang/Class;"⟩]
def endsV (q : Nat) : List Int32 := [[6, 6, 6, 6, 6, 6, 0, 6, 3, 3, 6, 6, 3, 6, 6, 0], [0, 6, 6, 6, 6, 6, 49, 49, 3, 3, 3, 3, 3, 8, 0, 10], [0, 6, 6, 6, 6, 6, 0, 0, 6, 6, 3, 0, 6, 3, 0, 0], [0, 0, 0, 0, 0, 0, 0, 0, 0, 6, 6, 0, 0, 6, 0, 0]].getD q []
def endsN (q : Nat) : String := ["ENDS_A", "ENDS_B", "ENDS_C", "ENDS_D"].getD q ""
def outN : List String := ["GOES_ON", "GAVE", "THREW", "STOPPED", "ENDED"]
/-- what holds of every state: classes, words, constants -/
def gst (g : gT) (U : State) : Prop :=
  gz g ≤ U.heap.size ∧ va_K (gD g) vwCl (tyl g) U ∧ (∀ w ∈ nestL, va_Nw w U) ∧
  va_En "StepBudgets$Outcome" "LStepBudgets$Outcome;" outN [] (ge g) (zA (gz g)) U U.heap ∧
  (∀ q, q < 4 → va_Z "StepBudgets$Act" (endsN q) "[I" (.ref (ge g (10 + q))) (zA (gz g)) U U.heap ∧ va_T .int (ge g (10 + q)) 16 (fun j => .int ((endsV q).getD j 0)) (zA (gz g)) U U.heap) ∧
  (va_Z "java/util/ArrayList" "DEFAULTCAPACITY_EMPTY_ELEMENTDATA" "[Ljava/lang/Object;" (.ref (ge g 20)) (zA (gz g)) U U.heap ∧ va_T (.object "java/lang/Object") (ge g 20) 0 (fun _ => .null) (zA (gz g)) U U.heap) ∧
  (va_AO "java/lang/Object" U ∧ va_AO "StepBudgets$Method" U ∧ va_AO "StepBudgets$Frame" U) ∧ va_Mi "[Ljava/lang/Object;" (ge g 21) U
theorem nest_warm {s U : State} (hW : s.WarmedH U.vm) (h : ∀ w ∈ nestL, va_Nw w s) : ∀ w ∈ nestL, va_Nw w U := by
  intro w hw
  have h1 := h w hw
  have h2 : (∃ a i x q, w = .methodLinkNest a i x q) ∨ (∃ C T, w = .castable C T) ∨ ∃ x, w = .declares x := by
    simp only [nestL, List.mem_cons, List.not_mem_nil, or_false] at hw
    rcases hw with rfl | rfl | rfl | rfl | rfl | rfl | rfl | rfl | rfl | rfl | rfl | rfl | rfl | rfl | rfl <;> simp
  rcases h2 with ⟨a, i, x, q, rfl⟩ | ⟨C, T, rfl⟩ | ⟨x, rfl⟩
  · exact va_Nw.warmM hW h1
  · exact va_Nw.warmC hW h1
  · exact va_Nw.warmD hW h1
theorem gst.call {g : gT} {s : State} {H : Heap} {locs : List Loc} (h : gst g s) (hS : va_S (zA (gz g)) s.heap H locs) (U : State) (hU : U.heap = H) (hW : s.WarmedH U.vm) : gst g U := by
  obtain ⟨h1, h2, h3, h4, h5, h6, h7, h8⟩ := h
  have hk : ∀ a : Nat, a < s.heap.size → ¬ zA (gz g) a → U.heap[a]? = s.heap[a]? := fun a ha hA => by rw [hU]; exact hS.2.1 a ha hA
  refine ⟨Nat.le_trans h1 (by rw [hU]; exact hS.1), va_K.moved hW.alike h2, nest_warm hW h3, (h4.kept hk).moved hW.alike, fun q hq => ⟨((h5 q hq).1.kept hk).moved hW.alike, ((h5 q hq).2.kept hk).moved hW.alike⟩, ⟨(h6.1.kept hk).moved hW.alike, (h6.2.kept hk).moved hW.alike⟩, ⟨h7.1.moved hW.alike, h7.2.1.moved hW.alike, h7.2.2.moved hW.alike⟩, va_Mi.moved hW.alike h8⟩
theorem gst.calling {g : gT} {a : Array Value} {U : State} {f : JFrame} {mk : MethodId} (h : gst g U) : gst g (U.calling f mk a) := by
  obtain ⟨h1, h2, h3, h4, h5, h6, h7, h8⟩ := h
  have hv : U.vm.Alike (U.calling f mk a).vm := Vm.Alike.refl U.vm
  exact ⟨h1, va_K.moved hv h2, fun w hw => (va_Nw.same (by
    have : ∀ w ∈ nestL, w.onTables = true := by decide +kernel
    exact this w hw) (show U.vm = (U.calling f mk a).vm from rfl) (h3 w hw)), h4.moved hv, fun q hq => ⟨(h5 q hq).1.moved hv, (h5 q hq).2.moved hv⟩, ⟨h6.1.moved hv, h6.2.moved hv⟩, ⟨h7.1.moved hv, h7.2.1.moved hv, h7.2.2.moved hv⟩, va_Mi.moved hv h8⟩
