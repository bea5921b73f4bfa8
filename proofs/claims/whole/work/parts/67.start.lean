/-! the law's start: classes, words, constants -/
theorem st_cl {s : State} {args : Array Value} (hT : ∀ w ∈ Tg, w.before args s = true) : ∃ D : va_G, ∀ (c : Nat) (q : vw_C), vwCl[c]? = some q → u_Kn s q.1 q.2.1 q.2.2 (D.1 c) (D.2 c) := by
  have h : ∀ c : Nat, ∃ q : ClassId × (Nat → Nat), ∀ r : vw_C, vwCl[c]? = some r → u_Kn s r.1 r.2.1 r.2.2 q.1 q.2 := by
    intro c
    match c with
    | 0 => obtain ⟨a, b, h⟩ := u_known hT in_Jx4a65c (hT _ kN_Jx4a65c); exact ⟨(a, b), fun r hr => by cases hr; exact h⟩
    | 1 => obtain ⟨a, b, h⟩ := u_known hT in_X0 (hT _ kN_X0); exact ⟨(a, b), fun r hr => by cases hr; exact h⟩
    | 2 => obtain ⟨a, b, h⟩ := u_known hT in_X1 (hT _ kN_X1); exact ⟨(a, b), fun r hr => by cases hr; exact h⟩
    | 3 => obtain ⟨a, b, h⟩ := u_known hT in_X2 (hT _ kN_X2); exact ⟨(a, b), fun r hr => by cases hr; exact h⟩
    | 4 => obtain ⟨a, b, h⟩ := u_known hT in_X3 (hT _ kN_X3); exact ⟨(a, b), fun r hr => by cases hr; exact h⟩
    | 5 => obtain ⟨a, b, h⟩ := u_known hT in_X4 (hT _ kN_X4); exact ⟨(a, b), fun r hr => by cases hr; exact h⟩
    | 6 => obtain ⟨a, b, h⟩ := u_known hT in_X5 (hT _ kN_X5); exact ⟨(a, b), fun r hr => by cases hr; exact h⟩
    | 7 => obtain ⟨a, b, h⟩ := u_known hT in_X6 (hT _ kN_X6); exact ⟨(a, b), fun r hr => by cases hr; exact h⟩
    | 8 => obtain ⟨a, b, h⟩ := u_known hT in_X8 (hT _ kN_X8); exact ⟨(a, b), fun r hr => by cases hr; exact h⟩
    | 9 => obtain ⟨a, b, h⟩ := u_known hT in_X9 (hT _ kN_X9); exact ⟨(a, b), fun r hr => by cases hr; exact h⟩
    | 10 => obtain ⟨a, b, h⟩ := u_known hT in_X10 (hT _ kN_X10); exact ⟨(a, b), fun r hr => by cases hr; exact h⟩
    | 11 => obtain ⟨a, b, h⟩ := u_known hT in_X11 (hT _ kN_X11); exact ⟨(a, b), fun r hr => by cases hr; exact h⟩
    | c + 12 => exact ⟨((0 : Nat), fun _ => 0), fun r hr => by simp [vwCl] at hr⟩
  obtain ⟨f, hf⟩ := Classical.axiomOfChoice h
  exact ⟨(fun c => (f c).1, fun c => (f c).2), fun c q hq => hf c q hq⟩
theorem st_arr {s : State} {args : Array Value} {ty : FieldType} (h : (Cond.arrayClass ty).before args s = true) (hR : ∀ cA : ClassId, s.vm.findClass ("[" ++ ty.toString) = some cA → va_RA s cA ty) : ∃ cA : ClassId, ArrOfT s cA ty ∧ va_RA s cA ty := by
  obtain ⟨cA, kA, comp, h1, h2, h3⟩ := Cond.arrayClass_spec h
  exact ⟨cA, fun n z => ⟨fun k h => (by cases h), kA, h2, comp, h3⟩, hR cA h1⟩
theorem st_arq {s : State} {args : Array Value} {C : String} (h : (Cond.arrayOver (.object C)).before args s = true) : ∃ cA : ClassId, ArrOfT s cA (.object C) ∧ va_RA s cA (.object C) := by
  obtain ⟨comp, cA, kA, h1, h2, h3, h4, h5⟩ := Cond.arrayOver_spec h
  exact ⟨cA, fun n z => ⟨fun k h => (by cases h), kA, h3, comp, h4⟩, kA, comp, h3, h4, h1, h5⟩
theorem nest_in : ∀ w ∈ nestL, w ∈ lw_tbl := by decide +kernel
theorem nest_tab : ∀ w ∈ nestL, w.onTables = true := by decide +kernel
theorem ends_in : ∀ q, q < 4 → (Cond.arrayOf (.static "StepBudgets$Act" (endsN q) "[I") .int) ∈ flatC (Jvm.Cond.and given_1 narrow_1) ∧ (Cond.eq (.length (.static "StepBudgets$Act" (endsN q) "[I")) (.int (Int32.ofNat 16))) ∈ flatC (Jvm.Cond.and given_1 narrow_1) ∧ (Cond.laysStatic "StepBudgets$Act" (endsN q) "[I") ∈ lw_tbl ∧ ∀ j, j < 16 → (Cond.eq (.elem (.static "StepBudgets$Act" (endsN q) "[I") (.int (Int32.ofNat j))) (.int ((endsV q).getD j 0))) ∈ flatC (Jvm.Cond.and given_1 narrow_1) := by decide +kernel
theorem outs_in : ∀ i, i < 5 → (Cond.laysStatic "StepBudgets$Outcome" (outN.getD i "") "LStepBudgets$Outcome;") ∈ lw_tbl ∧ (Cond.exactly (.static "StepBudgets$Outcome" (outN.getD i "") "LStepBudgets$Outcome;") "StepBudgets$Outcome") ∈ flatC (Jvm.Cond.and given_1 narrow_1) := by decide +kernel
theorem outs_ne : ∀ i, i < 5 → ∀ j, j < 5 → i ≠ j → (Cond.not (.eq (.static "StepBudgets$Outcome" (outN.getD i "") "LStepBudgets$Outcome;") (.static "StepBudgets$Outcome" (outN.getD j "") "LStepBudgets$Outcome;"))) ∈ flatC (Jvm.Cond.and given_1 narrow_1) ∨ (Cond.not (.eq (.static "StepBudgets$Outcome" (outN.getD j "") "LStepBudgets$Outcome;") (.static "StepBudgets$Outcome" (outN.getD i "") "LStepBudgets$Outcome;"))) ∈ flatC (Jvm.Cond.and given_1 narrow_1) := by decide +kernel
theorem st_gst {s : State} {args : Array Value} (hts : ∀ w ∈ lw_tbl, w.before args s = true) (hgv : (Jvm.Cond.and given_1 narrow_1).before args s = true) : ∃ (D : va_G) (y : Nat → ClassId) (e : Nat → Nat), ∀ (ad : Nat → Nat → Nat) (dm : Nat → Nat → Prop), gst (D, y, e, s.heap.size, ad, dm) s := by
  have hT : ∀ w ∈ Tg, w.before args s = true := fun w hw => hts w (List.mem_filter.mp hw).1
  have hs := flat_of_before _ hgv
  have hA : ∀ a : Nat, a < s.heap.size → ¬ zA s.heap.size a := fun a h q => Nat.lt_irrefl _ (Nat.lt_of_lt_of_le h q)
  obtain ⟨D, hD⟩ := st_cl hT
  obtain ⟨y0, h0⟩ := st_arr (hT _ kA_int) (fun _ h => h)
  obtain ⟨y1, h1⟩ := st_arr (hT _ kA_boolean) (fun _ h => h)
  obtain ⟨y2, h2⟩ := st_arr (hT _ kA_long) (fun _ h => h)
  have o3 := hts (.arrayOver (.object "java/lang/Object")) (by decide +kernel)
  have o4 := hts (.arrayOver (.object "StepBudgets$Method")) (by decide +kernel)
  have o5 := hts (.arrayOver (.object "StepBudgets$Frame")) (by decide +kernel)
  obtain ⟨y3, h3⟩ := st_arq o3
  obtain ⟨y4, h4⟩ := st_arq o4
  obtain ⟨y5, h5⟩ := st_arq o5
  obtain ⟨ad, hE⟩ := va_Enof (args := args) (s := s) (E := "StepBudgets$Outcome") (d := "LStepBudgets$Outcome;") (nm := outN) (F := []) (A := zA s.heap.size) (fun i hi => hts _ (outs_in i hi).1) (hT _ kI_X7) (fun i hi => hs _ (outs_in i hi).2) (fun q hq => by cases hq) (fun i j hi hj hij => (outs_ne i hi j hj hij).imp (fun h => hs _ h) (fun h => hs _ h)) hA
  have hends : ∀ q : Nat, ∃ t : Nat, q < 4 → va_Z "StepBudgets$Act" (endsN q) "[I" (.ref t) (zA s.heap.size) s s.heap ∧ va_T .int t 16 (fun j => .int ((endsV q).getD j 0)) (zA s.heap.size) s s.heap := by
    intro q
    by_cases hq : q < 4
    · obtain ⟨e1, e2, e3, e4⟩ := ends_in q hq
      obtain ⟨t, ht, hTt⟩ := va_Tof (f := fun j => .int ((endsV q).getD j 0)) (A := zA s.heap.size) (N := 16) (by decide) (hs _ e1) (va_eqt (hs _ e2)) (fun j hj => va_eqt (hs _ (e4 j hj))) hA
      exact ⟨t, fun _ => ⟨va_Zref (hts _ e3) (hT _ kI_X0) ht hA, hTt⟩⟩
    · exact ⟨0, fun h => absurd h hq⟩
  obtain ⟨te, hte⟩ := Classical.axiomOfChoice hends
  obtain ⟨tl, htl, hTl⟩ := va_Tof (tm := .static "java/util/ArrayList" "DEFAULTCAPACITY_EMPTY_ELEMENTDATA" "[Ljava/lang/Object;") (ty := .object "java/lang/Object") (f := fun _ => .null) (A := zA s.heap.size) (N := 0) (by decide) (hs _ (by decide +kernel)) (va_eqt (hs _ (by decide +kernel))) (fun j hj => absurd hj (Nat.not_lt_zero _)) hA
  have hZl := va_Zref (hts (.laysStatic "java/util/ArrayList" "DEFAULTCAPACITY_EMPTY_ELEMENTDATA" "[Ljava/lang/Object;") (by decide +kernel)) (hT _ kI_Jx4a65c) htl hA
  obtain ⟨mi, hmi⟩ := va_Mi.of (hs (.isRef (.mirror "[Ljava/lang/Object;")) (by decide +kernel))
  refine ⟨D, fun q => if q = 0 then y0 else if q = 1 then y1 else if q = 2 then y2 else if q = 3 then y3 else if q = 4 then y4 else y5, fun q => if q < 5 then ad q else if q < 14 then te (q - 10) else if q = 20 then tl else mi, fun ad' dm' => ⟨Nat.le_refl _, ⟨hD, fun k q hk => ?_⟩, fun w hw => va_Nw.of (nest_tab w hw) (hts w (nest_in w hw)), ⟨fun i hi => ?_, fun i j hi hj => ?_⟩, fun q hq => ?_, ⟨hZl, hTl⟩, ⟨va_AO.of o3, va_AO.of o4, va_AO.of o5⟩, hmi⟩⟩
  · match k, hk with
    | 0, hk => cases hk; exact h0
    | 1, hk => cases hk; exact h1
    | 2, hk => cases hk; exact h2
    | 3, hk => cases hk; exact h3
    | 4, hk => cases hk; exact h4
    | 5, hk => cases hk; exact h5
    | k + 6, hk => simp [tyl] at hk
  · have hi5 : i < 5 := hi
    have e : (if i < 5 then ad i else if i < 14 then te (i - 10) else if i = 20 then tl else mi) = ad i := if_pos hi5
    show va_Z _ _ _ (.ref (if i < 5 then ad i else if i < 14 then te (i - 10) else if i = 20 then tl else mi)) _ _ _ ∧ va_O _ (if i < 5 then ad i else if i < 14 then te (i - 10) else if i = 20 then tl else mi) _ _ _ ∧ _
    rw [e]
    exact ⟨(hE.1 i hi).1, (hE.1 i hi).2.1, fun q hq => by cases hq⟩
  · have hi5 : i < 5 := hi
    have hj5 : j < 5 := hj
    show (if i < 5 then ad i else if i < 14 then te (i - 10) else if i = 20 then tl else mi) = (if j < 5 then ad j else if j < 14 then te (j - 10) else if j = 20 then tl else mi) → i = j
    rw [if_pos hi5, if_pos hj5]
    exact hE.2 i j hi hj
  · have e : (if 10 + q < 5 then ad (10 + q) else if 10 + q < 14 then te (10 + q - 10) else if 10 + q = 20 then tl else mi) = te q := by
      rw [if_neg (by omega), if_pos (by omega), show 10 + q - 10 = q by omega]
    show va_Z _ _ _ (.ref (if 10 + q < 5 then ad (10 + q) else if 10 + q < 14 then te (10 + q - 10) else if 10 + q = 20 then tl else mi)) _ _ _ ∧ va_T _ (if 10 + q < 5 then ad (10 + q) else if 10 + q < 14 then te (10 + q - 10) else if 10 + q = 20 then tl else mi) _ _ _ _ _
    rw [e]
    exact hte q hq
