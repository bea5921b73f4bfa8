/-! a list's size and elements, in the state's words -/
theorem chk_idx {j n : Int32} {x : st} (h0 : ¬ j < 0) (h : j < n) : f_J15_checkIndex_7cf53 j n x = some (j, x) := by
  simp [f_J15_checkIndex_7cf53, f_J3_checkIndex_8e157, bnd, h0, h]
theorem inb_lt32 {j n : Int32} (h : inb j n.toNatClampNeg = true) : ¬ j < 0 ∧ j < n := by
  have h1 := inb_in h
  have h2 := inb_lt h
  refine ⟨fun q => h1 (Or.inl q), ?_⟩
  obtain ⟨a, ha, rfl⟩ := nI_of (fun q => h1 (Or.inl q))
  have hn : ¬ n < 0 := by
    intro q
    have : n.toNatClampNeg = 0 := by
      rw [Int32.lt_iff_toInt_lt, Int32.toInt_zero] at q
      show n.toInt.toNat = 0
      omega
    omega
  obtain ⟨b, hb, rfl⟩ := nI_of hn
  rw [nI_clamp ha, nI_clamp hb] at h2
  exact nI_lt h2 hb
theorem k_size_21 (l : Launch) (g : gT) (i : Nat) (hi : i < 8) (x : st) : Kt l yJx4a65c_size_8abf5 cJx4a65c_size_8abf5 1 (some .int) 0 0 g [.ref (ga g 21 i)] x (some (.int (x 21 i 2))) x := k_Jx4a65c_size_8abf5_21 l g i x _ _ hi rfl
theorem k_get_21 (l : Launch) (g : gT) (i : Nat) (hi : i < 8) {x : st} (hk : gok g x) (j : Int32) (h : inb j (x 24 i 0).toNatClampNeg = true) : Kt l yJx4a65c_get_915e3 cJx4a65c_get_915e3 2 (some (.object "java/lang/Object")) 2 43 g [.ref (ga g 21 i), .int j] x (some (.ref (ga g 18 (48 * i + j.toNatClampNeg)))) x := by
  refine k_Jx4a65c_get_915e3_21 l g i j x _ _ hi ?_
  obtain ⟨h0, h1⟩ := inb_lt32 h
  have hs := (hk.2.1 i hi).1
  rw [← hs] at h1
  simp [f_Jx4a65c_get_915e3_21, chk_idx h0 h1, bnd, f_Jx4a65c_elementData_915e3_21, h]
theorem k_size_22 (l : Launch) (g : gT) (i : Nat) (hi : i < 8) (x : st) : Kt l yJx4a65c_size_8abf5 cJx4a65c_size_8abf5 1 (some .int) 0 0 g [.ref (ga g 22 i)] x (some (.int (x 22 i 2))) x := k_Jx4a65c_size_8abf5_22 l g i x _ _ hi rfl
theorem k_get_22 (l : Launch) (g : gT) (i : Nat) (hi : i < 8) {x : st} (hk : gok g x) (j : Int32) (h : inb j (x 25 i 0).toNatClampNeg = true) : Kt l yJx4a65c_get_915e3 cJx4a65c_get_915e3 2 (some (.object "java/lang/Object")) 2 43 g [.ref (ga g 22 i), .int j] x (some (.ref (ga g 19 (6 * i + j.toNatClampNeg)))) x := by
  refine k_Jx4a65c_get_915e3_22 l g i j x _ _ hi ?_
  obtain ⟨h0, h1⟩ := inb_lt32 h
  have hs := (hk.2.1 i hi).2.1
  rw [← hs] at h1
  simp [f_Jx4a65c_get_915e3_22, chk_idx h0 h1, bnd, f_Jx4a65c_elementData_915e3_22, h]
theorem k_size_23 (l : Launch) (g : gT) (i : Nat) (hi : i < 8) (x : st) : Kt l yJx4a65c_size_8abf5 cJx4a65c_size_8abf5 1 (some .int) 0 0 g [.ref (ga g 23 i)] x (some (.int (x 23 i 2))) x := k_Jx4a65c_size_8abf5_23 l g i x _ _ hi rfl
theorem k_get_23 (l : Launch) (g : gT) (i : Nat) (hi : i < 8) {x : st} (hk : gok g x) (j : Int32) (h : inb j (x 26 i 0).toNatClampNeg = true) : Kt l yJx4a65c_get_915e3 cJx4a65c_get_915e3 2 (some (.object "java/lang/Object")) 2 43 g [.ref (ga g 23 i), .int j] x (some (.ref (ga g 20 (6 * i + j.toNatClampNeg)))) x := by
  refine k_Jx4a65c_get_915e3_23 l g i j x _ _ hi ?_
  obtain ⟨h0, h1⟩ := inb_lt32 h
  have hs := (hk.2.1 i hi).2.2
  rw [← hs] at h1
  simp [f_Jx4a65c_get_915e3_23, chk_idx h0 h1, bnd, f_Jx4a65c_elementData_915e3_23, h]
