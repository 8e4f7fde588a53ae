/-! the pure level: roots -/
theorem sub_i {a b : Int32} (h : -2147483648 ≤ a.toInt - b.toInt) (h2 : a.toInt - b.toInt < 2147483648) : (a - b).toInt = a.toInt - b.toInt := by
  rw [Int32.toInt_sub]
  exact Int.bmod_eq_of_le (by omega) (by omega)
theorem in_y' {a c : Int32} {d : Int64} (hd : d = c.toInt64) (h : 0 ≤ a.toInt ∧ a.toInt ≤ c.toInt) : fX12_in a.toInt64 0 d = some 1 := by rw [hd, in_y h]
theorem in_n' {a c : Int32} {d : Int64} (hd : d = c.toInt64) (h : ¬ (0 ≤ a.toInt ∧ a.toInt ≤ c.toInt)) : fX12_in a.toInt64 0 d = some 0 := by rw [hd, in_n h]
def RTS (X : Nat → Nat → Int32) (mm : Nat → Int32) (b : Nat) : Prop := (∀ k : Nat, k < 6 → X 6 k = mm (b + 33 + k)) ∧ ∀ k : Nat, k < 4 → X 7 k = mm (b + 39 + k)
theorem rootAt_c {X : Nat → Nat → Int32} {a : Int32} (h0 : 0 ≤ a.toInt) (h1 : a.toInt < 6) : fX3_rootAt X a = some (X 6 a.toInt.toNat) := by
  unfold fX3_rootAt
  simp only [lt_i, le_i, i0, show (6 : Int32).toInt = 6 from by decide]
  rw [if_neg (by omega), if_neg (by omega), inb_t h0 (by omega)]
  rfl
theorem weakAt_c {X : Nat → Nat → Int32} {a : Int32} (h0 : 0 ≤ a.toInt) (h1 : a.toInt < 4) : fX3_weakAt X a = some (X 7 a.toInt.toNat) := by
  unfold fX3_weakAt
  simp only [lt_i, le_i, i0, show (4 : Int32).toInt = 4 from by decide]
  rw [if_neg (by omega), if_neg (by omega), inb_t h0 (by omega)]
  rfl
theorem p_root {HS : Nat → Nat → Nat → Int32} {mme : Nat → Int32} {mth : Int32} (h : RTS (HS 0) mme 0) (a1 : Int32) : ∃ (r' : Option Int32) (b' : Int32) (mth' : Int32), fX11_root HS a1 = some r' ∧ fX12_root mth mme a1 = some (b', mth') ∧ ((r' = none ∧ mth' = 1) ∨ (r' = some b' ∧ mth' = 0)) := by
  have i10 : (10 : Int32).toInt = 10 := by decide
  have i9 : (9 : Int32).toInt = 9 := by decide
  have i6 : (6 : Int32).toInt = 6 := by decide
  have i33 : (33 : Int32).toInt = 33 := by decide
  unfold fX11_root fX12_root fX11_root_10
  simp only [lt_i, le_i, i0, i10, i6]
  by_cases q1 : a1.toInt < 0
  · exact ⟨none, 0, 1, by rw [if_pos q1], by rw [in_n' (a := a1) (c := 9) (d := 9) rfl (by omega)]; rfl, Or.inl ⟨rfl, rfl⟩⟩
  · by_cases q2 : a1.toInt < 10
    · have e1 : (33 + a1).toInt = 33 + a1.toInt := by rw [add_i (by omega) (by omega), i33]
      have e2 : (33 + a1).toNatClampNeg = 33 + a1.toInt.toNat := by show (33 + a1).toInt.toNat = _; omega
      refine ⟨some (mme (33 + a1.toInt.toNat)), mme (33 + a1.toInt.toNat), 0, ?_, ?_, Or.inr ⟨rfl, rfl⟩⟩
      · rw [if_neg q1, if_pos q2]
        by_cases q3 : 6 ≤ a1.toInt
        · have e3 : (a1 - 6).toInt = a1.toInt - 6 := by rw [sub_i (by omega) (by omega), i6]
          rw [if_pos q3, weakAt_c (by omega) (by omega), h.2 _ (by omega), show 0 + 39 + (a1 - 6).toInt.toNat = 33 + a1.toInt.toNat by omega]
          rfl
        · rw [if_neg q3, rootAt_c (by omega) (by omega), h.1 _ (by omega), show 0 + 33 + a1.toInt.toNat = 33 + a1.toInt.toNat by omega]
          rfl
      · rw [in_y' (a := a1) (c := 9) (d := 9) rfl (by omega)]
        show grd (inb (33 + a1) 5551) _ = _
        rw [inb_t (by omega) (by omega), e2]
        rfl
    · exact ⟨none, 0, 1, by rw [if_neg q1, if_neg q2], by rw [in_n' (a := a1) (c := 9) (d := 9) rfl (by omega)]; rfl, Or.inl ⟨rfl, rfl⟩⟩
