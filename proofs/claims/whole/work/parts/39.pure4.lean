/-! the pure level: field -/
theorem fieldAt_c {X : Nat → Nat → Int32} {a k : Int32} (a0 : 0 ≤ a.toInt) (a1 : a.toInt < 24) (k0 : 0 ≤ k.toInt) (k1 : k.toInt < 4) : fX3_fieldAt X a k = some (X 5 (4 * a.toInt.toNat + k.toInt.toNat)) := by
  have i4 : (4 : Int32).toInt = 4 := by decide
  have i24 : (24 : Int32).toInt = 24 := by decide
  have e1 : (a * 4).toInt = a.toInt * 4 := by rw [mul_i (by rw [i4]; omega) (by rw [i4]; omega), i4]
  have e2 : (a * 4 + k).toInt = a.toInt * 4 + k.toInt := by rw [add_i (by omega) (by omega), e1]
  have e3 : (a * 4 + k).toNatClampNeg = 4 * a.toInt.toNat + k.toInt.toNat := by
    show (a * 4 + k).toInt.toNat = _
    omega
  unfold fX3_fieldAt
  simp only [lt_i, le_i, i0, i4, i24]
  rw [if_neg (by omega), if_neg (by omega), if_neg (by omega), if_neg (by omega), inb_t (by omega) (by omega), e3]
  rfl
theorem p_field {HS : Nat → Nat → Nat → Int32} {mme : Nat → Int32} {mth mde : Int32} (hT : THR (HS 0) mme 0) (hF : FLD (HS 0) mme 0) (hd : mde = 0) (a1 a2 : Int32) : ∃ (r' : Option Int32) (b' : Int32) (mth' : Int32), fX11_field HS a1 a2 = some r' ∧ fX12_field mth mme mde a1 a2 = some (b', mth') ∧ ((r' = none ∧ mth' = 1) ∨ (r' = some b' ∧ mth' = 0)) := by
  have hd' : mde.toInt = ((0 : Nat) : Int) := by rw [hd]; rfl
  have i1 : (1 : Int32).toInt = 1 := by decide
  have i7 : (7 : Int32).toInt = 7 := by decide
  unfold fX11_field fX12_field fX3_hasField
  by_cases q : 0 ≤ a1.toInt ∧ a1.toInt < 24 ∧ jushr ((HS 0) 0 0) a1 &&& 1 = 1
  · obtain ⟨q0, q1, q2⟩ := q
    obtain ⟨f1, f2, f3, f4⟩ := hF a1 q0 q1 q2
    rw [has_y q0 q1 q2, there_y hT hd' (by decide) q0 q1 q2, of_c hd' (by decide) q0 q1 (by decide) (by decide)]
    have f1' : mme (0 + 163 + 11 * a1.toInt.toNat + (1 : Int32).toInt.toNat) = (HS 0) 1 a1.toInt.toNat := f1
    rw [f1']
    have e1 := sub1_i f2
    simp only [bnd1, lt_i, le_i, i0]
    have hi : inb a1 24 = true := inb_t q0 (by omega)
    by_cases c1 : a2.toInt < 0
    · refine ⟨none, 0, 1, ?_, ?_, Or.inl ⟨rfl, rfl⟩⟩
      · rw [if_pos c1]; rfl
      · rw [in_n (by omega)]; rfl
    · rw [if_neg c1, hi]
      by_cases c2 : ((HS 0) 1 a1.toInt.toNat).toInt ≤ a2.toInt
      · refine ⟨none, 0, 1, ?_, ?_, Or.inl ⟨rfl, rfl⟩⟩
        · have c3 : ((HS 0) 1 a1.toNatClampNeg).toInt ≤ a2.toInt := c2
          rw [if_pos c3]; rfl
        · rw [in_n (by omega)]; rfl
      · have e7 : (7 + a2).toInt = 7 + a2.toInt := by rw [add_i (by omega) (by omega), i7]
        have g := f4 a2.toInt.toNat (by omega)
        refine ⟨some ((HS 0) 5 (4 * a1.toInt.toNat + a2.toInt.toNat)), (HS 0) 5 (4 * a1.toInt.toNat + a2.toInt.toNat), 0, ?_, ?_, Or.inr ⟨rfl, rfl⟩⟩
        · have c3 : ¬ ((HS 0) 1 a1.toNatClampNeg).toInt ≤ a2.toInt := c2
          rw [if_neg c3, fieldAt_c q0 q1 (by omega) (by omega)]; rfl
        · rw [in_y (by omega)]
          show fX12_field_32 mme mde a1 a2 mth 0 = _
          unfold fX12_field_32 fX12_fieldOf
          rw [of_c hd' (by decide) q0 q1 (by omega) (by omega), ← g, show (7 + a2).toInt.toNat = 7 + a2.toInt.toNat by omega]
          rfl
  · rw [has_n q, there_n hT hd' (by decide) q]
    exact ⟨none, 0, 1, rfl, rfl, Or.inl ⟨rfl, rfl⟩⟩
