/-! the pure level: small things, the text, the told row -/
theorem i0 : (0 : Int32).toInt = 0 := by decide
theorem lt_i {a b : Int32} : a < b ↔ a.toInt < b.toInt := Int32.lt_iff_toInt_lt
theorem le_i {a b : Int32} : a ≤ b ↔ a.toInt ≤ b.toInt := Int32.le_iff_toInt_le
theorem sub1_i {a : Int32} (h : 0 ≤ a.toInt) : (a - 1).toInt = a.toInt - 1 := by
  have h2 := Int32.toInt_lt a
  rw [Int32.toInt_sub, show (1 : Int32).toInt = 1 from by decide]
  exact Int.bmod_eq_of_le (by omega) (by omega)
theorem add_i {a b : Int32} (h : -2147483648 ≤ a.toInt + b.toInt) (h2 : a.toInt + b.toInt < 2147483648) : (a + b).toInt = a.toInt + b.toInt := by
  rw [Int32.toInt_add]
  exact Int.bmod_eq_of_le (by omega) (by omega)
theorem inb_t {i : Int32} {n : Nat} (h0 : 0 ≤ i.toInt) (h1 : i.toInt < n) : inb i n = true := by
  have h3 : ¬ i < 0 := by rw [lt_i, i0]; omega
  have h2 : ¬ n ≤ i.toNatClampNeg := by show ¬ n ≤ i.toInt.toNat; omega
  simp only [inb, h3, h2, decide_false, Bool.or_self, Bool.not_false]
theorem cmp_lt {a b : Int64} : (lg_cmp a b < 0) ↔ a.toInt < b.toInt := by
  unfold lg_cmp
  by_cases h : a > b
  · rw [if_pos h]
    have h' : b.toInt < a.toInt := Int64.lt_iff_toInt_lt.mp h
    exact ⟨fun q => absurd q (by decide), fun q => by omega⟩
  · rw [if_neg h]
    have h' : ¬ b.toInt < a.toInt := fun q => h (Int64.lt_iff_toInt_lt.mpr q)
    by_cases h2 : a = b
    · rw [if_pos h2]
      subst h2
      exact ⟨fun q => absurd q (by decide), fun q => by omega⟩
    · rw [if_neg h2]
      have h3 : a.toInt ≠ b.toInt := fun q => h2 (Int64.toInt_inj.mp q)
      exact ⟨fun _ => by omega, fun _ => by decide⟩
theorem cmp_gt {a b : Int64} : (0 < lg_cmp a b) ↔ b.toInt < a.toInt := by
  unfold lg_cmp
  by_cases h : a > b
  · rw [if_pos h]
    exact ⟨fun _ => Int64.lt_iff_toInt_lt.mp h, fun _ => by decide⟩
  · rw [if_neg h]
    have h' : ¬ b.toInt < a.toInt := fun q => h (Int64.lt_iff_toInt_lt.mpr q)
    by_cases h2 : a = b
    · rw [if_pos h2]
      exact ⟨fun q => absurd q (by decide), fun q => absurd q h'⟩
    · rw [if_neg h2]
      exact ⟨fun q => absurd q (by decide), fun q => absurd q h'⟩
theorem in_c (a b c : Int32) : fX12_in a.toInt64 b.toInt64 c.toInt64 = some (if b.toInt ≤ a.toInt ∧ a.toInt ≤ c.toInt then 1 else 0) := by
  unfold fX12_in
  simp only [cmp_lt, cmp_gt, Int32.toInt_toInt64]
  by_cases h1 : a.toInt < b.toInt
  · rw [if_pos h1, if_neg (by omega)]
  · rw [if_neg h1]
    by_cases h2 : c.toInt < a.toInt
    · rw [if_pos h2, if_neg (by omega)]
    · rw [if_neg h2, if_pos (by omega)]
def TXT (zxz : Int32) (zsg : Nat → Int32) (mta : Nat → Int32) (mtp : Int32) : Prop := mtp = zxz ∧ mta = zsg ∧ 0 ≤ zxz.toInt ∧ zxz.toInt ≤ 80
def TLD (ztz : Int32) (ztn : Nat → Int64) (mto : Int32) (mrw : Nat → Int64) : Prop := mto = ztz ∧ 0 ≤ ztz.toInt ∧ ztz.toInt ≤ 24 ∧ ∀ i : Nat, (i : Int) < ztz.toInt → ztn i = mrw i
theorem in_y {a c : Int32} (h : 0 ≤ a.toInt ∧ a.toInt ≤ c.toInt) : fX12_in a.toInt64 0 c.toInt64 = some 1 := by
  rw [show (0 : Int64) = (0 : Int32).toInt64 from rfl, in_c, i0, if_pos h]
theorem in_n {a c : Int32} (h : ¬ (0 ≤ a.toInt ∧ a.toInt ≤ c.toInt)) : fX12_in a.toInt64 0 c.toInt64 = some 0 := by
  rw [show (0 : Int64) = (0 : Int32).toInt64 from rfl, in_c, i0, if_neg h]
theorem p_end {zxz mth mtp : Int32} {zsg mta : Nat → Int32} (h : TXT zxz zsg mta mtp) (a1 : Int32) : ∃ (r' zxz' mth' mtp' : Int32), fX11_end zxz a1 = some (r', zxz') ∧ fX12_end mth mtp a1 = some (r', mth', mtp') ∧ TXT zxz' zsg mta mtp' := by
  obtain ⟨rfl, rfl, h0, h1⟩ := h
  unfold fX11_end fX12_end
  simp only [lt_i, le_i, i0]
  by_cases q1 : a1.toInt < 0
  · exact ⟨0, mtp, 0, mtp, by rw [if_pos q1], by rw [in_n (by omega)]; rfl, rfl, rfl, h0, h1⟩
  · by_cases q2 : a1.toInt ≤ mtp.toInt
    · exact ⟨1, a1, 0, a1, by rw [if_neg q1, if_pos q2], by rw [in_y (by omega)]; rfl, rfl, rfl, by omega, by omega⟩
    · exact ⟨0, mtp, 0, mtp, by rw [if_neg q1, if_neg q2], by rw [in_n (by omega)]; rfl, rfl, rfl, h0, h1⟩
theorem p_row {ztz mto mth : Int32} {ztn mrw : Nat → Int64} (h : TLD ztz ztn mto mrw) (a1 : Int32) : ∃ (r' : Option Int64) (b' : Int64) (mth' : Int32), fX11_row ztz ztn a1 = some r' ∧ fX12_row mth mto mrw a1 = some (b', mth') ∧ ((r' = none ∧ mth' = 1) ∨ (r' = some b' ∧ mth' = 0)) := by
  obtain ⟨rfl, h0, h1, h2⟩ := h
  have h3 := sub1_i h0
  unfold fX11_row fX12_row fX11_row_15
  simp only [lt_i, i0]
  by_cases q1 : a1.toInt < 0
  · exact ⟨none, 0, 1, by rw [if_pos q1], by rw [in_n (by omega)]; rfl, Or.inl ⟨rfl, rfl⟩⟩
  · by_cases q2 : a1.toInt < mto.toInt
    · refine ⟨some (mrw a1.toNatClampNeg), mrw a1.toNatClampNeg, 0, ?_, ?_, Or.inr ⟨rfl, rfl⟩⟩
      · rw [if_neg q1, if_pos q2, inb_t (by omega) (by omega), h2 a1.toNatClampNeg (by show (a1.toInt.toNat : Int) < _; omega)]; rfl
      · rw [in_y (by omega)]
        show grd (inb a1 32) _ = _
        rw [inb_t (by omega) (by omega)]; rfl
    · exact ⟨none, 0, 1, by rw [if_neg q1, if_neg q2], by rw [in_n (by omega)]; rfl, Or.inl ⟨rfl, rfl⟩⟩
