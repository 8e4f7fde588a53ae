/-! the pure level: objects, field -/
theorem mul_i {a b : Int32} (h : -2147483648 ≤ a.toInt * b.toInt) (h2 : a.toInt * b.toInt < 2147483648) : (a * b).toInt = a.toInt * b.toInt := by
  rw [Int32.toInt_mul]
  exact Int.bmod_eq_of_le (by omega) (by omega)
theorem of_i {d a f : Int32} {b : Nat} (hd : d.toInt = b) (hb : b ≤ 5124) (a0 : 0 ≤ a.toInt) (a1 : a.toInt < 24) (f0 : 0 ≤ f.toInt) (f1 : f.toInt < 11) : (((d + 163) + (11 * a)) + f).toInt = b + 163 + 11 * a.toInt + f.toInt := by
  have i163 : (163 : Int32).toInt = 163 := by decide
  have i11 : (11 : Int32).toInt = 11 := by decide
  have e1 : (d + 163).toInt = b + 163 := by rw [add_i (by omega) (by omega), hd, i163]
  have e2 : (11 * a).toInt = 11 * a.toInt := by rw [mul_i (by rw [i11]; omega) (by rw [i11]; omega), i11]
  have e3 : ((d + 163) + (11 * a)).toInt = b + 163 + 11 * a.toInt := by rw [add_i (by omega) (by omega), e1, e2]
  rw [add_i (by omega) (by omega), e3]
theorem of_c {mm : Nat → Int32} {d a f : Int32} {b : Nat} (hd : d.toInt = b) (hb : b ≤ 5124) (a0 : 0 ≤ a.toInt) (a1 : a.toInt < 24) (f0 : 0 ≤ f.toInt) (f1 : f.toInt < 11) : fX12_of mm d a f = some (mm (b + 163 + 11 * a.toInt.toNat + f.toInt.toNat)) := by
  have e := of_i hd hb a0 a1 f0 f1
  have e2 : (((d + 163) + (11 * a)) + f).toNatClampNeg = b + 163 + 11 * a.toInt.toNat + f.toInt.toNat := by
    show (((d + 163) + (11 * a)) + f).toInt.toNat = _
    omega
  unfold fX12_of
  rw [inb_t (by omega) (by omega), e2]
  rfl
def THR (X : Nat → Nat → Int32) (mm : Nat → Int32) (b : Nat) : Prop := ∀ a : Int32, 0 ≤ a.toInt → a.toInt < 24 → mm (b + 163 + 11 * a.toInt.toNat) = jushr (X 0 0) a &&& 1
def FLD (X : Nat → Nat → Int32) (mm : Nat → Int32) (b : Nat) : Prop := ∀ a : Int32, 0 ≤ a.toInt → a.toInt < 24 → jushr (X 0 0) a &&& 1 = 1 → mm (b + 163 + 11 * a.toInt.toNat + 1) = X 1 a.toInt.toNat ∧ 0 ≤ (X 1 a.toInt.toNat).toInt ∧ (X 1 a.toInt.toNat).toInt ≤ 4 ∧ ∀ k : Nat, k < 4 → mm (b + 163 + 11 * a.toInt.toNat + (7 + k)) = X 5 (4 * a.toInt.toNat + k)
theorem has_y {X : Nat → Nat → Int32} {a : Int32} (a0 : 0 ≤ a.toInt) (a1 : a.toInt < 24) (h : jushr (X 0 0) a &&& 1 = 1) : fX3_has X a = some 1 := by
  unfold fX3_has
  simp only [lt_i, le_i, i0, show (24 : Int32).toInt = 24 from by decide]
  rw [if_neg (by omega), if_neg (by omega), if_pos h]
theorem has_n {X : Nat → Nat → Int32} {a : Int32} (h : ¬ (0 ≤ a.toInt ∧ a.toInt < 24 ∧ jushr (X 0 0) a &&& 1 = 1)) : fX3_has X a = some 0 := by
  unfold fX3_has
  simp only [lt_i, le_i, i0, show (24 : Int32).toInt = 24 from by decide]
  by_cases q1 : a.toInt < 0
  · rw [if_pos q1]
  · rw [if_neg q1]
    by_cases q2 : 24 ≤ a.toInt
    · rw [if_pos q2]
    · rw [if_neg q2, if_neg (fun q => h ⟨by omega, by omega, q⟩)]
theorem there_y {X : Nat → Nat → Int32} {mm : Nat → Int32} {d a : Int32} {b : Nat} (hT : THR X mm b) (hd : d.toInt = b) (hb : b ≤ 5124) (a0 : 0 ≤ a.toInt) (a1 : a.toInt < 24) (h : jushr (X 0 0) a &&& 1 = 1) : fX12_isThere mm d a = some 1 := by
  have i23 : (23 : Int32).toInt = 23 := by decide
  unfold fX12_isThere
  rw [in_y' (a := a) (c := 23) (d := 23) rfl (by omega), of_c hd hb a0 a1 (by decide) (by decide)]
  show (if mm (b + 163 + 11 * a.toInt.toNat) = 1 then some (1 : Int32) else some 0) = some 1
  rw [hT a a0 a1, if_pos h]
theorem there_n {X : Nat → Nat → Int32} {mm : Nat → Int32} {d a : Int32} {b : Nat} (hT : THR X mm b) (hd : d.toInt = b) (hb : b ≤ 5124) (h : ¬ (0 ≤ a.toInt ∧ a.toInt < 24 ∧ jushr (X 0 0) a &&& 1 = 1)) : fX12_isThere mm d a = some 0 := by
  have i23 : (23 : Int32).toInt = 23 := by decide
  unfold fX12_isThere
  by_cases q : 0 ≤ a.toInt ∧ a.toInt < 24
  · rw [in_y' (a := a) (c := 23) (d := 23) rfl (by omega), of_c hd hb q.1 q.2 (by decide) (by decide)]
    show (if mm (b + 163 + 11 * a.toInt.toNat) = 1 then some (1 : Int32) else some 0) = some 0
    rw [hT a q.1 q.2, if_neg (fun q3 => h ⟨q.1, q.2, q3⟩)]
  · rw [in_n' (a := a) (c := 23) (d := 23) rfl (by omega)]
    rfl
