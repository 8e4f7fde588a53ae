/-! the pure level: sign -/
theorem sh_bits (p : Int32) : ∀ k : Int32, (k = 0 ∨ k = 8 ∨ k = 16 ∨ k = 24) → jushr p k &&& 255 = jshr p k &&& 255 := by
  intro k hk
  apply Int32.toBitVec_inj.mp
  rcases hk with rfl | rfl | rfl | rfl
  · have e1 : (jushr p 0 &&& 255).toBitVec = (p.toBitVec >>> 0) &&& 255#32 := rfl
    have e2 : (jshr p 0 &&& 255).toBitVec = (p.toBitVec.sshiftRight 0) &&& 255#32 := rfl
    rw [e1, e2]
    simp
  · have e1 : (jushr p 8 &&& 255).toBitVec = (p.toBitVec >>> 8) &&& 255#32 := rfl
    have e2 : (jshr p 8 &&& 255).toBitVec = (p.toBitVec.sshiftRight 8) &&& 255#32 := rfl
    rw [e1, e2]
    apply BitVec.eq_of_getLsbD_eq
    intro i hi
    by_cases h : i < 8
    · have h8 : 8 + i < 32 := by omega
      rw [BitVec.getLsbD_and, BitVec.getLsbD_and, BitVec.getLsbD_ushiftRight, BitVec.getLsbD_sshiftRight, if_pos h8, decide_eq_false (by omega : ¬ 32 ≤ i), Bool.not_false, Bool.true_and]
    · have : (255#32).getLsbD i = false := by
        have := (by decide : ∀ i : Fin 32, ¬ i.val < 8 → (255#32).getLsbD i.val = false) ⟨i, hi⟩ h
        exact this
      rw [BitVec.getLsbD_and, BitVec.getLsbD_and, this, Bool.and_false, Bool.and_false]
  · have e1 : (jushr p 16 &&& 255).toBitVec = (p.toBitVec >>> 16) &&& 255#32 := rfl
    have e2 : (jshr p 16 &&& 255).toBitVec = (p.toBitVec.sshiftRight 16) &&& 255#32 := rfl
    rw [e1, e2]
    apply BitVec.eq_of_getLsbD_eq
    intro i hi
    by_cases h : i < 8
    · have h8 : 16 + i < 32 := by omega
      rw [BitVec.getLsbD_and, BitVec.getLsbD_and, BitVec.getLsbD_ushiftRight, BitVec.getLsbD_sshiftRight, if_pos h8, decide_eq_false (by omega : ¬ 32 ≤ i), Bool.not_false, Bool.true_and]
    · have : (255#32).getLsbD i = false := by
        have := (by decide : ∀ i : Fin 32, ¬ i.val < 8 → (255#32).getLsbD i.val = false) ⟨i, hi⟩ h
        exact this
      rw [BitVec.getLsbD_and, BitVec.getLsbD_and, this, Bool.and_false, Bool.and_false]
  · have e1 : (jushr p 24 &&& 255).toBitVec = (p.toBitVec >>> 24) &&& 255#32 := rfl
    have e2 : (jshr p 24 &&& 255).toBitVec = (p.toBitVec.sshiftRight 24) &&& 255#32 := rfl
    rw [e1, e2]
    apply BitVec.eq_of_getLsbD_eq
    intro i hi
    by_cases h : i < 8
    · have h8 : 24 + i < 32 := by omega
      rw [BitVec.getLsbD_and, BitVec.getLsbD_and, BitVec.getLsbD_ushiftRight, BitVec.getLsbD_sshiftRight, if_pos h8, decide_eq_false (by omega : ¬ 32 ≤ i), Bool.not_false, Bool.true_and]
    · have : (255#32).getLsbD i = false := by
        have := (by decide : ∀ i : Fin 32, ¬ i.val < 8 → (255#32).getLsbD i.val = false) ⟨i, hi⟩ h
        exact this
      rw [BitVec.getLsbD_and, BitVec.getLsbD_and, this, Bool.and_false, Bool.and_false]
theorem tk_step {N k : Nat} {p z x : Int32} {f : Nat → Int32} (hx : ¬ x < 0) (h0 : 0 ≤ z.toInt) (h1 : z.toInt < 80) : fX7_takes_14 N p (k + 1) z f x = fX7_takes_14 N p k (z + 1) (upd f z.toNatClampNeg (jushr p x &&& 255)) (x + (-8)) := by
  show fX7_takes_14b N p (fX7_takes_14 N p k) z f x = _
  unfold fX7_takes_14b
  rw [if_neg hx, inb_t h0 (by omega)]
  rfl
theorem tk_end {N k : Nat} {p z x : Int32} {f : Nat → Int32} (hx : x < 0) : fX7_takes_14 N p (k + 1) z f x = some (1, z, f) := by
  show fX7_takes_14b N p (fX7_takes_14 N p k) z f x = _
  unfold fX7_takes_14b
  rw [if_pos hx]
theorem sg_step {N k : Nat} {p t z x : Int32} {f : Nat → Int32} (hx : ¬ 4 ≤ x) (h0 : 0 ≤ (z + x).toInt) (h1 : (z + x).toInt < 80) : fX12_sign_18 N p (k + 1) t f z x = fX12_sign_18 N p k t (upd f (z + x).toNatClampNeg (jshr p (24 - (8 * x)) &&& 255)) z (x + 1) := by
  show fX12_sign_18b N p (fX12_sign_18 N p k) t f z x = _
  unfold fX12_sign_18b
  rw [if_neg hx, inb_t h0 (by omega)]
  rfl
theorem sg_end {N k : Nat} {p t z x : Int32} {f : Nat → Int32} (hx : 4 ≤ x) : fX12_sign_18 N p (k + 1) t f z x = some (z + 4, t, f, z + 4) := by
  show fX12_sign_18b N p (fX12_sign_18 N p k) t f z x = _
  unfold fX12_sign_18b
  rw [if_pos hx]
  rfl
theorem p_sign {n : Nat} {zxz mth mtp : Int32} {zsg mta : Nat → Int32} (h : TXT zxz zsg mta mtp) (a1 : Int32) : ∃ (r' zxz' : Int32) (zsg' : Nat → Int32) (mth' : Int32) (mta' : Nat → Int32) (mtp' : Int32), fX11_sign (n + 5) zxz zsg a1 = some (r', zxz', zsg') ∧ fX12_sign (n + 5) mth mta mtp a1 = some (r', mth', mta', mtp') ∧ TXT zxz' zsg' mta' mtp' := by
  obtain ⟨rfl, rfl, h0, h1⟩ := h
  unfold fX11_sign fX12_sign fX7_takes
  by_cases q : mtp ≤ 76
  · have q' : mtp.toInt ≤ 76 := le_i.mp q
    have a1' : (mtp + 1).toInt = mtp.toInt + 1 := add_i (by rw [show (1 : Int32).toInt = 1 from by decide]; omega) (by rw [show (1 : Int32).toInt = 1 from by decide]; omega)
    have a2' : (mtp + 2).toInt = mtp.toInt + 2 := add_i (by rw [show (2 : Int32).toInt = 2 from by decide]; omega) (by rw [show (2 : Int32).toInt = 2 from by decide]; omega)
    have a3' : (mtp + 3).toInt = mtp.toInt + 3 := add_i (by rw [show (3 : Int32).toInt = 3 from by decide]; omega) (by rw [show (3 : Int32).toInt = 3 from by decide]; omega)
    have a4' : (mtp + 4).toInt = mtp.toInt + 4 := add_i (by rw [show (4 : Int32).toInt = 4 from by decide]; omega) (by rw [show (4 : Int32).toInt = 4 from by decide]; omega)
    have e2 : mtp + 1 + 1 = mtp + 2 := by rw [Int32.add_assoc]; rfl
    have e3 : mtp + 2 + 1 = mtp + 3 := by rw [Int32.add_assoc]; rfl
    have e4 : mtp + 3 + 1 = mtp + 4 := by rw [Int32.add_assoc]; rfl
    have e0 : mtp + 0 = mtp := Int32.add_zero mtp
    rw [if_pos q, if_pos q]
    rw [tk_step (by decide) h0 (by omega), tk_step (by decide) (by omega) (by omega), e2, tk_step (by decide) (by omega) (by omega), e3, tk_step (by decide) (by omega) (by omega), e4, tk_end (by decide)]
    rw [sg_step (by decide) (by rw [e0]; exact h0) (by rw [e0]; omega), e0, sg_step (by decide) (by show 0 ≤ (mtp + 1).toInt; omega) (by show (mtp + 1).toInt < 80; omega), sg_step (by decide) (by show 0 ≤ (mtp + 2).toInt; omega) (by show (mtp + 2).toInt < 80; omega), sg_step (by decide) (by show 0 ≤ (mtp + 3).toInt; omega) (by show (mtp + 3).toInt < 80; omega), sg_end (by decide)]
    refine ⟨_, _, _, _, _, _, rfl, rfl, rfl, ?_, by omega, by omega⟩
    show upd (upd (upd (upd mta mtp.toNatClampNeg (jshr a1 24 &&& 255)) (mtp + 1).toNatClampNeg (jshr a1 16 &&& 255)) (mtp + 2).toNatClampNeg (jshr a1 8 &&& 255)) (mtp + 3).toNatClampNeg (jshr a1 0 &&& 255) = upd (upd (upd (upd mta mtp.toNatClampNeg (jushr a1 24 &&& 255)) (mtp + 1).toNatClampNeg (jushr a1 16 &&& 255)) (mtp + 2).toNatClampNeg (jushr a1 8 &&& 255)) (mtp + 3).toNatClampNeg (jushr a1 0 &&& 255)
    rw [sh_bits a1 24 (by decide), sh_bits a1 16 (by decide), sh_bits a1 8 (by decide), sh_bits a1 0 (by decide)]
  · rw [if_neg q, if_neg q]
    exact ⟨_, _, _, _, _, _, rfl, rfl, rfl, rfl, h0, h1⟩
