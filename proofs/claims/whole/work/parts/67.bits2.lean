/-! bits: the lowest one, how many -/
theorem nx_and (a b : Nat) : nI a &&& nI b = nI (a &&& b) := by
  apply Int32.toBitVec_inj.mp
  rw [Int32.toBitVec_and]
  show BitVec.ofNat 32 a &&& BitVec.ofNat 32 b = BitVec.ofNat 32 (a &&& b)
  apply BitVec.eq_of_getLsbD_eq
  intro i hi
  simp [BitVec.getLsbD_ofNat, Nat.testBit_and, hi]
theorem bt_neg (x : Int32) {i : Nat} (hi : i < 32) : bt (-x) i = (bt x i ^^ decide (∃ j, j < i ∧ bt x j = true)) := by
  show (-x).toBitVec.getLsbD i = _
  rw [Int32.toBitVec_neg, BitVec.getLsbD_neg, decide_eq_true hi, Bool.true_and]
  rfl
def low (p : Nat → Bool) (i : Nat) : Prop := p i = true ∧ ∀ j, j < i → p j = false
theorem bs_low {p : Nat → Bool} {i : Nat} (hi : i < 24) (h : low p i) : bs p &&& (-(bs p)) = bs (fun j => decide (j = i)) := bs_of (fun k hk => by
  rw [b_and, bt_neg _ hk, bt_bs p hk]
  rcases Nat.lt_trichotomy k i with q | q | q
  · rw [h.2 k q]; simp; intro _; omega
  · subst q
    have : ¬ ∃ j, j < k ∧ bt (bs p) j = true := by
      rintro ⟨j, hj, hb⟩
      rw [bt_bs p (by omega), h.2 j hj] at hb
      simp at hb
    rw [decide_eq_false this, h.1]
    simp
  · have : ∃ j, j < k ∧ bt (bs p) j = true := ⟨i, q, by rw [bt_bs p (by omega), h.1, decide_eq_true hi]; rfl⟩
    rw [decide_eq_true this, decide_eq_false (by omega : ¬ k = i)]
    cases decide (k < 24) <;> cases p k <;> rfl)
theorem sub1_not (x : Int32) : x - 1 = (-x) ^^^ (-1) := by
  apply Int32.toBitVec_inj.mp
  rw [Int32.toBitVec_sub, Int32.toBitVec_xor, Int32.toBitVec_neg]
  show x.toBitVec - 1#32 = -x.toBitVec ^^^ BitVec.allOnes 32
  rw [BitVec.xor_allOnes, BitVec.not_neg]
theorem bs_rest {p : Nat → Bool} {i : Nat} (hi : i < 24) (h : low p i) : bs p &&& (bs p - 1) = bs (fs p i false) := bs_of (fun k hk => by
  rw [b_and, sub1_not, b_xor, b_m1 k hk, bt_neg _ hk, bt_bs p hk]
  rcases Nat.lt_trichotomy k i with q | q | q
  · rw [h.2 k q, fs_n (by omega), h.2 k q]; simp
  · subst q
    have : ¬ ∃ j, j < k ∧ bt (bs p) j = true := by
      rintro ⟨j, hj, hb⟩
      rw [bt_bs p (by omega), h.2 j hj] at hb
      simp at hb
    rw [decide_eq_false this, h.1, fs_s]
    simp
  · have : ∃ j, j < k ∧ bt (bs p) j = true := ⟨i, q, by rw [bt_bs p (by omega), h.1, decide_eq_true hi]; rfl⟩
    rw [decide_eq_true this, fs_n (by omega)]
    cases decide (k < 24) <;> cases p k <;> rfl)
theorem low_ex {p : Nat → Bool} (h : ¬ bs p = 0) : ∃ i, i < 24 ∧ low p i := by
  have h2 : ∃ i, i < 24 ∧ p i = true := by
    apply Classical.byContradiction
    intro q
    exact h (bs_eq0.mpr (fun i hi => by
      cases e : p i with
      | false => rfl
      | true => exact absurd ⟨i, hi, e⟩ q))
  obtain ⟨k, hk, hm⟩ := pk_least (fun i => i < 24 ∧ p i = true) h2
  exact ⟨k, hk.1, hk.2, fun j hj => by
    cases e : p j with
    | false => rfl
    | true => exact absurd ⟨by omega, e⟩ (hm j hj)⟩
theorem bs_below : ∀ i, i < 24 → bs (fun j => decide (j = i)) - 1 = bs (fun j => decide (j < i)) := by decide +kernel
theorem ct_below : ∀ i, i < 24 → fb_ct (fun j => decide (j < i)) 24 = i := by decide +kernel
/-- the number that bits tell -/
def bn (p : Nat → Bool) : Nat → Nat
  | 0 => 0
  | n + 1 => bn p n + (if p n then 2 ^ n else 0)
theorem bn_lt (p : Nat → Bool) : ∀ n, bn p n < 2 ^ n := by
  intro n
  induction n with
  | zero => show 0 < 1; decide
  | succ n ih =>
    show bn p n + (if p n then 2 ^ n else 0) < 2 ^ (n + 1)
    rw [Nat.pow_succ]
    split <;> omega
theorem bsn_bn (p : Nat → Bool) : ∀ n, n ≤ 31 → bsn p n = nI (bn p n) := by
  intro n
  induction n with
  | zero => intro _; rfl
  | succ n ih =>
    intro hn
    show bsn p n ||| jshl (bI (p n)) (nI n) = nI (bn p n + (if p n then 2 ^ n else 0))
    rw [ih (by omega)]
    have hl := bn_lt p n
    cases p n with
    | false =>
      have e : jshl (bI false) (nI n) = 0 := b_ext (fun i hi => by rw [bt_shl (by omega) _ hi, bI_f, b_0, b_0]; simp)
      rw [e]
      simp
    | true =>
      have e : jshl (bI true) (nI n) = nI (2 ^ n) := by
        apply b_ext
        intro i hi
        rw [bt_shl (by omega) _ hi, bI_t, bt_1]
        show _ = (BitVec.ofNat 32 (2 ^ n)).getLsbD i
        rw [BitVec.getLsbD_ofNat, Nat.testBit_two_pow]
        simp only [hi, decide_true, Bool.true_and]
        by_cases q : n = i
        · subst q; simp
        · rw [decide_eq_false q]
          by_cases q2 : n ≤ i
          · rw [decide_eq_false (by omega : ¬ i - n = 0)]; simp
          · rw [decide_eq_false q2]; simp
      rw [e]
      apply Int32.toBitVec_inj.mp
      rw [Int32.toBitVec_or]
      show BitVec.ofNat 32 (bn p n) ||| BitVec.ofNat 32 (2 ^ n) = BitVec.ofNat 32 (bn p n + 2 ^ n)
      have e2 : bn p n + 2 ^ n = bn p n ||| 2 ^ n := by
        have := Nat.two_pow_add_eq_or_of_lt hl 1
        rw [Nat.mul_one] at this
        rw [Nat.add_comm, this, Nat.or_comm]
      rw [e2]
      apply BitVec.eq_of_getLsbD_eq
      intro i hi
      simp [BitVec.getLsbD_ofNat, Nat.testBit_or, hi]
theorem bn_split (p : Nat → Bool) (m : Nat) : ∀ n, bn p (m + n) = bn p m + 2 ^ m * bn (fun k => p (m + k)) n := by
  intro n
  induction n with
  | zero => show bn p m = bn p m + 2 ^ m * 0; rw [Nat.mul_zero, Nat.add_zero]
  | succ n ih =>
    show bn p (m + n) + (if p (m + n) then 2 ^ (m + n) else 0) = bn p m + 2 ^ m * (bn (fun k => p (m + k)) n + (if p (m + n) then 2 ^ n else 0))
    rw [ih, Nat.mul_add]
    cases p (m + n) with
    | false => rw [if_neg (by decide), if_neg (by decide), Nat.mul_zero]; omega
    | true => rw [if_pos rfl, if_pos rfl, Nat.pow_add]; omega
/-! the way the library counts bits, a byte at a time -/
def q5 (y : Nat) : Nat := y - ((y / 2) &&& 85)
def q6 (y : Nat) : Nat := (y &&& 51) + ((y / 4) &&& 51)
def q7 (y : Nat) : Nat := (y + y / 16) % 16
theorem and_b {x m k : Nat} (hm : m < 256) : x &&& (m + 256 * k) = ((x % 256) &&& m) + 256 * ((x / 256) &&& k) := by
  have h1 : (x &&& (m + 256 * k)) % 2 ^ 8 = (x % 2 ^ 8) &&& ((m + 256 * k) % 2 ^ 8) := Nat.and_mod_two_pow
  have h2 : (x &&& (m + 256 * k)) / 2 ^ 8 = (x / 2 ^ 8) &&& ((m + 256 * k) / 2 ^ 8) := Nat.and_div_two_pow
  have e1 : (m + 256 * k) % 2 ^ 8 = m := by omega
  have e2 : (m + 256 * k) / 2 ^ 8 = k := by omega
  rw [e1] at h1
  rw [e2] at h2
  have h3 := Nat.div_add_mod (x &&& (m + 256 * k)) (2 ^ 8)
  rw [h1, h2, show (2 : Nat) ^ 8 = 256 from rfl] at h3
  omega
theorem and_4 {x0 x1 x2 x3 m : Nat} (h0 : x0 < 256) (h1 : x1 < 256) (h2 : x2 < 256) (h3 : x3 < 256) (hm : m < 256) : (x0 + 256 * (x1 + 256 * (x2 + 256 * x3))) &&& (m + 256 * (m + 256 * (m + 256 * m))) = (x0 &&& m) + 256 * ((x1 &&& m) + 256 * ((x2 &&& m) + 256 * (x3 &&& m))) := by
  rw [and_b hm, show (x0 + 256 * (x1 + 256 * (x2 + 256 * x3))) % 256 = x0 by omega, show (x0 + 256 * (x1 + 256 * (x2 + 256 * x3))) / 256 = x1 + 256 * (x2 + 256 * x3) by omega, and_b hm, show (x1 + 256 * (x2 + 256 * x3)) % 256 = x1 by omega, show (x1 + 256 * (x2 + 256 * x3)) / 256 = x2 + 256 * x3 by omega, and_b hm, show (x2 + 256 * x3) % 256 = x2 by omega, show (x2 + 256 * x3) / 256 = x3 by omega]
theorem k5a : ∀ y, y < 256 → ∀ e, e < 2 → (y / 2 + 128 * e) &&& 85 = (y / 2) &&& 85 := by decide +kernel
theorem k5b : ∀ y, y < 256 → (y / 2) &&& 85 ≤ y := by decide +kernel
theorem k6a : ∀ y, y < 256 → ∀ e, e < 4 → (y / 4 + 64 * e) &&& 51 = (y / 4) &&& 51 := by decide +kernel
theorem k6b : ∀ y, y < 256 → q5 y < 256 ∧ q6 (q5 y) ≤ 68 ∧ q6 (q5 y) % 16 ≤ 4 := by decide +kernel
theorem k6c : ∀ y, y < 256 → (y &&& 51) ≤ 51 ∧ ((y / 4) &&& 51) ≤ 51 := by decide +kernel
theorem k7 : ∀ y, y < 256 → q7 (q6 (q5 y)) ≤ 8 := by decide +kernel
theorem m15 (y : Nat) : y &&& 15 = y % 16 := Nat.and_two_pow_sub_one_eq_mod y 4
theorem swar {a b c : Nat} (ha : a < 256) (hb : b < 256) (hc : c < 256) : fJ6_bitCount_0f7a4 (nI (a + 256 * (b + 256 * c))) = some (nI (q7 (q6 (q5 a)) + q7 (q6 (q5 b)) + q7 (q6 (q5 c)))) := by
  have M85 : (1431655765 : Nat) = 85 + 256 * (85 + 256 * (85 + 256 * 85)) := by decide
  have M51 : (858993459 : Nat) = 51 + 256 * (51 + 256 * (51 + 256 * 51)) := by decide
  have M15 : (252645135 : Nat) = 15 + 256 * (15 + 256 * (15 + 256 * 15)) := by decide
  have a5 := k5b a ha
  have b5 := k5b b hb
  have c5 := k5b c hc
  obtain ⟨a6, a7, a8⟩ := k6b a ha
  obtain ⟨b6, b7, b8⟩ := k6b b hb
  obtain ⟨c6, c7, c8⟩ := k6b c hc
  have a9 := k7 a ha
  have b9 := k7 b hb
  have c9 := k7 c hc
  have s1 : nI (a + 256 * (b + 256 * c)) - (jushr (nI (a + 256 * (b + 256 * c))) 1 &&& 1431655765) = nI (q5 a + 256 * (q5 b + 256 * q5 c)) := by
    have e1 : jushr (nI (a + 256 * (b + 256 * c))) 1 = nI ((a + 256 * (b + 256 * c)) / 2) := pk_ushrN (by omega) 1 1 (by decide)
    have e2 : (a + 256 * (b + 256 * c)) / 2 = (a / 2 + 128 * (b % 2)) + 256 * ((b / 2 + 128 * (c % 2)) + 256 * (c / 2 + 256 * 0)) := by omega
    rw [e1, e2, show (1431655765 : Int32) = nI 1431655765 from rfl, nx_and, M85, and_4 (by omega) (by omega) (by omega) (by omega) (by decide), k5a a ha _ (by omega), k5a b hb _ (by omega), pk_sub (by
      have : (0 : Nat) &&& 85 = 0 := by decide
      omega)]
    unfold q5
    have : (0 : Nat) &&& 85 = 0 := by decide
    rw [this]
    congr 1
    omega
  have s2 : (nI (q5 a + 256 * (q5 b + 256 * q5 c)) &&& 858993459) + (jushr (nI (q5 a + 256 * (q5 b + 256 * q5 c))) 2 &&& 858993459) = nI (q6 (q5 a) + 256 * (q6 (q5 b) + 256 * q6 (q5 c))) := by
    have e1 : jushr (nI (q5 a + 256 * (q5 b + 256 * q5 c))) 2 = nI ((q5 a + 256 * (q5 b + 256 * q5 c)) / 4) := pk_ushrN (by omega) 2 2 (by decide)
    have e2 : (q5 a + 256 * (q5 b + 256 * q5 c)) / 4 = (q5 a / 4 + 64 * (q5 b % 4)) + 256 * ((q5 b / 4 + 64 * (q5 c % 4)) + 256 * (q5 c / 4 + 256 * 0)) := by omega
    have e3 : q5 a + 256 * (q5 b + 256 * q5 c) = q5 a + 256 * (q5 b + 256 * (q5 c + 256 * 0)) := by omega
    rw [e1, e2, show (858993459 : Int32) = nI 858993459 from rfl, nx_and, nx_and, M51, and_4 (by omega) (by omega) (by omega) (by omega) (by decide), k6a _ a6 _ (by omega), k6a _ b6 _ (by omega), e3, and_4 a6 b6 c6 (by omega) (by decide), nI_add]
    unfold q6
    have : (0 : Nat) &&& 51 = 0 := by decide
    rw [this]
    congr 1
    omega
  have s3 : (nI (q6 (q5 a) + 256 * (q6 (q5 b) + 256 * q6 (q5 c))) + jushr (nI (q6 (q5 a) + 256 * (q6 (q5 b) + 256 * q6 (q5 c)))) 4) &&& 252645135 = nI (q7 (q6 (q5 a)) + 256 * (q7 (q6 (q5 b)) + 256 * q7 (q6 (q5 c)))) := by
    have e1 : jushr (nI (q6 (q5 a) + 256 * (q6 (q5 b) + 256 * q6 (q5 c)))) 4 = nI ((q6 (q5 a) + 256 * (q6 (q5 b) + 256 * q6 (q5 c))) / 16) := pk_ushrN (by omega) 4 4 (by decide)
    have e2 : q6 (q5 a) + 256 * (q6 (q5 b) + 256 * q6 (q5 c)) + (q6 (q5 a) + 256 * (q6 (q5 b) + 256 * q6 (q5 c))) / 16 = (q6 (q5 a) + q6 (q5 a) / 16 + 16 * (q6 (q5 b) % 16)) + 256 * ((q6 (q5 b) + q6 (q5 b) / 16 + 16 * (q6 (q5 c) % 16)) + 256 * ((q6 (q5 c) + q6 (q5 c) / 16) + 256 * 0)) := by omega
    rw [e1, nI_add, e2, show (252645135 : Int32) = nI 252645135 from rfl, nx_and, M15, and_4 (by omega) (by omega) (by omega) (by omega) (by decide), m15, m15, m15, m15]
    unfold q7
    congr 1
    omega
  have s4 : (nI (q7 (q6 (q5 a)) + 256 * (q7 (q6 (q5 b)) + 256 * q7 (q6 (q5 c)))) + jushr (nI (q7 (q6 (q5 a)) + 256 * (q7 (q6 (q5 b)) + 256 * q7 (q6 (q5 c))))) 8) + jushr (nI (q7 (q6 (q5 a)) + 256 * (q7 (q6 (q5 b)) + 256 * q7 (q6 (q5 c)))) + jushr (nI (q7 (q6 (q5 a)) + 256 * (q7 (q6 (q5 b)) + 256 * q7 (q6 (q5 c))))) 8) 16 = nI ((q7 (q6 (q5 a)) + q7 (q6 (q5 b)) + q7 (q6 (q5 c))) + 256 * (q7 (q6 (q5 b)) + q7 (q6 (q5 c)) + 256 * q7 (q6 (q5 c)))) := by
    have e1 : jushr (nI (q7 (q6 (q5 a)) + 256 * (q7 (q6 (q5 b)) + 256 * q7 (q6 (q5 c))))) 8 = nI ((q7 (q6 (q5 a)) + 256 * (q7 (q6 (q5 b)) + 256 * q7 (q6 (q5 c)))) / 256) := pk_ushrN (by omega) 8 8 (by decide)
    rw [e1, nI_add]
    have e2 : jushr (nI (q7 (q6 (q5 a)) + 256 * (q7 (q6 (q5 b)) + 256 * q7 (q6 (q5 c))) + (q7 (q6 (q5 a)) + 256 * (q7 (q6 (q5 b)) + 256 * q7 (q6 (q5 c)))) / 256)) 16 = nI ((q7 (q6 (q5 a)) + 256 * (q7 (q6 (q5 b)) + 256 * q7 (q6 (q5 c))) + (q7 (q6 (q5 a)) + 256 * (q7 (q6 (q5 b)) + 256 * q7 (q6 (q5 c)))) / 256) / 65536) := pk_ushrN (by omega) 16 16 (by decide)
    rw [e2, nI_add]
    congr 1
    omega
  unfold fJ6_bitCount_0f7a4
  rw [s1, lt_e, s2, lt_e, s3, lt_e, s4, lt_e, pk_andN (by omega) (m := 63) 6 (by decide)]
  congr 2
  omega
theorem pc8 : ∀ b0 b1 b2 b3 b4 b5 b6 b7 : Bool, q7 (q6 (q5 (((((((((0 + (if b0 then 2 ^ 0 else 0)) + (if b1 then 2 ^ 1 else 0)) + (if b2 then 2 ^ 2 else 0)) + (if b3 then 2 ^ 3 else 0)) + (if b4 then 2 ^ 4 else 0)) + (if b5 then 2 ^ 5 else 0)) + (if b6 then 2 ^ 6 else 0)) + (if b7 then 2 ^ 7 else 0))))) = ((((((((0 + (if b0 then 1 else 0)) + (if b1 then 1 else 0)) + (if b2 then 1 else 0)) + (if b3 then 1 else 0)) + (if b4 then 1 else 0)) + (if b5 then 1 else 0)) + (if b6 then 1 else 0)) + (if b7 then 1 else 0)) := by decide +kernel
theorem pc_ct (p : Nat → Bool) : q7 (q6 (q5 (bn p 8))) = fb_ct p 8 := pc8 (p 0) (p 1) (p 2) (p 3) (p 4) (p 5) (p 6) (p 7)
theorem bitCount_c (p : Nat → Bool) : fJ6_bitCount_0f7a4 (bs p) = some (nI (fb_ct p 24)) := by
  have e1 : bs p = nI (bn p 8 + 256 * (bn (fun k => p (8 + k)) 8 + 256 * bn (fun k => p (16 + k)) 8)) := by
    unfold bs
    rw [bsn_bn p 24 (by decide)]
    have h1 := bn_split p 8 16
    have h2 : bn (fun k => p (8 + k)) 16 = bn (fun k => p (8 + k)) 8 + 2 ^ 8 * bn (fun k => p (8 + (8 + k))) 8 := bn_split (fun k => p (8 + k)) 8 8
    have e3 : (fun k => p (16 + k)) = fun k => p (8 + (8 + k)) := funext fun k => congrArg p (by omega)
    rw [e3]
    have h1' : bn p 24 = bn p 8 + 2 ^ 8 * bn (fun k => p (8 + k)) 16 := h1
    congr 1
    omega
  have b1 := bn_lt p 8
  have b2 := bn_lt (fun k => p (8 + k)) 8
  have b3 := bn_lt (fun k => p (16 + k)) 8
  rw [e1, swar b1 b2 b3, pc_ct, pc_ct, pc_ct]
  have h1 := fb_ct_split p 8 16
  have h1' : fb_ct p 24 = fb_ct p 8 + fb_ct (fun k => p (8 + k)) 16 := h1
  have h2 : fb_ct (fun k => p (8 + k)) 16 = fb_ct (fun k => p (8 + k)) 8 + fb_ct (fun k => p (8 + (8 + k))) 8 := fb_ct_split (fun k => p (8 + k)) 8 8
  have e3 : (fun k => p (16 + k)) = fun k => p (8 + (8 + k)) := funext fun k => congrArg p (by omega)
  rw [e3]
  congr 2
  omega
theorem low_bit {p : Nat → Bool} {i : Nat} (hi : i < 24) (h : low p i) : fJ6_bitCount_0f7a4 ((bs p &&& (-(bs p))) - 1) = some (nI i) := by
  rw [bs_low hi h, bs_below i hi, bitCount_c, ct_below i hi]
theorem M_sizeOf {N : Nat} (hN : 24 < N) (p : Nat → Bool) : fX12_sizeOf N (bs p) = some (nI (fb_ct p 24)) := by
  have gen : ∀ (m : Nat) (p : Nat → Bool) (x : Nat) (f : Nat), fb_ct p 24 = m → m < f → fX12_sizeOf_4 N (bs p) f (nI x) (bs p) = some (nI (x + m)) ∧ ∀ p0 : Int32, fX12_sizeOf_4 N p0 f (nI x) (bs p) = some (nI (x + m)) := by
    intro m
    induction m with
    | zero =>
      intro p x f hm hf
      obtain ⟨f', rfl⟩ : ∃ f', f = f' + 1 := ⟨f - 1, by omega⟩
      have e : bs p = 0 := bs_eq0.mpr (fun i hi => fb_ct_zero.mp hm i hi)
      have : ∀ p0 : Int32, fX12_sizeOf_4 N p0 (f' + 1) (nI x) (bs p) = some (nI (x + 0)) := by
        intro p0
        show fX12_sizeOf_4b N p0 (fX12_sizeOf_4 N p0 f') (nI x) (bs p) = _
        unfold fX12_sizeOf_4b
        rw [if_pos e]
        rfl
      exact ⟨this _, this⟩
    | succ m ih =>
      intro p x f hm hf
      obtain ⟨f', rfl⟩ : ∃ f', f = f' + 1 := ⟨f - 1, by omega⟩
      have hne : ¬ bs p = 0 := fun q => by
        have := fb_ct_zero.mpr (bs_eq0.mp q)
        omega
      obtain ⟨i, hi, hl⟩ := low_ex hne
      have hct := fb_ct_upd p false (i := i) (n := 24) hi
      have e0 : (if (false : Bool) = true then 1 else 0) = 0 := rfl
      have e1 : (if p i = true then 1 else 0) = 1 := if_pos hl.1
      rw [e0, e1] at hct
      have hm2 : fb_ct (fs p i false) 24 = m := by
        have : fb_ct (fs p i false) 24 = fb_ct (fun k => if k = i then false else p k) 24 := rfl
        omega
      have : ∀ p0 : Int32, fX12_sizeOf_4 N p0 (f' + 1) (nI x) (bs p) = some (nI (x + (m + 1))) := by
        intro p0
        show fX12_sizeOf_4b N p0 (fX12_sizeOf_4 N p0 f') (nI x) (bs p) = _
        unfold fX12_sizeOf_4b
        rw [if_neg hne, bs_rest hi hl, nI_1, (ih (fs p i false) (x + 1) f' hm2 (by omega)).2 p0, show x + 1 + m = x + (m + 1) by omega]
      exact ⟨this _, this⟩
  have hle := fb_ct_le p 24
  have := (gen _ p 0 N rfl (by omega)).1
  rw [Nat.zero_add] at this
  exact this
