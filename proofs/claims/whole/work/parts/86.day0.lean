/-! day: the two readings of a text -/
def dgt (c : Int32) : Prop := 48 ≤ c.toInt ∧ c.toInt ≤ 57
def dgn (c : Int32) : Nat := (c.toInt - 48).toNat
theorem dg_e {c : Int32} (h : dgt c) : c = nI (48 + dgn c) ∧ dgn c ≤ 9 := by
  obtain ⟨h1, h2⟩ := h
  refine ⟨?_, by unfold dgn; omega⟩
  apply Int32.toInt_inj.mp
  rw [nI_toInt (by unfold dgn; omega)]
  unfold dgn; omega
theorem dg_n {e : Nat} (h : e ≤ 9) : dgt (nI (48 + e)) := by
  have := nI_toInt (n := 48 + e) (by omega)
  exact ⟨by omega, by omega⟩
def DG (s : Nat → Int32) (L p r : Nat) : Prop := ∀ j, j < r → p + j < L ∧ dgt (s (p + j))
def BD (s : Nat → Int32) (L p : Nat) : Prop := ¬ (p < L ∧ dgt (s p))
def num (s : Nat → Int32) (p : Nat) : Nat → Nat
  | 0 => 0
  | r + 1 => 10 * num s p r + dgn (s (p + r))
theorem DG_0 (s : Nat → Int32) (L p : Nat) : DG s L p 0 := fun j hj => absurd hj (Nat.not_lt_zero j)
theorem DG_ap {s : Nat → Int32} {L p a b : Nat} (h1 : DG s L p a) (h2 : DG s L (p + a) b) : DG s L p (a + b) := fun j hj => by
  by_cases c : j < a
  · exact h1 j c
  · have := h2 (j - a) (by omega)
    rw [show p + a + (j - a) = p + j by omega] at this
    exact this
theorem DG_1 {s : Nat → Int32} {L p : Nat} (h1 : p < L) (h2 : dgt (s p)) : DG s L p 1 := fun j hj => by
  rw [show p + j = p by omega]; exact ⟨h1, h2⟩
theorem num_lt {s : Nat → Int32} {L p : Nat} : ∀ r, DG s L p r → num s p r < 10 ^ r := by
  intro r
  induction r with
  | zero => intro _; show 0 < 1; omega
  | succ r ih =>
    intro h
    have := ih (fun j hj => h j (by omega))
    have := (dg_e (h r (by omega)).2).2
    show 10 * num s p r + dgn (s (p + r)) < 10 ^ (r + 1)
    rw [Nat.pow_succ]
    omega
theorem ch0 : ∀ k, k < 10 → strCh 0 k = nI (48 + k) := by decide +kernel
theorem M_td {s : Nat → Int32} {L p N : Nat} (hL : L ≤ 80) (hp : p ≤ L) (hN : 24 < N) : (p < L ∧ dgt (s p) ∧ fX12_takesOf_d N s (nI p) (nI L) = some (nI (dgn (s p)), nI (p + 1))) ∨ (BD s L p ∧ fX12_takesOf_d N s (nI p) (nI L) = some (-1, nI p)) := by
  have le10 : ∀ j, j < 100 → ((10 : Int32) ≤ nI j ↔ 10 ≤ j) := fun j hj => le_n (i := 10) (j := j) (by omega) (by omega)
  by_cases q : p < L
  · have step : ∀ n j, j < 10 → strCh 0 j ≠ s p → fX12_takesOf_d_2 N s (nI L) (n + 1) (nI p) (nI j) = fX12_takesOf_d_2 N s (nI L) n (nI p) (nI (j + 1)) := fun n j hj hne => by
      show fX12_takesOf_d_2b N s (nI L) (fX12_takesOf_d_2 N s (nI L) n) (nI p) (nI j) = _
      unfold fX12_takesOf_d_2b
      rw [if_neg (fun c => by have := (le10 j (by omega)).mp c; omega), if_neg (by rw [le_n (by omega) (by omega)]; omega), inb_n hj (by decide), grd_t, inb_n (i := p) (n := 80) (by omega) (by decide), grd_t, cl_n (by omega), cl_n (by omega), if_neg hne, nI_1]
    by_cases qd : dgt (s p)
    · left
      refine ⟨q, qd, ?_⟩
      obtain ⟨he, hd⟩ := dg_e qd
      refine lpE (fun n j => fX12_takesOf_d_2 N s (nI L) n (nI p) (nI j)) (dgn (s p)) _ (fun n j hj => step n j (by omega) (fun c => ?_)) (fun n => ?_) N 0 (by omega) (by omega)
      · rw [ch0 j (by omega), he] at c
        have := (eq_n (by omega) (by omega)).mp c
        omega
      · show fX12_takesOf_d_2b N s (nI L) (fX12_takesOf_d_2 N s (nI L) n) (nI p) (nI (dgn (s p))) = _
        unfold fX12_takesOf_d_2b
        rw [if_neg (fun c => by have := (le10 _ (by omega)).mp c; omega), if_neg (by rw [le_n (by omega) (by omega)]; omega), inb_n (i := dgn (s p)) (n := 10) (by omega) (by decide), grd_t, inb_n (i := p) (n := 80) (by omega) (by decide), grd_t, cl_n (by omega), cl_n (by omega), if_pos (by rw [ch0 _ (by omega)]; exact he.symm), nI_1, lt_e]
    · right
      refine ⟨fun c => qd c.2, ?_⟩
      refine lpE (fun n j => fX12_takesOf_d_2 N s (nI L) n (nI p) (nI j)) 10 _ (fun n j hj => step n j (by omega) (fun c => ?_)) (fun n => ?_) N 0 (by omega) (by omega)
      · rw [ch0 j (by omega)] at c
        exact qd (by rw [← c]; exact dg_n (by omega))
      · show fX12_takesOf_d_2b N s (nI L) (fX12_takesOf_d_2 N s (nI L) n) (nI p) (nI 10) = _
        unfold fX12_takesOf_d_2b
        rw [if_pos (by decide)]
  · right
    refine ⟨fun c => q c.1, ?_⟩
    obtain ⟨N, rfl⟩ : ∃ f, N = f + 1 := ⟨N - 1, by omega⟩
    show fX12_takesOf_d_2b (N + 1) s (nI L) (fX12_takesOf_d_2 (N + 1) s (nI L) N) (nI p) 0 = _
    unfold fX12_takesOf_d_2b
    rw [if_neg (by decide), if_pos (by rw [le_n (by omega) (by omega)]; omega)]
theorem M_dg {s : Nat → Int32} {L p N r : Nat} (hL : L ≤ 80) (hp : p ≤ L) (hr : r ≤ 4) (hN : 24 < N) : (DG s L p r ∧ p + r ≤ L ∧ fX12_digits N s (nI p) (nI L) (nI r) = some (nI (num s p r), nI (p + r))) ∨ (∃ k, k < r ∧ DG s L p k ∧ BD s L (p + k) ∧ p + k ≤ L ∧ fX12_digits N s (nI p) (nI L) (nI r) = some (-1, nI (p + k))) := by
  have gen : ∀ m j n, r - j = m → j ≤ r → p + j ≤ L → DG s L p j → m + 1 < n → (DG s L p r ∧ p + r ≤ L ∧ fX12_digits_4 N s (nI L) (nI r) n (nI (p + j)) (nI (num s p j)) (nI j) = some (nI (num s p r), nI (p + r))) ∨ (∃ k, k < r ∧ DG s L p k ∧ BD s L (p + k) ∧ p + k ≤ L ∧ fX12_digits_4 N s (nI L) (nI r) n (nI (p + j)) (nI (num s p j)) (nI j) = some (-1, nI (p + k))) := by
    intro m
    induction m with
    | zero =>
      intro j n hm hj hpj hD hn
      obtain ⟨n, rfl⟩ : ∃ f, n = f + 1 := ⟨n - 1, by omega⟩
      have : j = r := by omega
      subst this
      refine Or.inl ⟨hD, hpj, ?_⟩
      show fX12_digits_4b N s (nI L) (nI j) (fX12_digits_4 N s (nI L) (nI j) n) (nI (p + j)) (nI (num s p j)) (nI j) = _
      unfold fX12_digits_4b
      rw [if_pos (by rw [le_n (by omega) (by omega)]; omega)]
    | succ m ih =>
      intro j n hm hj hpj hD hn
      obtain ⟨n, rfl⟩ : ∃ f, n = f + 1 := ⟨n - 1, by omega⟩
      have hnum := num_lt j hD
      have h10 : 10 ^ j ≤ 10 ^ 4 := Nat.pow_le_pow_right (by omega) (by omega)
      have e4 : (10 : Nat) ^ 4 = 10000 := by decide
      have eC : fX12_digits_4 N s (nI L) (nI r) (n + 1) (nI (p + j)) (nI (num s p j)) (nI j) = fX12_digits_4b N s (nI L) (nI r) (fX12_digits_4 N s (nI L) (nI r) n) (nI (p + j)) (nI (num s p j)) (nI j) := rfl
      rw [eC]
      unfold fX12_digits_4b
      rw [if_neg (by rw [le_n (by omega) (by omega)]; omega), if_neg (nI_nlt0 (by omega))]
      rcases M_td (s := s) (p := p + j) hL hpj hN with ⟨q1, q2, q3⟩ | ⟨q1, q2⟩
      · have hd := (dg_e q2).2
        have hD' : DG s L p (j + 1) := DG_ap hD (DG_1 q1 q2)
        have en : (10 : Int32) * nI (num s p j) + nI (dgn (s (p + j))) = nI (num s p (j + 1)) := by
          rw [show (10 : Int32) = nI 10 from rfl, pk_mul, ad_1]; rfl
        rw [q3, b2_s, if_pos (nI_pos' (by omega)), en, nI_1]
        exact ih (j + 1) n (by omega) (by omega) (by omega) hD' (by omega)
      · refine Or.inr ⟨j, by omega, hD, q1, hpj, ?_⟩
        obtain ⟨n, rfl⟩ : ∃ f, n = f + 1 := ⟨n - 1, by omega⟩
        rw [q2, b2_s, if_neg (by decide), nI_1]
        show fX12_digits_4b N s (nI L) (nI r) (fX12_digits_4 N s (nI L) (nI r) n) (nI (p + j)) (-1) (nI (j + 1)) = _
        unfold fX12_digits_4b
        by_cases c : nI r ≤ nI (j + 1)
        · rw [if_pos c]
        · rw [if_neg c, if_pos neg1_lt]
  exact gen r 0 N (by omega) (by omega) (by omega) (DG_0 s L p) (by omega)
def cdn : Nat → Nat
  | 0 => 4
  | 1 => 5
  | 2 => 3
  | 3 => 3
  | 4 => 2
  | _ => 0
def cch : Nat → Nat
  | 0 => 110
  | 1 => 115
  | 2 => 114
  | 3 => 119
  | 4 => 107
  | _ => 116
theorem ch1 : ∀ k, k < 6 → strCh 1 k = nI (cch k) := by decide +kernel
theorem cch_b (k : Nat) : cch k ≤ 119 := by unfold cch; split <;> omega
theorem cch_i : ∀ k, k < 6 → ∀ j, j < 6 → cch k = cch j → k = j := by decide
theorem cch_d : ∀ k, k < 6 → fX7_digitsOf (nI (cch k)) = some (nI (cdn k)) := by decide +kernel
theorem M_ta {s : Nat → Int32} {L p N : Nat} (hL : L ≤ 80) (hp : p < L) (hN : 24 < N) : (∃ a, a < 6 ∧ s p = nI (cch a) ∧ fX12_takesOf_a N s (nI p) (nI L) = some (nI a, nI (p + 1))) ∨ ((∀ a, a < 6 → s p ≠ nI (cch a)) ∧ fX12_takesOf_a N s (nI p) (nI L) = some (-1, nI p)) := by
  have le6 : ∀ j, j < 100 → ((6 : Int32) ≤ nI j ↔ 6 ≤ j) := fun j hj => le_n (i := 6) (j := j) (by omega) (by omega)
  have step : ∀ n j, j < 6 → strCh 1 j ≠ s p → fX12_takesOf_a_2 N s (nI L) (n + 1) (nI p) (nI j) = fX12_takesOf_a_2 N s (nI L) n (nI p) (nI (j + 1)) := fun n j hj hne => by
    show fX12_takesOf_a_2b N s (nI L) (fX12_takesOf_a_2 N s (nI L) n) (nI p) (nI j) = _
    unfold fX12_takesOf_a_2b
    rw [if_neg (fun c => by have := (le6 j (by omega)).mp c; omega), if_neg (by rw [le_n (by omega) (by omega)]; omega), inb_n hj (by decide), grd_t, inb_n (i := p) (n := 80) (by omega) (by decide), grd_t, cl_n (by omega), cl_n (by omega), if_neg hne, nI_1]
  by_cases q : ∃ a, a < 6 ∧ s p = nI (cch a)
  · obtain ⟨a, ha, e⟩ := q
    refine Or.inl ⟨a, ha, e, ?_⟩
    refine lpE (fun n j => fX12_takesOf_a_2 N s (nI L) n (nI p) (nI j)) a _ (fun n j hj => step n j (by omega) (fun c => ?_)) (fun n => ?_) N 0 (by omega) (by omega)
    · rw [ch1 j (by omega), e] at c
      have b1 := cch_b j
      have b2 := cch_b a
      have := cch_i j (by omega) a ha ((eq_n (by omega) (by omega)).mp c)
      omega
    · show fX12_takesOf_a_2b N s (nI L) (fX12_takesOf_a_2 N s (nI L) n) (nI p) (nI a) = _
      unfold fX12_takesOf_a_2b
      rw [if_neg (fun c => by have := (le6 _ (by omega)).mp c; omega), if_neg (by rw [le_n (by omega) (by omega)]; omega), inb_n (i := a) (n := 6) (by omega) (by decide), grd_t, inb_n (i := p) (n := 80) (by omega) (by decide), grd_t, cl_n (by omega), cl_n (by omega), if_pos (by rw [ch1 _ (by omega)]; exact e.symm), nI_1, lt_e]
  · have q' : ∀ a, a < 6 → s p ≠ nI (cch a) := fun a ha e => q ⟨a, ha, e⟩
    refine Or.inr ⟨q', ?_⟩
    refine lpE (fun n j => fX12_takesOf_a_2 N s (nI L) n (nI p) (nI j)) 6 _ (fun n j hj => step n j (by omega) (fun c => ?_)) (fun n => ?_) N 0 (by omega) (by omega)
    · rw [ch1 j (by omega)] at c
      exact q' j hj c.symm
    · show fX12_takesOf_a_2b N s (nI L) (fX12_takesOf_a_2 N s (nI L) n) (nI p) (nI 6) = _
      unfold fX12_takesOf_a_2b
      rw [if_pos (by decide)]
theorem C_s1 {s : Nat → Int32} {L p N : Nat} (hL : L ≤ 80) (hp : p < L) (hd : dgt (s p)) (n r : Nat) (hr : r < 100) : fX7_fault_4 N (nI L) s (n + 1) (nI (r + 1)) (nI p) = fX7_fault_4 N (nI L) s n (nI r) (nI (p + 1)) := by
  show fX7_fault_4b N (nI L) s (fX7_fault_4 N (nI L) s n) (nI (r + 1)) (nI p) = _
  unfold fX7_fault_4b
  rw [if_neg (by rw [le_n (by omega) (by omega)]; omega), if_neg (by rw [le_f0 (by omega)]; omega), inb_n (i := p) (n := 80) (by omega) (by decide), grd_t, grd_t, cl_n (by omega), if_neg (by rw [lt_i, show (48 : Int32).toInt = 48 from by decide]; have := hd.1; omega), if_pos (by rw [le_i, show (57 : Int32).toInt = 57 from by decide]; exact hd.2), ← Int32.sub_eq_add_neg, nI_pred, nI_1]
theorem C_sb {s : Nat → Int32} {L p N : Nat} (hL : L ≤ 80) (hp : p ≤ L) (hb : BD s L p) (n r : Nat) (hr : r < 100) : fX7_fault_4 N (nI L) s (n + 1) (nI (r + 1)) (nI p) = some (nI p) := by
  show fX7_fault_4b N (nI L) s (fX7_fault_4 N (nI L) s n) (nI (r + 1)) (nI p) = _
  unfold fX7_fault_4b
  by_cases q : p = L
  · subst q
    unfold fX7_fault_69
    rw [if_pos (by rw [le_n (by omega) (by omega)]; omega), if_neg (by rw [le_f0 (by omega)]; omega)]
  · have hnd : ¬ dgt (s p) := fun c => hb ⟨by omega, c⟩
    rw [if_neg (by rw [le_n (by omega) (by omega)]; omega), if_neg (by rw [le_f0 (by omega)]; omega), inb_n (i := p) (n := 80) (by omega) (by decide), grd_t, grd_t, cl_n (by omega)]
    simp only [lt_i, le_i, show (48 : Int32).toInt = 48 from by decide, show (57 : Int32).toInt = 57 from by decide]
    by_cases c : (s p).toInt < 48
    · rw [if_pos c]
    · rw [if_neg c, if_neg (fun c2 => hnd ⟨by omega, c2⟩)]
theorem C_sk {s : Nat → Int32} {L N : Nat} (hL : L ≤ 80) : ∀ k p n r, DG s L p k → k ≤ r → r < 100 → fX7_fault_4 N (nI L) s (n + k) (nI r) (nI p) = fX7_fault_4 N (nI L) s n (nI (r - k)) (nI (p + k)) := by
  intro k
  induction k with
  | zero => intro p n r _ _ _; rfl
  | succ k ih =>
    intro p n r hD hk hr
    obtain ⟨r, rfl⟩ : ∃ f, r = f + 1 := ⟨r - 1, by omega⟩
    have h0 : p < L ∧ dgt (s p) := hD 0 (by omega)
    rw [show n + (k + 1) = (n + k) + 1 by omega, C_s1 hL h0.1 h0.2 (n + k) r (by omega), ih (p + 1) n r (fun j hj => by rw [show p + 1 + j = p + (j + 1) by omega]; exact hD (j + 1) (by omega)) (by omega) (by omega), show r + 1 - (k + 1) = r - k by omega, show p + 1 + k = p + (k + 1) by omega]
theorem C_sc {s : Nat → Int32} {L p N a : Nat} (hL : L ≤ 80) (hp : p < L) (ha : a < 6) (he : s p = nI (cch a)) (n : Nat) : fX7_fault_4 N (nI L) s (n + 1) 0 (nI p) = fX7_fault_4 N (nI L) s n (nI (cdn a)) (nI (p + 1)) := by
  show fX7_fault_4b N (nI L) s (fX7_fault_4 N (nI L) s n) 0 (nI p) = _
  unfold fX7_fault_4b
  have hc : cdn a < 10 := by unfold cdn; split <;> omega
  rw [if_neg (by rw [le_n (by omega) (by omega)]; omega), if_pos (by decide), inb_n (i := p) (n := 80) (by omega) (by decide), grd_t, cl_n (by omega), he, cch_d a ha, b1_s, if_neg (nI_ne1 (by omega)), nI_1]
theorem C_sn {s : Nat → Int32} {L p N : Nat} (hL : L ≤ 80) (hp : p < L) (he : ∀ a, a < 6 → s p ≠ nI (cch a)) (n : Nat) : fX7_fault_4 N (nI L) s (n + 1) 0 (nI p) = some (nI p) := by
  show fX7_fault_4b N (nI L) s (fX7_fault_4 N (nI L) s n) 0 (nI p) = _
  unfold fX7_fault_4b
  have hd : fX7_digitsOf (s p) = some (-1) := by
    unfold fX7_digitsOf
    rw [if_neg (show ¬ s p = 107 from he 4 (by omega)), if_neg (show ¬ s p = 110 from he 0 (by omega)), if_neg (show ¬ s p = 114 from he 2 (by omega)), if_neg (show ¬ s p = 115 from he 1 (by omega)), if_neg (show ¬ s p = 116 from he 5 (by omega)), if_neg (show ¬ s p = 119 from he 3 (by omega))]
  rw [if_neg (by rw [le_n (by omega) (by omega)]; omega), if_pos (by decide), inb_n (i := p) (n := 80) (by omega) (by decide), grd_t, cl_n (by omega), hd, b1_s, if_pos rfl]
