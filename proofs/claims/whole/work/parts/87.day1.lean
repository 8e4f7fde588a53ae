/-! day: an act of the text, in the reference -/
theorem R199 {s : Nat → Int32} {N q : Nat} (hq : q < 80) (mtt mat : Int32) (mac mfi mse mtd : Nat → Int32) (y : Int32) : fX12_readsAct_199 N s mtt (nI q) mat mac mfi mse mtd y (nI q) = some (if y < 0 then 0 else 1, mat, mac, mfi, mse, upd mtd q y) := by
  unfold fX12_readsAct_199
  rw [inb_n hq (by decide)]
  simp only [grd_t]
  rw [cl_n (by omega), lt_e, pk_us]
  by_cases c : y < 0
  · rw [if_pos c, if_pos c]
  · rw [if_neg c, if_neg c]
/-- a part of an act could not be read -/
def RB (R : Option (Int32 × Int32 × (Nat → Int32) × (Nat → Int32) × (Nat → Int32) × (Nat → Int32))) (q : Nat) (mat : Int32) (mac mfi mse mtd : Nat → Int32) : Prop := ∃ mac' mfi' mse' mtd', R = some (0, mat, mac', mfi', mse', mtd') ∧ (∀ i, i ≠ q → mac' i = mac i ∧ mfi' i = mfi i ∧ mse' i = mse i ∧ mtd' i = mtd i)
theorem R161n {s : Nat → Int32} {N q : Nat} (hq : q < 80) (mtt mat : Int32) (mac mfi mse mtd : Nat → Int32) : fX12_readsAct_161 N s mtt (nI q) mat mac mfi mse mtd (-1) (nI q) = some (0, mat, mac, mfi, upd mse q (-1), upd mtd q (-1)) := by
  unfold fX12_readsAct_161
  rw [inb_n hq (by decide)]
  simp only [grd_t]
  rw [cl_n (by omega), lt_e, pk_us, if_neg (by decide), R199 hq, if_pos neg1_lt]
theorem R161p {s : Nat → Int32} {N q : Nat} (hq : q < 80) (mtt mat : Int32) (mac mfi mse mtd : Nat → Int32) {e : Nat} (he : e < 100000) (hac : mac q ≠ 1) : fX12_readsAct_161 N s mtt (nI q) mat mac mfi mse mtd (nI e) (nI q) = some (1, mat, mac, mfi, upd mse q (nI e), upd mtd q 0) := by
  unfold fX12_readsAct_161
  rw [inb_n hq (by decide)]
  simp only [grd_t]
  rw [cl_n (by omega), lt_e, pk_us, if_pos (nI_pos' (by omega)), if_neg hac, R199 hq]
  rfl
theorem R161s {s : Nat → Int32} {N q L p : Nat} (hq : q < 80) (hL : L ≤ 80) (hp : p ≤ L) (hN : 24 < N) (mac mfi mse mtd : Nat → Int32) {e : Nat} (he : e < 100000) (hac : mac q = 1) : (DG s L p 2 ∧ p + 2 ≤ L ∧ fX12_readsAct_161 N s (nI L) (nI q) (nI p) mac mfi mse mtd (nI e) (nI q) = some (1, nI (p + 2), mac, mfi, upd mse q (nI e), upd mtd q (nI (num s p 2)))) ∨ (∃ k, k < 2 ∧ DG s L p k ∧ BD s L (p + k) ∧ p + k ≤ L ∧ fX12_readsAct_161 N s (nI L) (nI q) (nI p) mac mfi mse mtd (nI e) (nI q) = some (0, nI (p + k), mac, mfi, upd mse q (nI e), upd mtd q (-1))) := by
  unfold fX12_readsAct_161
  rw [inb_n hq (by decide)]
  simp only [grd_t]
  rw [cl_n (by omega), lt_e, pk_us, if_pos (nI_pos' (by omega)), if_pos hac]
  rcases M_dg (s := s) (p := p) (r := 2) hL hp (by omega) hN with ⟨q1, q2, q3⟩ | ⟨k, k1, k2, k3, k4, k5⟩
  · have q3' : fX12_digits N s (nI p) (nI L) 2 = some (nI (num s p 2), nI (p + 2)) := q3
    have := num_lt 2 q1
    have e2 : (10 : Nat) ^ 2 = 100 := by decide
    refine Or.inl ⟨q1, q2, ?_⟩
    rw [q3', b2_s, R199 hq, if_neg (nI_nlt0 (by omega))]
  · have k5' : fX12_digits N s (nI p) (nI L) 2 = some (-1, nI (p + k)) := k5
    refine Or.inr ⟨k, k1, k2, k3, k4, ?_⟩
    rw [k5', b2_s, R199 hq, if_pos neg1_lt]
theorem R85n {s : Nat → Int32} {N q : Nat} (hq : q < 80) (mtt mat : Int32) (mac mfi mse mtd : Nat → Int32) : fX12_readsAct_85 N s mtt (nI q) mat mac mfi mse mtd (-1) (nI q) = some (0, mat, mac, upd mfi q (-1), upd mse q (-1), upd mtd q (-1)) := by
  unfold fX12_readsAct_85
  rw [inb_n hq (by decide)]
  simp only [grd_t]
  rw [cl_n (by omega), lt_e, pk_us, if_neg (by decide), R161n hq]
theorem R85 {s : Nat → Int32} {N q : Nat} (hq : q < 80) (mtt mat : Int32) (mac mfi mse mtd : Nat → Int32) {f a : Nat} (hf : f < 100000) (ha : a < 6) (hac : mac q = nI a) : fX12_readsAct_85 N s mtt (nI q) mat mac mfi mse mtd (nI f) (nI q) = if a = 1 ∨ a = 4 then (bnd2 (fX12_digits N s mat mtt 1) fun r m => fX12_readsAct_161 N s mtt (nI q) m mac (upd mfi q (nI f)) mse mtd r (nI q)) else if a = 2 ∨ a = 3 then (bnd2 (fX12_digits N s mat mtt 2) fun r m => fX12_readsAct_161 N s mtt (nI q) m mac (upd mfi q (nI f)) mse mtd r (nI q)) else fX12_readsAct_161 N s mtt (nI q) mat mac (upd mfi q (nI f)) mse mtd 0 (nI q) := by
  unfold fX12_readsAct_85 fX12_readsAct_124 fX12_readsAct_152
  rw [inb_n hq (by decide)]
  simp only [grd_t]
  rw [cl_n (by omega), lt_e, pk_us, if_pos (nI_pos' (by omega)), hac]
  rcases (by omega : a = 0 ∨ a = 1 ∨ a = 2 ∨ a = 3 ∨ a = 4 ∨ a = 5) with rfl | rfl | rfl | rfl | rfl | rfl <;> rfl
/-- what the arrays hold of an act that was read -/
def VAL (s : Nat → Int32) (i a q : Nat) (mfi mse mtd : Nat → Int32) : Prop :=
  (a = 0 → mfi q = nI (num s (i + 1) 4)) ∧ (a = 1 → mfi q = nI (num s (i + 1) 2) ∧ mse q = nI (num s (i + 3) 1) ∧ mtd q = nI (num s (i + 4) 2)) ∧
  (a = 2 ∨ a = 3 → mfi q = nI (num s (i + 1) 1) ∧ mse q = nI (num s (i + 2) 2)) ∧ (a = 4 → mfi q = nI (num s (i + 1) 1) ∧ mse q = nI (num s (i + 2) 1))
def SAME (q : Nat) (mac mfi mse mtd mac' mfi' mse' mtd' : Nat → Int32) : Prop := ∀ i, i ≠ q → mac' i = mac i ∧ mfi' i = mfi i ∧ mse' i = mse i ∧ mtd' i = mtd i
theorem SAME_u (q : Nat) (mac mfi mse mtd : Nat → Int32) (a b c d : Int32) : SAME q mac mfi mse mtd (upd mac q a) (upd mfi q b) (upd mse q c) (upd mtd q d) := fun i hi => ⟨pk_un hi, pk_un hi, pk_un hi, pk_un hi⟩
theorem num9 {s : Nat → Int32} {L p r : Nat} (hr : r ≤ 4) (h : DG s L p r) : num s p r < 100000 := by
  have := num_lt r h
  have h10 : 10 ^ r ≤ 10 ^ 4 := Nat.pow_le_pow_right (by omega) hr
  have e4 : (10 : Nat) ^ 4 = 10000 := by decide
  omega
theorem R_act {s : Nat → Int32} {L i q N : Nat} (hL : L ≤ 80) (hi : i < L) (hq : q < 80) (hN : 24 < N) (mac mfi mse mtd : Nat → Int32) : ∃ r p' mac' mfi' mse' mtd', fX12_readsAct N s (nI i) (nI L) mac mfi mse mtd (nI q) = some (r, nI p', mac', mfi', mse', mtd') ∧ SAME q mac mfi mse mtd mac' mfi' mse' mtd' ∧ ((r = 1 ∧ ∃ a, a < 6 ∧ s i = nI (cch a) ∧ DG s L (i + 1) (cdn a) ∧ p' = i + 1 + cdn a ∧ p' ≤ L ∧ mac' q = nI a ∧ VAL s i a q mfi' mse' mtd') ∨ (r = 0 ∧ p' ≤ L ∧ ((p' = i ∧ ∀ a, a < 6 → s i ≠ nI (cch a)) ∨ ∃ a k, a < 6 ∧ s i = nI (cch a) ∧ k < cdn a ∧ DG s L (i + 1) k ∧ BD s L (i + 1 + k) ∧ p' = i + 1 + k))) := by
  rcases M_ta (s := s) (p := i) hL hi hN with ⟨a, ha, he, ht⟩ | ⟨he, ht⟩
  · have hac : upd mac q (nI a) q = nI a := pk_us
    have e0 : fX12_readsAct N s (nI i) (nI L) mac mfi mse mtd (nI q) = if a = 0 then (bnd2 (fX12_digits N s (nI (i + 1)) (nI L) 4) fun r m => fX12_readsAct_85 N s (nI L) (nI q) m (upd mac q (nI a)) mfi mse mtd r (nI q)) else if a = 1 then (bnd2 (fX12_digits N s (nI (i + 1)) (nI L) 2) fun r m => fX12_readsAct_85 N s (nI L) (nI q) m (upd mac q (nI a)) mfi mse mtd r (nI q)) else if a = 5 then fX12_readsAct_85 N s (nI L) (nI q) (nI (i + 1)) (upd mac q (nI a)) mfi mse mtd 0 (nI q) else (bnd2 (fX12_digits N s (nI (i + 1)) (nI L) 1) fun r m => fX12_readsAct_85 N s (nI L) (nI q) m (upd mac q (nI a)) mfi mse mtd r (nI q)) := by
      unfold fX12_readsAct
      rw [ht, b2_s, inb_n hq (by decide)]
      simp only [grd_t]
      rw [cl_n (by omega), lt_e, hac, if_pos (nI_pos' (by omega))]
      rcases (by omega : a = 0 ∨ a = 1 ∨ a = 2 ∨ a = 3 ∨ a = 4 ∨ a = 5) with rfl | rfl | rfl | rfl | rfl | rfl <;> rfl
    have m1 : ∀ {p : Nat}, p ≤ L → (DG s L p 1 ∧ p + 1 ≤ L ∧ fX12_digits N s (nI p) (nI L) 1 = some (nI (num s p 1), nI (p + 1))) ∨ (∃ k, k < 1 ∧ DG s L p k ∧ BD s L (p + k) ∧ p + k ≤ L ∧ fX12_digits N s (nI p) (nI L) 1 = some (-1, nI (p + k))) := fun hp => M_dg hL hp (by omega) hN
    have m2 : ∀ {p : Nat}, p ≤ L → (DG s L p 2 ∧ p + 2 ≤ L ∧ fX12_digits N s (nI p) (nI L) 2 = some (nI (num s p 2), nI (p + 2))) ∨ (∃ k, k < 2 ∧ DG s L p k ∧ BD s L (p + k) ∧ p + k ≤ L ∧ fX12_digits N s (nI p) (nI L) 2 = some (-1, nI (p + k))) := fun hp => M_dg hL hp (by omega) hN
    have m4 : ∀ {p : Nat}, p ≤ L → (DG s L p 4 ∧ p + 4 ≤ L ∧ fX12_digits N s (nI p) (nI L) 4 = some (nI (num s p 4), nI (p + 4))) ∨ (∃ k, k < 4 ∧ DG s L p k ∧ BD s L (p + k) ∧ p + k ≤ L ∧ fX12_digits N s (nI p) (nI L) 4 = some (-1, nI (p + k))) := fun hp => M_dg hL hp (by omega) hN
    rcases (by omega : a = 0 ∨ a = 1 ∨ (a = 2 ∨ a = 3) ∨ a = 4 ∨ a = 5) with h0 | h1 | h2 | h4 | h5
    · subst h0
      rw [e0, if_pos rfl]
      rcases m4 (p := i + 1) (by omega) with ⟨q1, q2, q3⟩ | ⟨k, k1, k2, k3, k4, k5⟩
      · rw [q3, b2_s, R85 hq (nI L) _ _ mfi mse mtd (num9 (by omega) q1) ha hac, if_neg (by omega), if_neg (by omega)]
        rw [show (0 : Int32) = nI 0 from rfl, R161p hq _ _ _ _ _ _ (e := 0) (by omega) (by rw [hac]; decide)]
        exact ⟨_, _, _, _, _, _, rfl, SAME_u q mac mfi mse mtd _ _ _ _, Or.inl ⟨rfl, 0, ha, he, q1, rfl, q2, hac, fun _ => pk_us, fun c => by omega, fun c => by omega, fun c => by omega⟩⟩
      · rw [k5, b2_s, R85n hq]
        exact ⟨_, _, _, _, _, _, rfl, SAME_u q mac mfi mse mtd _ _ _ _, Or.inr ⟨rfl, k4, Or.inr ⟨0, k, ha, he, k1, k2, k3, rfl⟩⟩⟩
    · subst h1
      rw [e0, if_neg (by omega), if_pos rfl]
      rcases m2 (p := i + 1) (by omega) with ⟨q1, q2, q3⟩ | ⟨k, k1, k2, k3, k4, k5⟩
      · rw [q3, b2_s, R85 hq (nI L) _ _ mfi mse mtd (num9 (by omega) q1) ha hac, if_pos (by omega)]
        rcases m1 (p := i + 1 + 2) (by omega) with ⟨u1, u2, u3⟩ | ⟨k, k1, k2, k3, k4, k5⟩
        · rw [u3, b2_s]
          have d3 : DG s L (i + 1) 3 := DG_ap (a := 2) (b := 1) q1 u1
          rcases R161s (s := s) (N := N) (q := q) (p := i + 1 + 2 + 1) hq hL (by omega) hN (upd mac q (nI 1)) (upd mfi q (nI (num s (i + 1) 2))) mse mtd (e := num s (i + 1 + 2) 1) (num9 (by omega) u1) hac with ⟨v1, v2, v3⟩ | ⟨k, k1, k2, k3, k4, k5⟩
          · rw [v3]
            exact ⟨_, _, _, _, _, _, rfl, SAME_u q mac mfi mse mtd _ _ _ _, Or.inl ⟨rfl, 1, ha, he, DG_ap (a := 3) (b := 2) d3 v1, rfl, v2, hac, fun c => by omega, fun _ => ⟨pk_us, pk_us, pk_us⟩, fun c => by omega, fun c => by omega⟩⟩
          · rw [k5]
            exact ⟨_, _, _, _, _, _, rfl, SAME_u q mac mfi mse mtd _ _ _ _, Or.inr ⟨rfl, k4, Or.inr ⟨1, 3 + k, ha, he, by show 3 + k < 5; omega, DG_ap d3 k2, by rw [show i + 1 + (3 + k) = i + 1 + 2 + 1 + k by omega]; exact k3, by omega⟩⟩⟩
        · rw [k5, b2_s, R161n hq]
          exact ⟨_, _, _, _, _, _, rfl, SAME_u q mac mfi mse mtd _ _ _ _, Or.inr ⟨rfl, k4, Or.inr ⟨1, 2 + k, ha, he, by show 2 + k < 5; omega, DG_ap q1 k2, by rw [show i + 1 + (2 + k) = i + 1 + 2 + k by omega]; exact k3, by omega⟩⟩⟩
      · rw [k5, b2_s, R85n hq]
        exact ⟨_, _, _, _, _, _, rfl, SAME_u q mac mfi mse mtd _ _ _ _, Or.inr ⟨rfl, k4, Or.inr ⟨1, k, ha, he, by show k < 5; omega, k2, k3, rfl⟩⟩⟩
    · have hc : cdn a = 3 := by rcases h2 with rfl | rfl <;> rfl
      rw [e0, if_neg (by omega), if_neg (by omega), if_neg (by omega)]
      rcases m1 (p := i + 1) (by omega) with ⟨q1, q2, q3⟩ | ⟨k, k1, k2, k3, k4, k5⟩
      · rw [q3, b2_s, R85 hq (nI L) _ _ mfi mse mtd (num9 (by omega) q1) ha hac, if_neg (by omega), if_pos h2]
        rcases m2 (p := i + 1 + 1) (by omega) with ⟨u1, u2, u3⟩ | ⟨k, k1, k2, k3, k4, k5⟩
        · rw [u3, b2_s, R161p hq _ _ _ _ _ _ (num9 (by omega) u1) (by rw [hac]; rcases h2 with rfl | rfl <;> decide)]
          exact ⟨_, _, _, _, _, _, rfl, SAME_u q mac mfi mse mtd _ _ _ _, Or.inl ⟨rfl, a, ha, he, by rw [hc]; exact DG_ap (a := 1) (b := 2) q1 u1, by rw [hc], by omega, hac, fun c => by omega, fun c => by omega, fun _ => ⟨pk_us, pk_us⟩, fun c => by omega⟩⟩
        · rw [k5, b2_s, R161n hq]
          exact ⟨_, _, _, _, _, _, rfl, SAME_u q mac mfi mse mtd _ _ _ _, Or.inr ⟨rfl, k4, Or.inr ⟨a, 1 + k, ha, he, by rw [hc]; omega, DG_ap q1 k2, by rw [show i + 1 + (1 + k) = i + 1 + 1 + k by omega]; exact k3, by omega⟩⟩⟩
      · rw [k5, b2_s, R85n hq]
        exact ⟨_, _, _, _, _, _, rfl, SAME_u q mac mfi mse mtd _ _ _ _, Or.inr ⟨rfl, k4, Or.inr ⟨a, k, ha, he, by rw [hc]; omega, k2, k3, rfl⟩⟩⟩
    · subst h4
      rw [e0, if_neg (by omega), if_neg (by omega), if_neg (by omega)]
      rcases m1 (p := i + 1) (by omega) with ⟨q1, q2, q3⟩ | ⟨k, k1, k2, k3, k4, k5⟩
      · rw [q3, b2_s, R85 hq (nI L) _ _ mfi mse mtd (num9 (by omega) q1) ha hac, if_pos (by omega)]
        rcases m1 (p := i + 1 + 1) (by omega) with ⟨u1, u2, u3⟩ | ⟨k, k1, k2, k3, k4, k5⟩
        · rw [u3, b2_s, R161p hq _ _ _ _ _ _ (num9 (by omega) u1) (by rw [hac]; decide)]
          exact ⟨_, _, _, _, _, _, rfl, SAME_u q mac mfi mse mtd _ _ _ _, Or.inl ⟨rfl, 4, ha, he, DG_ap (a := 1) (b := 1) q1 u1, rfl, u2, hac, fun c => by omega, fun c => by omega, fun c => by omega, fun _ => ⟨pk_us, pk_us⟩⟩⟩
        · rw [k5, b2_s, R161n hq]
          exact ⟨_, _, _, _, _, _, rfl, SAME_u q mac mfi mse mtd _ _ _ _, Or.inr ⟨rfl, k4, Or.inr ⟨4, 1 + k, ha, he, by show 1 + k < 2; omega, DG_ap q1 k2, by rw [show i + 1 + (1 + k) = i + 1 + 1 + k by omega]; exact k3, by omega⟩⟩⟩
      · rw [k5, b2_s, R85n hq]
        exact ⟨_, _, _, _, _, _, rfl, SAME_u q mac mfi mse mtd _ _ _ _, Or.inr ⟨rfl, k4, Or.inr ⟨4, k, ha, he, by show k < 2; omega, k2, k3, rfl⟩⟩⟩
    · subst h5
      rw [e0, if_neg (by omega), if_neg (by omega), if_pos rfl, show (0 : Int32) = nI 0 from rfl, R85 hq (nI L) _ _ mfi mse mtd (f := 0) (by omega) ha hac, if_neg (by omega), if_neg (by omega), show (0 : Int32) = nI 0 from rfl, R161p hq _ _ _ _ _ _ (e := 0) (by omega) (by rw [hac]; decide)]
      exact ⟨_, _, _, _, _, _, rfl, SAME_u q mac mfi mse mtd _ _ _ _, Or.inl ⟨rfl, 5, ha, he, DG_0 s L _, rfl, by show i + 1 + 0 ≤ L; omega, hac, fun c => by omega, fun c => by omega, fun c => by omega, fun c => by omega⟩⟩
  · refine ⟨0, i, upd mac q (-1), upd mfi q (-1), upd mse q (-1), upd mtd q (-1), ?_, SAME_u q mac mfi mse mtd _ _ _ _, Or.inr ⟨rfl, by omega, Or.inl ⟨rfl, he⟩⟩⟩
    unfold fX12_readsAct
    rw [ht, b2_s, inb_n hq (by decide)]
    simp only [grd_t]
    rw [cl_n (by omega), lt_e, pk_us, if_neg (by decide), R85n hq]
