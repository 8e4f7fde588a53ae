/-! day: an act of the text, in the class; the act done -/
theorem C_nx {s : Nat → Int32} {L p : Nat} (hL : L ≤ 80) (hp : p < L) : fX7_next (nI L) (nI p) s = some (s p, nI (p + 1)) := by
  unfold fX7_next
  rw [if_pos ((ltn (by omega) (by omega)).mpr hp), nI_1, lt_e, nI_pred, inb_n (i := p) (n := 80) (by omega) (by decide), grd_t, cl_n (by omega)]
theorem C_d1 {s : Nat → Int32} {L p : Nat} (hL : L ≤ 80) (h : DG s L p 1) : fX7_digit (nI L) (nI p) s = some (nI (dgn (s p)), nI (p + 1)) := by
  have h0 : p < L ∧ dgt (s p) := h 0 (by omega)
  unfold fX7_digit
  have e : s p - 48 = nI (dgn (s p)) := by
    have := (dg_e h0.2).1
    rw [this, show (48 : Int32) = nI 48 from rfl, pk_sub (by omega), show 48 + dgn (s p) - 48 = dgn (s p) by omega, ← this]
  rw [C_nx hL h0.1, b2_s, e]
theorem DG_l {s : Nat → Int32} {L p a b : Nat} (h : DG s L p (a + b)) : DG s L p a := fun j hj => h j (by omega)
theorem DG_r {s : Nat → Int32} {L p a b : Nat} (h : DG s L p (a + b)) : DG s L (p + a) b := fun j hj => by
  have := h (a + j) (by omega)
  rw [show p + (a + j) = p + a + j by omega] at this; exact this
theorem C_d2 {s : Nat → Int32} {L p : Nat} (hL : L ≤ 80) (h : DG s L p 2) : fX7_twoDigits (nI L) (nI p) s = some (nI (num s p 2), nI (p + 2)) := by
  unfold fX7_twoDigits
  rw [C_d1 hL (DG_l (a := 1) (b := 1) h), b2_s, C_d1 hL (DG_r (a := 1) (b := 1) h), b2_s, show (10 : Int32) = nI 10 from rfl, pk_mul, ad_1]
  have : dgn (s p) * 10 + dgn (s (p + 1)) = num s p 2 := by
    show _ = 10 * (10 * 0 + dgn (s p)) + dgn (s (p + 1))
    omega
  rw [this]
def oN (x : Int32) : Int32 := if x = 99 then -1 else x
theorem M_oN (x : Int32) : fX12_orNone x = some (oN x) := by
  unfold fX12_orNone oN
  by_cases c : x = 99
  · rw [if_pos c, if_pos c]
  · rw [if_neg c, if_neg c]
theorem C_tg {s : Nat → Int32} {L p : Nat} (hL : L ≤ 80) (h : DG s L p 2) : fX7_target (nI L) (nI p) s = some (oN (nI (num s p 2)), nI (p + 2)) := by
  unfold fX7_target oN
  rw [C_d2 hL h, b2_s]
  by_cases c : nI (num s p 2) = 99
  · rw [if_pos c, if_pos c]
  · rw [if_neg c, if_neg c]
def ab1 (s : Nat → Int32) (i : Nat) : Nat → Int32
  | 0 => nI (dgn (s (i + 1)))
  | 1 => nI (num s (i + 1) 2)
  | 2 => nI (num s (i + 1) 1)
  | 3 => nI (num s (i + 1) 1)
  | 4 => nI (num s (i + 1) 1)
  | _ => 0
def ab2 (s : Nat → Int32) (i : Nat) : Nat → Int32
  | 0 => nI (dgn (s (i + 2)))
  | 1 => nI (num s (i + 3) 1)
  | 2 => oN (nI (num s (i + 2) 2))
  | 3 => oN (nI (num s (i + 2) 2))
  | 4 => nI (num s (i + 2) 1)
  | _ => 0
def ab3 (s : Nat → Int32) (i : Nat) : Nat → Int32
  | 0 => nI (dgn (s (i + 3)))
  | 1 => oN (nI (num s (i + 4) 2))
  | _ => 0
def ab4 (s : Nat → Int32) (i : Nat) : Nat → Int32
  | 0 => nI (dgn (s (i + 4)))
  | _ => 0
theorem num1 (s : Nat → Int32) (p : Nat) : num s p 1 = dgn (s p) := by
  show 10 * 0 + dgn (s (p + 0)) = _
  rw [Nat.add_zero]; omega
theorem C_reads {s : Nat → Int32} {L i a : Nat} (hL : L ≤ 80) (hi : i < L) (ha : a < 6) (he : s i = nI (cch a)) (hD : DG s L (i + 1) (cdn a)) (za0 za1 za2 za3 za4 : Int32) : fX7_reads (nI L) (nI i) s za0 za1 za2 za3 za4 = some (nI (i + 1 + cdn a), nI (cch a), ab1 s i a, ab2 s i a, ab3 s i a, ab4 s i a) := by
  unfold fX7_reads
  rw [C_nx hL hi, b2_s, he]
  rcases (by omega : a = 0 ∨ a = 1 ∨ a = 2 ∨ a = 3 ∨ a = 4 ∨ a = 5) with rfl | rfl | rfl | rfl | rfl | rfl
  · have h4 : DG s L (i + 1) 4 := hD
    have d1 := C_d1 hL (DG_l (a := 1) (b := 3) h4)
    have d2 := C_d1 hL (DG_l (a := 1) (b := 2) (DG_r (a := 1) (b := 3) h4))
    have d3 := C_d1 hL (DG_l (a := 1) (b := 1) (DG_r (a := 2) (b := 2) h4))
    have d4 := C_d1 hL (DG_r (a := 3) (b := 1) h4)
    unfold fX0_becomes
    rw [if_neg (by decide), if_pos (by decide), d1, b2_s, d2, b2_s, d3, b2_s, d4, b2_s, b5_s]
    rfl
  · have h5 : DG s L (i + 1) 5 := hD
    have d1 := C_d2 hL (DG_l (a := 2) (b := 3) h5)
    have d2 := C_d1 hL (DG_l (a := 1) (b := 2) (DG_r (a := 2) (b := 3) h5))
    have d3 := C_tg hL (DG_r (a := 3) (b := 2) h5)
    unfold fX0_becomes
    rw [if_neg (by decide), if_neg (by decide), if_neg (by decide), if_pos (by decide), d1, b2_s, d2, b2_s, d3, b2_s, b5_s, ← num1]
    rfl
  · have h3 : DG s L (i + 1) 3 := hD
    have d1 := C_d1 hL (DG_l (a := 1) (b := 2) h3)
    have d2 := C_tg hL (DG_r (a := 1) (b := 2) h3)
    unfold fX7_reads_117 fX0_becomes
    rw [if_neg (by decide), if_neg (by decide), if_pos (by decide), d1, b2_s, d2, b2_s, b5_s, ← num1]
    rfl
  · have h3 : DG s L (i + 1) 3 := hD
    have d1 := C_d1 hL (DG_l (a := 1) (b := 2) h3)
    have d2 := C_tg hL (DG_r (a := 1) (b := 2) h3)
    unfold fX7_reads_117 fX0_becomes
    rw [if_neg (by decide), if_neg (by decide), if_neg (by decide), if_neg (by decide), if_pos (by decide), d1, b2_s, d2, b2_s, b5_s, ← num1]
    rfl
  · have h2 : DG s L (i + 1) 2 := hD
    have d1 := C_d1 hL (DG_l (a := 1) (b := 1) h2)
    have d2 := C_d1 hL (DG_r (a := 1) (b := 1) h2)
    unfold fX0_becomes
    rw [if_pos (by decide), d1, b2_s, d2, b2_s, b5_s, ← num1, ← num1]
    rfl
  · unfold fX7_reads_153 fX0_becomes
    rw [if_neg (by decide), if_neg (by decide), if_neg (by decide), if_neg (by decide), if_neg (by decide), b5_s]
    rfl
theorem T_do {N B : Nat} (hN : 200000 ≤ N) (hB : B + 8 ≤ 900000000) {A : AS} (hJ : J B A [] none) {s : Nat → Int32} {L i a q : Nat} (hq : q < 80) (ha : a < 6) (hD : DG s L (i + 1) (cdn a)) {mac mfi mse mtd : Nat → Int32} (hac : mac q = nI a) (hv : VAL s i a q mfi mse mtd) : ∃ r A', J (B + 8) A' [] none ∧ (r < 0 → A' = A) ∧ CDo N (nI (cch a)) (ab1 s i a) (ab2 s i a) (ab3 s i a) (ab4 s i a) A A' r ∧ ∀ (m0 : Nat → Int32) (b : Nat) (mm mco mcn : Nat → Int32) (mvi men : Int32), b ≤ 5124 → RM m0 b mm A → ∃ mm' mco' mcn' mvi' men', fX12_does N mm (nI b) mco mcn mvi men mac mfi mse mtd (nI q) = some (if r < 0 then 0 else 1, mm', mco', mcn', mvi', men') ∧ RM m0 b mm' A' := by
  have iq : inb (nI q) 80 = true := inb_n hq (by decide)
  have cq : (nI q).toNatClampNeg = q := cl_n (by omega)
  have hdt : ∀ {A' : AS} {B' : Nat}, B' ≤ 900000000 → J B' A' [] none → dt A A' < 2147483648 := fun {A'} {B'} hb h => by
    have : (a_lg A').1 + 5 * nt A' + 2 * un A' ≤ B' + 0 := h.2.2.2.2.2
    unfold dt
    omega
  have nlt : ∀ {A' : AS} {B' : Nat} {r : Int32}, B' ≤ 900000000 → J B' A' [] none → (r = nI (dt A A') ∨ (r < 0 ∧ A' = A)) → r < 0 → A' = A := fun {A'} {B'} {r} hb h hr h0 => by
    rcases hr with hr | hr
    · rw [hr] at h0; exact absurd h0 (nI_nlt0 (hdt hb h))
    · exact hr.2
  rcases (by omega : a = 0 ∨ a = 1 ∨ a = 2 ∨ a = 3 ∨ a = 4 ∨ a = 5) with rfl | rfl | rfl | rfl | rfl | rfl
  · have h4 : DG s L (i + 1) 4 := hD
    have e1 := (dg_e (h4 0 (by omega)).2).2
    have e2 := (dg_e (h4 1 (by omega)).2).2
    have e3 := (dg_e (h4 2 (by omega)).2).2
    have e4 := (dg_e (h4 3 (by omega)).2).2
    have hnum : num s (i + 1) 4 = 1000 * dgn (s (i + 1 + 0)) + 100 * dgn (s (i + 1 + 1)) + 10 * dgn (s (i + 1 + 2)) + dgn (s (i + 1 + 3)) := by
      show 10 * (10 * (10 * (10 * 0 + dgn (s (i + 1 + 0))) + dgn (s (i + 1 + 1))) + dgn (s (i + 1 + 2))) + dgn (s (i + 1 + 3)) = _
      omega
    obtain ⟨r, qq, A', l, g1, g2, g3, g4, _, g5⟩ := T_makes hN (by omega) hJ (ab1 s i 0) (ab2 s i 0) (ab3 s i 0) (ab4 s i 0)
    have hr : r < 0 ↔ qq < 0 := by
      rcases g5 with ⟨c1, c2, _⟩ | ⟨c1, o, c2, c3, _⟩
      · rw [c2]
      · rw [c1, c3]
        exact ⟨fun c => absurd c (nI_nlt0 (hdt hB g1)), fun c => absurd c (nI_nlt0 (by omega))⟩
    refine ⟨r, A', g1, fun h0 => ?_, g3, fun m0 b mm mco mcn mvi men hb hR => ?_⟩
    · rcases g5 with ⟨_, _, c⟩ | ⟨c1, _⟩
      · exact c
      · rw [c1] at h0; exact absurd h0 (nI_nlt0 (hdt hB g1))
    · obtain ⟨mm', mco', mcn', mvi', e, hR'⟩ := g4 m0 b mm mco mcn mvi hb hR
      have e' : fX12_makesOne N mm (nI b) mco mcn mvi (ab1 s i 0) (ab2 s i 0) (ab3 s i 0) (ab4 s i 0) = some (qq, mm', mco', mcn', mvi') := e
      have hf := hv.1 rfl
      have j1 : nI (num s (i + 1) 4) / 1000 = ab1 s i 0 := by
        rw [show (1000 : Int32) = nI 1000 from rfl, pk_div (by omega) (by decide) (by decide)]
        show nI _ = nI _
        congr 1; rw [hnum, Nat.add_zero]; rw [Nat.add_zero] at e1; omega
      have j2 : jrem (nI (num s (i + 1) 4) / 100) 10 = ab2 s i 0 := by
        rw [show (100 : Int32) = nI 100 from rfl, pk_div (by omega) (by decide) (by decide)]
        refine (pk_rem (d := 10) (by omega) (by decide) (by decide)).trans ?_
        show nI _ = nI _
        congr 1; rw [hnum]; show _ = dgn (s (i + 1 + 1)); omega
      have j3 : jrem (nI (num s (i + 1) 4) / 10) 10 = ab3 s i 0 := by
        rw [show (10 : Int32) = nI 10 from rfl, pk_div (by omega) (by decide) (by decide)]
        refine (pk_rem (d := 10) (by omega) (by decide) (by decide)).trans ?_
        show nI _ = nI _
        congr 1; rw [hnum]; show _ = dgn (s (i + 1 + 2)); omega
      have j4 : jrem (nI (num s (i + 1) 4)) 10 = ab4 s i 0 := by
        refine (pk_rem (d := 10) (by omega) (by decide) (by decide)).trans ?_
        show nI _ = nI _
        congr 1; rw [hnum]; show _ = dgn (s (i + 1 + 3)); omega
      refine ⟨mm', mco', mcn', mvi', men, ?_, hR'⟩
      unfold fX12_does
      rw [iq, grd_t, grd_t, cq, hac, if_pos (by decide), show nzb 1000 = true from by decide, show nzb 100 = true from by decide, show nzb 10 = true from by decide, grd_t, grd_t, grd_t, grd_t, grd_t, grd_t, hf, j1, j2, j3, j4, e', b5_s]
      by_cases c : r < 0
      · rw [if_pos c, if_pos (hr.mp c)]
      · rw [if_neg c, if_neg (fun c2 => c (hr.mpr c2))]
  · obtain ⟨r, A', g1, g2, g5, g3, g4⟩ := T_sets hN (by omega) hJ (ab1 s i 1) (ab2 s i 1) (ab3 s i 1) (ab4 s i 1)
    refine ⟨r, A', J_up g1 (by omega), nlt (by omega) g1 g5, g3, fun m0 b mm mco mcn mvi men hb hR => ?_⟩
    obtain ⟨mm', mco', mcn', mvi', e, hR'⟩ := g4 m0 b mm mco mcn mvi hb hR
    have e' : fX12_setsOne N mm (nI b) mco mcn mvi (nI (num s (i + 1) 2)) (nI (num s (i + 3) 1)) (oN (nI (num s (i + 4) 2))) = some (r, mm', mco', mcn', mvi') := e
    obtain ⟨v1, v2, v3⟩ := hv.2.1 rfl
    refine ⟨mm', mco', mcn', mvi', men, ?_, hR'⟩
    unfold fX12_does
    rw [iq]
    simp only [grd_t]
    rw [cq, hac, if_neg (by decide), if_pos (by decide), v1, v2, v3, M_oN, b1_s, e', b5_s]
    by_cases c : r < 0
    · rw [if_pos c, if_pos c]
    · rw [if_neg c, if_neg c]
  · obtain ⟨r, A', g1, g2, g5, g3, g4⟩ := T_roots hN (by omega) hJ (ab1 s i 2) (ab2 s i 2) (ab3 s i 2) (ab4 s i 2)
    refine ⟨r, A', J_up g1 (by omega), nlt (by omega) g1 g5, g3, fun m0 b mm mco mcn mvi men hb hR => ?_⟩
    obtain ⟨mm', mco', mcn', mvi', e, hR'⟩ := g4 m0 b mm mco mcn mvi hb hR
    have e' : fX12_rootsOne N mm (nI b) mco mcn mvi (nI (num s (i + 1) 1)) (oN (nI (num s (i + 2) 2))) = some (r, mm', mco', mcn', mvi') := e
    obtain ⟨v1, v2⟩ := hv.2.2.1 (Or.inl rfl)
    refine ⟨mm', mco', mcn', mvi', men, ?_, hR'⟩
    unfold fX12_does
    rw [iq]
    simp only [grd_t]
    rw [cq, hac, if_neg (by decide), if_neg (by decide), if_pos (by decide), v1, v2, M_oN, b1_s, e', b5_s]
    by_cases c : r < 0
    · rw [if_pos c, if_pos c]
    · rw [if_neg c, if_neg c]
  · obtain ⟨r, qq, A', g1, g2, g3, g4, g5⟩ := T_weaks hN (by omega) hJ (ab1 s i 3) (ab2 s i 3) (ab3 s i 3) (ab4 s i 3)
    refine ⟨r, A', J_up g1 (by omega), fun h0 => ?_, g3, fun m0 b mm mco mcn mvi men hb hR => ?_⟩
    · rcases g5 with ⟨_, _, _, c⟩ | ⟨c, _⟩
      · exact c
      · rw [c] at h0; exact absurd h0 (by decide)
    · obtain ⟨mm', e, hR'⟩ := g4 m0 b mm hb hR
      have e' : fX12_weaksOne N mm (nI b) (nI (num s (i + 1) 1)) (oN (nI (num s (i + 2) 2))) = some (qq, mm') := e
      obtain ⟨v1, v2⟩ := hv.2.2.1 (Or.inr rfl)
      refine ⟨mm', mco, mcn, mvi, men, ?_, hR'⟩
      unfold fX12_does
      rw [iq]
      simp only [grd_t]
      rw [cq, hac, if_neg (by decide), if_neg (by decide), if_neg (by decide), if_pos (by decide), v1, v2, M_oN, b1_s, e', b2_s]
      rcases g5 with ⟨c1, c2, c3, _⟩ | ⟨c1, c2, _⟩
      · rw [c3, if_pos c1, if_pos c2]
      · rw [c1, if_neg (show ¬ (0 : Int32) < 0 from by decide), if_neg (by rw [lt_i]; rw [le_i] at c2; omega)]
  · obtain ⟨r, A', g1, g2, g5, g3, g4⟩ := T_wakes hN (by omega) hJ (ab1 s i 4) (ab2 s i 4) (ab3 s i 4) (ab4 s i 4)
    refine ⟨r, A', J_up g1 (by omega), nlt (by omega) g1 g5, g3, fun m0 b mm mco mcn mvi men hb hR => ?_⟩
    obtain ⟨mm', mco', mcn', mvi', e, hR'⟩ := g4 m0 b mm mco mcn mvi hb hR
    have e' : fX12_wakesOne N mm (nI b) mco mcn mvi (nI (num s (i + 1) 1)) (nI (num s (i + 2) 1)) = some (r, mm', mco', mcn', mvi') := e
    obtain ⟨v1, v2⟩ := hv.2.2.2 rfl
    refine ⟨mm', mco', mcn', mvi', men, ?_, hR'⟩
    unfold fX12_does
    rw [iq]
    simp only [grd_t]
    rw [cq, hac, if_neg (by decide), if_neg (by decide), if_neg (by decide), if_neg (by decide), if_pos (by decide), v1, v2, e', b5_s]
    by_cases c : r < 0
    · rw [if_pos c, if_pos c]
    · rw [if_neg c, if_neg c]
  · obtain ⟨r, qq, A', v, g1, g2, g3⟩ := T_tr1 hN (by omega) hJ 0 0 0 0
    rcases g3 with ⟨c1, c2, c3, c4, c5⟩ | ⟨c1, c2, c3, _, _, _, c4, c5⟩
    · refine ⟨r, A', J_up g1 (by omega), fun _ => c3, c4, fun m0 b mm mco mcn mvi men hb hR => ⟨mm, mco, mcn, mvi, men, ?_, by rw [c3]; exact hR⟩⟩
      unfold fX12_does
      rw [iq]
      simp only [grd_t]
      rw [cq, hac, if_neg (by decide), if_neg (by decide), if_neg (by decide), if_neg (by decide), if_neg (by decide), c5 m0 b mm mco mcn mvi men hb hR, b6_s, if_pos c1, if_pos c1]
    · have hnr : ¬ r < 0 := by rw [c1]; exact nI_nlt0 (hdt (by omega) g1)
      refine ⟨r, A', J_up g1 (by omega), fun h0 => absurd h0 hnr, fun X zcd zgo ztd ztv zcl zca zwa zpt zpf hX => ?_, fun m0 b mm mco mcn mvi men hb hR => ?_⟩
      · obtain ⟨z1, z2, z3, z5, z6, z7, z8, z9, X', e2, r2⟩ := c4 X zcd zgo ztd ztv zcl zca zwa zpt zpf hX
        exact ⟨z1, z2, z3, nI v, z5, z6, z7, z8, z9, X', e2, r2⟩
      · obtain ⟨mm', mco', mcn', e, hR'⟩ := c5 m0 b mm mco mcn mvi men hb hR
        refine ⟨mm', mco', mcn', nI v, ek A A', ?_, hR'⟩
        unfold fX12_does
        rw [iq]
        simp only [grd_t]
        rw [cq, hac, if_neg (by decide), if_neg (by decide), if_neg (by decide), if_neg (by decide), if_neg (by decide), e, b6_s, if_neg hnr, if_neg (by rw [lt_i, i0]; rw [le_i, i0] at c3; omega)]
