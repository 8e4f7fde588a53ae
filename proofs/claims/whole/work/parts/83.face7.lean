/-! years -/
def ds (s : Int32) : Int32 := (s * 1103515245) + 12345
def dv (s p : Int32) : Int32 := jrem (jushr (ds s) 16) p
def dw (s : Int32) : Int32 := if dv s 25 = 24 then -1 else dv s 25
theorem C_dr (s : Int32) {p : Int32} (h1 : ¬ p ≤ 0) (h2 : nzb p = true) : fX11_draws s p = some (dv s p, ds s) := by
  unfold fX11_draws
  rw [lt_e, if_neg h1, h2, grd_t]
  rfl
theorem M_dr (s : Int32) {p : Int32} (h2 : nzb p = true) : fX12_draws s p = some (dv s p, ds s) := by
  unfold fX12_draws
  rw [lt_e, h2, grd_t]
  rfl
theorem C_dt (s : Int32) : fX11_drawsTo s = some (dw s, ds s) := by
  unfold fX11_drawsTo dw
  rw [C_dr s (by decide) (by decide), b2_s]
  by_cases q : dv s 25 = 24
  · rw [if_pos q, if_pos q]
  · rw [if_neg q, if_neg q]
theorem M_dt (s : Int32) : fX12_drawsOther s = some (dw s, ds s) := by
  unfold fX12_drawsOther dw
  rw [M_dr s (by decide), b2_s]
  by_cases q : dv s 25 = 24
  · rw [if_pos q, if_pos q]
  · rw [if_neg q, if_neg q]
theorem T_draw {N B : Nat} (hN : 200000 ≤ N) (hB : B + 8 ≤ 2147400000) {A : AS} (hJ : J B A [] none) (s : Int32) : ∃ A' s' b0 b1 b2 b3 b4 r, J (B + 8) A' [] none ∧ (∀ za0 za1 za2 za3 za4, fX11_drawsAct s za0 za1 za2 za3 za4 = some (s', b0, b1, b2, b3, b4)) ∧ CDo N b0 b1 b2 b3 b4 A A' r ∧ ∀ (m0 : Nat → Int32) (b : Nat) (mm mco mcn : Nat → Int32) (mvi : Int32), b ≤ 5124 → RM m0 b mm A → ∃ q mm' mco' mcn' mvi', fX12_drawnAct N mm (nI b) mco mcn mvi s = some (q, mm', mco', mcn', mvi', s') ∧ RM m0 b mm' A' := by
  have d4 := fun s => C_dr s (p := 4) (by decide) (by decide)
  have d5 := fun s => C_dr s (p := 5) (by decide) (by decide)
  have d6 := fun s => C_dr s (p := 6) (by decide) (by decide)
  have d8 := fun s => C_dr s (p := 8) (by decide) (by decide)
  have d24 := fun s => C_dr s (p := 24) (by decide) (by decide)
  have e4 := fun s => M_dr s (p := 4) (by decide)
  have e5 := fun s => M_dr s (p := 5) (by decide)
  have e6 := fun s => M_dr s (p := 6) (by decide)
  have e8 := fun s => M_dr s (p := 8) (by decide)
  have e24 := fun s => M_dr s (p := 24) (by decide)
  by_cases q0 : dv s 4 = 0
  · obtain ⟨r, q, A', l, g1, g2, g3, g4, _⟩ := T_makes hN hB hJ (dv (ds s) 5) 1 (dv (ds (ds s)) 8) (dv (ds (ds (ds s))) 6)
    refine ⟨A', ds (ds (ds (ds s))), 110, dv (ds s) 5, 1, dv (ds (ds s)) 8, dv (ds (ds (ds s))) 6, r, g1, fun za0 za1 za2 za3 za4 => ?_, g3, fun m0 b mm mco mcn mvi hb hR => ?_⟩
    · unfold fX11_drawsAct fX0_becomes
      rw [d4, b2_s, if_pos q0, d5, b2_s, d8, b2_s, d6, b2_s, b5_s]
    · obtain ⟨mm', mco', mcn', mvi', e, hR'⟩ := g4 m0 b mm mco mcn mvi hb hR
      have e' : fX12_makesOne N mm (nI b) mco mcn mvi (dv (ds s) 5) 1 (dv (ds (ds s)) 8) (dv (ds (ds (ds s))) 6) = some (q, mm', mco', mcn', mvi') := e
      refine ⟨q, mm', mco', mcn', mvi', ?_, hR'⟩
      unfold fX12_drawnAct
      rw [e4, b2_s, if_pos q0, e5, b2_s, e8, b2_s, e6, b2_s, e', b5_s]
  · by_cases q3 : dv s 4 = 3
    · obtain ⟨r, A', g1, g2, _, g3, g4⟩ := T_roots hN (by omega) hJ (dv (ds s) 6) (dw (ds (ds s))) 0 0
      refine ⟨A', ds (ds (ds s)), 114, dv (ds s) 6, dw (ds (ds s)), 0, 0, r, J_up g1 (by omega), fun za0 za1 za2 za3 za4 => ?_, g3, fun m0 b mm mco mcn mvi hb hR => ?_⟩
      · unfold fX11_drawsAct fX0_becomes
        rw [d4, b2_s, if_neg q0, if_pos q3, d6, b2_s, C_dt, b2_s, b5_s]
      · obtain ⟨mm', mco', mcn', mvi', e, hR'⟩ := g4 m0 b mm mco mcn mvi hb hR
        have e' : fX12_rootsOne N mm (nI b) mco mcn mvi (dv (ds s) 6) (dw (ds (ds s))) = some (r, mm', mco', mcn', mvi') := e
        refine ⟨r, mm', mco', mcn', mvi', ?_, hR'⟩
        unfold fX12_drawnAct
        rw [e4, b2_s, if_neg q0, if_pos q3, e6, b2_s, M_dt, b2_s, e', b5_s]
    · obtain ⟨r, A', g1, g2, _, g3, g4⟩ := T_sets hN (by omega) hJ (dv (ds s) 24) (dv (ds (ds s)) 4) (dw (ds (ds (ds s)))) 0
      refine ⟨A', ds (ds (ds (ds s))), 115, dv (ds s) 24, dv (ds (ds s)) 4, dw (ds (ds (ds s))), 0, r, J_up g1 (by omega), fun za0 za1 za2 za3 za4 => ?_, g3, fun m0 b mm mco mcn mvi hb hR => ?_⟩
      · unfold fX11_drawsAct fX0_becomes
        rw [d4, b2_s, if_neg q0, if_neg q3, d24, b2_s, d4, b2_s, C_dt, b2_s, b5_s]
      · obtain ⟨mm', mco', mcn', mvi', e, hR'⟩ := g4 m0 b mm mco mcn mvi hb hR
        have e' : fX12_setsOne N mm (nI b) mco mcn mvi (dv (ds s) 24) (dv (ds (ds s)) 4) (dw (ds (ds (ds s)))) = some (r, mm', mco', mcn', mvi') := e
        refine ⟨r, mm', mco', mcn', mvi', ?_, hR'⟩
        unfold fX12_drawnAct
        rw [e4, b2_s, if_neg q0, if_neg q3, e24, b2_s, e4, b2_s, M_dt, b2_s, e', b5_s]
theorem yrs_j {N B P : Nat} (hN : 200000 ≤ N) (hB : B ≤ 900000000) (hP : P ≤ 40) (p1 : Int32) (m0 : Nat → Int32) (ztz : Int32) (ztn : Nat → Int64) (mto : Int32) (mrw : Nat → Int64) (x3 : Int32) : ∀ n k A1 HS mm s za0 za1 za2 za3 za4 zcd zgo ztd ztv zcl zca zwa zpt zpf mco mcn mvi, k ≤ P → J (B + 8 * k) A1 [] none → RC (HS 1) A1 → RM m0 1708 mm A1 → P - k < n → ∃ A2 s' a0 b0 c0 d0 f0 zcd' zgo' ztd' ztv' zcl' zca' zwa' zpt' zpf' HS' mm' mco' mcn' mvi', fX11_years_31 N p1 (nI P) n s ztz ztn za0 za1 za2 za3 za4 zcd zgo ztd ztv zcl zca zwa zpt zpf HS (nI k) = fX11_years_62 N p1 (nI P) s' ztz ztn a0 b0 c0 d0 f0 zcd' zgo' ztd' ztv' zcl' zca' zwa' zpt' zpf' HS' ∧ fX12_years_43 N p1 (nI P) n 0 mto mrw mm (nI 1708) mco mcn mvi s x3 (nI k) = fX12_years_60 N p1 (nI P) 0 mto mrw mm' (nI 1708) mco' mcn' mvi' s' x3 ∧ J (B + 8 * P) A2 [] none ∧ RC (HS' 1) A2 ∧ RM m0 1708 mm' A2 ∧ ∀ i, i ≠ 1 → HS' i = HS i := by
  intro n
  induction n with
  | zero => intro k A1 HS mm s za0 za1 za2 za3 za4 zcd zgo ztd ztv zcl zca zwa zpt zpf mco mcn mvi _ _ _ _ h; omega
  | succ n ih =>
    intro k A1 HS mm s za0 za1 za2 za3 za4 zcd zgo ztd ztv zcl zca zwa zpt zpf mco mcn mvi hk hJ hX hR hn
    have leP : nI P ≤ nI k ↔ P ≤ k := le_n (by omega) (by omega)
    have eC : fX11_years_31 N p1 (nI P) (n + 1) s ztz ztn za0 za1 za2 za3 za4 zcd zgo ztd ztv zcl zca zwa zpt zpf HS (nI k) = fX11_years_31b N p1 (nI P) (fX11_years_31 N p1 (nI P) n) s ztz ztn za0 za1 za2 za3 za4 zcd zgo ztd ztv zcl zca zwa zpt zpf HS (nI k) := rfl
    have eM : fX12_years_43 N p1 (nI P) (n + 1) 0 mto mrw mm (nI 1708) mco mcn mvi s x3 (nI k) = fX12_years_43b N p1 (nI P) (fX12_years_43 N p1 (nI P) n) 0 mto mrw mm (nI 1708) mco mcn mvi s x3 (nI k) := rfl
    rw [eC, eM]
    unfold fX11_years_31b fX12_years_43b
    by_cases q : P ≤ k
    · rw [if_pos (leP.mpr q), if_pos (leP.mpr q)]
      exact ⟨A1, s, za0, za1, za2, za3, za4, zcd, zgo, ztd, ztv, zcl, zca, zwa, zpt, zpf, HS, mm, mco, mcn, mvi, rfl, rfl, J_up hJ (by omega), hX, hR, fun _ _ => rfl⟩
    · rw [if_neg (fun c => q (leP.mp c)), if_neg (fun c => q (leP.mp c))]
      obtain ⟨A', s', b0, b1, b2, b3, b4, r, g1, g2, g3, g4⟩ := T_draw hN (by omega) hJ s
      obtain ⟨z1, z2, z3, z4, z5, z6, z7, z8, z9, X', e1, r1⟩ := g3 (HS 1) zcd zgo ztd ztv zcl zca zwa zpt zpf hX
      obtain ⟨q', mm', mco', mcn', mvi', e2, r2⟩ := g4 m0 1708 mm mco mcn mvi (by decide) hR
      rw [g2, b6_s, e1, b11_s, lt_e, e2, b6_s, nI_1]
      obtain ⟨A2, t1, t2, t3, t4, t5, t6, w1, w2, w3, w4, w5, w6, w7, w8, w9, HS', mm2, mc2, mn2, mv2, f1, f2, f3, f4, f5, f6⟩ := ih (k + 1) A' (updH HS 1 X') mm' s' b0 b1 b2 b3 b4 z1 z2 z3 z4 z5 z6 z7 z8 z9 mco' mcn' mvi' (by omega) (J_up g1 (by omega)) (by rw [updH_s]; exact r1) r2 (by omega)
      exact ⟨A2, t1, t2, t3, t4, t5, t6, w1, w2, w3, w4, w5, w6, w7, w8, w9, HS', mm2, mc2, mn2, mv2, f1, f2, f3, f4, f5, fun i hi => by rw [f6 i hi, updH_n hi]⟩
theorem S_years {N : Nat} (hN : 200000 ≤ N) (j : Nat) (hj : j < 512) : ST_years N (INV j) (INV (j + 1)) := by
  intro HS zkb zdr zky zpn zps ztz ztn zxz zxa zsg za0 za1 za2 za3 za4 zfr zcd zgo ztd ztv zcl zca zwa zpt zpf mth mto mrw mta mtp mat mtt mme mun mde mco mcn mvi men mfa mac mfi mse mtd mra mkp a1 a2 hI
  obtain ⟨A, K, U, kb, u, pn, hc, hx, ht, hd⟩ := hI
  have hd' : mde = 0 := hd
  subst hd'
  replace hc : COR (640 * j) HS zkb zpn zps mme mun mkp A K U kb u pn := hc
  replace hx : TXT zxz zsg mta mtp := hx
  replace ht : TLD ztz ztn mto mrw := ht
  have hJ : J (640 * j) A [] none := hc.1.1
  have w := hJ.1
  have hX0 : RC (HS 0) A := hc.1.2.1
  have hR0 : RM mme 0 mme A := hc.1.2.2
  have hcu : COR (640 * (j + 1)) HS zkb zpn zps mme mun mkp A K U kb u pn := COR_up hc (by omega)
  have mw : fX12_in a2.toInt64 1 40 = some (bI (decide ((1 : Nat) ≤ a2.toInt ∧ a2.toInt ≤ (40 : Nat)))) := lit_in 1 40 rfl rfl rfl rfl a2
  by_cases q1 : ((1 : Nat) : Int) ≤ a2.toInt ∧ a2.toInt ≤ (40 : Nat)
  · rw [decide_eq_true q1] at mw
    have hg1 : ¬ a2 < 1 := by rw [lt_i, show (1 : Int32).toInt = 1 from by decide]; omega
    have hg2 : a2 ≤ 40 := by rw [le_i, show (40 : Int32).toInt = 40 from by decide]; omega
    obtain ⟨er, hr⟩ := nI_back (p := a2) (by omega)
    have hr6 : a2.toInt.toNat ≤ 40 := by omega
    generalize a2.toInt.toNat = P at *
    subst er
    obtain ⟨mm1, et, r1, k1⟩ := q_try (N := N) (by omega) hc
    have hx3 : mm1 1710 = nI (a_lg A).1 := r1.2.2.2.1
    obtain ⟨A2, t1, t2, t3, t4, t5, t6, w1, w2, w3, w4, w5, w6, w7, w8, w9, HS', mm2, mc2, mn2, mv2, f1, f2, f3, f4, f5, f6⟩ := yrs_j (B := 640 * j) hN (by omega) hr6 a1 mm1 ztz ztn mto mrw (nI (a_lg A).1) N 0 A (updH HS 1 (HS 0)) mm1 a1 za0 za1 za2 za3 za4 zcd zgo ztd ztv zcl zca zwa zpt zpf mco mcn mvi (by omega) hJ (by rw [updH_s]; exact hX0) r1 (by omega)
    have fr := RM_fr f5
    have hcN : COR (640 * (j + 1)) HS' zkb zpn zps mm2 mun mkp A K U kb u pn := COR_sp hcu (fun i hi => by rw [f6 i hi, updH_n hi]) (fun i hi => by rw [fr i (by omega), k1 i hi])
    have w2' := f3.1
    obtain ⟨zn', mr1, mr', u1, u2, u3, ht2⟩ := TL_2 ztz ztn mrw (nI (a_lg A2).1 - nI (a_lg A).1).toInt64 (nI (a_ls A2).length).toInt64
    have hx4 : mm2 1710 = nI (a_lg A2).1 := f5.2.2.2.1
    have e1710 : (nI 1708 + 2).toNatClampNeg = 1710 := by decide
    have i1710 : inb (nI 1708 + 2) 5551 = true := by decide
    refine ⟨bs (a_th A2), t1, 2, zn', t2, t3, t4, t5, t6, w1, w2, w3, w4, w5, w6, w7, w8, w9, HS', 0, 2, mr', mm2, 0, mc2, mn2, mv2, t1, ?_, ?_, A, K, U, kb, u, pn, hcN, hx, ht2, rfl⟩
    · unfold fX11_years
      have f1' : fX11_years_31 N a1 (nI P) N a1 ztz ztn za0 za1 za2 za3 za4 zcd zgo ztd ztv zcl zca zwa zpt zpf (updH HS 1 (HS 0)) 0 = _ := f1
      rw [if_neg hg1, if_pos hg2, lt_e, f1']
      unfold fX11_years_62
      have h0 : HS' 0 = HS 0 := by rw [f6 0 (by decide), updH_n (by decide)]
      rw [h0, RC_h15 f4, RC_h15 hX0, RC_h11 f4, u1, b2_s, RC_h1 f4]
    · unfold fX12_years
      have f2' : fX12_years_43 N a1 (nI P) N 0 mto mrw mm1 (nI 1708) mco mcn mvi a1 (nI (a_lg A).1) 0 = _ := f2
      rw [mw, b1_s, if_neg (by decide), et, b2_s, i1710, grd_t, e1710, hx3, lt_e, f2']
      unfold fX12_years_60 fX12_isBack
      rw [M_thereAll f5 (by decide) (by omega), b1_s, i1710, grd_t, e1710, hx4, u2, b2_s, M_listed f5 (by decide), b1_s, u3, b2_s, b1_s]
  · rw [decide_eq_false q1] at mw
    refine ⟨-1, zdr, ztz, ztn, za0, za1, za2, za3, za4, zcd, zgo, ztd, ztv, zcl, zca, zwa, zpt, zpf, HS, 0, mto, mrw, mme, 0, mco, mcn, mvi, mra, ?_, ?_, A, K, U, kb, u, pn, hcu, hx, ht, rfl⟩
    · unfold fX11_years
      simp only [lt_i, le_i, show (1 : Int32).toInt = 1 from by decide, show (40 : Int32).toInt = 40 from by decide]
      by_cases c : a2.toInt < 1
      · rw [if_pos c]
      · rw [if_neg c, if_neg (by omega)]
    · unfold fX12_years
      rw [mw, b1_s, if_pos (by decide)]
