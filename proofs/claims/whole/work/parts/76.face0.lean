/-! the acts of the face -/
theorem b5_s {α β γ δ ε ζ : Type} (a : α) (b : β) (c : γ) (d : δ) (e : ε) (k : α → β → γ → δ → ε → Option ζ) : bnd5 (some (a, b, c, d, e)) k = k a b c d e := rfl
theorem b6_s {α β γ δ ε ζ η : Type} (a : α) (b : β) (c : γ) (d : δ) (e : ε) (f : ζ) (k : α → β → γ → δ → ε → ζ → Option η) : bnd6 (some (a, b, c, d, e, f)) k = k a b c d e f := rfl
theorem b11_s {α β γ δ ε ζ η θ ι κ μ ν : Type} (a : α) (b : β) (c : γ) (d : δ) (e : ε) (f : ζ) (g : η) (h : θ) (i : ι) (j : κ) (x : μ) (k : α → β → γ → δ → ε → ζ → η → θ → ι → κ → μ → Option ν) : bnd11 (some (a, b, c, d, e, f, g, h, i, j, x)) k = k a b c d e f g h i j x := rfl
theorem C_objects {X : Nat → Nat → Int32} {A : AS} (h : RC X A) : fX3_objects X = some (nI (nt A)) := by
  unfold fX3_objects
  rw [RC_h1 h, bitCount_c, b1_s]
  rfl
theorem updH_n {HS : Nat → Nat → Nat → Int32} {j i : Nat} {X : Nat → Nat → Int32} (h : i ≠ j) : updH HS j X i = HS i := if_neg h
theorem updH_s {HS : Nat → Nat → Nat → Int32} {j : Nat} {X : Nat → Nat → Int32} : updH HS j X j = X := if_pos rfl
section QA
variable {B : Nat} {HS : Nat → Nat → Nat → Int32} {zkb zpn zps : Int32} {mme : Nat → Int32} {mun : Int32} {mkp : Nat → Int32} {A : AS} {K U : Nat → AS} {kb : Nat → Bool} {u pn : Nat}
theorem q_pre {N : Nat} (hN : 1000 < N) (hc : COR B HS zkb zpn zps mme mun mkp A K U kb u pn) : fX5_marks zpn HS = some (updH HS (4 + pn) (HS 0)) ∧ ∃ mm1, fX12_copies N mme 0 3 = some mm1 ∧ (∀ i : Nat, (i < 1281 ∨ 1708 ≤ i) → mm1 i = mme i) ∧ RM mm1 0 mm1 A ∧ RM mm1 1281 mm1 A := by
  obtain ⟨⟨a1, a2, a3⟩, _, c1, c2, c3, c4, c5, c6⟩ := hc
  obtain ⟨mm1, e, k1, k2⟩ := M_copies hN mme (f := 0) (t := 3) (by decide) (by decide) (by decide)
  refine ⟨?_, mm1, e, fun i hi => k2 i (by omega), RM_move a3 (fun i i1 i2 => k2 i (by omega)), RM_copy a3 (fun k hk => ?_)⟩
  · unfold fX5_marks
    rw [c4, inb_n c5 (by decide), grd_t, cl_n (by omega), lt_e]
  · have := k1 k hk
    rw [show 427 * 3 + k = 1281 + k by omega, show 427 * 0 + k = 0 + k by omega] at this
    exact this
theorem q_act {N : Nat} (hN : 200000 ≤ N) (hc : COR B HS zkb zpn zps mme mun mkp A K U kb u pn) {ztz mto : Int32} {ztn mrw : Nat → Int64} (ht : TLD ztz ztn mto mrw) {B' : Nat} (hb : B ≤ B') (hB : B' ≤ 900000000) {A' : AS} {r : Int32} (hJ : J B' A' [] none) (hr : r = nI (dt A A') ∨ (r < 0 ∧ A' = A)) {X' : Nat → Nat → Int32} (hX : RC X' A') {mm1 mm2 : Nat → Int32} (h1 : ∀ i : Nat, (i < 1281 ∨ 1708 ≤ i) → mm1 i = mme i) (h2 : RM mm1 1281 mm1 A) (hR : RM mm1 0 mm2 A') :
    ∃ zpn' zps' ztz' ztn' mto' mrw' mme' mun', fX11_tellsChange zpn zps ztz ztn (updH (updH HS (4 + pn) (HS 0)) 0 X') r = some (r, zpn', zps', ztz', ztn') ∧ fX12_entersBoth N mto mrw mm2 0 r = some (r, mto', mrw') ∧ fX12_done N mm2 mun r = some (r, mme', mun') ∧ (∃ A2 U2 u2 pn2, COR B' (updH (updH HS (4 + pn) (HS 0)) 0 X') zkb zpn' zps' mme' mun' mkp A2 K U2 kb u2 pn2) ∧ TLD ztz' ztn' mto' mrw' := by
  have fr := RM_fr hR
  rcases hr with hr | ⟨hr, rfl⟩
  · have hlg : (a_lg A').1 + 5 * nt A' + 2 * un A' ≤ B' + 0 := hJ.2.2.2.2.2
    have hd : dt A A' < 2147483648 := by unfold dt; omega
    have hn : ¬ r < 0 := by rw [hr]; exact nI_nlt0 hd
    obtain ⟨mm3, zpn', zps', mun', e1, e2, e3, hc2⟩ := COR_ps hb (N := N) (by omega) hc hJ hX (RM_own hR) (fun i hi => by rw [fr i (by omega), h1 i (by omega)]) (RM_move h2 (fun i i1 i2 => fr i (by omega)))
    obtain ⟨zn', mr1, mr', f1, f2, f3, ht2⟩ := TL_2 ztz ztn mrw (nI (nt A')).toInt64 (nI (a_ls A').length).toInt64
    refine ⟨zpn', zps', 2, zn', 2, mr', mm3, mun', ?_, ?_, ?_, ⟨_, _, _, _, hc2⟩, ht2⟩
    · unfold fX11_tellsChange
      rw [if_neg hn, e1, b2_s, updH_s, C_objects hX, b1_s, RC_h11 hX, f1, b2_s]
    · unfold fX12_entersBoth
      have g1 : fX12_thereAll N mm2 0 = some (bs (a_th A')) := M_thereAll (b := 0) hR (by decide) (by omega)
      have g2 : fX12_listed mm2 0 = some (nI (a_ls A').length) := M_listed (b := 0) hR (by decide)
      have g3 : fX12_sizeOf N (bs (a_th A')) = some (nI (nt A')) := M_sizeOf (by omega) _
      rw [if_neg hn, g1, b1_s, g3, b1_s, f2, b2_s, g2, b1_s, f3, b2_s]
    · unfold fX12_done
      rw [if_neg hn, e2, b2_s]
  · refine ⟨zpn, zps, ztz, ztn, mto, mrw, mm2, mun, ?_, ?_, ?_, ⟨A', U, u, pn, COR_mk (COR_up hc hb) (HS 0) X' hX (fun i hi => by rw [fr i (by omega), h1 i (by omega)]) (RM_own hR)⟩, ht⟩
    · unfold fX11_tellsChange; rw [if_pos hr]
    · unfold fX12_entersBoth; rw [if_pos hr]
    · unfold fX12_done; rw [if_pos hr]
end QA
theorem S_sets {N : Nat} (hN : 200000 ≤ N) (j : Nat) (hj : j < 512) : ST_sets N (INV j) (INV (j + 1)) := by
  intro HS zkb zdr zky zpn zps ztz ztn zxz zxa zsg za0 za1 za2 za3 za4 zfr zcd zgo ztd ztv zcl zca zwa zpt zpf mth mto mrw mta mtp mat mtt mme mun mde mco mcn mvi men mfa mac mfi mse mtd mra mkp a1 a2 a3 hI
  obtain ⟨A, K, U, kb, u, pn, hc, hx, ht, hd⟩ := hI
  have hd' : mde = 0 := hd
  subst hd'
  replace hc : COR (640 * j) HS zkb zpn zps mme mun mkp A K U kb u pn := hc
  replace hx : TXT zxz zsg mta mtp := hx
  replace ht : TLD ztz ztn mto mrw := ht
  have hJ : J (640 * j) A [] none := hc.1.1
  have w := hJ.1
  have hX0 : RC (HS 0) A := hc.1.2.1
  have hR0 : RM mme 0 mme A := hc.1.2.2
  obtain ⟨r, A', g1, g2, g3, g4, g5⟩ := T_sets hN (by omega) hJ a1 a2 a3 0
  obtain ⟨em, mm1, e1, k1, k2, k3⟩ := q_pre (N := N) (by omega) hc
  have eH : updH HS (4 + pn) (HS 0) 0 = HS 0 := updH_n (by omega)
  obtain ⟨z1, z2, z3, z4, z5, z6, z7, z8, z9, X', e2, r2⟩ := g4 (HS 0) zcd zgo ztd ztv zcl zca zwa zpt zpf hX0
  obtain ⟨mm2, mc2, mn2, mv2, e3, r3⟩ := g5 mm1 0 mm1 mco mcn mvi (by decide) k2
  have e3' : fX12_setsOne N mm1 0 mco mcn mvi a1 a2 a3 = some (r, mm2, mc2, mn2, mv2) := e3
  obtain ⟨zpn', zps', ztz', ztn', mto', mrw', mme', mun', f1, f2, f3, ⟨A2, U2, u2, pn2, hc2⟩, ht2⟩ := q_act hN hc ht (B' := 640 * (j + 1)) (by omega) (by omega) (J_up g1 (by omega)) g3 r2 k1 k3 r3
  refine ⟨r, zpn', zps', ztz', ztn', 115, a1, a2, a3, 0, z1, z2, z3, z4, z5, z6, z7, z8, z9, updH (updH HS (4 + pn) (HS 0)) 0 X', 0, mto', mrw', mme', mun', mc2, mn2, mv2, ?_, ?_, A2, K, U2, kb, u2, pn2, hc2, hx, ht2, rfl⟩
  · unfold fX11_sets fX0_becomes
    rw [b5_s, em, b1_s, eH, e2, b11_s, lt_e, f1, b5_s]
  · unfold fX12_sets
    rw [e1, b1_s, e3', b5_s, f2, b3_s, f3, b3_s]
theorem S_roots {N : Nat} (hN : 200000 ≤ N) (j : Nat) (hj : j < 512) : ST_roots N (INV j) (INV (j + 1)) := by
  intro HS zkb zdr zky zpn zps ztz ztn zxz zxa zsg za0 za1 za2 za3 za4 zfr zcd zgo ztd ztv zcl zca zwa zpt zpf mth mto mrw mta mtp mat mtt mme mun mde mco mcn mvi men mfa mac mfi mse mtd mra mkp a1 a2 hI
  obtain ⟨A, K, U, kb, u, pn, hc, hx, ht, hd⟩ := hI
  have hd' : mde = 0 := hd
  subst hd'
  replace hc : COR (640 * j) HS zkb zpn zps mme mun mkp A K U kb u pn := hc
  replace hx : TXT zxz zsg mta mtp := hx
  replace ht : TLD ztz ztn mto mrw := ht
  have hJ : J (640 * j) A [] none := hc.1.1
  have w := hJ.1
  have hX0 : RC (HS 0) A := hc.1.2.1
  have hR0 : RM mme 0 mme A := hc.1.2.2
  obtain ⟨r, A', g1, g2, g3, g4, g5⟩ := T_roots hN (by omega) hJ a1 a2 0 0
  obtain ⟨em, mm1, e1, k1, k2, k3⟩ := q_pre (N := N) (by omega) hc
  have eH : updH HS (4 + pn) (HS 0) 0 = HS 0 := updH_n (by omega)
  obtain ⟨z1, z2, z3, z4, z5, z6, z7, z8, z9, X', e2, r2⟩ := g4 (HS 0) zcd zgo ztd ztv zcl zca zwa zpt zpf hX0
  obtain ⟨mm2, mc2, mn2, mv2, e3, r3⟩ := g5 mm1 0 mm1 mco mcn mvi (by decide) k2
  have e3' : fX12_rootsOne N mm1 0 mco mcn mvi a1 a2 = some (r, mm2, mc2, mn2, mv2) := e3
  obtain ⟨zpn', zps', ztz', ztn', mto', mrw', mme', mun', f1, f2, f3, ⟨A2, U2, u2, pn2, hc2⟩, ht2⟩ := q_act hN hc ht (B' := 640 * (j + 1)) (by omega) (by omega) (J_up g1 (by omega)) g3 r2 k1 k3 r3
  refine ⟨r, zpn', zps', ztz', ztn', 114, a1, a2, 0, 0, z1, z2, z3, z4, z5, z6, z7, z8, z9, updH (updH HS (4 + pn) (HS 0)) 0 X', 0, mto', mrw', mme', mun', mc2, mn2, mv2, ?_, ?_, A2, K, U2, kb, u2, pn2, hc2, hx, ht2, rfl⟩
  · unfold fX11_roots fX0_becomes
    rw [b5_s, em, b1_s, eH, e2, b11_s, lt_e, f1, b5_s]
  · unfold fX12_roots
    rw [e1, b1_s, e3', b5_s, f2, b3_s, f3, b3_s]
theorem S_wakes {N : Nat} (hN : 200000 ≤ N) (j : Nat) (hj : j < 512) : ST_wakes N (INV j) (INV (j + 1)) := by
  intro HS zkb zdr zky zpn zps ztz ztn zxz zxa zsg za0 za1 za2 za3 za4 zfr zcd zgo ztd ztv zcl zca zwa zpt zpf mth mto mrw mta mtp mat mtt mme mun mde mco mcn mvi men mfa mac mfi mse mtd mra mkp a1 a2 hI
  obtain ⟨A, K, U, kb, u, pn, hc, hx, ht, hd⟩ := hI
  have hd' : mde = 0 := hd
  subst hd'
  replace hc : COR (640 * j) HS zkb zpn zps mme mun mkp A K U kb u pn := hc
  replace hx : TXT zxz zsg mta mtp := hx
  replace ht : TLD ztz ztn mto mrw := ht
  have hJ : J (640 * j) A [] none := hc.1.1
  have w := hJ.1
  have hX0 : RC (HS 0) A := hc.1.2.1
  have hR0 : RM mme 0 mme A := hc.1.2.2
  obtain ⟨r, A', g1, g2, g3, g4, g5⟩ := T_wakes hN (by omega) hJ a1 a2 0 0
  obtain ⟨em, mm1, e1, k1, k2, k3⟩ := q_pre (N := N) (by omega) hc
  have eH : updH HS (4 + pn) (HS 0) 0 = HS 0 := updH_n (by omega)
  obtain ⟨z1, z2, z3, z4, z5, z6, z7, z8, z9, X', e2, r2⟩ := g4 (HS 0) zcd zgo ztd ztv zcl zca zwa zpt zpf hX0
  obtain ⟨mm2, mc2, mn2, mv2, e3, r3⟩ := g5 mm1 0 mm1 mco mcn mvi (by decide) k2
  have e3' : fX12_wakesOne N mm1 0 mco mcn mvi a1 a2 = some (r, mm2, mc2, mn2, mv2) := e3
  obtain ⟨zpn', zps', ztz', ztn', mto', mrw', mme', mun', f1, f2, f3, ⟨A2, U2, u2, pn2, hc2⟩, ht2⟩ := q_act hN hc ht (B' := 640 * (j + 1)) (by omega) (by omega) (J_up g1 (by omega)) g3 r2 k1 k3 r3
  refine ⟨r, zpn', zps', ztz', ztn', 107, a1, a2, 0, 0, z1, z2, z3, z4, z5, z6, z7, z8, z9, updH (updH HS (4 + pn) (HS 0)) 0 X', 0, mto', mrw', mme', mun', mc2, mn2, mv2, ?_, ?_, A2, K, U2, kb, u2, pn2, hc2, hx, ht2, rfl⟩
  · unfold fX11_wakes fX0_becomes
    rw [b5_s, em, b1_s, eH, e2, b11_s, lt_e, f1, b5_s]
  · unfold fX12_wakes
    rw [e1, b1_s, e3', b5_s, f2, b3_s, f3, b3_s]
theorem S_makes {N : Nat} (hN : 200000 ≤ N) (j : Nat) (hj : j < 512) : ST_makes N (INV j) (INV (j + 1)) := by
  intro HS zkb zdr zky zpn zps ztz ztn zxz zxa zsg za0 za1 za2 za3 za4 zfr zcd zgo ztd ztv zcl zca zwa zpt zpf mth mto mrw mta mtp mat mtt mme mun mde mco mcn mvi men mfa mac mfi mse mtd mra mkp a1 a2 a3 a4 hI
  obtain ⟨A, K, U, kb, u, pn, hc, hx, ht, hd⟩ := hI
  have hd' : mde = 0 := hd
  subst hd'
  replace hc : COR (640 * j) HS zkb zpn zps mme mun mkp A K U kb u pn := hc
  replace hx : TXT zxz zsg mta mtp := hx
  replace ht : TLD ztz ztn mto mrw := ht
  have hJ : J (640 * j) A [] none := hc.1.1
  have w := hJ.1
  have hX0 : RC (HS 0) A := hc.1.2.1
  have hR0 : RM mme 0 mme A := hc.1.2.2
  obtain ⟨r, q, A', l, g1, g2, g4, g5, g6, g3⟩ := T_makes hN (by omega) hJ a1 a2 a3 a4
  obtain ⟨em, mm1, e1, k1, k2, k3⟩ := q_pre (N := N) (by omega) hc
  have eH : updH HS (4 + pn) (HS 0) 0 = HS 0 := updH_n (by omega)
  obtain ⟨z1, z2, z3, z4, z5, z6, z7, z8, z9, X', e2, r2⟩ := g4 (HS 0) zcd zgo ztd ztv zcl zca zwa zpt zpf hX0
  obtain ⟨mm2, mc2, mn2, mv2, e3, r3⟩ := g5 mm1 0 mm1 mco mcn mvi (by decide) k2
  have e3' : fX12_makesOne N mm1 0 mco mcn mvi a1 a2 a3 a4 = some (q, mm2, mc2, mn2, mv2) := e3
  have fr := RM_fr r3
  have hfr : ∀ i : Nat, (427 ≤ i ∧ (i < 1281 ∨ 1708 ≤ i)) → mm2 i = mme i := fun i hi => by rw [fr i (by omega), k1 i (by omega)]
  rcases g3 with ⟨hr, hq, hA⟩ | ⟨hr, o, ho, hq, hl⟩
  · subst hA hq
    refine ⟨q, zpn, zps, ztz, ztn, 110, a1, a2, a3, a4, z1, z2, z3, z4, z5, z6, z7, z8, z9, updH (updH HS (4 + pn) (HS 0)) 0 X', 0, mto, mrw, mm2, mun, mc2, mn2, mv2, ?_, ?_, A', K, U, kb, u, pn, COR_mk (COR_up hc (by omega)) (HS 0) X' r2 hfr (RM_own r3), hx, ht, rfl⟩
    · unfold fX11_makes fX0_becomes
      rw [g6 _ hX0, b1_s, b5_s, em, b1_s, eH, e2, b11_s, lt_e, if_neg (by rw [le_i, i0]; rw [lt_i, i0] at hr; omega)]
    · unfold fX12_makes
      rw [e1, b1_s, show inb 2 5551 = true from by decide, grd_t, lt_e, e3', b5_s, if_pos hr]
      unfold fX12_makes_54 fX12_done
      rw [if_pos hr, b3_s]
  · have hlg : (a_lg A').1 + 5 * nt A' + 2 * un A' ≤ 640 * j + 8 + 0 := g1.2.2.2.2.2
    have hd : dt A A' < 2147483648 := by unfold dt; omega
    obtain ⟨mm3, zpn', zps', mun', f1, f2, f3, hc2⟩ := COR_ps (B' := 640 * (j + 1)) (by omega) (N := N) (by omega) hc (J_up g1 (by omega)) r2 (RM_own r3) (fun i hi => by rw [fr i (by omega), k1 i (by omega)]) (RM_move k3 (fun i i1 i2 => fr i (by omega)))
    obtain ⟨zn', mr', t1, t2, ht2⟩ := TL_1 ztz ztn mrw (nI (dt A A')).toInt64
    refine ⟨nI o, zpn', zps', 1, zn', 110, a1, a2, a3, a4, z1, z2, z3, z4, z5, z6, z7, z8, z9, updH (updH HS (4 + pn) (HS 0)) 0 X', 0, 1, mr', mm3, mun', mc2, mn2, mv2, ?_, ?_, A', K, _, kb, _, _, hc2, hx, ht2, rfl⟩
    · unfold fX11_makes fX0_becomes
      rw [g6 _ hX0, b1_s, b5_s, em, b1_s, eH, e2, b11_s, lt_e, hr, if_pos (nI_pos' (by omega)), f1, b2_s, t1, b2_s, hl]
    · have a1' : mm1 2 = nI (a_lg A).1 := k2.2.2.2.1
      have a2' : mm2 2 = nI (a_lg A').1 := r3.2.2.2.1
      unfold fX12_makes
      rw [e1, b1_s, show inb 2 5551 = true from by decide, grd_t, lt_e, e3', b5_s, hq, if_neg (nI_nlt0 (by omega)), grd_t, show (2 : Int32).toNatClampNeg = 2 from by decide, a1', a2', lg_dt g2, t2, b2_s]
      unfold fX12_makes_54 fX12_done
      rw [if_neg (nI_nlt0 (by omega)), f2, b2_s, b3_s]
theorem S_weaks {N : Nat} (hN : 200000 ≤ N) (j : Nat) (hj : j < 512) : ST_weaks N (INV j) (INV (j + 1)) := by
  intro HS zkb zdr zky zpn zps ztz ztn zxz zxa zsg za0 za1 za2 za3 za4 zfr zcd zgo ztd ztv zcl zca zwa zpt zpf mth mto mrw mta mtp mat mtt mme mun mde mco mcn mvi men mfa mac mfi mse mtd mra mkp a1 a2 hI
  obtain ⟨A, K, U, kb, u, pn, hc, hx, ht, hd⟩ := hI
  have hd' : mde = 0 := hd
  subst hd'
  replace hc : COR (640 * j) HS zkb zpn zps mme mun mkp A K U kb u pn := hc
  replace hx : TXT zxz zsg mta mtp := hx
  replace ht : TLD ztz ztn mto mrw := ht
  have hJ : J (640 * j) A [] none := hc.1.1
  have w := hJ.1
  have hX0 : RC (HS 0) A := hc.1.2.1
  have hR0 : RM mme 0 mme A := hc.1.2.2
  obtain ⟨r, q, A', g1, g2, g4, g5, g3⟩ := T_weaks hN (by omega) hJ a1 a2 0 0
  obtain ⟨em, mm1, e1, k1, k2, k3⟩ := q_pre (N := N) (by omega) hc
  have eH : updH HS (4 + pn) (HS 0) 0 = HS 0 := updH_n (by omega)
  obtain ⟨z1, z2, z3, z4, z5, z6, z7, z8, z9, X', e2, r2⟩ := g4 (HS 0) zcd zgo ztd ztv zcl zca zwa zpt zpf hX0
  obtain ⟨mm2, e3, r3⟩ := g5 mm1 0 mm1 (by decide) k2
  have e3' : fX12_weaksOne N mm1 0 a1 a2 = some (q, mm2) := e3
  have fr := RM_fr r3
  have hfr : ∀ i : Nat, (427 ≤ i ∧ (i < 1281 ∨ 1708 ≤ i)) → mm2 i = mme i := fun i hi => by rw [fr i (by omega), k1 i (by omega)]
  rcases g3 with ⟨hr1, hr, hq, hA⟩ | ⟨hr, hq, hw⟩
  · subst hA hq
    have hwk : ∃ l, fX3_weakAt (HS 0) a1 = some l := by
      unfold fX3_weakAt
      by_cases c1 : a1 < 0
      · exact ⟨_, if_pos c1⟩
      · rw [if_neg c1]
        by_cases c2 : 4 ≤ a1
        · exact ⟨_, if_pos c2⟩
        · rw [if_neg c2, inb_t (by rw [lt_i, i0] at c1; omega) (by rw [le_i, show (4 : Int32).toInt = 4 from by decide] at c2; omega)]
          exact ⟨_, rfl⟩
    obtain ⟨l, hl⟩ := hwk
    refine ⟨q, zpn, zps, 119, a1, a2, 0, 0, z1, z2, z3, z4, z5, z6, z7, z8, z9, updH (updH HS (4 + pn) (HS 0)) 0 X', 0, mm2, mun, ?_, ?_, A', K, U, kb, u, pn, COR_mk (COR_up hc (by omega)) (HS 0) X' r2 hfr (RM_own r3), hx, ht, rfl⟩
    · unfold fX11_weaks fX0_becomes
      rw [hl, b1_s, b5_s, em, b1_s, eH, e2, b11_s, lt_e, if_neg (by rw [le_i, i0]; rw [lt_i, i0] at hr; omega)]
    · unfold fX12_weaks
      rw [e1, b1_s, e3', b2_s, if_pos hr1]
  · obtain ⟨mm3, zpn', zps', mun', f1, f2, f3, hc2⟩ := COR_ps (B' := 640 * (j + 1)) (by omega) (N := N) (by omega) hc (J_up g1 (by omega)) r2 (RM_own r3) (fun i hi => by rw [fr i (by omega), k1 i (by omega)]) (RM_move k3 (fun i i1 i2 => fr i (by omega)))
    refine ⟨q, zpn', zps', 119, a1, a2, 0, 0, z1, z2, z3, z4, z5, z6, z7, z8, z9, updH (updH HS (4 + pn) (HS 0)) 0 X', 0, mm3, mun', ?_, ?_, A', K, _, kb, _, _, hc2, hx, ht, rfl⟩
    · unfold fX11_weaks fX0_becomes
      rw [hw _ hX0, b1_s, b5_s, em, b1_s, eH, e2, b11_s, lt_e, hr, if_pos (by decide), f1, b2_s]
    · unfold fX12_weaks
      rw [e1, b1_s, e3', b2_s, if_neg (by rw [lt_i]; rw [le_i] at hq; omega), f2, b2_s]
theorem S_trial {N : Nat} (hN : 200000 ≤ N) (j : Nat) (hj : j < 512) : ST_trial N (INV j) (INV (j + 1)) := by
  intro HS zkb zdr zky zpn zps ztz ztn zxz zxa zsg za0 za1 za2 za3 za4 zfr zcd zgo ztd ztv zcl zca zwa zpt zpf mth mto mrw mta mtp mat mtt mme mun mde mco mcn mvi men mfa mac mfi mse mtd mra mkp hI
  obtain ⟨A, K, U, kb, u, pn, hc, hx, ht, hd⟩ := hI
  have hd' : mde = 0 := hd
  subst hd'
  replace hc : COR (640 * j) HS zkb zpn zps mme mun mkp A K U kb u pn := hc
  replace hx : TXT zxz zsg mta mtp := hx
  replace ht : TLD ztz ztn mto mrw := ht
  have hJ : J (640 * j) A [] none := hc.1.1
  have w := hJ.1
  have hX0 : RC (HS 0) A := hc.1.2.1
  have hR0 : RM mme 0 mme A := hc.1.2.2
  obtain ⟨r, q, A', v, g1, g2, g3⟩ := T_tr1 hN (by omega) hJ 0 0 0 0
  obtain ⟨em, mm1, e1, k1, k2, k3⟩ := q_pre (N := N) (by omega) hc
  have eH : updH HS (4 + pn) (HS 0) 0 = HS 0 := updH_n (by omega)
  have cf : ∀ (Y : Nat → Nat → Int32) (C : AS), RC Y C → fX4_freed Y = some ((a_lg C).2.2.2 1 + (a_lg C).2.2.2 2) := fun Y C hY => by
    have h18 := RC_h18 hY
    unfold fX4_freed
    rw [show inb 1 6 = true from by decide, show inb 2 6 = true from by decide, grd_t, grd_t, show (1 : Int32).toNatClampNeg = 1 from by decide, show (2 : Int32).toNatClampNeg = 2 from by decide, h18 1 (by decide), h18 2 (by decide)]
  rcases g3 with ⟨hr, hq, hA, g4, g5⟩ | ⟨hr, hq, hq0, hls, _, _, g4, g5⟩
  · subst hA hq
    obtain ⟨z1, z2, z3, z4, z5, z6, z7, z8, z9, X', e2, r2⟩ := g4 (HS 0) zcd zgo ztd ztv zcl zca zwa zpt zpf hX0
    have e3' : fX12_trialOne N mm1 0 mco mcn mvi men = some (q, mm1, mco, mcn, mvi, men) := g5 mm1 0 mm1 mco mcn mvi men (by decide) k2
    refine ⟨q, zpn, zps, ztz, ztn, 116, 0, 0, 0, 0, z1, z2, z3, z4, z5, z6, z7, z8, z9, updH (updH HS (4 + pn) (HS 0)) 0 X', 0, mto, mrw, mm1, mun, mco, mcn, mvi, men, ?_, ?_, A', K, U, kb, u, pn, COR_mk (COR_up hc (by omega)) (HS 0) X' r2 (fun i hi => k1 i (by omega)) k2, hx, ht, rfl⟩
    · unfold fX11_trial fX0_becomes
      rw [cf _ _ hX0, b1_s, show inb 3 6 = true from by decide, grd_t, lt_e, b5_s, em, b1_s, eH, e2, b11_s, lt_e, if_neg (by rw [le_i, i0]; rw [lt_i, i0] at hr; omega)]
    · unfold fX12_trial
      rw [e1, b1_s, e3', b6_s, if_pos hr]
      unfold fX12_trial_43 fX12_done
      rw [if_pos hr, b3_s]
  · obtain ⟨z1, z2, z3, z5, z6, z7, z8, z9, X', e2, r2⟩ := g4 (HS 0) zcd zgo ztd ztv zcl zca zwa zpt zpf hX0
    obtain ⟨mm2, mc2, mn2, e3, r3⟩ := g5 mm1 0 mm1 mco mcn mvi men (by decide) k2
    have e3' : fX12_trialOne N mm1 0 mco mcn mvi men = some (q, mm2, mc2, mn2, nI v, ek A A') := e3
    have fr := RM_fr r3
    have hlg : (a_lg A').1 + 5 * nt A' + 2 * un A' ≤ 640 * j + 0 := g1.2.2.2.2.2
    have hd : dt A A' < 2147483648 := by unfold dt; omega
    obtain ⟨mm3, zpn', zps', mun', f1, f2, f3, hc2⟩ := COR_ps (B' := 640 * (j + 1)) (by omega) (N := N) (by omega) hc (J_up g1 (by omega)) r2 (RM_own r3) (fun i hi => by rw [fr i (by omega), k1 i (by omega)]) (RM_move k3 (fun i i1 i2 => fr i (by omega)))
    obtain ⟨zn', mr1, mr', t1, t2, t3, ht2⟩ := TL_2 ztz ztn mrw (ek A A').toInt64 (nI v).toInt64
    have hqn : ¬ q < 0 := by rw [lt_i, i0]; rw [le_i, i0] at hq0; omega
    refine ⟨q, zpn', zps', 2, zn', 116, 0, 0, 0, 0, z1, z2, z3, nI v, z5, z6, z7, z8, z9, updH (updH HS (4 + pn) (HS 0)) 0 X', 0, 2, mr', mm3, mun', mc2, mn2, nI v, ek A A', ?_, ?_, A', K, _, kb, _, _, hc2, hx, ht2, rfl⟩
    · have h3 := RC_h18 hX0 3 (by decide)
      have h3' := RC_h18 r2 3 (by decide)
      unfold fX11_trial fX0_becomes
      rw [cf _ _ hX0, b1_s, show inb 3 6 = true from by decide, grd_t, lt_e, b5_s, em, b1_s, eH, e2, b11_s, lt_e, hr, if_pos (nI_pos' (by omega)), f1, b2_s, grd_t, updH_s, show (3 : Int32).toNatClampNeg = 3 from by decide, h3, h3', show (a_lg A').2.2.2 3 - (a_lg A).2.2.2 3 = ek A A' from rfl, t1, b2_s, cf _ _ r2, b1_s, hq]
      rfl
    · unfold fX12_trial
      rw [e1, b1_s, e3', b6_s, if_neg hqn, t2, b2_s, t3, b2_s]
      unfold fX12_trial_43 fX12_done
      rw [if_neg hqn, f2, b2_s, b3_s]
theorem S_limit {N : Nat} (hN : 200000 ≤ N) (j : Nat) (hj : j < 512) : ST_limit N (INV j) (INV (j + 1)) := by
  intro HS zkb zdr zky zpn zps ztz ztn zxz zxa zsg za0 za1 za2 za3 za4 zfr zcd zgo ztd ztv zcl zca zwa zpt zpf mth mto mrw mta mtp mat mtt mme mun mde mco mcn mvi men mfa mac mfi mse mtd mra mkp a1 hI
  obtain ⟨A, K, U, kb, u, pn, hc, hx, ht, hd⟩ := hI
  have hd' : mde = 0 := hd
  subst hd'
  replace hc : COR (640 * j) HS zkb zpn zps mme mun mkp A K U kb u pn := hc
  replace hx : TXT zxz zsg mta mtp := hx
  replace ht : TLD ztz ztn mto mrw := ht
  have hJ : J (640 * j) A [] none := hc.1.1
  have w := hJ.1
  have hX0 : RC (HS 0) A := hc.1.2.1
  have hR0 : RM mme 0 mme A := hc.1.2.2
  have hli : 1 ≤ a_li A ∧ a_li A ≤ 24 := w.2.2.2.2.2.2.2.2.2
  have mw : fX12_in a1.toInt64 1 24 = some (bI (decide ((1 : Nat) ≤ a1.toInt ∧ a1.toInt ≤ (24 : Nat)))) := lit_in 1 24 rfl rfl rfl rfl a1
  have em0 : mme 0 = nI (a_li A) := hR0.2.1
  have ex0 : (HS 0) 0 2 = nI (a_li A) := RC_h3 hX0
  by_cases q1 : ((1 : Nat) : Int) ≤ a1.toInt ∧ a1.toInt ≤ (24 : Nat)
  · rw [decide_eq_true q1] at mw
    obtain ⟨er, hr⟩ := nI_back (p := a1) (by omega)
    have hr1 : 1 ≤ a1.toInt.toNat ∧ a1.toInt.toNat ≤ 24 := by omega
    generalize a1.toInt.toNat = v at *
    subst er
    have c1 : ¬ nI v < 1 := fun c => by have := (nI_ltI (a := v) (b := 1) (by omega) (by decide)).mp c; omega
    have c2 : nI v ≤ 24 := (nI_leI (a := v) (b := 24) (by omega) (by decide)).mpr (by omega)
    by_cases q2 : v = a_li A
    · refine ⟨-2, zpn, zps, HS, 0, mme, mun, ?_, ?_, A, K, U, kb, u, pn, COR_up hc (by omega), hx, ht, rfl⟩
      · unfold fX11_limit
        rw [if_neg c1, if_pos c2, ex0, q2, if_pos rfl]
      · unfold fX12_limit
        rw [mw, b1_s, if_neg (by decide), show inb 0 5551 = true from by decide, grd_t, show (0 : Int32).toNatClampNeg = 0 from by decide, lt_e, em0, q2, if_pos rfl]
    · obtain ⟨em, mm1, e1, k1, k2, k3⟩ := q_pre (N := N) (by omega) hc
      have eH : updH HS (4 + pn) (HS 0) 0 = HS 0 := updH_n (by omega)
      have r2 := C_li hX0 v
      have r3 : RM mm1 0 (upd mm1 0 (nI v)) (u_li A v) := M_li k2 v
      have fr := RM_fr r3
      have hJ2 : J (640 * (j + 1)) (u_li A v) [] none := by
        obtain ⟨⟨w1, w2, w3, w4, w5, w6, w7, w8, w9, w10⟩, j2⟩ := J_up hJ (B' := 640 * (j + 1)) (by omega)
        exact ⟨⟨w1, w2, w3, w4, w5, w6, w7, w8, w9, hr1⟩, j2⟩
      obtain ⟨mm3, zpn', zps', mun', f1, f2, f3, hc2⟩ := COR_ps (B' := 640 * (j + 1)) (by omega) (N := N) (by omega) hc hJ2 r2 (RM_own r3) (fun i hi => by rw [fr i (by omega), k1 i (by omega)]) (RM_move k3 (fun i i1 i2 => fr i (by omega)))
      refine ⟨nI (a_li A), zpn', zps', updH (updH HS (4 + pn) (HS 0)) 0 (up2 (HS 0) 0 2 (nI v)), 0, mm3, mun', ?_, ?_, u_li A v, K, _, kb, _, _, hc2, hx, ht, rfl⟩
      · unfold fX11_limit
        rw [if_neg c1, if_pos c2, ex0, if_neg (by rw [eq_n (by omega) (by omega)]; exact q2), em, b1_s, eH, lt_e, f1, b2_s]
      · unfold fX12_limit
        rw [mw, b1_s, if_neg (by decide), show inb 0 5551 = true from by decide, grd_t, show (0 : Int32).toNatClampNeg = 0 from by decide, lt_e, em0, if_neg (by rw [eq_n (by omega) (by omega)]; omega), e1, b1_s, grd_t, lt_e]
        unfold fX12_done
        rw [if_neg (nI_nlt0 (by omega)), f2, b2_s, b3_s]
  · rw [decide_eq_false q1] at mw
    refine ⟨-1, zpn, zps, HS, 0, mme, mun, ?_, ?_, A, K, U, kb, u, pn, COR_up hc (by omega), hx, ht, rfl⟩
    · unfold fX11_limit
      simp only [lt_i, le_i, show (1 : Int32).toInt = 1 from by decide, show (24 : Int32).toInt = 24 from by decide]
      by_cases c : a1.toInt < 1
      · rw [if_pos c]
      · rw [if_neg c, if_neg (by omega)]
    · unfold fX12_limit
      rw [mw, b1_s, if_pos (by decide)]
