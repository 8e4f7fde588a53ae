/-! acts: sets, roots -/
theorem bI_if {α : Type} (x : Bool) (a b : α) : (if bI x = 0 then a else b) = if x then b else a := by cases x <;> rfl
theorem C_hasField {X : Nat → Nat → Int32} {A : AS} (h : RC X A) (w : WF A) {o : Nat} (ht : a_th A o = true) (p : Int32) : fX3_hasField X (nI o) p = some (bI (decide (0 ≤ p.toInt ∧ p.toInt < a_my A o))) := by
  have ho := W_th w ht
  have hmy := W_my w o
  unfold fX3_hasField
  rw [C_has h ho, ht, b1_s, if_neg (by decide), inb_n ho (by decide), grd_t, cl_n (by omega), RC_h4 h o ho]
  have e := nI_toInt (n := a_my A o) (by omega)
  simp only [lt_i, le_i, i0, e]
  by_cases q1 : p.toInt < 0
  · rw [if_pos q1, decide_eq_false (by omega)]; rfl
  · rw [if_neg q1]
    by_cases q2 : (a_my A o : Int) ≤ p.toInt
    · rw [if_pos q2, decide_eq_false (by omega)]; rfl
    · rw [if_neg q2, decide_eq_true (by omega)]; rfl
theorem M_inField {A : AS} (w : WF A) (o : Nat) (p : Int32) : fX12_in p.toInt64 0 ((nI (a_my A o) - 1).toInt64) = some (bI (decide (0 ≤ p.toInt ∧ p.toInt < a_my A o))) := by
  have hmy := W_my w o
  have e := nI_toInt (n := a_my A o) (by omega)
  have e2 : (nI (a_my A o) - 1).toInt = (a_my A o : Int) - 1 := by rw [sub1_i (by omega), e]
  rw [show (0 : Int64) = (0 : Int32).toInt64 from rfl, in_c, i0, e2]
  by_cases q : 0 ≤ p.toInt ∧ p.toInt ≤ (a_my A o : Int) - 1
  · rw [if_pos q, decide_eq_true (by omega)]; rfl
  · rw [if_neg q, decide_eq_false (by omega)]; rfl
theorem oI_oI {u v : Option Nat} (hu : SM u) (hv : SM v) : oI u = oI v ↔ u = v := by
  cases v with
  | none => exact oI_m1 hu
  | some t => exact oI_eq hu (hv t rfl)
theorem T_sets {N B : Nat} (hN : 200000 ≤ N) (hB : B ≤ 2147400000) {A : AS} (hJ : J B A [] none) (p1 p2 p3 p4 : Int32) : ∃ r A', J B A' [] none ∧ LGR (a_lg A) (a_lg A') ∧ (r = nI (dt A A') ∨ (r < 0 ∧ A' = A)) ∧ CDo N 115 p1 p2 p3 p4 A A' r ∧ MDo (fun mm d mco mcn mvi => fX12_setsOne N mm d mco mcn mvi p1 p2 p3) A A' r := by
  have w := hJ.1
  have ref : ∀ r : Int32, r < 0 → ¬ 0 ≤ r → (∀ X, RC X A → fX1_refusesSet N X p1 p2 p3 = some r) → (∀ (m0 : Nat → Int32) (b : Nat) (mm mco mcn : Nat → Int32) (mvi : Int32), b ≤ 5124 → RM m0 b mm A → fX12_setsOne N mm (nI b) mco mcn mvi p1 p2 p3 = some (r, mm, mco, mcn, mvi)) → ∃ r A', J B A' [] none ∧ LGR (a_lg A) (a_lg A') ∧ (r = nI (dt A A') ∨ (r < 0 ∧ A' = A)) ∧ CDo N 115 p1 p2 p3 p4 A A' r ∧ MDo (fun mm d mco mcn mvi => fX12_setsOne N mm d mco mcn mvi p1 p2 p3) A A' r := by
    intro r hr hr2 h1 h2
    refine ⟨r, A, hJ, LGR_r _, Or.inr ⟨hr, rfl⟩, fun X zcd zgo ztd ztv zcl zca zwa zpt zpf hX => ⟨zcd, zgo, ztd, ztv, zcl, zca, zwa, zpt, zpf, X, ?_, hX⟩, fun m0 b mm mco mcn mvi hb hR => ⟨mm, mco, mcn, mvi, h2 m0 b mm mco mcn mvi hb hR, hR⟩⟩
    unfold fX1_does fX1_refuses
    rw [if_neg (by decide), if_neg (by decide), if_neg (by decide), if_pos rfl, h1 X hX, b1_s, b1_s, if_neg hr2]
  rcases obj_or A p1 with ⟨o, e1, ho, ht⟩ | ⟨n1, n2⟩
  · subst e1
    have hmy := W_my w o
    by_cases qk : 0 ≤ p2.toInt ∧ p2.toInt < a_my A o
    · obtain ⟨ek, hk⟩ := nI_back (p := p2) (by omega)
      have hkm : p2.toInt.toNat < a_my A o := by omega
      generalize p2.toInt.toNat = k at *
      subst ek
      have hk4 : k < 4 := by omega
      have qk' : (0 : Int) ≤ (nI k).toInt ∧ (nI k).toInt < a_my A o := by rw [nI_toInt (by omega)]; omega
      rcases tgt_or A p3 with ⟨v, ev, hv, t1, t2⟩ | ⟨t1, t2⟩
      · subst ev
        have hvs : SM v := fun t e => W_th w (hv t e)
        by_cases qe : a_fd A o k = v
        · refine ref (-2) (by decide) (by decide) (fun X hX => ?_) (fun m0 b mm mco mcn mvi hb hR => ?_)
          · unfold fX1_refusesSet
            rw [C_hasField hX w ht, decide_eq_true qk', b1_s, if_neg (by decide), t1 X hX, b1_s, if_neg (by decide), C_fieldAt hX ho hk4, b1_s, if_pos (by rw [qe])]
          · unfold fX12_setsOne
            rw [M_isThere hR hb ho, ht, b1_s, if_neg (by decide), M_of1 hR hb ho ht, b1_s, M_inField w o, decide_eq_true qk', b1_s, if_neg (by decide), t2 m0 b mm hb hR, b1_s, if_neg (by decide), M_fieldOf hR hb ho hk4 ht, b1_s, if_pos (by rw [qe])]
        · have qe2 : ¬ oI (a_fd A o k) = oI v := fun c => qe ((oI_oI (W_sf w o k) hvs).mp c)
          have csel : ∀ X, RC X A → fX1_refusesSet N X (nI o) (nI k) (oI v) = some (if rcd A o then (if okT (rcd A) v then 0 else -3) else -3) := by
            intro X hX
            have ci : fX1_isIn (bs (rcd A)) (nI o) = some (bI (rcd A o)) := C_isIn (v := some o) (SM_s ho)
            unfold fX1_refusesSet
            rw [C_hasField hX w ht, decide_eq_true qk', b1_s, if_neg (by decide), t1 X hX, b1_s, if_neg (by decide), C_fieldAt hX ho hk4, b1_s, if_neg qe2, C_reached hX w (by omega), b1_s, ci, b1_s, C_isIn hvs, b1_s, bI_if, bI_if]
            cases rcd A o with
            | false => rfl
            | true => cases okT (rcd A) v <;> rfl
          have msel : ∀ (m0 : Nat → Int32) (b : Nat) (mm mco mcn : Nat → Int32) (mvi : Int32), b ≤ 5124 → RM m0 b mm A → fX12_setsOne N mm (nI b) mco mcn mvi (nI o) (nI k) (oI v) = if rcd A o && okT (rcd A) v then fX12_setsOne_72 N (nI b) (nI o) (nI k) (oI v) mm mco mcn mvi else some (-3, mm, mco, mcn, mvi) := by
            intro m0 b mm mco mcn mvi hb hR
            unfold fX12_setsOne
            rw [M_isThere hR hb ho, ht, b1_s, if_neg (by decide), M_of1 hR hb ho ht, b1_s, M_inField w o, decide_eq_true qk', b1_s, if_neg (by decide), t2 m0 b mm hb hR, b1_s, if_neg (by decide), M_fieldOf hR hb ho hk4 ht, b1_s, if_neg qe2, M_isReached hR hb w ho (by omega), b1_s, bI_if]
            cases rcd A o with
            | false => rfl
            | true =>
              cases v with
              | none => rw [oI_n, if_pos neg1_lt]; rfl
              | some t =>
                have ht24 := hvs t rfl
                rw [oI_s, if_neg (nI_nlt0 (by omega)), M_isReached hR hb w ht24 (by omega), b1_s, bI_if]
                rfl
          cases qr : (rcd A o && okT (rcd A) v) with
          | false =>
            refine ref (-3) (by decide) (by decide) (fun X hX => ?_) (fun m0 b mm mco mcn mvi hb hR => ?_)
            · rw [csel X hX]
              cases q1 : rcd A o with
              | false => rfl
              | true =>
                rw [q1, Bool.true_and] at qr
                rw [qr]; rfl
            · rw [msel m0 b mm mco mcn mvi hb hR, qr]; rfl
          | true =>
            rw [Bool.and_eq_true] at qr
            obtain ⟨A1, j1, l1, ml, cl⟩ := T_layF (N := N) (by omega) hB hJ ht hkm hv
            obtain ⟨A', g1, g2, g3, g4⟩ := T_rows hN hB j1 l1
            refine ⟨nI (dt A A'), A', g1, g2, Or.inl rfl, fun X zcd zgo ztd ztv zcl zca zwa zpt zpf hX => ?_, fun m0 b mm mco mcn mvi hb hR => ?_⟩
            · obtain ⟨z, g, Y, e, r⟩ := cl X zcd zgo hX
              have e' : fX2_laysField N zcd zgo X (nI o) (nI k) (oI v) = some (z, g, Y) := e
              obtain ⟨z1, z2, z3, z4, z5, z6, z7, z8, z9, X', e2, r2⟩ := g3 115 (nI o) (nI k) (oI v) p4 Y X z g ztd ztv zcl zca zwa zpt zpf hX r (by decide) (by decide)
              refine ⟨z1, z2, z3, z4, z5, z6, z7, z8, z9, X', ?_, r2⟩
              unfold fX1_does fX1_refuses
              rw [if_neg (by decide), if_neg (by decide), if_neg (by decide), if_pos rfl, csel X hX, qr.1, qr.2, b1_s, b1_s, if_pos (by decide), if_neg (by decide), if_neg (by decide), if_neg (by decide), if_pos rfl, e', b3_s, e2]
            · obtain ⟨m1, e, r⟩ := ml m0 b mm hb hR
              have e' : fX12_laysField N mm (nI b) (nI o) (nI k) (oI v) = some m1 := e
              obtain ⟨m2, mc2, mn2, mv2, e2, r2, i2, d2⟩ := g4 m0 m0 b mm m1 mco mcn mvi hb hR r
              refine ⟨m2, mc2, mn2, mv2, ?_, r2⟩
              show fX12_setsOne N mm (nI b) mco mcn mvi (nI o) (nI k) (oI v) = _
              rw [msel m0 b mm mco mcn mvi hb hR, qr.1, qr.2]
              show fX12_setsOne_72 N (nI b) (nI o) (nI k) (oI v) mm mco mcn mvi = _
              unfold fX12_setsOne_72
              rw [i2, grd_t, lt_e, e', b1_s, e2, b4_s, grd_t, d2]
      · refine ref (-1) (by decide) (by decide) (fun X hX => ?_) (fun m0 b mm mco mcn mvi hb hR => ?_)
        · unfold fX1_refusesSet
          rw [C_hasField hX w ht, decide_eq_true qk', b1_s, if_neg (by decide), t1 X hX, b1_s, if_pos rfl]
        · unfold fX12_setsOne
          rw [M_isThere hR hb ho, ht, b1_s, if_neg (by decide), M_of1 hR hb ho ht, b1_s, M_inField w o, decide_eq_true qk', b1_s, if_neg (by decide), t2 m0 b mm hb hR, b1_s, if_pos rfl]
    · refine ref (-1) (by decide) (by decide) (fun X hX => ?_) (fun m0 b mm mco mcn mvi hb hR => ?_)
      · unfold fX1_refusesSet
        rw [C_hasField hX w ht, decide_eq_false qk, b1_s, if_pos (by decide)]
      · unfold fX12_setsOne
        rw [M_isThere hR hb ho, ht, b1_s, if_neg (by decide), M_of1 hR hb ho ht, b1_s, M_inField w o, decide_eq_false qk, b1_s, if_pos (by decide)]
  · refine ref (-1) (by decide) (by decide) (fun X hX => ?_) (fun m0 b mm mco mcn mvi hb hR => ?_)
    · unfold fX1_refusesSet fX3_hasField
      rw [n1 X hX, b1_s, if_pos rfl, b1_s, if_pos rfl]
    · unfold fX12_setsOne
      rw [n2 m0 b mm hb hR, b1_s, if_pos rfl]
theorem T_roots {N B : Nat} (hN : 200000 ≤ N) (hB : B ≤ 2147400000) {A : AS} (hJ : J B A [] none) (p1 p2 p3 p4 : Int32) : ∃ r A', J B A' [] none ∧ LGR (a_lg A) (a_lg A') ∧ (r = nI (dt A A') ∨ (r < 0 ∧ A' = A)) ∧ CDo N 114 p1 p2 p3 p4 A A' r ∧ MDo (fun mm d mco mcn mvi => fX12_rootsOne N mm d mco mcn mvi p1 p2) A A' r := by
  have w := hJ.1
  have ref : ∀ r : Int32, r < 0 → ¬ 0 ≤ r → (∀ X, RC X A → fX1_refusesRoot N X p1 p2 = some r) → (∀ (m0 : Nat → Int32) (b : Nat) (mm mco mcn : Nat → Int32) (mvi : Int32), b ≤ 5124 → RM m0 b mm A → fX12_rootsOne N mm (nI b) mco mcn mvi p1 p2 = some (r, mm, mco, mcn, mvi)) → ∃ r A', J B A' [] none ∧ LGR (a_lg A) (a_lg A') ∧ (r = nI (dt A A') ∨ (r < 0 ∧ A' = A)) ∧ CDo N 114 p1 p2 p3 p4 A A' r ∧ MDo (fun mm d mco mcn mvi => fX12_rootsOne N mm d mco mcn mvi p1 p2) A A' r := by
    intro r hr hr2 h1 h2
    refine ⟨r, A, hJ, LGR_r _, Or.inr ⟨hr, rfl⟩, fun X zcd zgo ztd ztv zcl zca zwa zpt zpf hX => ⟨zcd, zgo, ztd, ztv, zcl, zca, zwa, zpt, zpf, X, ?_, hX⟩, fun m0 b mm mco mcn mvi hb hR => ⟨mm, mco, mcn, mvi, h2 m0 b mm mco mcn mvi hb hR, hR⟩⟩
    unfold fX1_does fX1_refuses
    rw [if_neg (by decide), if_neg (by decide), if_pos rfl, h1 X hX, b1_s, b1_s, if_neg hr2]
  have cw : fX1_isWithin p1 0 5 = some (bI (decide ((0 : Nat) ≤ p1.toInt ∧ p1.toInt ≤ (5 : Nat)))) := lit_within 0 5 rfl rfl p1
  have mw : fX12_in p1.toInt64 0 5 = some (bI (decide ((0 : Nat) ≤ p1.toInt ∧ p1.toInt ≤ (5 : Nat)))) := lit_in 0 5 rfl rfl rfl rfl p1
  by_cases q1 : ((0 : Nat) : Int) ≤ p1.toInt ∧ p1.toInt ≤ (5 : Nat)
  · rw [decide_eq_true q1] at cw mw
    obtain ⟨er, hr⟩ := nI_back (p := p1) (by omega)
    have hr6 : p1.toInt.toNat < 6 := by omega
    generalize p1.toInt.toNat = o at *
    subst er
    rcases tgt_or A p2 with ⟨v, ev, hv, t1, t2⟩ | ⟨t1, t2⟩
    · subst ev
      have hvs : SM v := fun t e => W_th w (hv t e)
      by_cases qe : a_rt A o = v
      · refine ref (-2) (by decide) (by decide) (fun X hX => ?_) (fun m0 b mm mco mcn mvi hb hR => ?_)
        · unfold fX1_refusesRoot
          rw [cw, b1_s, if_neg (by decide), t1 X hX, b1_s, if_neg (by decide), inb_n hr6 (by decide), grd_t, cl_n (by omega), RC_h9 hX o hr6, if_pos (by rw [qe])]
        · unfold fX12_rootsOne
          rw [mw, b1_s, if_neg (by decide), t2 m0 b mm hb hR, b1_s, if_neg (by decide), M_rootOf hR hb hr6, b1_s, if_pos (by rw [qe])]
      · have qe2 : ¬ oI (a_rt A o) = oI v := fun c => qe ((oI_oI (W_sr w o) hvs).mp c)
        have csel : ∀ X, RC X A → fX1_refusesRoot N X (nI o) (oI v) = some (if okT (rcd A) v then 0 else -3) := by
          intro X hX
          unfold fX1_refusesRoot
          rw [cw, b1_s, if_neg (by decide), t1 X hX, b1_s, if_neg (by decide), inb_n hr6 (by decide), grd_t, cl_n (by omega), RC_h9 hX o hr6, if_neg qe2, C_reached hX w (by omega), b1_s, C_isIn hvs, b1_s, bI_if]
          cases okT (rcd A) v <;> rfl
        have msel : ∀ (m0 : Nat → Int32) (b : Nat) (mm mco mcn : Nat → Int32) (mvi : Int32), b ≤ 5124 → RM m0 b mm A → fX12_rootsOne N mm (nI b) mco mcn mvi (nI o) (oI v) = if okT (rcd A) v then fX12_rootsOne_49 N (nI b) (nI o) (oI v) mm mco mcn mvi else some (-3, mm, mco, mcn, mvi) := by
          intro m0 b mm mco mcn mvi hb hR
          unfold fX12_rootsOne
          rw [mw, b1_s, if_neg (by decide), t2 m0 b mm hb hR, b1_s, if_neg (by decide), M_rootOf hR hb hr6, b1_s, if_neg qe2]
          cases v with
          | none => rw [oI_n, if_pos neg1_lt]; rfl
          | some t =>
            have ht24 := hvs t rfl
            rw [oI_s, if_neg (nI_nlt0 (by omega)), M_isReached hR hb w ht24 (by omega), b1_s, bI_if]
            rfl
        cases qr : okT (rcd A) v with
        | false =>
          refine ref (-3) (by decide) (by decide) (fun X hX => ?_) (fun m0 b mm mco mcn mvi hb hR => ?_)
          · rw [csel X hX, qr]; rfl
          · rw [msel m0 b mm mco mcn mvi hb hR, qr]; rfl
        | true =>
          obtain ⟨A1, j1, l1, ml, cl⟩ := T_layR (N := N) (by omega) hB hJ hr6 hv
          obtain ⟨A', g1, g2, g3, g4⟩ := T_rows hN hB j1 l1.2.2.2.2.2.2.2
          refine ⟨nI (dt A A'), A', g1, g2, Or.inl rfl, fun X zcd zgo ztd ztv zcl zca zwa zpt zpf hX => ?_, fun m0 b mm mco mcn mvi hb hR => ?_⟩
          · obtain ⟨z, g, Y, e, r⟩ := cl X zcd zgo hX
            have e' : fX2_laysRoot N zcd zgo X (nI o) (oI v) = some (z, g, Y) := e
            obtain ⟨z1, z2, z3, z4, z5, z6, z7, z8, z9, X', e2, r2⟩ := g3 114 (nI o) (oI v) p3 p4 Y X z g ztd ztv zcl zca zwa zpt zpf hX r (by decide) (by decide)
            refine ⟨z1, z2, z3, z4, z5, z6, z7, z8, z9, X', ?_, r2⟩
            unfold fX1_does fX1_refuses
            rw [if_neg (by decide), if_neg (by decide), if_pos rfl, csel X hX, qr, b1_s, b1_s, if_pos (by decide), if_neg (by decide), if_neg (by decide), if_pos rfl, e', b3_s, e2]
          · obtain ⟨m1, e, r⟩ := ml m0 b mm hb hR
            have e' : fX12_laysRoot N mm (nI b) (nI o) (oI v) = some m1 := e
            obtain ⟨m2, mc2, mn2, mv2, e2, r2, i2, d2⟩ := g4 m0 m0 b mm m1 mco mcn mvi hb hR r
            refine ⟨m2, mc2, mn2, mv2, ?_, r2⟩
            show fX12_rootsOne N mm (nI b) mco mcn mvi (nI o) (oI v) = _
            rw [msel m0 b mm mco mcn mvi hb hR, qr]
            show fX12_rootsOne_49 N (nI b) (nI o) (oI v) mm mco mcn mvi = _
            unfold fX12_rootsOne_49
            rw [i2, grd_t, lt_e, e', b1_s, e2, b4_s, grd_t, d2]
    · refine ref (-1) (by decide) (by decide) (fun X hX => ?_) (fun m0 b mm mco mcn mvi hb hR => ?_)
      · unfold fX1_refusesRoot
        rw [cw, b1_s, if_neg (by decide), t1 X hX, b1_s, if_pos rfl]
      · unfold fX12_rootsOne
        rw [mw, b1_s, if_neg (by decide), t2 m0 b mm hb hR, b1_s, if_pos rfl]
  · rw [decide_eq_false q1] at cw mw
    refine ref (-1) (by decide) (by decide) (fun X hX => ?_) (fun m0 b mm mco mcn mvi hb hR => ?_)
    · unfold fX1_refusesRoot
      rw [cw, b1_s, if_pos (by decide)]
    · unfold fX12_rootsOne
      rw [mw, b1_s, if_pos (by decide)]
