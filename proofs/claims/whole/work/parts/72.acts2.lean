/-! acts: weaks, wakes, trial -/
theorem W_wku {A : AS} (w : WF A) {x : Nat} (hx : x < 4) {v : Option Nat} (hv : ∀ t, v = some t → a_th A t = true) : WF (u_wk A (fs (a_wk A) x v)) := by
  obtain ⟨w1, w2, w3, w4, w5, w6⟩ := w
  refine ⟨w1, w2, w3, w4, fun r2 t q => ?_, w6⟩
  have q2 : fs (a_wk A) x v r2 = some t := q
  by_cases q3 : r2 = x
  · rw [q3, fs_s] at q2; exact ⟨by omega, hv t q2⟩
  · rw [fs_n q3] at q2; exact w5 r2 t q2
theorem J_wku {B : Nat} {A : AS} (h : J B A [] none) {x : Nat} (hx : x < 4) {v : Option Nat} (hv : ∀ t, v = some t → a_th A t = true) : J B (u_wk A (fs (a_wk A) x v)) [] none := ⟨W_wku h.1 hx hv, h.2⟩
/-- weaks: refused by r (below 0), or the weak one x held old -/
theorem T_weaks {N B : Nat} (hN : 200000 ≤ N) (hB : B ≤ 2147400000) {A : AS} (hJ : J B A [] none) (p1 p2 p3 p4 : Int32) : ∃ r q A', J B A' [] none ∧ LGR (a_lg A) (a_lg A') ∧ CDo N 119 p1 p2 p3 p4 A A' r ∧ (∀ (m0 : Nat → Int32) (b : Nat) (mm : Nat → Int32), b ≤ 5124 → RM m0 b mm A → ∃ mm', fX12_weaksOne N mm (nI b) p1 p2 = some (q, mm') ∧ RM m0 b mm' A') ∧ ((r < -1 ∧ r < 0 ∧ q = r ∧ A' = A) ∨ (r = 0 ∧ -1 ≤ q ∧ ∀ X, RC X A → fX3_weakAt X p1 = some q)) := by
  have w := hJ.1
  have ref : ∀ r : Int32, r < -1 → r < 0 → ¬ 0 ≤ r → (∀ X, RC X A → fX1_refusesWeak N X p1 p2 = some r) → (∀ (m0 : Nat → Int32) (b : Nat) (mm : Nat → Int32), b ≤ 5124 → RM m0 b mm A → fX12_weaksOne N mm (nI b) p1 p2 = some (r, mm)) → ∃ r q A', J B A' [] none ∧ LGR (a_lg A) (a_lg A') ∧ CDo N 119 p1 p2 p3 p4 A A' r ∧ (∀ (m0 : Nat → Int32) (b : Nat) (mm : Nat → Int32), b ≤ 5124 → RM m0 b mm A → ∃ mm', fX12_weaksOne N mm (nI b) p1 p2 = some (q, mm') ∧ RM m0 b mm' A') ∧ ((r < -1 ∧ r < 0 ∧ q = r ∧ A' = A) ∨ (r = 0 ∧ -1 ≤ q ∧ ∀ X, RC X A → fX3_weakAt X p1 = some q)) := by
    intro r hr1 hr hr2 h1 h2
    refine ⟨r, r, A, hJ, LGR_r _, fun X zcd zgo ztd ztv zcl zca zwa zpt zpf hX => ⟨zcd, zgo, ztd, ztv, zcl, zca, zwa, zpt, zpf, X, ?_, hX⟩, fun m0 b mm hb hR => ⟨mm, h2 m0 b mm hb hR, hR⟩, Or.inl ⟨hr1, hr, rfl, rfl⟩⟩
    unfold fX1_does fX1_refuses
    rw [if_neg (by decide), if_neg (by decide), if_neg (by decide), if_neg (by decide), if_neg (by decide), if_pos rfl, h1 X hX, b1_s, b1_s, if_neg hr2]
  have cw : fX1_isWithin p1 0 3 = some (bI (decide ((0 : Nat) ≤ p1.toInt ∧ p1.toInt ≤ (3 : Nat)))) := lit_within 0 3 rfl rfl p1
  have mw : fX12_in p1.toInt64 0 3 = some (bI (decide ((0 : Nat) ≤ p1.toInt ∧ p1.toInt ≤ (3 : Nat)))) := lit_in 0 3 rfl rfl rfl rfl p1
  by_cases q1 : ((0 : Nat) : Int) ≤ p1.toInt ∧ p1.toInt ≤ (3 : Nat)
  · rw [decide_eq_true q1] at cw mw
    obtain ⟨er, hr⟩ := nI_back (p := p1) (by omega)
    have hr6 : p1.toInt.toNat < 4 := by omega
    generalize p1.toInt.toNat = o at *
    subst er
    rcases tgt_or A p2 with ⟨v, ev, hv, t1, t2⟩ | ⟨t1, t2⟩
    · subst ev
      have hvs : SM v := fun t e => W_th w (hv t e)
      by_cases qe : a_wk A o = v
      · refine ref (-2) (by decide) (by decide) (by decide) (fun X hX => ?_) (fun m0 b mm hb hR => ?_)
        · unfold fX1_refusesWeak
          rw [cw, b1_s, if_neg (by decide), t1 X hX, b1_s, if_neg (by decide), inb_n hr6 (by decide), grd_t, cl_n (by omega), RC_h10 hX o hr6, if_pos (by rw [qe])]
        · unfold fX12_weaksOne
          rw [mw, b1_s, if_neg (by decide), t2 m0 b mm hb hR, b1_s, if_neg (by decide), M_weakOf hR hb hr6, b1_s, if_pos (by rw [qe])]
      · have qe2 : ¬ oI (a_wk A o) = oI v := fun c => qe ((oI_oI (W_sw w o) hvs).mp c)
        have csel : ∀ X, RC X A → fX1_refusesWeak N X (nI o) (oI v) = some (if okT (rcd A) v then 0 else -3) := by
          intro X hX
          unfold fX1_refusesWeak
          rw [cw, b1_s, if_neg (by decide), t1 X hX, b1_s, if_neg (by decide), inb_n hr6 (by decide), grd_t, cl_n (by omega), RC_h10 hX o hr6, if_neg qe2, C_reached hX w (by omega), b1_s, C_isIn hvs, b1_s, bI_if]
          cases okT (rcd A) v <;> rfl
        have msel : ∀ (m0 : Nat → Int32) (b : Nat) (mm : Nat → Int32), b ≤ 5124 → RM m0 b mm A → fX12_weaksOne N mm (nI b) (nI o) (oI v) = if okT (rcd A) v then fX12_weaksOne_52 N (nI b) (nI o) (oI v) mm (oI (a_wk A o)) else some (-3, mm) := by
          intro m0 b mm hb hR
          unfold fX12_weaksOne
          rw [mw, b1_s, if_neg (by decide), t2 m0 b mm hb hR, b1_s, if_neg (by decide), M_weakOf hR hb hr6, b1_s, if_neg qe2]
          cases v with
          | none => rw [oI_n, if_pos neg1_lt]; rfl
          | some t =>
            have ht24 := hvs t rfl
            rw [oI_s, if_neg (nI_nlt0 (by omega)), M_isReached hR hb w ht24 (by omega), b1_s, bI_if]
            rfl
        cases qr : okT (rcd A) v with
        | false =>
          refine ref (-3) (by decide) (by decide) (by decide) (fun X hX => ?_) (fun m0 b mm hb hR => ?_)
          · rw [csel X hX, qr]; rfl
          · rw [msel m0 b mm hb hR, qr]; rfl
        | true =>
          refine ⟨0, oI (a_wk A o), u_wk A (fs (a_wk A) o v), J_wku hJ hr6 hv, LGR_r _, fun X zcd zgo ztd ztv zcl zca zwa zpt zpf hX => ⟨zcd, zgo, ztd, ztv, zcl, zca, zwa, zpt, zpf, up2 X 7 o (oI v), ?_, C_wk hX o v⟩, fun m0 b mm hb hR => ⟨upd mm (b + 39 + o) (oI v), ?_, M_wk hR hr6 v⟩, Or.inr ⟨rfl, ?_, fun X hX => ?_⟩⟩
          · unfold fX1_does fX1_refuses
            rw [if_neg (by decide), if_neg (by decide), if_neg (by decide), if_neg (by decide), if_neg (by decide), if_pos rfl, csel X hX, qr, b1_s, b1_s, if_pos (by decide), if_neg (by decide), if_neg (by decide), if_neg (by decide), if_neg (by decide), if_pos rfl, inb_n hr6 (by decide), grd_t, cl_n (by omega), lt_e]
            unfold fX1_does_223 fX1_does_263
            rw [if_pos rfl]
            have e0 : up2 X 7 o (oI v) 10 3 - X 10 3 = 0 := by
              show X 10 3 - X 10 3 = 0
              rw [Int32.sub_self]
            rw [e0]
          · rw [msel m0 b mm hb hR, qr]
            show fX12_weaksOne_52 N (nI b) (nI o) (oI v) mm (oI (a_wk A o)) = _
            unfold fX12_weaksOne_52
            rw [show (39 : Int32) = nI 39 from rfl, ad_c, inb_n (by omega) (by decide), grd_t, cl_n (by omega), lt_e]
          · cases e : a_wk A o with
            | none => decide
            | some t =>
              have := W_sw w o t e
              rw [oI_s, le_i, nI_toInt (by omega), show (-1 : Int32).toInt = -1 from by decide]
              omega
          · unfold fX3_weakAt
            rw [if_neg (nI_nlt0 (by omega)), if_neg (by rw [le_4 (by omega)]; omega), inb_n hr6 (by decide), grd_t, cl_n (by omega), RC_h10 hX o hr6]
    · refine ref (-4) (by decide) (by decide) (by decide) (fun X hX => ?_) (fun m0 b mm hb hR => ?_)
      · unfold fX1_refusesWeak
        rw [cw, b1_s, if_neg (by decide), t1 X hX, b1_s, if_pos rfl]
      · unfold fX12_weaksOne
        rw [mw, b1_s, if_neg (by decide), t2 m0 b mm hb hR, b1_s, if_pos rfl]
  · rw [decide_eq_false q1] at cw mw
    refine ref (-4) (by decide) (by decide) (by decide) (fun X hX => ?_) (fun m0 b mm hb hR => ?_)
    · unfold fX1_refusesWeak
      rw [cw, b1_s, if_pos (by decide)]
    · unfold fX12_weaksOne
      rw [mw, b1_s, if_pos (by decide)]
theorem T_wakes {N B : Nat} (hN : 200000 ≤ N) (hB : B ≤ 2147400000) {A : AS} (hJ : J B A [] none) (p1 p2 p3 p4 : Int32) : ∃ r A', J B A' [] none ∧ LGR (a_lg A) (a_lg A') ∧ (r = nI (dt A A') ∨ (r < 0 ∧ A' = A)) ∧ CDo N 107 p1 p2 p3 p4 A A' r ∧ MDo (fun mm d mco mcn mvi => fX12_wakesOne N mm d mco mcn mvi p1 p2) A A' r := by
  have w := hJ.1
  have ref : ∀ r : Int32, r < 0 → ¬ 0 ≤ r → (∀ X, RC X A → fX1_refusesWake X p1 p2 = some r) → (∀ (m0 : Nat → Int32) (b : Nat) (mm mco mcn : Nat → Int32) (mvi : Int32), b ≤ 5124 → RM m0 b mm A → fX12_wakesOne N mm (nI b) mco mcn mvi p1 p2 = some (r, mm, mco, mcn, mvi)) → ∃ r A', J B A' [] none ∧ LGR (a_lg A) (a_lg A') ∧ (r = nI (dt A A') ∨ (r < 0 ∧ A' = A)) ∧ CDo N 107 p1 p2 p3 p4 A A' r ∧ MDo (fun mm d mco mcn mvi => fX12_wakesOne N mm d mco mcn mvi p1 p2) A A' r := by
    intro r hr hr2 h1 h2
    refine ⟨r, A, hJ, LGR_r _, Or.inr ⟨hr, rfl⟩, fun X zcd zgo ztd ztv zcl zca zwa zpt zpf hX => ⟨zcd, zgo, ztd, ztv, zcl, zca, zwa, zpt, zpf, X, ?_, hX⟩, fun m0 b mm mco mcn mvi hb hR => ⟨mm, mco, mcn, mvi, h2 m0 b mm mco mcn mvi hb hR, hR⟩⟩
    unfold fX1_does fX1_refuses
    rw [if_pos rfl, h1 X hX, b1_s, b1_s, if_neg hr2]
  have cw : fX1_isWithin p1 0 3 = some (bI (decide ((0 : Nat) ≤ p1.toInt ∧ p1.toInt ≤ (3 : Nat)))) := lit_within 0 3 rfl rfl p1
  have mw : fX12_in p1.toInt64 0 3 = some (bI (decide ((0 : Nat) ≤ p1.toInt ∧ p1.toInt ≤ (3 : Nat)))) := lit_in 0 3 rfl rfl rfl rfl p1
  have cv : fX1_isWithin p2 0 5 = some (bI (decide ((0 : Nat) ≤ p2.toInt ∧ p2.toInt ≤ (5 : Nat)))) := lit_within 0 5 rfl rfl p2
  have mv : fX12_in p2.toInt64 0 5 = some (bI (decide ((0 : Nat) ≤ p2.toInt ∧ p2.toInt ≤ (5 : Nat)))) := lit_in 0 5 rfl rfl rfl rfl p2
  by_cases q1 : ((0 : Nat) : Int) ≤ p1.toInt ∧ p1.toInt ≤ (3 : Nat)
  · rw [decide_eq_true q1] at cw mw
    obtain ⟨er, hr⟩ := nI_back (p := p1) (by omega)
    have hr4 : p1.toInt.toNat < 4 := by omega
    generalize p1.toInt.toNat = x at *
    subst er
    by_cases q2 : ((0 : Nat) : Int) ≤ p2.toInt ∧ p2.toInt ≤ (5 : Nat)
    · rw [decide_eq_true q2] at cv mv
      obtain ⟨eo, ho⟩ := nI_back (p := p2) (by omega)
      have hr6 : p2.toInt.toNat < 6 := by omega
      generalize p2.toInt.toNat = o at *
      subst eo
      cases e : a_wk A x with
      | none =>
        refine ref (-3) (by decide) (by decide) (fun X hX => ?_) (fun m0 b mm mco mcn mvi hb hR => ?_)
        · unfold fX1_refusesWake
          rw [cw, b1_s, if_neg (by decide), cv, b1_s, if_neg (by decide), inb_n hr4 (by decide), grd_t, cl_n (by omega), RC_h10 hX x hr4, e, oI_n, if_pos rfl]
        · unfold fX12_wakesOne
          rw [mw, b1_s, if_neg (by decide), mv, b1_s, if_neg (by decide), M_weakOf hR hb hr4, b1_s, e, oI_n, if_neg (by decide)]
      | some t =>
        have ht := (W_wk w e).2
        have ht24 := W_th w ht
        by_cases qe : a_rt A o = some t
        · refine ref (-2) (by decide) (by decide) (fun X hX => ?_) (fun m0 b mm mco mcn mvi hb hR => ?_)
          · unfold fX1_refusesWake
            rw [cw, b1_s, if_neg (by decide), cv, b1_s, if_neg (by decide), inb_n hr4 (by decide), grd_t, cl_n (by omega), RC_h10 hX x hr4, e, oI_s, if_neg (nI_ne1 (by omega)), inb_n hr6 (by decide), grd_t, grd_t, cl_n (by omega), RC_h9 hX o hr6, qe, oI_s, if_pos rfl]
          · unfold fX12_wakesOne
            rw [mw, b1_s, if_neg (by decide), mv, b1_s, if_neg (by decide), M_weakOf hR hb hr4, b1_s, e, oI_s, if_pos (nI_pos' (by omega)), M_rootOf hR hb hr6, b1_s, qe, oI_s, if_pos rfl]
        · have qe2 : ¬ oI (a_rt A o) = nI t := fun c => qe ((oI_eq (W_sr w o) ht24).mp c)
          obtain ⟨A1, j1, l1, ml, cl⟩ := T_layR (N := N) (v := some t) (by omega) hB hJ hr6 (fun u q => by cases q; exact ht)
          obtain ⟨A', g1, g2, g3, g4⟩ := T_rows hN hB j1 l1.2.2.2.2.2.2.2
          refine ⟨nI (dt A A'), A', g1, g2, Or.inl rfl, fun X zcd zgo ztd ztv zcl zca zwa zpt zpf hX => ?_, fun m0 b mm mco mcn mvi hb hR => ?_⟩
          · obtain ⟨z, g, Y, e3, r⟩ := cl X zcd zgo hX
            have e' : fX2_laysRoot N zcd zgo X (nI o) (nI t) = some (z, g, Y) := e3
            obtain ⟨z1, z2, z3, z4, z5, z6, z7, z8, z9, X', e2, r2⟩ := g3 107 (nI x) (nI o) p3 p4 Y X z g ztd ztv zcl zca zwa zpt zpf hX r (by decide) (by decide)
            refine ⟨z1, z2, z3, z4, z5, z6, z7, z8, z9, X', ?_, r2⟩
            have cref : fX1_refusesWake X (nI x) (nI o) = some 0 := by
              unfold fX1_refusesWake
              rw [cw, b1_s, if_neg (by decide), cv, b1_s, if_neg (by decide), inb_n hr4 (by decide), grd_t, cl_n (by omega), RC_h10 hX x hr4, e, oI_s, if_neg (nI_ne1 (by omega)), inb_n hr6 (by decide), grd_t, grd_t, cl_n (by omega), RC_h9 hX o hr6, if_neg qe2]
            unfold fX1_does fX1_refuses
            rw [if_pos rfl, cref, b1_s, b1_s, if_pos (by decide), if_pos rfl, inb_n hr4 (by decide), grd_t, cl_n (by omega), RC_h10 hX x hr4, e, oI_s, e', b3_s, e2]
          · obtain ⟨m1, e3, r⟩ := ml m0 b mm hb hR
            have e' : fX12_laysRoot N mm (nI b) (nI o) (nI t) = some m1 := e3
            obtain ⟨m2, mc2, mn2, mv2, e2, r2, i2, d2⟩ := g4 m0 m0 b mm m1 mco mcn mvi hb hR r
            refine ⟨m2, mc2, mn2, mv2, ?_, r2⟩
            show fX12_wakesOne N mm (nI b) mco mcn mvi (nI x) (nI o) = _
            unfold fX12_wakesOne
            rw [mw, b1_s, if_neg (by decide), mv, b1_s, if_neg (by decide), M_weakOf hR hb hr4, b1_s, e, oI_s, if_pos (nI_pos' (by omega)), M_rootOf hR hb hr6, b1_s, if_neg qe2, i2, grd_t, lt_e, e', b1_s, e2, b4_s, grd_t, d2]
    · rw [decide_eq_false q2] at cv mv
      refine ref (-1) (by decide) (by decide) (fun X hX => ?_) (fun m0 b mm mco mcn mvi hb hR => ?_)
      · unfold fX1_refusesWake
        rw [cw, b1_s, if_neg (by decide), cv, b1_s, if_pos (by decide)]
      · unfold fX12_wakesOne
        rw [mw, b1_s, if_neg (by decide), mv, b1_s, if_pos (by decide)]
  · rw [decide_eq_false q1] at cw mw
    refine ref (-1) (by decide) (by decide) (fun X hX => ?_) (fun m0 b mm mco mcn mvi hb hR => ?_)
    · unfold fX1_refusesWake
      rw [cw, b1_s, if_pos (by decide)]
    · unfold fX12_wakesOne
      rw [mw, b1_s, if_pos (by decide)]
/-- how many were freed, how many ends ran, between two logs -/
def fk (A A' : AS) : Int32 := ((a_lg A').2.2.2 1 + (a_lg A').2.2.2 2) - ((a_lg A).2.2.2 1 + (a_lg A).2.2.2 2)
def ek (A A' : AS) : Int32 := (a_lg A').2.2.2 3 - (a_lg A).2.2.2 3
theorem fk_pos {A A' : AS} (h : LGR (a_lg A) (a_lg A')) (hb : (a_lg A').1 < 1000000000) : ∃ n, fk A A' = nI n ∧ n < 2000000000 := by
  obtain ⟨h1, h2⟩ := h
  obtain ⟨d1, e1, l1⟩ := h2 1
  obtain ⟨d2, e2, l2⟩ := h2 2
  refine ⟨d1 + d2, ?_, by omega⟩
  unfold fk
  rw [e1, e2, ← nI_add]
  generalize (a_lg A).2.2.2 1 = x
  generalize (a_lg A).2.2.2 2 = y
  generalize nI d1 = u
  generalize nI d2 = v
  apply Int32.toBitVec_inj.mp
  simp only [Int32.toBitVec_add, Int32.toBitVec_sub]
  apply BitVec.eq_of_toNat_eq
  simp only [BitVec.toNat_add, BitVec.toNat_sub]
  omega
