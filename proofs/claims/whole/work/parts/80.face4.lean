/-! log, holders, keepers -/
theorem in_nn {a b : Nat} (ha : a < 2000000000) (hb : b < 2000000000) (p : Int32) : fX12_in p.toInt64 (nI a).toInt64 ((nI b - 1).toInt64) = some (bI (decide ((a : Int) ≤ p.toInt ∧ p.toInt < b))) := by
  have e := nI_toInt (n := b) (by omega)
  have e2 : (nI b - 1).toInt = (b : Int) - 1 := by rw [sub1_i (by omega), e]
  rw [in_c, nI_toInt (by omega), e2]
  by_cases q : (a : Int) ≤ p.toInt ∧ p.toInt ≤ (b : Int) - 1
  · rw [if_pos q, decide_eq_true (by omega)]; rfl
  · rw [if_neg q, decide_eq_false (by omega)]; rfl
theorem nI_sub60 {t : Nat} (h : t < 2000000000) : (nI t - 60).toInt = (t : Int) - 60 := by
  have e := nI_toInt (n := t) (by omega)
  rw [Int32.toInt_sub, e, show (60 : Int32).toInt = 60 from by decide]
  exact Int.bmod_eq_of_le (by omega) (by omega)
theorem C_lghas {X : Nat → Nat → Int32} {A : AS} (h : RC X A) (ht : (a_lg A).1 < 2000000000) (p : Int32) : fX4_has X p = some (bI (decide ((((a_lg A).1 - 60 : Nat) : Int) ≤ p.toInt ∧ p.toInt < (a_lg A).1))) := by
  have e := nI_toInt (n := (a_lg A).1) (by omega)
  unfold fX4_has
  rw [RC_h15 h]
  simp only [lt_i, le_i, i0, e, nI_sub60 ht]
  by_cases q : (((a_lg A).1 - 60 : Nat) : Int) ≤ p.toInt ∧ p.toInt < (a_lg A).1
  · rw [decide_eq_true q, if_neg (by omega), if_neg (by omega), if_neg (by omega)]; rfl
  · rw [decide_eq_false q]
    by_cases c1 : p.toInt < 0
    · rw [if_pos c1]; rfl
    · rw [if_neg c1]
      by_cases c2 : ((a_lg A).1 : Int) ≤ p.toInt
      · rw [if_pos c2]; rfl
      · rw [if_neg c2, if_pos (by omega)]; rfl
theorem S_log {N : Nat} (hN : 200000 ≤ N) (j : Nat) (hj : j < 512) : ST_log N (INV j) (INV (j + 1)) := by
  intro HS zkb zdr zky zpn zps ztz ztn zxz zxa zsg za0 za1 za2 za3 za4 zfr zcd zgo ztd ztv zcl zca zwa zpt zpf mth mto mrw mta mtp mat mtt mme mun mde mco mcn mvi men mfa mac mfi mse mtd mra mkp a1 a2 hI
  obtain ⟨A, K, U, kb, u, pn, hc, hx, ht, hd⟩ := hI
  have hd' : mde = 0 := hd
  subst hd'
  replace hc : COR (640 * j) HS zkb zpn zps mme mun mkp A K U kb u pn := hc
  replace hx : TXT zxz zsg mta mtp := hx
  replace ht : TLD ztz ztn mto mrw := ht
  have hJ : J (640 * j) A [] none := hc.1.1
  have w := hJ.1
  have hX0 : RC (HS 0) A := hc.1.2.1
  have hR0 : RM mme 0 mme A := hc.1.2.2
  have hcu : COR (640 * (j + 1)) HS zkb zpn zps mme mun mkp A K U kb u pn := COR_up hc (by omega)
  have htot : (a_lg A).1 < 2000000000 := by have := hJ.2.2.2.2.2; have hl0 : ([] : List Nat).length = 0 := rfl; omega
  suffices hh : ∃ (r : Option Int32) (b' m' : Int32), fX11_log HS a1 a2 = some r ∧ fX12_log mth mme a1 a2 = some (b', m') ∧ ((r = none ∧ m' = 1) ∨ (r = some b' ∧ m' = 0)) by
    obtain ⟨r, b', m', e1, e2, h2⟩ := hh
    exact ⟨r, b', m', e1, e2, h2, A, K, U, kb, u, pn, hcu, hx, ht, rfl⟩
  have m2 : mme 2 = nI (a_lg A).1 := hR0.2.2.2.1
  have hin : ∃ y : Int64, fX12_log mth mme a1 a2 = fX12_log_25 mme a1 a2 mth (nI (a_lg A).1) y a1.toInt64 ∧ fX12_in a1.toInt64 y ((nI (a_lg A).1 - 1).toInt64) = some (bI (decide ((((a_lg A).1 - 60 : Nat) : Int) ≤ a1.toInt ∧ a1.toInt < (a_lg A).1))) := by
    unfold fX12_log
    rw [show inb 2 5551 = true from by decide, grd_t, show (2 : Int32).toNatClampNeg = 2 from by decide, m2, lt_e]
    by_cases q : (a_lg A).1 ≤ 60
    · refine ⟨0, if_pos ((le_n (i := (a_lg A).1) (j := 60) (by omega) (by omega)).mpr q), ?_⟩
      have h := in_nn (a := 0) (by decide) htot a1
      rw [show (a_lg A).1 - 60 = 0 by omega]
      exact h
    · refine ⟨(nI (a_lg A).1 - 60).toInt64, if_neg (fun c => q ((le_n (i := (a_lg A).1) (j := 60) (by omega) (by omega)).mp c)), ?_⟩
      have h := in_nn (a := (a_lg A).1 - 60) (by omega) htot a1
      have e : nI (a_lg A).1 - 60 = nI ((a_lg A).1 - 60) := by
        apply Int32.toInt_inj.mp
        rw [nI_sub60 htot, nI_toInt (by omega)]; omega
      rw [e]; exact h
  obtain ⟨y, e1, e2⟩ := hin
  rw [e1]
  unfold fX11_log fX12_log_25 fX12_log_45 fX12_log_50 fX11_log_23
  rw [C_lghas hX0 htot a1, e2, b1_s, b1_s]
  have mw : fX12_in a2.toInt64 0 1 = some (bI (decide ((0 : Nat) ≤ a2.toInt ∧ a2.toInt ≤ (1 : Nat)))) := lit_in 0 1 rfl rfl rfl rfl a2
  by_cases q : (((a_lg A).1 - 60 : Nat) : Int) ≤ a1.toInt ∧ a1.toInt < (a_lg A).1
  · rw [decide_eq_true q, if_neg (show ¬ bI true = 0 from by decide), if_neg (show ¬ bI true = 0 from by decide), mw, b1_s]
    by_cases q1 : ((0 : Nat) : Int) ≤ a2.toInt ∧ a2.toInt ≤ (1 : Nat)
    · rw [decide_eq_true q1, if_neg (show ¬ bI true = 0 from by decide)]
      obtain ⟨er, hr⟩ := nI_back (p := a1) (by omega)
      have qq := q
      generalize a1.toInt.toNat = i at *
      subst er
      have hm : i % 60 < 60 := Nat.mod_lt _ (by decide)
      have hji : i < 2000000000 := by have := nI_toInt (n := i) (by omega); omega
      have hj : jrem (nI i) 60 = nI (i % 60) := pk_rem (by omega) (by decide) (by decide)
      have e43 : (43 : Int32) + (2 * nI (i % 60)) = nI (43 + 2 * (i % 60)) := by
        rw [show (43 : Int32) = nI 43 from rfl, show (2 : Int32) = nI 2 from rfl, pk_mul]; exact ad_1 43 _
      obtain ⟨er2, hr2⟩ := nI_back (p := a2) (by omega)
      have hr6 : a2.toInt.toNat < 2 := by omega
      generalize a2.toInt.toNat = k at *
      subst er2
      rw [show fX12_flag 0 = some 0 from rfl, b1_s, if_neg (show ¬ (0 : Int32) = 1 from by decide), hj, show nzb 60 = true from by decide, grd_t, e43]
      rcases (by omega : k = 0 ∨ k = 1) with rfl | rfl
      · refine ⟨some ((a_lg A).2.1 (i % 60)), (a_lg A).2.1 (i % 60), 0, ?_, ?_, Or.inr ⟨rfl, rfl⟩⟩
        · unfold fX4_kindAt
          rw [if_neg (by decide), if_pos (by decide), if_pos (by decide), C_lghas hX0 htot, decide_eq_true qq, b1_s, if_neg (by decide), hj, show nzb 60 = true from by decide, grd_t, inb_n hm (by decide), grd_t, cl_n (by omega), hX0.2.2.2.2.2.2.2.2.2.2.2.2.2.2.2.1 _ hm, b1_s]
        · rw [show nI (43 + 2 * (i % 60)) + nI 0 = nI (43 + 2 * (i % 60)) from ad_1 _ 0, inb_n (by omega) (by decide), grd_t, cl_n (by omega)]
          have := hR0.2.2.2.2.2.2.2.2.1 (i % 60) hm
          rw [show 0 + 43 + 2 * (i % 60) = 43 + 2 * (i % 60) by omega] at this
          rw [this]
      · refine ⟨some ((a_lg A).2.2.1 (i % 60)), (a_lg A).2.2.1 (i % 60), 0, ?_, ?_, Or.inr ⟨rfl, rfl⟩⟩
        · unfold fX4_objectAt
          rw [if_neg (by decide), if_pos (by decide), if_neg (by decide), C_lghas hX0 htot, decide_eq_true qq, b1_s, if_neg (by decide), hj, show nzb 60 = true from by decide, grd_t, inb_n hm (by decide), grd_t, cl_n (by omega), hX0.2.2.2.2.2.2.2.2.2.2.2.2.2.2.2.2.1 _ hm, b1_s]
        · rw [show nI (43 + 2 * (i % 60)) + nI 1 = nI (43 + 2 * (i % 60) + 1) from ad_1 _ 1, inb_n (by omega) (by decide), grd_t, cl_n (by omega)]
          have := hR0.2.2.2.2.2.2.2.2.2.1 (i % 60) hm
          rw [show 0 + 43 + 2 * (i % 60) + 1 = 43 + 2 * (i % 60) + 1 by omega] at this
          rw [this]
    · rw [decide_eq_false q1, if_pos (show bI false = 0 from rfl)]
      refine ⟨none, 0, 1, ?_, rfl, Or.inl ⟨rfl, rfl⟩⟩
      simp only [lt_i, le_i, i0, show (1 : Int32).toInt = 1 from by decide]
      by_cases c : a2.toInt < 0
      · rw [if_pos c]
      · rw [if_neg c, if_neg (by omega)]
  · rw [decide_eq_false q, if_pos (show bI false = 0 from rfl), if_pos (show bI false = 0 from rfl)]
    exact ⟨none, 0, 1, rfl, rfl, Or.inl ⟨rfl, rfl⟩⟩
theorem jor0 (x : Int32) : x ||| (0 : Int32) = x := or0 x
theorem C_hold {HS : Nat → Nat → Nat → Int32} {A : AS} (h : RC (HS 0) A) (w : WF A) {o : Nat} (ho : o < 24) {N : Nat} (hN : 24 < N) (ztz : Int32) (ztn : Nat → Int64) : fX11_holders_17 N HS (nI o) N ztz ztn 0 0 = fX11_holders_46 N HS (nI o) ztz ztn (bs (fun i => nx (a_fd A) i o)) := by
  refine lpE (fun n j => fX11_holders_17 N HS (nI o) n ztz ztn (bsn (fun i => nx (a_fd A) i o) j) (nI j)) 24 _ (fun n j hj => ?_) (fun n => ?_) N 0 (by omega) (by omega)
  · show fX11_holders_17b N HS (nI o) (fX11_holders_17 N HS (nI o) n) ztz ztn (bsn (fun i => nx (a_fd A) i o) j) (nI j) = fX11_holders_17 N HS (nI o) n ztz ztn (bsn (fun i => nx (a_fd A) i o) j ||| jshl (bI (nx (a_fd A) j o)) (nI j)) (nI (j + 1))
    unfold fX11_holders_17b fX11_bit
    rw [if_neg (by rw [le_24 (by omega)]; omega), C_fieldBits h w hj hN, b1_s, bs_bit _ ho, b1_s, nI_1]
  · show fX11_holders_17b N HS (nI o) (fX11_holders_17 N HS (nI o) n) ztz ztn (bsn (fun i => nx (a_fd A) i o) 24) (nI 24) = _
    unfold fX11_holders_17b
    rw [if_pos (by rw [le_24 (by omega)]; omega)]
    rfl
theorem C_plr {HS : Nat → Nat → Nat → Int32} {A : AS} (h : RC (HS 0) A) (w : WF A) {o : Nat} (ho : o < 24) {N : Nat} (hN : 24 < N) : fX11_placesOf_r N HS (nI o) = some (bsn (fun r => decide (a_rt A r = some o)) 6) := by
  refine lpE (fun n j => fX11_placesOf_r_4 N HS (nI o) n (bsn (fun r => decide (a_rt A r = some o)) j) (nI j)) 6 _ (fun n j hj => ?_) (fun n => ?_) N 0 (by omega) (by omega)
  · show fX11_placesOf_r_4b N HS (nI o) (fX11_placesOf_r_4 N HS (nI o) n) (bsn (fun r => decide (a_rt A r = some o)) j) (nI j) = fX11_placesOf_r_4 N HS (nI o) n (bsn (fun r => decide (a_rt A r = some o)) j ||| jshl (bI (decide (a_rt A j = some o))) (nI j)) (nI (j + 1))
    unfold fX11_placesOf_r_4b fX11_placesOf_r_23
    rw [if_neg (by rw [le_6 (by omega)]; omega), inb_n hj (by decide), grd_t, cl_n (by omega), RC_h9 h j hj, nI_1]
    by_cases q : a_rt A j = some o
    · rw [if_pos ((oI_eq (W_sr w j) ho).mpr q), decide_eq_true q]; rfl
    · rw [if_neg (fun c => q ((oI_eq (W_sr w j) ho).mp c)), decide_eq_false q]; rfl
  · show fX11_placesOf_r_4b N HS (nI o) (fX11_placesOf_r_4 N HS (nI o) n) (bsn (fun r => decide (a_rt A r = some o)) 6) (nI 6) = _
    unfold fX11_placesOf_r_4b
    rw [if_pos (by rw [le_6 (by omega)]; omega)]
theorem C_plw {HS : Nat → Nat → Nat → Int32} {A : AS} (h : RC (HS 0) A) (w : WF A) {o : Nat} (ho : o < 24) {N : Nat} (hN : 24 < N) : fX11_placesOf_w N HS (nI o) = some (bsn (fun r => decide (a_wk A r = some o)) 4) := by
  refine lpE (fun n j => fX11_placesOf_w_4 N HS (nI o) n (bsn (fun r => decide (a_wk A r = some o)) j) (nI j)) 4 _ (fun n j hj => ?_) (fun n => ?_) N 0 (by omega) (by omega)
  · show fX11_placesOf_w_4b N HS (nI o) (fX11_placesOf_w_4 N HS (nI o) n) (bsn (fun r => decide (a_wk A r = some o)) j) (nI j) = fX11_placesOf_w_4 N HS (nI o) n (bsn (fun r => decide (a_wk A r = some o)) j ||| jshl (bI (decide (a_wk A j = some o))) (nI j)) (nI (j + 1))
    unfold fX11_placesOf_w_4b fX11_placesOf_w_23
    rw [if_neg (by rw [le_4 (by omega)]; omega), inb_n hj (by decide), grd_t, cl_n (by omega), RC_h10 h j hj, nI_1]
    by_cases q : a_wk A j = some o
    · rw [if_pos ((oI_eq (W_sw w j) ho).mpr q), decide_eq_true q]; rfl
    · rw [if_neg (fun c => q ((oI_eq (W_sw w j) ho).mp c)), decide_eq_false q]; rfl
  · show fX11_placesOf_w_4b N HS (nI o) (fX11_placesOf_w_4 N HS (nI o) n) (bsn (fun r => decide (a_wk A r = some o)) 4) (nI 4) = _
    unfold fX11_placesOf_w_4b
    rw [if_pos (by rw [le_4 (by omega)]; omega)]
theorem M_hold {mme : Nat → Int32} {A : AS} (h : RM mme 0 mme A) (w : WF A) {o : Nat} (ho : o < 24) {N : Nat} (hN : 24 < N) (mto : Int32) (mrw : Nat → Int64) : fX12_holders_25 N mme 0 (nI o) N 0 mto mrw 0 0 0 0 = fX12_holders_155 N mme 0 (nI o) 0 mto mrw (bs (fun i => nx (a_fd A) i o)) (bsn (fun r => decide (a_rt A r = some o)) 6) (bsn (fun r => decide (a_wk A r = some o)) 4) := by
  have l3 : ∀ x2 x3 : Int32, fX12_holders_117 N mme 0 (nI o) N 0 mto mrw x2 x3 0 0 = fX12_holders_155 N mme 0 (nI o) 0 mto mrw x2 x3 (bsn (fun r => decide (a_wk A r = some o)) 4) := by
    intro x2 x3
    refine lpE (fun n j => fX12_holders_117 N mme 0 (nI o) n 0 mto mrw x2 x3 (bsn (fun r => decide (a_wk A r = some o)) j) (nI j)) 4 _ (fun n j hj => ?_) (fun n => ?_) N 0 (by omega) (by omega)
    · have m : fX12_weakOf mme 0 (nI j) = some (oI (a_wk A j)) := M_weakOf (b := 0) h (by decide) hj
      show fX12_holders_117b N mme 0 (nI o) (fX12_holders_117 N mme 0 (nI o) n) 0 mto mrw x2 x3 (bsn (fun r => decide (a_wk A r = some o)) j) (nI j) = fX12_holders_117 N mme 0 (nI o) n 0 mto mrw x2 x3 (bsn (fun r => decide (a_wk A r = some o)) j ||| jshl (bI (decide (a_wk A j = some o))) (nI j)) (nI (j + 1))
      unfold fX12_holders_117b fX12_holders_140
      rw [if_neg (by rw [le_4 (by omega)]; omega), m, b1_s, nI_1]
      by_cases q : a_wk A j = some o
      · rw [if_pos ((oI_eq (W_sw w j) ho).mpr q), decide_eq_true q]; rfl
      · rw [if_neg (fun c => q ((oI_eq (W_sw w j) ho).mp c)), decide_eq_false q]; rfl
    · show fX12_holders_117b N mme 0 (nI o) (fX12_holders_117 N mme 0 (nI o) n) 0 mto mrw x2 x3 (bsn (fun r => decide (a_wk A r = some o)) 4) (nI 4) = _
      unfold fX12_holders_117b
      rw [if_pos (by rw [le_4 (by omega)]; omega)]
  have l2 : ∀ x2 : Int32, fX12_holders_77 N mme 0 (nI o) N 0 mto mrw x2 0 0 0 = fX12_holders_117 N mme 0 (nI o) N 0 mto mrw x2 (bsn (fun r => decide (a_rt A r = some o)) 6) 0 0 := by
    intro x2
    refine lpE (fun n j => fX12_holders_77 N mme 0 (nI o) n 0 mto mrw x2 (bsn (fun r => decide (a_rt A r = some o)) j) 0 (nI j)) 6 _ (fun n j hj => ?_) (fun n => ?_) N 0 (by omega) (by omega)
    · have m : fX12_rootOf mme 0 (nI j) = some (oI (a_rt A j)) := M_rootOf (b := 0) h (by decide) hj
      show fX12_holders_77b N mme 0 (nI o) (fX12_holders_77 N mme 0 (nI o) n) 0 mto mrw x2 (bsn (fun r => decide (a_rt A r = some o)) j) 0 (nI j) = fX12_holders_77 N mme 0 (nI o) n 0 mto mrw x2 (bsn (fun r => decide (a_rt A r = some o)) j ||| jshl (bI (decide (a_rt A j = some o))) (nI j)) 0 (nI (j + 1))
      unfold fX12_holders_77b fX12_holders_100
      rw [if_neg (by rw [le_6 (by omega)]; omega), m, b1_s, nI_1]
      by_cases q : a_rt A j = some o
      · rw [if_pos ((oI_eq (W_sr w j) ho).mpr q), decide_eq_true q]; rfl
      · rw [if_neg (fun c => q ((oI_eq (W_sr w j) ho).mp c)), decide_eq_false q]; rfl
    · show fX12_holders_77b N mme 0 (nI o) (fX12_holders_77 N mme 0 (nI o) n) 0 mto mrw x2 (bsn (fun r => decide (a_rt A r = some o)) 6) 0 (nI 6) = _
      unfold fX12_holders_77b
      rw [if_pos (by rw [le_6 (by omega)]; omega)]
  rw [← l3, ← l2]
  refine lpE (fun n j => fX12_holders_25 N mme 0 (nI o) n 0 mto mrw (bsn (fun i => nx (a_fd A) i o) j) 0 0 (nI j)) 24 _ (fun n j hj => ?_) (fun n => ?_) N 0 (by omega) (by omega)
  · have m : fX12_isThere mme 0 (nI j) = some (bI (a_th A j)) := M_isThere (b := 0) h (by decide) hj
    show fX12_holders_25b N mme 0 (nI o) (fX12_holders_25 N mme 0 (nI o) n) 0 mto mrw (bsn (fun i => nx (a_fd A) i o) j) 0 0 (nI j) = fX12_holders_25 N mme 0 (nI o) n 0 mto mrw (bsn (fun i => nx (a_fd A) i o) j ||| jshl (bI (nx (a_fd A) j o)) (nI j)) 0 0 (nI (j + 1))
    unfold fX12_holders_25b fX12_holders_59 fX12_holders_60
    rw [if_neg (by rw [le_24 (by omega)]; omega), m, b1_s, nI_1]
    cases e : a_th A j with
    | false =>
      have : nx (a_fd A) j o = false := by
        cases c : nx (a_fd A) j o with
        | false => rfl
        | true => obtain ⟨k, _, e2⟩ := nx_iff.mp c; rw [(W_fd w e2).1] at e; cases e
      rw [if_pos (by decide), this]; rfl
    | true =>
      have m2 : fX12_next N mme 0 (nI j) = some (bs (nx (a_fd A) j)) := M_next (b := 0) h (by decide) w e hN
      rw [if_neg (by decide), m2, b1_s, M_has _ ho, b1_s]
      cases nx (a_fd A) j o <;> rfl
  · show fX12_holders_25b N mme 0 (nI o) (fX12_holders_25 N mme 0 (nI o) n) 0 mto mrw (bsn (fun i => nx (a_fd A) i o) 24) 0 0 (nI 24) = _
    unfold fX12_holders_25b
    rw [if_pos (by rw [le_24 (by omega)]; omega)]
    rfl
theorem S_holders {N : Nat} (hN : 200000 ≤ N) (j : Nat) (hj : j < 512) : ST_holders N (INV j) (INV (j + 1)) := by
  intro HS zkb zdr zky zpn zps ztz ztn zxz zxa zsg za0 za1 za2 za3 za4 zfr zcd zgo ztd ztv zcl zca zwa zpt zpf mth mto mrw mta mtp mat mtt mme mun mde mco mcn mvi men mfa mac mfi mse mtd mra mkp a1 hI
  obtain ⟨A, K, U, kb, u, pn, hc, hx, ht, hd⟩ := hI
  have hd' : mde = 0 := hd
  subst hd'
  replace hc : COR (640 * j) HS zkb zpn zps mme mun mkp A K U kb u pn := hc
  replace hx : TXT zxz zsg mta mtp := hx
  replace ht : TLD ztz ztn mto mrw := ht
  have hJ : J (640 * j) A [] none := hc.1.1
  have w := hJ.1
  have hX0 : RC (HS 0) A := hc.1.2.1
  have hR0 : RM mme 0 mme A := hc.1.2.2
  have hcu : COR (640 * (j + 1)) HS zkb zpn zps mme mun mkp A K U kb u pn := COR_up hc (by omega)
  rcases obj_or A a1 with ⟨i, e1, hi, hti⟩ | ⟨n1, n2⟩
  · subst e1
    have m1 : fX12_isThere mme 0 (nI i) = some (bI (a_th A i)) := M_isThere (b := 0) hR0 (by decide) hi
    obtain ⟨zn', mr1, mr', t1, t2, t3, ht2⟩ := TL_2 ztz ztn mrw (bsn (fun r => decide (a_rt A r = some i)) 6).toInt64 (bsn (fun r => decide (a_wk A r = some i)) 4).toInt64
    refine ⟨bs (fun j => nx (a_fd A) j i), 2, zn', 0, 2, mr', ?_, ?_, A, K, U, kb, u, pn, hcu, hx, ht2, rfl⟩
    · unfold fX11_holders
      rw [C_has hX0 hi, hti, b1_s, if_neg (by decide), C_hold hX0 w hi (by omega)]
      unfold fX11_holders_46
      rw [C_plr hX0 w hi (by omega), b1_s, C_plw hX0 w hi (by omega), b1_s, t1, b2_s]
    · unfold fX12_holders
      rw [m1, hti, b1_s, if_neg (by decide), M_hold hR0 w hi (by omega)]
      unfold fX12_holders_155
      rw [t2, b2_s, t3, b2_s]
  · refine ⟨-1, ztz, ztn, 0, mto, mrw, ?_, ?_, A, K, U, kb, u, pn, hcu, hx, ht, rfl⟩
    · unfold fX11_holders; rw [n1 _ hX0, b1_s, if_pos rfl]
    · have m1 : fX12_isThere mme 0 a1 = some 0 := n2 mme 0 mme (by decide) hR0
      unfold fX12_holders; rw [m1, b1_s, if_pos rfl]
