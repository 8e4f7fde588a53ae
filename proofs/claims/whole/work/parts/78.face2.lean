/-! from, alone; undo, keep, again; cut, would -/
theorem rch_one {A : AS} (w : WF A) {i : Nat} (hi : i < 24) : bs (rch (a_fd A) (nx (a_fd A) i) nof) ||| jshl 1 (nI i) = bs (rch (a_fd A) (fun j => decide (j = i)) nof) := by
  rw [bs_set _ hi]
  have hii : rch (a_fd A) (fun j => decide (j = i)) nof i = true := rch_b hi (decide_eq_true rfl) rfl
  refine rch_eq w (fun x hx q _ => ?_) (fun y k x hy q e _ => ?_) (fun x hx q => ?_)
  · have : x = i := decide_eq_true_eq.mp q
    rw [this, fs_s]
  · have hx24 := W_sf w y k x e
    by_cases c : x = i
    · rw [c, fs_s]
    · rw [fs_n c]
      by_cases c2 : y = i
      · subst c2
        exact rch_b hx24 (nx_iff.mpr ⟨k, by have := (W_fd w e).2.1; have := W_my w y; omega, e⟩) rfl
      · rw [fs_n c2] at q
        exact rch_s q e hx24 rfl
  · by_cases c : x = i
    · rw [c]; exact hii
    · rw [fs_n c] at q
      exact rch_m q (fun x => rch (a_fd A) (fun j => decide (j = i)) nof x = true) (fun x hx q2 _ => by
        obtain ⟨k, _, e⟩ := nx_iff.mp q2
        exact rch_s hii e hx rfl) (fun y k x q2 e _ => rch_s q2 e (W_sf w y k x e) rfl)
noncomputable def hgp (A : AS) (i : Nat) : Nat → Bool := fun x => rcd A x && !rch (a_fd A) (rtn (a_rt A) nof 6) (fun j => decide (j = i)) x
theorem hg_yes {A : AS} {i : Nat} (hi : i < 24) (h : rcd A i = true) : ¬ bs (hgp A i) = 0 := fun q => by
  have := bs_eq0.mp q i hi
  unfold hgp at this
  rw [h, Bool.true_and, Bool.not_eq_false'] at this
  have h2 := rch_W this
  simp at h2
theorem hg_no {A : AS} (w : WF A) {i : Nat} (h : rcd A i = false) : bs (hgp A i) = 0 := bs_eq0.mpr (fun x _ => by
  unfold hgp
  cases e : rcd A x with
  | false => rfl
  | true =>
    have key := rch_m e (fun x => rch (a_fd A) (rtn (a_rt A) nof 6) (fun j => decide (j = i)) x = true ∧ rcd A x = true) (fun x hx q q2 => by
      have hr : rcd A x = true := rch_b hx q q2
      refine ⟨rch_b hx q (decide_eq_false (fun c => ?_)), hr⟩
      rw [c, h] at hr; cases hr) (fun y k x q e2 q2 => by
      have hx := W_sf w y k x e2
      have hr : rcd A x = true := rch_s q.2 e2 hx q2
      refine ⟨rch_s q.1 e2 hx (decide_eq_false (fun c => ?_)), hr⟩
      rw [c, h] at hr; cases hr)
    rw [key.1]; rfl)
theorem C_hanging {X : Nat → Nat → Int32} {A : AS} (h : RC X A) (w : WF A) {i : Nat} (hi : i < 24) {N : Nat} (hN : 24 < N) : fX10_hanging N X (nI i) = some (bs (hgp A i)) := by
  unfold fX10_hanging
  rw [C_reached h w hN, b1_s, C_rootBits h w bit0 hN, b1_s, bs_one hi, C_spr h w _ _ hN, b1_s, bs_andn]
  rfl
theorem M_aloneWith {m0 mm : Nat → Int32} {b : Nat} {A : AS} (h : RM m0 b mm A) (hb : b ≤ 5124) (w : WF A) {i : Nat} (hi : i < 24) {N : Nat} (hN : 1000 < N) : fX12_aloneWith N mm (nI b) (nI i) = some (bs (hgp A i)) := by
  unfold fX12_aloneWith
  rw [M_reached h hb w hN, b1_s, M_has _ hi, b1_s, bI_if]
  cases q : rcd A i with
  | false => rw [if_neg (by decide), hg_no w q]
  | true =>
    rw [if_pos rfl, M_inRoots h hb w has0 (by omega), b1_s, bs_one hi, M_reach h hb w _ (fun x _ q => rtn_th w nof x q) hN, b1_s, bs_andn]
    rfl
theorem hg_th {A : AS} (w : WF A) (i x : Nat) (h : hgp A i x = true) : a_th A x = true := by
  unfold hgp at h
  rw [Bool.and_eq_true] at h
  exact rcd_th w h.1
theorem q_try {B : Nat} {HS : Nat → Nat → Nat → Int32} {zkb zpn zps : Int32} {mme : Nat → Int32} {mun : Int32} {mkp : Nat → Int32} {A : AS} {K U : Nat → AS} {kb : Nat → Bool} {u pn : Nat} {N : Nat} (hN : 1000 < N) (hc : COR B HS zkb zpn zps mme mun mkp A K U kb u pn) : ∃ mm1, fX12_tries N mme 0 = some (mm1, nI 1708) ∧ RM mm1 1708 mm1 A ∧ ∀ i : Nat, (i < 1708 ∨ 2135 ≤ i) → mm1 i = mme i := by
  obtain ⟨mm1, e, k1, k2⟩ := M_copies hN mme (f := 0) (t := 4) (by decide) (by decide) (by decide)
  have e' : fX12_copies N mme 0 4 = some mm1 := e
  refine ⟨mm1, ?_, RM_copy hc.1.2.2 (fun k hk => ?_), fun i hi => k2 i (by omega)⟩
  · unfold fX12_tries
    rw [e', b1_s]
    rfl
  · have := k1 k hk
    rw [show 427 * 4 + k = 1708 + k by omega, show 427 * 0 + k = 0 + k by omega] at this
    exact this
theorem S_from {N : Nat} (hN : 200000 ≤ N) (j : Nat) (hj : j < 512) : ST_from N (INV j) (INV (j + 1)) := by
  intro HS zkb zdr zky zpn zps ztz ztn zxz zxa zsg za0 za1 za2 za3 za4 zfr zcd zgo ztd ztv zcl zca zwa zpt zpf mth mto mrw mta mtp mat mtt mme mun mde mco mcn mvi men mfa mac mfi mse mtd mra mkp a1 hI
  obtain ⟨A, K, U, kb, u, pn, hc, hx, ht, hd⟩ := hI
  have hd' : mde = 0 := hd
  subst hd'
  replace hc : COR (640 * j) HS zkb zpn zps mme mun mkp A K U kb u pn := hc
  replace hx : TXT zxz zsg mta mtp := hx
  replace ht : TLD ztz ztn mto mrw := ht
  have hJ : J (640 * j) A [] none := hc.1.1
  have w := hJ.1
  have hX0 : RC (HS 0) A := hc.1.2.1
  have hR0 : RM mme 0 mme A := hc.1.2.2
  have hcu : COR (640 * (j + 1)) HS zkb zpn zps mme mun mkp A K U kb u pn := COR_up hc (by omega)
  rcases obj_or A a1 with ⟨i, e1, hi, hti⟩ | ⟨n1, n2⟩
  · subst e1
    have m1 : fX12_isThere mme 0 (nI i) = some (bI (a_th A i)) := M_isThere (b := 0) hR0 (by decide) hi
    have m2 : fX12_next N mme 0 (nI i) = some (bs (nx (a_fd A) i)) := M_next (b := 0) hR0 (by decide) w hti (by omega)
    have m3 : fX12_reach N mme 0 (bs (nx (a_fd A) i)) 0 = some (bs (rch (a_fd A) (nx (a_fd A) i) nof)) := by
      have h := M_reach (N := N) (b := 0) hR0 (by decide) w (S := nx (a_fd A) i) nof (fun x _ q => by obtain ⟨k, _, e⟩ := nx_iff.mp q; exact (W_fd w e).2.2) (by omega)
      rw [nof_bs] at h; exact h
    have m4 : fX12_reach N mme 0 (bs (fun j => decide (j = i))) 0 = some (bs (rch (a_fd A) (fun j => decide (j = i)) nof)) := by
      have h := M_reach (N := N) (b := 0) hR0 (by decide) w (S := fun j => decide (j = i)) nof (fun x _ q => by rw [decide_eq_true_eq.mp q]; exact hti) (by omega)
      rw [nof_bs] at h; exact h
    obtain ⟨zn', mr', t1, t2, ht2⟩ := TL_1 ztz ztn mrw (bI (rch (a_fd A) (nx (a_fd A) i) nof i)).toInt64
    refine ⟨bs (rch (a_fd A) (fun j => decide (j = i)) nof), 1, zn', 0, 1, mr', ?_, ?_, A, K, U, kb, u, pn, hcu, hx, ht2, rfl⟩
    · unfold fX11_from fX11_bit
      rw [C_has hX0 hi, hti, b1_s, if_neg (by decide), C_fieldBits hX0 w hi (by omega), b1_s, ← nof_bs, C_spr hX0 w _ nof (by omega), b1_s, bs_bit _ hi, b1_s, t1, b2_s, rch_one w hi]
    · unfold fX12_from
      rw [m1, hti, b1_s, if_neg (by decide), m2, b1_s, m3, b1_s, M_has _ hi, b1_s, flag_c, b1_s, t2, b2_s, bs_one hi, m4, b1_s]
  · refine ⟨-1, ztz, ztn, 0, mto, mrw, ?_, ?_, A, K, U, kb, u, pn, hcu, hx, ht, rfl⟩
    · unfold fX11_from; rw [n1 _ hX0, b1_s, if_pos rfl]
    · have m1 : fX12_isThere mme 0 a1 = some 0 := n2 mme 0 mme (by decide) hR0
      unfold fX12_from; rw [m1, b1_s, if_pos rfl]
theorem S_alone {N : Nat} (hN : 200000 ≤ N) (j : Nat) (hj : j < 512) : ST_alone N (INV j) (INV (j + 1)) := by
  intro HS zkb zdr zky zpn zps ztz ztn zxz zxa zsg za0 za1 za2 za3 za4 zfr zcd zgo ztd ztv zcl zca zwa zpt zpf mth mto mrw mta mtp mat mtt mme mun mde mco mcn mvi men mfa mac mfi mse mtd mra mkp a1 hI
  obtain ⟨A, K, U, kb, u, pn, hc, hx, ht, hd⟩ := hI
  have hd' : mde = 0 := hd
  subst hd'
  replace hc : COR (640 * j) HS zkb zpn zps mme mun mkp A K U kb u pn := hc
  replace hx : TXT zxz zsg mta mtp := hx
  replace ht : TLD ztz ztn mto mrw := ht
  have hJ : J (640 * j) A [] none := hc.1.1
  have w := hJ.1
  have hX0 : RC (HS 0) A := hc.1.2.1
  have hR0 : RM mme 0 mme A := hc.1.2.2
  have hcu : COR (640 * (j + 1)) HS zkb zpn zps mme mun mkp A K U kb u pn := COR_up hc (by omega)
  rcases obj_or A a1 with ⟨i, e1, hi, hti⟩ | ⟨n1, n2⟩
  · subst e1
    have m1 : fX12_isThere mme 0 (nI i) = some (bI (a_th A i)) := M_isThere (b := 0) hR0 (by decide) hi
    have m2 : fX12_isReached N mme 0 (nI i) = some (bI (rcd A i)) := M_isReached (b := 0) hR0 (by decide) w hi (by omega)
    have m3 : fX12_aloneWith N mme 0 (nI i) = some (bs (hgp A i)) := M_aloneWith (b := 0) hR0 (by decide) w hi (by omega)
    have m4 : fX12_weights N mme 0 (bs (hgp A i)) = some (wsn (a_wt A) (hgp A i) 24) := M_weights (b := 0) hR0 (by decide) (fun x _ q => hg_th w i x q) (by omega)
    obtain ⟨zn', mr', t1, t2, ht2⟩ := TL_1 ztz ztn mrw (wsn (a_wt A) (hgp A i) 24).toInt64
    cases qr : rcd A i with
    | false =>
      refine ⟨-2, ztz, ztn, 0, mto, mrw, ?_, ?_, A, K, U, kb, u, pn, hcu, hx, ht, rfl⟩
      · unfold fX11_alone
        rw [C_has hX0 hi, hti, b1_s, if_neg (by decide), C_hanging hX0 w hi (by omega), b1_s, if_pos (hg_no w qr)]
      · unfold fX12_alone
        rw [m1, hti, b1_s, if_neg (by decide), m2, qr, b1_s, if_pos (by decide)]
    | true =>
      refine ⟨bs (hgp A i), 1, zn', 0, 1, mr', ?_, ?_, A, K, U, kb, u, pn, hcu, hx, ht2, rfl⟩
      · unfold fX11_alone
        rw [C_has hX0 hi, hti, b1_s, if_neg (by decide), C_hanging hX0 w hi (by omega), b1_s, if_neg (hg_yes hi qr), C_weightOf hX0 _ (by omega), b1_s, t1, b2_s]
      · unfold fX12_alone
        rw [m1, hti, b1_s, if_neg (by decide), m2, qr, b1_s, if_neg (by decide), m3, b1_s, m4, b1_s, t2, b2_s]
  · refine ⟨-1, ztz, ztn, 0, mto, mrw, ?_, ?_, A, K, U, kb, u, pn, hcu, hx, ht, rfl⟩
    · unfold fX11_alone; rw [n1 _ hX0, b1_s, if_pos rfl]
    · have m1 : fX12_isThere mme 0 a1 = some 0 := n2 mme 0 mme (by decide) hR0
      unfold fX12_alone; rw [m1, b1_s, if_pos rfl]
theorem S_undo {N : Nat} (hN : 200000 ≤ N) (j : Nat) (hj : j < 512) : ST_undo N (INV j) (INV (j + 1)) := by
  intro HS zkb zdr zky zpn zps ztz ztn zxz zxa zsg za0 za1 za2 za3 za4 zfr zcd zgo ztd ztv zcl zca zwa zpt zpf mth mto mrw mta mtp mat mtt mme mun mde mco mcn mvi men mfa mac mfi mse mtd mra mkp hI
  obtain ⟨A, K, U, kb, u, pn, hc, hx, ht, hd⟩ := hI
  have hd' : mde = 0 := hd
  subst hd'
  replace hc : COR (640 * j) HS zkb zpn zps mme mun mkp A K U kb u pn := hc
  replace hx : TXT zxz zsg mta mtp := hx
  replace ht : TLD ztz ztn mto mrw := ht
  have hJ : J (640 * j) A [] none := hc.1.1
  have w := hJ.1
  have hX0 : RC (HS 0) A := hc.1.2.1
  have hR0 : RM mme 0 mme A := hc.1.2.2
  have hcu : COR (640 * (j + 1)) HS zkb zpn zps mme mun mkp A K U kb u pn := COR_up hc (by omega)
  obtain ⟨⟨a1, a2, a3⟩, ⟨b1, b2⟩, c1, c2, c3, c4, c5, c6⟩ := hc
  by_cases q : u = 0
  · refine ⟨-1, zpn, zps, HS, 0, mme, mun, ?_, ?_, A, K, U, kb, u, pn, hcu, hx, ht, rfl⟩
    · unfold fX11_undo; rw [c1, q, if_pos (show nI 0 = 0 from rfl)]
    · unfold fX12_undo; rw [c2, q, if_pos (show nI 0 = 0 from rfl)]
  · obtain ⟨v, rfl⟩ : ∃ v, u = v + 1 := ⟨u - 1, by omega⟩
    obtain ⟨d1, d2, d3⟩ := c6 v (by omega)
    obtain ⟨mm1, e, k1, k2⟩ := M_copies (N := N) (by omega) mme (f := 5 + v) (t := 0) (by omega) (by decide) (by omega)
    have e' : fX12_copies N mme (nI (5 + v)) 0 = some mm1 := e
    have hidx : (pn + 9 - (v + 1) + v) % 9 = (pn + 8) % 9 := by congr 1; omega
    rw [hidx] at d2
    have hcN : COR (640 * (j + 1)) (updH HS 0 (HS (4 + (pn + 8) % 9))) zkb (nI ((pn + 8) % 9)) (nI v) mm1 (nI v) mkp (U v) K U kb v ((pn + 8) % 9) := by
      refine ⟨⟨J_up d1 (by omega), d2, RM_copy d3 (fun k hk => ?_)⟩, ⟨b1, fun i hi => ⟨(b2 i hi).1, fun hk => ?_⟩⟩, rfl, rfl, by omega, rfl, by omega, fun q hq => ?_⟩
      · have := k1 k hk
        rw [show 427 * 0 + k = 0 + k by omega] at this
        exact this
      · obtain ⟨f1, f2, f3⟩ := (b2 i hi).2 hk
        exact ⟨J_up f1 (by omega), by rw [updH_n (by omega)]; exact f2, RM_move f3 (fun i i1 i2 => k2 i (by omega))⟩
      · obtain ⟨f1, f2, f3⟩ := c6 q (by omega)
        refine ⟨J_up f1 (by omega), ?_, RM_move f3 (fun i i1 i2 => k2 i (by omega))⟩
        rw [updH_n (by omega)]
        have : ((pn + 8) % 9 + 9 - v + q) % 9 = (pn + 9 - (v + 1) + q) % 9 := by omega
        rw [this]; exact f2
    refine ⟨nI v, nI ((pn + 8) % 9), nI v, updH HS 0 (HS (4 + (pn + 8) % 9)), 0, mm1, nI v, ?_, ?_, U v, K, U, kb, v, (pn + 8) % 9, hcN, hx, ht, rfl⟩
    · unfold fX11_undo fX5_undoes fX5_undoes_26
      rw [c1, c4, if_neg (by rw [eq_0 (by omega)]; omega), if_neg (by rw [le_f0 (by omega)]; omega), nI_pred]
      by_cases q2 : pn = 0
      · subst q2
        rw [if_pos (show nI 0 = 0 from rfl), lt_e, show inb 8 9 = true from by decide, grd_t, show (8 : Int32).toNatClampNeg = 8 from by decide, lt_e, b3_s]
        rfl
      · obtain ⟨m, rfl⟩ : ∃ m, pn = m + 1 := ⟨pn - 1, by omega⟩
        have hm : (m + 1 + 8) % 9 = m := by omega
        rw [if_neg (by rw [eq_0 (by omega)]; omega), lt_e, nI_pred, inb_n (by omega) (by decide), grd_t, cl_n (by omega), lt_e, b3_s, hm]
    · unfold fX12_undo
      rw [c2, if_neg (by rw [eq_0 (by omega)]; omega), nI_pred, lt_e, show (5 : Int32) + nI v = nI (5 + v) from ad_1 5 v, e', b1_s]
theorem S_keep {N : Nat} (hN : 200000 ≤ N) (j : Nat) (hj : j < 512) : ST_keep N (INV j) (INV (j + 1)) := by
  intro HS zkb zdr zky zpn zps ztz ztn zxz zxa zsg za0 za1 za2 za3 za4 zfr zcd zgo ztd ztv zcl zca zwa zpt zpf mth mto mrw mta mtp mat mtt mme mun mde mco mcn mvi men mfa mac mfi mse mtd mra mkp a1 hI
  obtain ⟨A, K, U, kb, u, pn, hc, hx, ht, hd⟩ := hI
  have hd' : mde = 0 := hd
  subst hd'
  replace hc : COR (640 * j) HS zkb zpn zps mme mun mkp A K U kb u pn := hc
  replace hx : TXT zxz zsg mta mtp := hx
  replace ht : TLD ztz ztn mto mrw := ht
  have hJ : J (640 * j) A [] none := hc.1.1
  have w := hJ.1
  have hX0 : RC (HS 0) A := hc.1.2.1
  have hR0 : RM mme 0 mme A := hc.1.2.2
  have hcu : COR (640 * (j + 1)) HS zkb zpn zps mme mun mkp A K U kb u pn := COR_up hc (by omega)
  obtain ⟨⟨x1, x2, x3⟩, ⟨b1, b2⟩, c1, c2, c3, c4, c5, c6⟩ := hcu
  have mw : fX12_in a1.toInt64 0 1 = some (bI (decide ((0 : Nat) ≤ a1.toInt ∧ a1.toInt ≤ (1 : Nat)))) := lit_in 0 1 rfl rfl rfl rfl a1
  by_cases q1 : ((0 : Nat) : Int) ≤ a1.toInt ∧ a1.toInt ≤ (1 : Nat)
  · rw [decide_eq_true q1] at mw
    obtain ⟨er, hr⟩ := nI_back (p := a1) (by omega)
    have hr6 : a1.toInt.toNat < 2 := by omega
    generalize a1.toInt.toNat = k at *
    subst er
    obtain ⟨mm1, e, k1, k2⟩ := M_copies (N := N) (by omega) mme (f := 0) (t := 1 + k) (by decide) (by omega) (by omega)
    have e' : fX12_copies N mme 0 (nI (1 + k)) = some mm1 := e
    have hcN : COR (640 * (j + 1)) (updH HS (2 + k) (HS 0)) (bs (fs kb k true)) zpn zps mm1 mun (upd mkp k 1) A (fs K k A) U (fs kb k true) u pn := by
      refine ⟨⟨x1, by rw [updH_n (by omega)]; exact x2, RM_move x3 (fun i i1 i2 => k2 i (by omega))⟩, ⟨rfl, fun i hi => ?_⟩, c1, c2, c3, c4, c5, fun q hq => ?_⟩
      · by_cases c : i = k
        · subst c
          rw [pk_us, fs_s, fs_s, updH_s]
          refine ⟨rfl, fun _ => ⟨x1, x2, RM_copy x3 (fun k hk => ?_)⟩⟩
          have := k1 k hk
          rw [show 427 * 0 + k = 0 + k by omega] at this
          exact this
        · rw [pk_un c, fs_n c, fs_n c, updH_n (by omega)]
          exact ⟨(b2 i hi).1, fun hk => ⟨((b2 i hi).2 hk).1, ((b2 i hi).2 hk).2.1, RM_move ((b2 i hi).2 hk).2.2 (fun i i1 i2 => k2 i (by omega))⟩⟩
      · obtain ⟨f1, f2, f3⟩ := c6 q hq
        exact ⟨f1, by rw [updH_n (by omega)]; exact f2, RM_move f3 (fun i i1 i2 => k2 i (by omega))⟩
    refine ⟨1, bs (fs kb k true), updH HS (2 + k) (HS 0), 0, mm1, upd mkp k 1, ?_, ?_, A, fs K k A, U, fs kb k true, u, pn, hcN, hx, ht, rfl⟩
    · unfold fX11_keep
      rw [if_neg (nI_nlt0 (by omega)), if_pos (show nI k < 2 from (ltn (j := 2) (by omega) (by omega)).mpr hr6), inb_n hr6 (by decide), grd_t, cl_n (by omega), lt_e, b1, bs_set _ (by omega), lt_e]
    · unfold fX12_keep
      rw [mw, b1_s, if_neg (by decide), inb_n hr6 (by decide), grd_t, cl_n (by omega), show vp_nar .boolean 1 = 1 from rfl, lt_e, show (1 : Int32) + nI k = nI (1 + k) from ad_1 1 k, e', b1_s]
  · rw [decide_eq_false q1] at mw
    refine ⟨0, zkb, HS, 0, mme, mkp, ?_, ?_, A, K, U, kb, u, pn, ⟨⟨x1, x2, x3⟩, ⟨b1, b2⟩, c1, c2, c3, c4, c5, c6⟩, hx, ht, rfl⟩
    · unfold fX11_keep
      simp only [lt_i, i0, show (2 : Int32).toInt = 2 from by decide]
      by_cases c : a1.toInt < 0
      · rw [if_pos c]
      · rw [if_neg c, if_neg (by omega)]
    · unfold fX12_keep
      rw [mw, b1_s, if_pos (by decide)]
theorem S_again {N : Nat} (hN : 200000 ≤ N) (j : Nat) (hj : j < 512) : ST_again N (INV j) (INV (j + 1)) := by
  intro HS zkb zdr zky zpn zps ztz ztn zxz zxa zsg za0 za1 za2 za3 za4 zfr zcd zgo ztd ztv zcl zca zwa zpt zpf mth mto mrw mta mtp mat mtt mme mun mde mco mcn mvi men mfa mac mfi mse mtd mra mkp a1 hI
  obtain ⟨A, K, U, kb, u, pn, hc, hx, ht, hd⟩ := hI
  have hd' : mde = 0 := hd
  subst hd'
  replace hc : COR (640 * j) HS zkb zpn zps mme mun mkp A K U kb u pn := hc
  replace hx : TXT zxz zsg mta mtp := hx
  replace ht : TLD ztz ztn mto mrw := ht
  have hJ : J (640 * j) A [] none := hc.1.1
  have w := hJ.1
  have hX0 : RC (HS 0) A := hc.1.2.1
  have hR0 : RM mme 0 mme A := hc.1.2.2
  have hcu : COR (640 * (j + 1)) HS zkb zpn zps mme mun mkp A K U kb u pn := COR_up hc (by omega)
  obtain ⟨⟨x1, x2, x3⟩, ⟨b1, b2⟩, c1, c2, c3, c4, c5, c6⟩ := hcu
  have mw : fX12_in a1.toInt64 0 1 = some (bI (decide ((0 : Nat) ≤ a1.toInt ∧ a1.toInt ≤ (1 : Nat)))) := lit_in 0 1 rfl rfl rfl rfl a1
  by_cases q1 : ((0 : Nat) : Int) ≤ a1.toInt ∧ a1.toInt ≤ (1 : Nat)
  · rw [decide_eq_true q1] at mw
    obtain ⟨er, hr⟩ := nI_back (p := a1) (by omega)
    have hr6 : a1.toInt.toNat < 2 := by omega
    generalize a1.toInt.toNat = k at *
    subst er
    have c24 : ¬ (2 : Int32) ≤ nI k := fun c => by have := (nI_leI (a := 2) (b := k) (by decide) (by omega)).mp c; omega
    obtain ⟨g1, g2⟩ := b2 k hr6
    cases qk : kb k with
    | false =>
      refine ⟨0, zps, HS, 0, mme, mun, ?_, ?_, A, K, U, kb, u, pn, ⟨⟨x1, x2, x3⟩, ⟨b1, b2⟩, c1, c2, c3, c4, c5, c6⟩, hx, ht, rfl⟩
      · unfold fX11_again fX11_bit
        rw [if_neg (nI_nlt0 (by omega)), if_neg c24, b1, bs_bit _ (by omega), qk, b1_s, if_pos (by decide)]
      · unfold fX12_again
        rw [mw, b1_s, if_neg (by decide), inb_n hr6 (by decide), grd_t, cl_n (by omega), g1, qk, if_pos (by decide)]
    | true =>
      obtain ⟨h1, h2, h3⟩ := g2 qk
      obtain ⟨mm1, e, k1, k2⟩ := M_copies (N := N) (by omega) mme (f := 1 + k) (t := 0) (by omega) (by decide) (by omega)
      have e' : fX12_copies N mme (nI (1 + k)) 0 = some mm1 := e
      have hcN : COR (640 * (j + 1)) (updH HS 0 (HS (2 + k))) zkb zpn 0 mm1 0 mkp (K k) K U kb 0 pn := by
        refine ⟨⟨h1, by rw [updH_s]; exact h2, RM_copy h3 (fun k hk => ?_)⟩, ⟨b1, fun i hi => ⟨(b2 i hi).1, fun hk => ?_⟩⟩, rfl, rfl, by omega, c4, c5, fun q hq => absurd hq (Nat.not_lt_zero q)⟩
        · have := k1 k hk
          rw [show 427 * 0 + k = 0 + k by omega] at this
          exact this
        · obtain ⟨f1, f2, f3⟩ := (b2 i hi).2 hk
          exact ⟨f1, by rw [updH_n (by omega)]; exact f2, RM_move f3 (fun i i1 i2 => k2 i (by omega))⟩
      refine ⟨1, 0, updH HS 0 (HS (2 + k)), 0, mm1, 0, ?_, ?_, K k, K, U, kb, 0, pn, hcN, hx, ht, rfl⟩
      · unfold fX11_again fX11_bit
        rw [if_neg (nI_nlt0 (by omega)), if_neg c24, b1, bs_bit _ (by omega), qk, b1_s, if_neg (by decide), inb_n hr6 (by decide), grd_t, cl_n (by omega), lt_e]
      · unfold fX12_again
        rw [mw, b1_s, if_neg (by decide), inb_n hr6 (by decide), grd_t, cl_n (by omega), g1, qk, if_neg (by decide), show (1 : Int32) + nI k = nI (1 + k) from ad_1 1 k, e', b1_s]
  · rw [decide_eq_false q1] at mw
    refine ⟨0, zps, HS, 0, mme, mun, ?_, ?_, A, K, U, kb, u, pn, ⟨⟨x1, x2, x3⟩, ⟨b1, b2⟩, c1, c2, c3, c4, c5, c6⟩, hx, ht, rfl⟩
    · unfold fX11_again
      simp only [lt_i, le_i, i0, show (2 : Int32).toInt = 2 from by decide]
      by_cases c : a1.toInt < 0
      · rw [if_pos c]
      · rw [if_neg c, if_pos (by omega)]
    · unfold fX12_again
      rw [mw, b1_s, if_pos (by decide)]
theorem S_cut {N : Nat} (hN : 200000 ≤ N) (j : Nat) (hj : j < 512) : ST_cut N (INV j) (INV (j + 1)) := by
  intro HS zkb zdr zky zpn zps ztz ztn zxz zxa zsg za0 za1 za2 za3 za4 zfr zcd zgo ztd ztv zcl zca zwa zpt zpf mth mto mrw mta mtp mat mtt mme mun mde mco mcn mvi men mfa mac mfi mse mtd mra mkp a1 a2 hI
  obtain ⟨A, K, U, kb, u, pn, hc, hx, ht, hd⟩ := hI
  have hd' : mde = 0 := hd
  subst hd'
  replace hc : COR (640 * j) HS zkb zpn zps mme mun mkp A K U kb u pn := hc
  replace hx : TXT zxz zsg mta mtp := hx
  replace ht : TLD ztz ztn mto mrw := ht
  have hJ : J (640 * j) A [] none := hc.1.1
  have w := hJ.1
  have hX0 : RC (HS 0) A := hc.1.2.1
  have hR0 : RM mme 0 mme A := hc.1.2.2
  have hcu : COR (640 * (j + 1)) HS zkb zpn zps mme mun mkp A K U kb u pn := COR_up hc (by omega)
  rcases obj_or A a1 with ⟨i, e1, hi, hti⟩ | ⟨n1, n2⟩
  · subst e1
    have m1 : fX12_isThere mme 0 (nI i) = some (bI (a_th A i)) := M_isThere (b := 0) hR0 (by decide) hi
    have m2 : fX12_of mme 0 (nI i) 1 = some (nI (a_my A i)) := M_of1 (b := 0) hR0 (by decide) hi hti
    by_cases qk : 0 ≤ a2.toInt ∧ a2.toInt < a_my A i
    · have hmy := W_my w i
      obtain ⟨ek, hk⟩ := nI_back (p := a2) (by omega)
      have hkm : a2.toInt.toNat < a_my A i := by omega
      have qk2 := qk
      generalize a2.toInt.toNat = k at *
      subst ek
      have hk4 : k < 4 := by omega
      have m3 : fX12_fieldOf mme 0 (nI i) (nI k) = some (oI (a_fd A i k)) := M_fieldOf (b := 0) hR0 (by decide) hi hk4 hti
      cases e : a_fd A i k with
      | none =>
        refine ⟨-2, ztz, ztn, zcd, zgo, HS, 0, mto, mrw, mme, 0, ?_, ?_, A, K, U, kb, u, pn, hcu, hx, ht, rfl⟩
        · unfold fX11_cut
          rw [C_hasField hX0 w hti, decide_eq_true qk2, b1_s, if_neg (by decide), C_fieldAt hX0 hi hk4, b1_s, e, oI_n, if_pos rfl]
        · unfold fX12_cut
          rw [m1, hti, b1_s, if_neg (by decide), m2, b1_s, M_inField w i, decide_eq_true qk2, b1_s, if_neg (by decide), m3, b1_s, e, oI_n, if_neg (by decide)]
      | some t =>
        have ht24 := W_sf w i k t e
        obtain ⟨A', j1, l1, ml, cl⟩ := T_layF (N := N) (v := none) (by omega) (by omega) hJ hti hkm (fun _ q => nomatch q)
        obtain ⟨mm1, et, r1, k1⟩ := q_try (N := N) (by omega) hc
        obtain ⟨mm2, e2, r2⟩ := ml mm1 1708 mm1 (by decide) r1
        have e2' : fX12_laysField N mm1 (nI 1708) (nI i) (nI k) (-1) = some mm2 := e2
        obtain ⟨z, g, X', e3, r3⟩ := cl (HS 0) zcd zgo hX0
        have e3' : fX2_laysField N zcd zgo (HS 0) (nI i) (nI k) (-1) = some (z, g, X') := e3
        have fr := RM_fr r2
        have hcN : COR (640 * (j + 1)) (updH (updH HS 1 (HS 0)) 1 X') zkb zpn zps mm2 mun mkp A K U kb u pn := COR_sp hcu (fun i hi => by rw [updH_n hi, updH_n hi]) (fun i hi => by rw [fr i (by omega), k1 i hi])
        obtain ⟨zn', mr', t1, t2, ht2⟩ := TL_1 ztz ztn mrw (nI (a_ls A').length).toInt64
        refine ⟨bs (fun x => a_th A x && !a_th A' x), 1, zn', z, g, updH (updH HS 1 (HS 0)) 1 X', 0, 1, mr', mm2, 0, ?_, ?_, A, K, U, kb, u, pn, hcN, hx, ht2, rfl⟩
        · unfold fX11_cut
          rw [C_hasField hX0 w hti, decide_eq_true qk2, b1_s, if_neg (by decide), C_fieldAt hX0 hi hk4, b1_s, e, oI_s, if_neg (nI_ne1 (by omega)), lt_e, updH_s, e3', b3_s, lt_e, updH_s, RC_h11 r3, t1, b2_s, updH_n (by decide), updH_n (by decide), RC_h1 hX0, RC_h1 r3, bs_andn]
        · have m5 : fX12_thereAll N mme 0 = some (bs (a_th A)) := M_thereAll (b := 0) hR0 (by decide) (by omega)
          unfold fX12_cut fX12_isBack
          rw [m1, hti, b1_s, if_neg (by decide), m2, b1_s, M_inField w i, decide_eq_true qk2, b1_s, if_neg (by decide), m3, b1_s, e, oI_s, if_pos (nI_pos' (by omega)), m5, b1_s, et, b2_s, e2', b1_s, M_thereAll r2 (by decide) (by omega), b1_s, M_listed r2 (by decide), b1_s, b1_s, t2, b2_s, bs_andn]
    · refine ⟨-1, ztz, ztn, zcd, zgo, HS, 0, mto, mrw, mme, 0, ?_, ?_, A, K, U, kb, u, pn, hcu, hx, ht, rfl⟩
      · unfold fX11_cut
        rw [C_hasField hX0 w hti, decide_eq_false qk, b1_s, if_pos (by decide)]
      · unfold fX12_cut
        rw [m1, hti, b1_s, if_neg (by decide), m2, b1_s, M_inField w i, decide_eq_false qk, b1_s, if_pos (by decide)]
  · refine ⟨-1, ztz, ztn, zcd, zgo, HS, 0, mto, mrw, mme, 0, ?_, ?_, A, K, U, kb, u, pn, hcu, hx, ht, rfl⟩
    · unfold fX11_cut fX3_hasField
      rw [n1 _ hX0, b1_s, if_pos rfl, b1_s, if_pos rfl]
    · have m1 : fX12_isThere mme 0 a1 = some 0 := n2 mme 0 mme (by decide) hR0
      unfold fX12_cut; rw [m1, b1_s, if_pos rfl]
theorem S_would {N : Nat} (hN : 200000 ≤ N) (j : Nat) (hj : j < 512) : ST_would N (INV j) (INV (j + 1)) := by
  intro HS zkb zdr zky zpn zps ztz ztn zxz zxa zsg za0 za1 za2 za3 za4 zfr zcd zgo ztd ztv zcl zca zwa zpt zpf mth mto mrw mta mtp mat mtt mme mun mde mco mcn mvi men mfa mac mfi mse mtd mra mkp hI
  obtain ⟨A, K, U, kb, u, pn, hc, hx, ht, hd⟩ := hI
  have hd' : mde = 0 := hd
  subst hd'
  replace hc : COR (640 * j) HS zkb zpn zps mme mun mkp A K U kb u pn := hc
  replace hx : TXT zxz zsg mta mtp := hx
  replace ht : TLD ztz ztn mto mrw := ht
  have hJ : J (640 * j) A [] none := hc.1.1
  have w := hJ.1
  have hX0 : RC (HS 0) A := hc.1.2.1
  have hR0 : RM mme 0 mme A := hc.1.2.2
  have hcu : COR (640 * (j + 1)) HS zkb zpn zps mme mun mkp A K U kb u pn := COR_up hc (by omega)
  have hlen := W_len w
  have m0' : fX12_listed mme 0 = some (nI (a_ls A).length) := M_listed (b := 0) hR0 (by decide)
  obtain ⟨r, q, A', v, g1, g2, g3⟩ := T_tr1 hN (by omega) hJ 0 0 0 0
  by_cases q0 : (a_ls A).length = 0
  · refine ⟨-2, ztz, ztn, zcd, zgo, ztd, ztv, zcl, zca, zwa, zpt, zpf, HS, 0, mto, mrw, mme, 0, mco, mcn, mvi, men, ?_, ?_, A, K, U, kb, u, pn, hcu, hx, ht, rfl⟩
    · unfold fX11_would; rw [RC_h11 hX0, q0, if_pos (show nI 0 = 0 from rfl)]
    · unfold fX12_would; rw [m0', b1_s, q0, if_pos (show nI 0 = 0 from rfl)]
  · rcases g3 with ⟨hr, hq, hA, g4, g5⟩ | ⟨hr, hq, hq0, hls, g6, _, _, g5⟩
    · have e0 := g5 mme 0 mme mco mcn mvi men (by decide) hR0
      have e1 : fX12_trialOne N mme 0 mco mcn mvi men = some (r, mme, mco, mcn, mvi, men) := e0
      obtain ⟨A2, v2, _, _, _, g7⟩ := T_trial hN (by omega) hJ
      obtain ⟨mx, mcx, mnx, ex, rx⟩ := g7 mme 0 mme mco mcn mvi (by decide) hR0
      have ex' : fX12_runsTrial N mme 0 mco mcn mvi = some (mx, mcx, mnx, nI v2) := ex
      exfalso
      obtain ⟨z1, z2, z3, z4, z5, z6, z7, z8, z9, X', e2, _⟩ := g4 (HS 0) zcd zgo ztd ztv zcl zca zwa zpt zpf hX0
      obtain ⟨y1, y2, y3, y4, y5, y6, y7, y8, Y', e3, ry⟩ := (T_trial hN (by omega) hJ).choose_spec.choose_spec.2.2.1 (HS 0) zcd zgo ztd ztv zcl zca zwa zpt zpf hX0
      unfold fX1_does fX1_refuses at e2
      rw [if_neg (by decide), if_neg (by decide), if_neg (by decide), if_neg (by decide), if_pos rfl, RC_h11 hX0, if_neg (by rw [eq_0 (by omega)]; exact q0), b1_s, if_pos (by decide), if_neg (by decide), if_neg (by decide), if_neg (by decide), if_neg (by decide), if_neg (by decide)] at e2
      unfold fX1_does_215 at e2
      rw [e3, b10_s] at e2
      unfold fX1_does_223 fX1_does_263 at e2
      have hl := (T_trial hN (by omega) hJ).choose_spec.choose_spec.2.1
      have hjj := (T_trial hN (by omega) hJ).choose_spec.choose_spec.1.2.2.2.2.2
      rw [if_neg (by decide), if_pos rfl, RC_h15 ry, RC_h15 hX0, lg_dt hl] at e2
      have h5 := congrArg (fun z => z.map Prod.fst) e2
      have h6 : nI (dt A (T_trial hN (by omega) hJ).choose) = r := Option.some.inj h5
      have h7 : dt A (T_trial hN (by omega) hJ).choose < 2147483648 := by
        have : (a_lg (T_trial hN (by omega) hJ).choose).1 + 5 * nt (T_trial hN (by omega) hJ).choose + 2 * un (T_trial hN (by omega) hJ).choose ≤ 640 * j + 0 := hjj
        unfold dt
        omega
      rw [← h6] at hr
      exact nI_nlt0 h7 hr
    · obtain ⟨mm1, et, r1, k1⟩ := q_try (N := N) (by omega) hc
      obtain ⟨mm2, mc2, mn2, e2, r2⟩ := g5 mm1 1708 mm1 mco mcn mvi men (by decide) r1
      obtain ⟨z1, z2, z3, z4, z5, z6, z7, z8, X', e3, r3⟩ := g6 (HS 0) zcd zgo ztd ztv zcl zca zwa zpt zpf hX0
      have fr := RM_fr r2
      have hcN : COR (640 * (j + 1)) (updH (updH HS 1 (HS 0)) 1 X') zkb zpn zps mm2 mun mkp A K U kb u pn := COR_sp hcu (fun i hi => by rw [updH_n hi, updH_n hi]) (fun i hi => by rw [fr i (by omega), k1 i hi])
      obtain ⟨zn', mr1, mr2, mr', t1, t2, t3, t4, ht2⟩ := TL_3 ztz ztn mrw (ek A A').toInt64 (nI v).toInt64 (nI (a_ls A').length).toInt64
      refine ⟨bs (fun x => a_th A x && !a_th A' x), 3, zn', z1, z2, z3, nI v, z4, z5, z6, z7, z8, updH (updH HS 1 (HS 0)) 1 X', 0, 3, mr', mm2, 0, mc2, mn2, nI v, ek A A', ?_, ?_, A, K, U, kb, u, pn, hcN, hx, ht2, rfl⟩
      · have h3 := RC_h18 hX0 3 (by decide)
        have h3' := RC_h18 r3 3 (by decide)
        unfold fX11_would
        rw [RC_h11 hX0, if_neg (by rw [eq_0 (by omega)]; exact q0), lt_e, updH_s, e3, b10_s, lt_e, show inb 3 6 = true from by decide, grd_t, grd_t, updH_s, updH_n (by decide), updH_n (by decide), show (3 : Int32).toNatClampNeg = 3 from by decide, h3, h3', lt_e, RC_h11 r3, show (a_lg A').2.2.2 3 - (a_lg A).2.2.2 3 = ek A A' from rfl, t1, b2_s, RC_h1 hX0, RC_h1 r3, bs_andn]
      · have m5 : fX12_thereAll N mme 0 = some (bs (a_th A)) := M_thereAll (b := 0) hR0 (by decide) (by omega)
        unfold fX12_would fX12_isBack
        rw [m0', b1_s, if_neg (by rw [eq_0 (by omega)]; exact q0), m5, b1_s, et, b2_s, e2, b6_s, M_thereAll r2 (by decide) (by omega), b1_s, M_listed r2 (by decide), b1_s, b1_s, t2, b2_s, t3, b2_s, t4, b2_s, bs_andn]
