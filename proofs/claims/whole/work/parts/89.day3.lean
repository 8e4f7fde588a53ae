/-! day -/
def PS (s : Nat → Int32) (L Q : Nat) (pos : Nat → Nat) (mac mfi mse mtd : Nat → Int32) : Prop := ∀ x, x < Q → pos x < L ∧ ∃ a, a < 6 ∧ s (pos x) = nI (cch a) ∧ DG s L (pos x + 1) (cdn a) ∧ pos (x + 1) = pos x + 1 + cdn a ∧ mac x = nI a ∧ VAL s (pos x) a x mfi mse mtd
theorem PS_up {s : Nat → Int32} {L q i p a : Nat} {pos : Nat → Nat} {mac mfi mse mtd mac' mfi' mse' mtd' : Nat → Int32} (h : PS s L q pos mac mfi mse mtd) (hi : pos q = i) (hiL : i < L) (hS : SAME q mac mfi mse mtd mac' mfi' mse' mtd') (ha : a < 6) (he : s i = nI (cch a)) (hD : DG s L (i + 1) (cdn a)) (hp : p = i + 1 + cdn a) (hac : mac' q = nI a) (hv : VAL s i a q mfi' mse' mtd') : PS s L (q + 1) (fs pos (q + 1) p) mac' mfi' mse' mtd' := by
  intro x hx
  have e0 : fs pos (q + 1) p x = pos x := fs_n (by omega)
  rw [e0]
  by_cases c : x = q
  · subst c
    rw [hi, fs_s]
    exact ⟨hiL, a, ha, he, hD, hp, hac, hv⟩
  · have e1 : fs pos (q + 1) p (x + 1) = pos (x + 1) := fs_n (by omega)
    rw [e1]
    obtain ⟨h1, a', h2, h3, h4, h5, h6, h7⟩ := h x (by omega)
    obtain ⟨s1, s2, s3, s4⟩ := hS x c
    refine ⟨h1, a', h2, h3, h4, h5, by rw [s1]; exact h6, ?_⟩
    unfold VAL at h7 ⊢
    rw [s2, s3, s4]
    exact h7
theorem parse_j {s : Nat → Int32} {L N : Nat} (hL : L ≤ 80) (hN : 200000 ≤ N) (mto : Int32) (mrw : Nat → Int64) (mme : Nat → Int32) (mun : Int32) (mco mcn : Nat → Int32) (mvi men : Int32) : ∀ m i q n1 n2 pos mac mfi mse mtd, L - i = m → i ≤ L → q ≤ i → m + 1 ≤ n1 → m + 1 ≤ n2 → PS s L q pos mac mfi mse mtd → pos q = i → pos 0 = 0 →
    (∃ f mac' mfi' mse' mtd', f ≤ L ∧ fX7_fault_4 N (nI L) s n1 0 (nI i) = some (nI f) ∧ fX12_day_25 N s 0 n2 0 mto mrw 0 (nI i) (nI L) mme mun mco mcn mvi men mac mfi mse mtd (nI q) = some ((-1) - nI f, 0, mto, mrw, 0, nI f, nI L, mme, mun, mco, mcn, mvi, men, mac', mfi', mse', mtd')) ∨
    (∃ Q pos' mac' mfi' mse' mtd', Q ≤ L ∧ fX7_fault_4 N (nI L) s n1 0 (nI i) = some (-1) ∧ fX12_day_25 N s 0 n2 0 mto mrw 0 (nI i) (nI L) mme mun mco mcn mvi men mac mfi mse mtd (nI q) = fX12_day_57 N s 0 0 mto mrw 0 (nI L) (nI L) mme mun mco mcn mvi men mac' mfi' mse' mtd' (nI Q) ∧ PS s L Q pos' mac' mfi' mse' mtd' ∧ pos' Q = L ∧ pos' 0 = 0) := by
  intro m
  induction m using Nat.strongRecOn with
  | _ m ih =>
    intro i q n1 n2 pos mac mfi mse mtd hm hi hq hn1 hn2 hP hpq hp0
    obtain ⟨n2, rfl⟩ : ∃ f, n2 = f + 1 := ⟨n2 - 1, by omega⟩
    obtain ⟨n1, rfl⟩ : ∃ f, n1 = f + 1 := ⟨n1 - 1, by omega⟩
    have eM : fX12_day_25 N s 0 (n2 + 1) 0 mto mrw 0 (nI i) (nI L) mme mun mco mcn mvi men mac mfi mse mtd (nI q) = fX12_day_25b N s 0 (fX12_day_25 N s 0 n2) 0 mto mrw 0 (nI i) (nI L) mme mun mco mcn mvi men mac mfi mse mtd (nI q) := rfl
    rw [eM]
    unfold fX12_day_25b
    by_cases c : i = L
    · subst c
      right
      refine ⟨q, pos, mac, mfi, mse, mtd, hq, ?_, ?_, hP, hpq, hp0⟩
      · show fX7_fault_4b N (nI i) s (fX7_fault_4 N (nI i) s n1) 0 (nI i) = _
        unfold fX7_fault_4b fX7_fault_69
        rw [if_pos (by rw [le_n (by omega) (by omega)]; omega), if_pos (by decide)]
      · rw [if_pos (by rw [le_n (by omega) (by omega)]; omega)]
    · have hi' : i < L := by omega
      obtain ⟨r, p', mac', mfi', mse', mtd', e, hS, hr⟩ := R_act (s := s) (N := N) hL hi' (q := q) (by omega) (by omega) mac mfi mse mtd
      rw [if_neg (by rw [le_n (by omega) (by omega)]; omega), e, b6_s]
      rcases hr with ⟨r1, a, ha, he, hD, hp, hpL, hac, hv⟩ | ⟨r1, hpL, hb⟩
      · subst r1
        rw [if_neg (show ¬ (1 : Int32) = 0 from by decide), nI_1]
        have hcd : cdn a < 10 := by unfold cdn; split <;> omega
        obtain ⟨n1', e1⟩ : ∃ f, n1 = f + cdn a := ⟨n1 - cdn a, by omega⟩
        have eC : fX7_fault_4 N (nI L) s (n1 + 1) 0 (nI i) = fX7_fault_4 N (nI L) s n1' 0 (nI p') := by
          rw [C_sc hL hi' ha he n1, e1, C_sk hL (cdn a) (i + 1) n1' (cdn a) hD (Nat.le_refl _) (by omega), Nat.sub_self, hp]
          rfl
        rw [eC]
        exact ih (L - p') (by omega) p' (q + 1) n1' n2 (fs pos (q + 1) p') mac' mfi' mse' mtd' rfl hpL (by omega) (by omega) (by omega) (PS_up hP hpq hi' hS ha he hD hp hac hv) fs_s (by rw [fs_n (by omega)]; exact hp0)
      · subst r1
        left
        refine ⟨p', mac', mfi', mse', mtd', hpL, ?_, by rw [if_pos rfl]⟩
        rcases hb with ⟨b1, b2⟩ | ⟨a, k, ha, he, hk, hD, hB, hp⟩
        · rw [C_sn hL hi' b2, b1]
        · have hcd : cdn a < 10 := by unfold cdn; split <;> omega
          obtain ⟨n1', e1⟩ : ∃ f, n1 = f + 1 + k := ⟨n1 - k - 1, by omega⟩
          obtain ⟨r', e2⟩ : ∃ f, cdn a - k = f + 1 := ⟨cdn a - k - 1, by omega⟩
          rw [C_sc hL hi' ha he n1, e1, C_sk hL k (i + 1) (n1' + 1) (cdn a) hD (by omega) (by omega), e2, C_sb hL (by omega) hB n1' r' (by omega), hp]
theorem run_j {s : Nat → Int32} {L N B Q : Nat} (hL : L ≤ 80) (hN : 200000 ≤ N) (hB : B + 640 ≤ 900000000) (hQ : Q ≤ L) {pos : Nat → Nat} {mac mfi mse mtd : Nat → Int32} (hP : PS s L Q pos mac mfi mse mtd) (hPQ : pos Q = L) (m0 : Nat → Int32) (zpn zps ztz : Int32) (ztn : Nat → Int64) (mto : Int32) (mrw : Nat → Int64) (mat mtt mun : Int32) : ∀ n k A1 HS mm za0 za1 za2 za3 za4 zcd zgo ztd ztv zcl zca zwa zpt zpf mco mcn mvi men, k ≤ Q → J (B + 8 * k) A1 [] none → RC (HS 0) A1 → RM m0 0 mm A1 → Q - k + 1 < n → ∃ c A2 zxa' a0 b0 c0 d0 f0 zcd' zgo' ztd' ztv' zcl' zca' zwa' zpt' zpf' HS' mm' mco' mcn' mvi' men',
    fX11_day_50 N s n zpn zps ztz ztn (nI L) (nI (pos k)) za0 za1 za2 za3 za4 zcd zgo ztd ztv zcl zca zwa zpt zpf HS (nI k) 0 (nI k) = fX11_day_114 N s zpn zps ztz ztn (nI L) zxa' a0 b0 c0 d0 f0 zcd' zgo' ztd' ztv' zcl' zca' zwa' zpt' zpf' HS' (nI c) (bI (decide (c < Q))) ∧
    fX12_day_65 N s 0 n 0 mto mrw 0 mat mtt mm mun mco mcn mvi men mac mfi mse mtd (nI Q) (nI k) = fX12_day_84 N s 0 0 mto mrw 0 mat mtt mm' mun mco' mcn' mvi' men' mac mfi mse mtd (nI Q) (nI c) ∧
    k ≤ c ∧ c ≤ Q ∧ J (B + 640) A2 [] none ∧ RC (HS' 0) A2 ∧ RM m0 0 mm' A2 ∧ (∀ i, i ≠ 0 → HS' i = HS i) ∧ (c = k → A2 = A1) := by
  intro n
  induction n with
  | zero => intro k A1 HS mm za0 za1 za2 za3 za4 zcd zgo ztd ztv zcl zca zwa zpt zpf mco mcn mvi men _ _ _ _ h; omega
  | succ n ih =>
    intro k A1 HS mm za0 za1 za2 za3 za4 zcd zgo ztd ztv zcl zca zwa zpt zpf mco mcn mvi men hk hJ hX hR hn
    have le80 : ∀ j, j < 1000 → ((80 : Int32) ≤ nI j ↔ 80 ≤ j) := fun j hj => le_n (i := 80) (j := j) (by omega) (by omega)
    have eC : fX11_day_50 N s (n + 1) zpn zps ztz ztn (nI L) (nI (pos k)) za0 za1 za2 za3 za4 zcd zgo ztd ztv zcl zca zwa zpt zpf HS (nI k) 0 (nI k) = fX11_day_50b N s (fX11_day_50 N s n) zpn zps ztz ztn (nI L) (nI (pos k)) za0 za1 za2 za3 za4 zcd zgo ztd ztv zcl zca zwa zpt zpf HS (nI k) 0 (nI k) := rfl
    have eM : fX12_day_65 N s 0 (n + 1) 0 mto mrw 0 mat mtt mm mun mco mcn mvi men mac mfi mse mtd (nI Q) (nI k) = fX12_day_65b N s 0 (fX12_day_65 N s 0 n) 0 mto mrw 0 mat mtt mm mun mco mcn mvi men mac mfi mse mtd (nI Q) (nI k) := rfl
    rw [eC, eM]
    unfold fX11_day_50b fX12_day_65b fX7_goesOn
    by_cases c : k = Q
    · subst c
      refine ⟨k, A1, nI (pos k), za0, za1, za2, za3, za4, zcd, zgo, ztd, ztv, zcl, zca, zwa, zpt, zpf, HS, mm, mco, mcn, mvi, men, ?_, ?_, Nat.le_refl _, Nat.le_refl _, J_up hJ (by omega), hX, hR, fun _ _ => rfl, fun _ => rfl⟩
      · rw [decide_eq_false (by omega : ¬ k < k), show bI false = 0 from rfl, if_pos (show (0 : Int32) = 0 from rfl), if_pos (show nI L ≤ nI (pos k) from by rw [hPQ, le_n (by omega) (by omega)]; omega), b1_s, if_pos (show (0 : Int32) = 0 from rfl)]
        by_cases c2 : (80 : Int32) ≤ nI k
        · rw [if_pos c2]
        · rw [if_neg c2]
      · rw [if_pos (by rw [le_n (by omega) (by omega)]; omega)]
    · have hk' : k < Q := by omega
      obtain ⟨h1, a, ha, he, hD, hp, hac, hv⟩ := hP k hk'
      obtain ⟨r, A', g1, g2, g3, g4⟩ := T_do hN (by omega) hJ (L := L) (q := k) (by omega) ha hD hac hv
      obtain ⟨z1, z2, z3, z4, z5, z6, z7, z8, z9, X', e1, r1⟩ := g3 (HS 0) zcd zgo ztd ztv zcl zca zwa zpt zpf hX
      obtain ⟨mm', mco', mcn', mvi', men', e2, r2⟩ := g4 m0 0 mm mco mcn mvi men (by decide) hR
      have e2' : fX12_does N mm 0 mco mcn mvi men mac mfi mse mtd (nI k) = some (if r < 0 then 0 else 1, mm', mco', mcn', mvi', men') := e2
      rw [if_neg (fun c2 => by have := (le80 k (by omega)).mp c2; omega), if_pos (show (0 : Int32) = 0 from rfl), if_neg (show ¬ nI L ≤ nI (pos k) from by rw [le_n (by omega) (by omega)]; omega), b1_s, if_neg (show ¬ (1 : Int32) = 0 from by decide), C_reads hL h1 ha he hD, b6_s, e1, b11_s, lt_e, if_neg (show ¬ nI Q ≤ nI k from by rw [le_n (by omega) (by omega)]; omega), e2', b6_s, nI_1]
      by_cases hr : r < 0
      · have hA := g2 hr
        rw [if_neg (show ¬ 0 ≤ r from by rw [le_i, i0]; rw [lt_i, i0] at hr; omega), if_pos hr, if_pos (show (0 : Int32) = 0 from rfl)]
        obtain ⟨n, rfl⟩ : ∃ f, n = f + 1 := ⟨n - 1, by omega⟩
        refine ⟨k, A', nI (pos k + 1 + cdn a), nI (cch a), ab1 s (pos k) a, ab2 s (pos k) a, ab3 s (pos k) a, ab4 s (pos k) a, z1, z2, z3, z4, z5, z6, z7, z8, z9, updH HS 0 X', mm', mco', mcn', mvi', men', ?_, rfl, Nat.le_refl _, by omega, J_up g1 (by omega), by rw [updH_s]; exact r1, r2, fun i hi => updH_n hi, fun _ => hA⟩
        rw [decide_eq_true hk', show bI true = 1 from rfl]
        have eC2 : fX11_day_50 N s (n + 1) zpn zps ztz ztn (nI L) (nI (pos k + 1 + cdn a)) (nI (cch a)) (ab1 s (pos k) a) (ab2 s (pos k) a) (ab3 s (pos k) a) (ab4 s (pos k) a) z1 z2 z3 z4 z5 z6 z7 z8 z9 (updH HS 0 X') (nI k) 1 (nI (k + 1)) = fX11_day_50b N s (fX11_day_50 N s n) zpn zps ztz ztn (nI L) (nI (pos k + 1 + cdn a)) (nI (cch a)) (ab1 s (pos k) a) (ab2 s (pos k) a) (ab3 s (pos k) a) (ab4 s (pos k) a) z1 z2 z3 z4 z5 z6 z7 z8 z9 (updH HS 0 X') (nI k) 1 (nI (k + 1)) := rfl
        rw [eC2]
        unfold fX11_day_50b
        rw [if_neg (show ¬ (1 : Int32) = 0 from by decide)]
        by_cases c2 : (80 : Int32) ≤ nI (k + 1)
        · rw [if_pos c2]
        · rw [if_neg c2]
      · rw [if_pos (show 0 ≤ r from by rw [le_i, i0]; rw [lt_i, i0] at hr; omega), if_neg hr, if_neg (show ¬ (1 : Int32) = 0 from by decide), ← hp]
        obtain ⟨c', A2, y1, y2, y3, y4, y5, y6, w1, w2, w3, w4, w5, w6, w7, w8, w9, HS', mm2, mc2, mn2, mv2, me2, f1, f2, f3, f4, f5, f6, f7, f8, f9⟩ := ih (k + 1) A' (updH HS 0 X') mm' (nI (cch a)) (ab1 s (pos k) a) (ab2 s (pos k) a) (ab3 s (pos k) a) (ab4 s (pos k) a) z1 z2 z3 z4 z5 z6 z7 z8 z9 mco' mcn' mvi' men' (by omega) (J_up g1 (by omega)) (by rw [updH_s]; exact r1) r2 (by omega)
        exact ⟨c', A2, y1, y2, y3, y4, y5, y6, w1, w2, w3, w4, w5, w6, w7, w8, w9, HS', mm2, mc2, mn2, mv2, me2, f1, f2, by omega, f4, f5, f6, f7, fun i hi => by rw [f8 i hi, updH_n hi], fun q => by omega⟩
theorem S_day {N : Nat} (hN : 200000 ≤ N) (j : Nat) (hj : j < 512) : ST_day N (INV j) (INV (j + 1)) := by
  intro HS zkb zdr zky zpn zps ztz ztn zxz zxa zsg za0 za1 za2 za3 za4 zfr zcd zgo ztd ztv zcl zca zwa zpt zpf mth mto mrw mta mtp mat mtt mme mun mde mco mcn mvi men mfa mac mfi mse mtd mra mkp hI
  obtain ⟨A, K, U, kb, u, pn, hc, hx, ht, hd⟩ := hI
  have hd' : mde = 0 := hd
  subst hd'
  replace hc : COR (640 * j) HS zkb zpn zps mme mun mkp A K U kb u pn := hc
  replace hx : TXT zxz zsg mta mtp := hx
  replace ht : TLD ztz ztn mto mrw := ht
  have hJ : J (640 * j) A [] none := hc.1.1
  have w := hJ.1
  have hX0 : RC (HS 0) A := hc.1.2.1
  have hR0 : RM mme 0 mme A := hc.1.2.2
  have hcu : COR (640 * (j + 1)) HS zkb zpn zps mme mun mkp A K U kb u pn := COR_up hc (by omega)
  obtain ⟨x1, x2, x3, x4⟩ := hx
  subst x1 x2
  have hx0 : TXT 0 mta mta 0 := ⟨rfl, rfl, by decide, by decide⟩
  obtain ⟨eL, hLb⟩ := nI_back (p := mtp) x3
  have hL : mtp.toInt.toNat ≤ 80 := by omega
  generalize mtp.toInt.toNat = L at *
  subst eL
  rcases parse_j (s := mta) (L := L) (N := N) hL hN mto mrw mme mun mco mcn mvi men L 0 0 N N (fun _ => 0) mac mfi mse mtd (by omega) (by omega) (by omega) (by omega) (by omega) (fun x hx => absurd hx (Nat.not_lt_zero x)) rfl rfl with ⟨f, mac', mfi', mse', mtd', hf, e1, e2⟩ | ⟨Q, pos, mac', mfi', mse', mtd', hQ, e1, e2, hP, hPQ, hP0⟩
  · refine ⟨(-1) - nI f, zpn, zps, ztz, ztn, 0, zxa, za0, za1, za2, za3, za4, zcd, zgo, ztd, ztv, zcl, zca, zwa, zpt, zpf, HS, 0, mto, mrw, 0, nI f, nI L, mme, mun, mco, mcn, mvi, men, mac', mfi', mse', mtd', ?_, e2, A, K, U, kb, u, pn, hcu, hx0, ht, rfl⟩
    have e1' : fX7_fault N (nI L) mta = some (nI f) := e1
    unfold fX11_day
    rw [e1', b1_s, if_neg (nI_ne1 (by omega))]
  · have e1' : fX7_fault N (nI L) mta = some (-1) := e1
    have e2' : fX12_day N mth mto mrw mta (nI L) mat mtt mme mun 0 mco mcn mvi men mac mfi mse mtd = fX12_day_57 N mta 0 0 mto mrw 0 (nI L) (nI L) mme mun mco mcn mvi men mac' mfi' mse' mtd' (nI Q) := e2
    obtain ⟨em, mm1, ec, k1, k2, k3⟩ := q_pre (N := N) (by omega) hc
    have eH : updH HS (4 + pn) (HS 0) 0 = HS 0 := updH_n (by omega)
    obtain ⟨c, A2, y1, y2, y3, y4, y5, y6, w1, w2, w3, w4, w5, w6, w7, w8, w9, HS', mm2, mc2, mn2, mv2, me2, f1, f2, f3, f4, f5, f6, f7, f8, f9⟩ := run_j (B := 640 * j) hL hN (by omega) hQ hP hPQ mm1 zpn zps ztz ztn mto mrw (nI L) (nI L) mun N 0 A (updH HS (4 + pn) (HS 0)) mm1 za0 za1 za2 za3 za4 zcd zgo ztd ztv zcl zca zwa zpt zpf mco mcn mvi men (by omega) hJ (by rw [eH]; exact hX0) k2 (by omega)
    rw [hP0] at f1
    have f1' : fX11_day_50 N mta N zpn zps ztz ztn (nI L) 0 za0 za1 za2 za3 za4 zcd zgo ztd ztv zcl zca zwa zpt zpf (updH HS (4 + pn) (HS 0)) 0 0 0 = fX11_day_114 N mta zpn zps ztz ztn (nI L) y1 y2 y3 y4 y5 y6 w1 w2 w3 w4 w5 w6 w7 w8 w9 HS' (nI c) (bI (decide (c < Q))) := f1
    have f2' : fX12_day_65 N mta 0 N 0 mto mrw 0 (nI L) (nI L) mm1 mun mco mcn mvi men mac' mfi' mse' mtd' (nI Q) 0 = fX12_day_84 N mta 0 0 mto mrw 0 (nI L) (nI L) mm2 mun mc2 mn2 mv2 me2 mac' mfi' mse' mtd' (nI Q) (nI c) := f2
    have hHS : HS' = updH (updH HS (4 + pn) (HS 0)) 0 (HS' 0) := funext fun i => by
      by_cases q : i = 0
      · subst q; rw [updH_s]
      · rw [updH_n q]; exact f8 i q
    have fr := RM_fr f7
    have eCd : fX11_day N zpn zps ztz ztn (nI L) zxa mta za0 za1 za2 za3 za4 zcd zgo ztd ztv zcl zca zwa zpt zpf HS = fX11_day_114 N mta zpn zps ztz ztn (nI L) y1 y2 y3 y4 y5 y6 w1 w2 w3 w4 w5 w6 w7 w8 w9 HS' (nI c) (bI (decide (c < Q))) := by
      unfold fX11_day fX7_starts
      rw [e1', b1_s, if_pos rfl, em, b1_s, b1_s, f1']
    have eMd : fX12_day_57 N mta 0 0 mto mrw 0 (nI L) (nI L) mme mun mco mcn mvi men mac' mfi' mse' mtd' (nI Q) = fX12_day_84 N mta 0 0 mto mrw 0 (nI L) (nI L) mm2 mun mc2 mn2 mv2 me2 mac' mfi' mse' mtd' (nI Q) (nI c) := by
      unfold fX12_day_57
      rw [ec, b1_s, f2']
    have e92 : ∀ (mm3 : Nat → Int32) (mun3 : Int32) (mr1 mr2 : Nat → Int64), fX12_thereAll N mm3 0 = some (bs (a_th A2)) → fX12_enters 0 mrw (bI (decide (c < Q))).toInt64 = some (1, mr1) → fX12_enters 1 mr1 (nI (nt A2)).toInt64 = some (2, mr2) → fX12_day_92 N mta 0 0 mto mrw 0 (nI L) (nI L) mm3 mun3 mc2 mn2 mv2 me2 mac' mfi' mse' mtd' (nI Q) (nI c) = some (nI c, 0, 2, mr2, 0, nI L, nI L, mm3, mun3, mc2, mn2, mv2, me2, mac', mfi', mse', mtd') := fun mm3 mun3 mr1 mr2 h1 h2 h3 => by
      have m5 : fX12_sizeOf N (bs (a_th A2)) = some (nI (nt A2)) := M_sizeOf (by omega) _
      have e108 : fX12_day_92 N mta 0 0 mto mrw 0 (nI L) (nI L) mm3 mun3 mc2 mn2 mv2 me2 mac' mfi' mse' mtd' (nI Q) (nI c) = fX12_day_108 N mta 0 0 0 mrw 0 (nI L) (nI L) mm3 mun3 mc2 mn2 mv2 me2 mac' mfi' mse' mtd' (nI c) (bI (decide (c < Q))) := by
        unfold fX12_day_92
        by_cases q : c < Q
        · rw [decide_eq_true q, if_neg (by rw [le_n (by omega) (by omega)]; omega)]; rfl
        · rw [decide_eq_false q, if_pos (by rw [le_n (by omega) (by omega)]; omega)]; rfl
      rw [e108]
      unfold fX12_day_108
      rw [flag_c, b1_s, h2, b2_s, h1, b1_s, m5, b1_s, h3, b2_s]
    obtain ⟨zn', mr1, mr', t1, t2, t3, ht2⟩ := TL_2 ztz ztn mrw (bI (decide (c < Q))).toInt64 (nI (nt A2)).toInt64
    by_cases c0 : c = 0
    · have hA := f9 c0
      subst hA
      have hcN : COR (640 * (j + 1)) HS' zkb zpn zps mm2 mun mkp A2 K U kb u pn := by
        rw [hHS]
        exact COR_mk hcu (HS 0) (HS' 0) f6 (fun i hi => by rw [fr i (by omega), k1 i (by omega)]) (RM_own f7)
      have m5 : fX12_thereAll N mm2 0 = some (bs (a_th A2)) := M_thereAll (b := 0) f7 (by decide) (by omega)
      refine ⟨nI c, zpn, zps, 2, zn', 0, y1, y2, y3, y4, y5, y6, w1, w2, w3, w4, w5, w6, w7, w8, w9, HS', 0, 2, mr', 0, nI L, nI L, mm2, mun, mc2, mn2, mv2, me2, mac', mfi', mse', mtd', ?_, ?_, A2, K, U, kb, u, pn, hcN, hx0, ht2, rfl⟩
      · rw [eCd]
        unfold fX11_day_114 fX11_day_133
        rw [if_pos ((le_f0 (by omega)).mpr c0), C_objects f6, b1_s, t1, b2_s]
      · rw [e2', eMd]
        unfold fX12_day_84
        rw [if_pos ((le_f0 (by omega)).mpr c0)]
        exact e92 mm2 mun mr1 mr' m5 t2 t3
    · obtain ⟨mm3, zpn', zps', mun', h1, h2, h3, hc2⟩ := COR_ps (B' := 640 * (j + 1)) (by omega) (N := N) (by omega) hc (J_up f5 (by omega)) f6 (RM_own f7) (fun i hi => by rw [fr i (by omega), k1 i (by omega)]) (RM_move k3 (fun i i1 i2 => fr i (by omega)))
      rw [← hHS] at hc2
      have m5 : fX12_thereAll N mm3 0 = some (bs (a_th A2)) := M_thereAll (b := 0) hc2.1.2.2 (by decide) (by omega)
      refine ⟨nI c, zpn', zps', 2, zn', 0, y1, y2, y3, y4, y5, y6, w1, w2, w3, w4, w5, w6, w7, w8, w9, HS', 0, 2, mr', 0, nI L, nI L, mm3, mun', mc2, mn2, mv2, me2, mac', mfi', mse', mtd', ?_, ?_, A2, K, _, kb, _, _, hc2, hx0, ht2, rfl⟩
      · rw [eCd]
        unfold fX11_day_114 fX11_day_133
        rw [if_neg (fun q => c0 ((le_f0 (by omega)).mp q)), h1, b2_s, C_objects f6, b1_s, t1, b2_s]
      · rw [e2', eMd]
        unfold fX12_day_84
        rw [if_neg (fun q => c0 ((le_f0 (by omega)).mp q)), h2, b2_s]
        exact e92 mm3 mun' mr1 mr' m5 t2 t3
