/-! ranks, settles -/
noncomputable def kf (A : AS) (q i : Nat) : Int32 := if q = 0 then cI (a_ct A i) else if q = 1 then a_wt A i else wsn (a_wt A) (hgp A i) 24
theorem C_rk {HS : Nat → Nat → Nat → Int32} {A : AS} (h : RC (HS 0) A) (w : WF A) {i q : Nat} (hi : i < 24) (hq : q < 3) {N : Nat} (hN : 24 < N) : fX11_rankKey N HS (nI i) (nI q) = some (kf A q i) := by
  unfold fX11_rankKey
  rw [inb_n hi (by decide), grd_t, grd_t, cl_n (by omega), RC_h7 h i hi, RC_h5 h i hi, C_hanging h w hi hN, b1_s, C_weightOf h _ hN, b1_s]
  rcases (by omega : q = 0 ∨ q = 1 ∨ q = 2) with rfl | rfl | rfl <;> rfl
theorem M_wo {mme : Nat → Int32} {A : AS} (h : RM mme 0 mme A) (w : WF A) {i q : Nat} (ht : a_th A i = true) (hq : q < 3) {N : Nat} (hN : 1000 < N) : fX12_worth N mme 0 (nI i) (nI q) = some (kf A q i) := by
  have hi := W_th w ht
  have m1 : fX12_of mme 0 (nI i) 5 = some (cI (a_ct A i)) := M_of5 (b := 0) h (by decide) hi ht
  have m2 : fX12_of mme 0 (nI i) 2 = some (a_wt A i) := M_of2 (b := 0) h (by decide) hi ht
  have m3 : fX12_aloneWith N mme 0 (nI i) = some (bs (hgp A i)) := M_aloneWith (b := 0) h (by decide) w hi hN
  have m4 : fX12_weights N mme 0 (bs (hgp A i)) = some (wsn (a_wt A) (hgp A i) 24) := M_weights (b := 0) h (by decide) (fun x _ q => hg_th w i x q) (by omega)
  unfold fX12_worth
  rw [m1, m2, m3, b1_s, b1_s, b1_s, m4, b1_s]
  rcases (by omega : q = 0 ∨ q = 1 ∨ q = 2) with rfl | rfl | rfl <;> rfl
noncomputable def kz (A : AS) (q i : Nat) : Int32 := if a_th A i then kf A q i else -1
theorem C_rkeys {HS : Nat → Nat → Nat → Int32} {A : AS} (h : RC (HS 0) A) (w : WF A) {q : Nat} (hq : q < 3) {N : Nat} (hN : 24 < N) (zky : Nat → Int32) (ztz : Int32) (ztn : Nat → Int64) : fX11_ranks_13 N HS (nI q) N zky ztz ztn 0 = fX11_ranks_52 N HS (nI q) (upk zky (kz A q) 24) ztz ztn := by
  have := lpE (fun n j => fX11_ranks_13 N HS (nI q) n (upk zky (kz A q) j) ztz ztn (nI j)) 24 (fX11_ranks_52 N HS (nI q) (upk zky (kz A q) 24) ztz ztn) (fun n j hj => ?_) (fun n => ?_) N 0 (by omega) (by omega)
  · rw [upk_0] at this; exact this
  · show fX11_ranks_13b N HS (nI q) (fX11_ranks_13 N HS (nI q) n) (upk zky (kz A q) j) ztz ztn (nI j) = fX11_ranks_13 N HS (nI q) n (upk zky (kz A q) (j + 1)) ztz ztn (nI (j + 1))
    unfold fX11_ranks_13b
    rw [if_neg (by rw [le_24 (by omega)]; omega), C_has h hj, b1_s, C_rk h w hj hq hN, b1_s, inb_n hj (by decide), grd_t, grd_t, cl_n (by omega), lt_e, lt_e, nI_1, ← upk_1]
    cases e : a_th A j with
    | false => rw [if_pos (show bI false = 0 from rfl), show kz A q j = -1 from by unfold kz; rw [e]; rfl]
    | true => rw [if_neg (show ¬ bI true = 0 from by decide), show kz A q j = kf A q j from by unfold kz; rw [e]; rfl]
  · show fX11_ranks_13b N HS (nI q) (fX11_ranks_13 N HS (nI q) n) (upk zky (kz A q) 24) ztz ztn (nI 24) = _
    unfold fX11_ranks_13b
    rw [if_pos (by rw [le_24 (by omega)]; omega)]
theorem best_j {mme : Nat → Int32} {A : AS} (hR : RM mme 0 mme A) (w : WF A) {q : Nat} (hq : q < 3) {N : Nat} (hN : 1000 < N) {z : Nat → Int32} (hz : ∀ i, i < 24 → a_th A i = true → z i = kf A q i) {p : Nat → Bool} (hp : ∀ i, i < 24 → p i = true → a_th A i = true) (hne : ∃ i, i < 24 ∧ p i = true) (K : Int32 → Int32 → (Nat → Int64) → Int32 → Option (Int32 × Int32 × Int32 × (Nat → Int64))) (mto : Int32) (mrw : Nat → Int64) : ∀ m k n n' cx rx, 24 - k = m → 1 ≤ k → k ≤ 24 → m < n → m < n' → ((rx = -1 ∧ cx = 0 ∧ ∀ i, i < k → p i = false) ∨ ∃ b, b < 24 ∧ p b = true ∧ rx = nI b ∧ cx = nI b) → ∃ b, b < 24 ∧ p b = true ∧ fX11_greatest_4 N z (bs p) n cx (nI k) = some (nI b) ∧ fX12_ranks_38 N mme 0 (nI q) K n' 0 mto mrw (bs p) rx (nI k) = fX12_ranks_83 N mme 0 (nI q) K 0 mto mrw (bs p) (nI b) := by
  intro m
  induction m with
  | zero =>
    intro k n n' cx rx hm h1 h2 hn hn' hr
    obtain ⟨n, rfl⟩ : ∃ f, n = f + 1 := ⟨n - 1, by omega⟩
    obtain ⟨n', rfl⟩ : ∃ f, n' = f + 1 := ⟨n' - 1, by omega⟩
    have hk : k = 24 := by omega
    subst hk
    rcases hr with ⟨_, _, h⟩ | ⟨b, hb, hpb, e1, e2⟩
    · obtain ⟨i, hi, e⟩ := hne
      rw [h i hi] at e; cases e
    · subst e1 e2
      refine ⟨b, hb, hpb, ?_, ?_⟩
      · show fX11_greatest_4b N z (bs p) (fX11_greatest_4 N z (bs p) n) (nI b) (nI 24) = _
        unfold fX11_greatest_4b
        rw [if_pos (by rw [le_24 (by omega)]; omega)]
      · show fX12_ranks_38b N mme 0 (nI q) K (fX12_ranks_38 N mme 0 (nI q) K n') 0 mto mrw (bs p) (nI b) (nI 24) = _
        unfold fX12_ranks_38b
        rw [if_pos (by rw [le_24 (by omega)]; omega)]
  | succ m ih =>
    intro k n n' cx rx hm h1 h2 hn hn' hr
    obtain ⟨n, rfl⟩ : ∃ f, n = f + 1 := ⟨n - 1, by omega⟩
    obtain ⟨n', rfl⟩ : ∃ f, n' = f + 1 := ⟨n' - 1, by omega⟩
    have hk : k < 24 := by omega
    show ∃ b, b < 24 ∧ p b = true ∧ fX11_greatest_4b N z (bs p) (fX11_greatest_4 N z (bs p) n) cx (nI k) = _ ∧ fX12_ranks_38b N mme 0 (nI q) K (fX12_ranks_38 N mme 0 (nI q) K n') 0 mto mrw (bs p) rx (nI k) = _
    unfold fX11_greatest_4b fX12_ranks_38b fX11_bit
    have n24 : ¬ (24 : Int32) ≤ nI k := by rw [le_24 (by omega)]; omega
    rw [if_neg n24, if_neg n24, bs_bit _ hk, b1_s, b1_s, M_has _ hk, b1_s, nI_1]
    cases e : p k with
    | false =>
      rw [if_neg (show ¬ bI false = 1 from by decide), if_pos (show bI false = 0 from rfl)]
      refine ih (k + 1) n n' cx rx (by omega) (by omega) (by omega) (by omega) (by omega) ?_
      rcases hr with ⟨r1, r2, r3⟩ | h
      · exact Or.inl ⟨r1, r2, fun i hi => by
          by_cases c : i = k
          · rw [c]; exact e
          · exact r3 i (by omega)⟩
      · exact Or.inr h
    | true =>
      rw [if_pos (show bI true = 1 from rfl), if_neg (show ¬ bI true = 0 from by decide)]
      rcases hr with ⟨r1, r2, r3⟩ | ⟨b, hb, hpb, e1, e2⟩
      · subst r1 r2
        rw [show jushr (bs p) 0 &&& 1 = bI (p 0) from bs_bit p (i := 0) (by decide), r3 0 (by omega), if_pos (show bI false = 0 from rfl), if_pos neg1_lt]
        exact ih (k + 1) n n' (nI k) (nI k) (by omega) (by omega) (by omega) (by omega) (by omega) (Or.inr ⟨k, hk, e, rfl, rfl⟩)
      · subst e1 e2
        rw [bs_bit _ hb, hpb, if_neg (show ¬ bI true = 0 from by decide), inb_n hk (by decide), inb_n hb (by decide), grd_t, grd_t, cl_n (by omega), cl_n (by omega), hz k hk (hp k hk e), hz b hb (hp b hb hpb), if_neg (nI_nlt0 (by omega)), M_wo hR w (hp k hk e) hq hN, b1_s, M_wo hR w (hp b hb hpb) hq hN, b1_s]
        by_cases c : kf A q k ≤ kf A q b
        · rw [if_pos c, if_pos c]
          exact ih (k + 1) n n' (nI b) (nI b) (by omega) (by omega) (by omega) (by omega) (by omega) (Or.inr ⟨b, hb, hpb, rfl, rfl⟩)
        · rw [if_neg c, if_neg c]
          exact ih (k + 1) n n' (nI k) (nI k) (by omega) (by omega) (by omega) (by omega) (by omega) (Or.inr ⟨k, hk, e, rfl, rfl⟩)
theorem ct_clr {p : Nat → Bool} {b m : Nat} (hb : b < 24) (hp : p b = true) (hm : fb_ct p 24 = m + 1) : fb_ct (fs p b false) 24 = m := by
  have hct := fb_ct_upd p false (i := b) (n := 24) hb
  have e0 : (if (false : Bool) = true then 1 else 0) = 0 := rfl
  have e1 : (if p b = true then 1 else 0) = 1 := if_pos hp
  rw [e0, e1] at hct
  have : fb_ct (fs p b false) 24 = fb_ct (fun k => if k = b then false else p k) 24 := rfl
  omega
theorem ct_pos {p : Nat → Bool} {m : Nat} (hm : fb_ct p 24 = m + 1) : ∃ i, i < 24 ∧ p i = true := by
  apply Classical.byContradiction
  intro q
  have : fb_ct p 24 = 0 := fb_ct_zero.mpr (fun i hi => by
    cases e : p i with
    | false => rfl
    | true => exact absurd ⟨i, hi, e⟩ q)
  omega
theorem ranks_j {HS : Nat → Nat → Nat → Int32} {mme : Nat → Int32} {A : AS} (hR : RM mme 0 mme A) (w : WF A) {q : Nat} (hq : q < 3) {N : Nat} (hN : 1000 < N) {z : Nat → Int32} (hz : ∀ i, i < 24 → a_th A i = true → z i = kf A q i) : ∀ m p c n zn mr, fb_ct p 24 = m → (∀ i, i < 24 → p i = true → a_th A i = true) → c + m ≤ 24 → TLD (nI c) zn (nI c) mr → m < n → ∃ c' zn' mr', fX11_ranks_75 N HS (nI q) n z (nI c) zn (bs p) (nI m) = some (nI c', z, nI c', zn') ∧ fX12_ranks_29 N mme 0 (nI q) n 0 (nI c) mr (bs p) = some (nI c', 0, nI c', mr') ∧ TLD (nI c') zn' (nI c') mr' := by
  intro m
  induction m with
  | zero =>
    intro p c n zn mr hm hp hc ht hn
    obtain ⟨n, rfl⟩ : ∃ f, n = f + 1 := ⟨n - 1, by omega⟩
    refine ⟨c, zn, mr, ?_, ?_, ht⟩
    · show fX11_ranks_75b N HS (nI q) (fX11_ranks_75 N HS (nI q) n) z (nI c) zn (bs p) (nI 0) = _
      unfold fX11_ranks_75b
      rw [if_pos (by rw [le_f0 (by omega)])]
    · show fX12_ranks_29b N mme 0 (nI q) (fX12_ranks_29 N mme 0 (nI q) n) 0 (nI c) mr (bs p) = _
      unfold fX12_ranks_29b
      rw [if_pos (bs_eq0.mpr (fun i hi => fb_ct_zero.mp hm i hi))]
  | succ m ih =>
    intro p c n zn mr hm hp hc ht hn
    obtain ⟨n, rfl⟩ : ∃ f, n = f + 1 := ⟨n - 1, by omega⟩
    have hne := ct_pos hm
    have hne0 : ¬ bs p = 0 := fun c => by
      obtain ⟨i, hi, e⟩ := hne
      rw [bs_eq0.mp c i hi] at e; cases e
    obtain ⟨N', rfl⟩ : ∃ f, N = f + 1 := ⟨N - 1, by omega⟩
    have hgb : ∃ b, b < 24 ∧ p b = true ∧ fX11_greatest (N' + 1) z (bs p) = some (nI b) ∧ fX12_ranks_38 (N' + 1) mme 0 (nI q) (fX12_ranks_29 (N' + 1) mme 0 (nI q) n) (N' + 1) 0 (nI c) mr (bs p) (-1) 0 = fX12_ranks_83 (N' + 1) mme 0 (nI q) (fX12_ranks_29 (N' + 1) mme 0 (nI q) n) 0 (nI c) mr (bs p) (nI b) := by
      have e0 : fX12_ranks_38 (N' + 1) mme 0 (nI q) (fX12_ranks_29 (N' + 1) mme 0 (nI q) n) (N' + 1) 0 (nI c) mr (bs p) (-1) 0 = fX12_ranks_38 (N' + 1) mme 0 (nI q) (fX12_ranks_29 (N' + 1) mme 0 (nI q) n) N' 0 (nI c) mr (bs p) (if p 0 then nI 0 else -1) (nI 1) := by
        show fX12_ranks_38b (N' + 1) mme 0 (nI q) (fX12_ranks_29 (N' + 1) mme 0 (nI q) n) (fX12_ranks_38 (N' + 1) mme 0 (nI q) (fX12_ranks_29 (N' + 1) mme 0 (nI q) n) N') 0 (nI c) mr (bs p) (-1) (nI 0) = _
        unfold fX12_ranks_38b
        rw [if_neg (by rw [le_24 (by omega)]; omega), M_has p (i := 0) (by decide), b1_s, nI_1]
        cases e : p 0 with
        | false => rw [if_pos (show bI false = 0 from rfl)]; rfl
        | true => rw [if_neg (show ¬ bI true = 0 from by decide), if_pos neg1_lt]; rfl
      rw [e0]
      refine best_j hR w hq hN hz hp hne (fX12_ranks_29 (N' + 1) mme 0 (nI q) n) (nI c) mr 23 1 (N' + 1) N' 0 _ (by omega) (by omega) (by omega) (by omega) (by omega) ?_
      cases e : p 0 with
      | false => exact Or.inl ⟨rfl, rfl, fun i hi => by rw [show i = 0 by omega]; exact e⟩
      | true => exact Or.inr ⟨0, by omega, e, rfl, rfl⟩
    obtain ⟨b, hb, hpb, e1, e2⟩ := hgb
    obtain ⟨t1, t2, t3⟩ := TL_a ht (by omega) (nI b).toInt64
    obtain ⟨c', zn', mr', f1, f2, f3⟩ := ih (fs p b false) (c + 1) n _ _ (ct_clr hb hpb hm) (fun i hi e => by
      by_cases c : i = b
      · rw [c, fs_s] at e; cases e
      · rw [fs_n c] at e; exact hp i hi e) (by omega) t3 (by omega)
    refine ⟨c', zn', mr', ?_, ?_, f3⟩
    · show fX11_ranks_75b (N' + 1) HS (nI q) (fX11_ranks_75 (N' + 1) HS (nI q) n) z (nI c) zn (bs p) (nI (m + 1)) = _
      unfold fX11_ranks_75b
      rw [if_neg (by rw [le_f0 (by omega)]; omega), e1, b1_s, bs_clr _ hb, lt_e, t1, b2_s, ← Int32.sub_eq_add_neg, nI_pred, f1]
    · show fX12_ranks_29b (N' + 1) mme 0 (nI q) (fX12_ranks_29 (N' + 1) mme 0 (nI q) n) 0 (nI c) mr (bs p) = _
      unfold fX12_ranks_29b
      rw [if_neg hne0, e2]
      unfold fX12_ranks_83
      rw [t2, b2_s, bs_clr _ hb, lt_e, f2]
theorem S_ranks {N : Nat} (hN : 200000 ≤ N) (j : Nat) (hj : j < 512) : ST_ranks N (INV j) (INV (j + 1)) := by
  intro HS zkb zdr zky zpn zps ztz ztn zxz zxa zsg za0 za1 za2 za3 za4 zfr zcd zgo ztd ztv zcl zca zwa zpt zpf mth mto mrw mta mtp mat mtt mme mun mde mco mcn mvi men mfa mac mfi mse mtd mra mkp a1 hI
  obtain ⟨A, K, U, kb, u, pn, hc, hx, ht, hd⟩ := hI
  have hd' : mde = 0 := hd
  subst hd'
  replace hc : COR (640 * j) HS zkb zpn zps mme mun mkp A K U kb u pn := hc
  replace hx : TXT zxz zsg mta mtp := hx
  replace ht : TLD ztz ztn mto mrw := ht
  have hJ : J (640 * j) A [] none := hc.1.1
  have w := hJ.1
  have hX0 : RC (HS 0) A := hc.1.2.1
  have hR0 : RM mme 0 mme A := hc.1.2.2
  have hcu : COR (640 * (j + 1)) HS zkb zpn zps mme mun mkp A K U kb u pn := COR_up hc (by omega)
  have mw : fX12_in a1.toInt64 0 2 = some (bI (decide ((0 : Nat) ≤ a1.toInt ∧ a1.toInt ≤ (2 : Nat)))) := lit_in 0 2 rfl rfl rfl rfl a1
  by_cases q1 : ((0 : Nat) : Int) ≤ a1.toInt ∧ a1.toInt ≤ (2 : Nat)
  · rw [decide_eq_true q1] at mw
    obtain ⟨er, hr⟩ := nI_back (p := a1) (by omega)
    have hr6 : a1.toInt.toNat < 3 := by omega
    generalize a1.toInt.toNat = k at *
    subst er
    have hnt : nt A ≤ 24 := fb_ct_le _ _
    have m5 : fX12_thereAll N mme 0 = some (bs (a_th A)) := M_thereAll (b := 0) hR0 (by decide) (by omega)
    obtain ⟨c', zn', mr', f1, f2, f3⟩ := ranks_j (HS := HS) hR0 w hr6 (N := N) (by omega) (z := upk zky (kz A k) 24) (fun i hi hti => by rw [upk_s hi]; unfold kz; rw [hti]; rfl) (nt A) (a_th A) 0 N ztn mrw rfl (fun i _ e => e) (by omega) (TL_0 ztn mrw) (by omega)
    refine ⟨nI c', upk zky (kz A k) 24, nI c', zn', 0, nI c', mr', ?_, ?_, A, K, U, kb, u, pn, hcu, hx, f3, rfl⟩
    · unfold fX11_ranks
      rw [if_neg (nI_nlt0 (by omega)), if_pos (show nI k ≤ 2 from (le_n (i := k) (j := 2) (by omega) (by omega)).mpr (by omega)), C_rkeys hX0 w hr6 (by omega)]
      unfold fX11_ranks_52 fX8_clears
      rw [b1_s, C_objects hX0, b1_s, RC_h1 hX0]
      exact f1
    · unfold fX12_ranks
      rw [mw, b1_s, if_neg (by decide), m5, b1_s]
      exact f2
  · rw [decide_eq_false q1] at mw
    refine ⟨-1, zky, ztz, ztn, 0, mto, mrw, ?_, ?_, A, K, U, kb, u, pn, hcu, hx, ht, rfl⟩
    · unfold fX11_ranks
      simp only [lt_i, le_i, i0, show (2 : Int32).toInt = 2 from by decide]
      by_cases c : a1.toInt < 0
      · rw [if_pos c]
      · rw [if_neg c, if_neg (by omega)]
    · unfold fX12_ranks
      rw [mw, b1_s, if_pos (by decide)]
theorem set_j {N B : Nat} (hN : 200000 ≤ N) (hB : B ≤ 2147400000) (m0 : Nat → Int32) (ztz : Int32) (ztn : Nat → Int64) (mto : Int32) (mrw : Nat → Int64) : ∀ n k A1 HS mm zcd zgo ztd ztv zcl zca zwa zpt zpf mco mcn mvi, k ≤ 30 → J B A1 [] none → RC (HS 1) A1 → RM m0 1708 mm A1 → 30 - k < n → ∃ c A2 zcd' zgo' ztd' ztv' zcl' zca' zwa' zpt' zpf' HS' mm' mco' mcn' mvi', fX11_settles_13 N n ztz ztn zcd zgo ztd ztv zcl zca zwa zpt zpf HS (nI k) = fX11_settles_49 N ztz ztn zcd' zgo' ztd' ztv' zcl' zca' zwa' zpt' zpf' HS' (nI c) ∧ fX12_settles_11 N n 0 mto mrw mm (nI 1708) mco mcn mvi (nI k) = fX12_settles_34 N 0 mto mrw mm' (nI 1708) mco' mcn' mvi' (nI c) ∧ J B A2 [] none ∧ RC (HS' 1) A2 ∧ RM m0 1708 mm' A2 ∧ ∀ i, i ≠ 1 → HS' i = HS i := by
  intro n
  induction n with
  | zero => intro k A1 HS mm zcd zgo ztd ztv zcl zca zwa zpt zpf mco mcn mvi _ _ _ _ h; omega
  | succ n ih =>
    intro k A1 HS mm zcd zgo ztd ztv zcl zca zwa zpt zpf mco mcn mvi hk hJ hX hR hn
    have le30 : (30 : Int32) ≤ nI k ↔ 30 ≤ k := le_n (i := 30) (j := k) (by omega) (by omega)
    have hlen := W_len hJ.1
    have eC : fX11_settles_13 N (n + 1) ztz ztn zcd zgo ztd ztv zcl zca zwa zpt zpf HS (nI k) = fX11_settles_13b N (fX11_settles_13 N n) ztz ztn zcd zgo ztd ztv zcl zca zwa zpt zpf HS (nI k) := rfl
    have eM : fX12_settles_11 N (n + 1) 0 mto mrw mm (nI 1708) mco mcn mvi (nI k) = fX12_settles_11b N (fX12_settles_11 N n) 0 mto mrw mm (nI 1708) mco mcn mvi (nI k) := rfl
    rw [eC, eM]
    unfold fX11_settles_13b fX12_settles_11b
    by_cases q : 30 ≤ k
    · rw [if_pos (le30.mpr q), if_pos (le30.mpr q)]
      exact ⟨k, A1, zcd, zgo, ztd, ztv, zcl, zca, zwa, zpt, zpf, HS, mm, mco, mcn, mvi, rfl, rfl, hJ, hX, hR, fun _ _ => rfl⟩
    · rw [if_neg (fun c => q (le30.mp c)), if_neg (fun c => q (le30.mp c)), RC_h11 hX, M_listed hR (by decide), b1_s]
      by_cases q2 : (a_ls A1).length = 0
      · rw [if_pos ((le_f0 (by omega)).mpr q2), if_pos ((le_f0 (by omega)).mpr q2)]
        exact ⟨k, A1, zcd, zgo, ztd, ztv, zcl, zca, zwa, zpt, zpf, HS, mm, mco, mcn, mvi, rfl, rfl, hJ, hX, hR, fun _ _ => rfl⟩
      · rw [if_neg (fun c => q2 ((le_f0 (by omega)).mp c)), if_neg (fun c => q2 ((le_f0 (by omega)).mp c))]
        obtain ⟨A', v, g1, _, g3, g4⟩ := T_trial hN hB hJ
        obtain ⟨z1, z2, z3, z4, z5, z6, z7, z8, X', e1, r1⟩ := g3 (HS 1) zcd zgo ztd ztv zcl zca zwa zpt zpf hX
        obtain ⟨mm', mco', mcn', e2, r2⟩ := g4 m0 1708 mm mco mcn mvi (by decide) hR
        rw [e1, b10_s, lt_e, e2, b4_s, nI_1]
        obtain ⟨c, A2, w1, w2, w3, w4, w5, w6, w7, w8, w9, HS', mm2, mc2, mn2, mv2, f1, f2, f3, f4, f5, f6⟩ := ih (k + 1) A' (updH HS 1 X') mm' z1 z2 z3 (nI v) z4 z5 z6 z7 z8 mco' mcn' (nI v) (by omega) g1 (by rw [updH_s]; exact r1) r2 (by omega)
        exact ⟨c, A2, w1, w2, w3, w4, w5, w6, w7, w8, w9, HS', mm2, mc2, mn2, mv2, f1, f2, f3, f4, f5, fun i hi => by rw [f6 i hi, updH_n hi]⟩
theorem ct_sub {p q : Nat → Bool} (h : ∀ x, q x = true → p x = true) : ∀ n, fb_ct p n = fb_ct q n + fb_ct (fun x => p x && !q x) n := by
  intro n
  induction n with
  | zero => rfl
  | succ n ih =>
    show fb_ct p n + (if p n then 1 else 0) = fb_ct q n + (if q n then 1 else 0) + (fb_ct (fun x => p x && !q x) n + (if (p n && !q n) then 1 else 0))
    rw [ih]
    cases e : q n with
    | true => rw [h n e]; simp; omega
    | false => cases p n <;> simp <;> omega
theorem S_settles {N : Nat} (hN : 200000 ≤ N) (j : Nat) (hj : j < 512) : ST_settles N (INV j) (INV (j + 1)) := by
  intro HS zkb zdr zky zpn zps ztz ztn zxz zxa zsg za0 za1 za2 za3 za4 zfr zcd zgo ztd ztv zcl zca zwa zpt zpf mth mto mrw mta mtp mat mtt mme mun mde mco mcn mvi men mfa mac mfi mse mtd mra mkp hI
  obtain ⟨A, K, U, kb, u, pn, hc, hx, ht, hd⟩ := hI
  have hd' : mde = 0 := hd
  subst hd'
  replace hc : COR (640 * j) HS zkb zpn zps mme mun mkp A K U kb u pn := hc
  replace hx : TXT zxz zsg mta mtp := hx
  replace ht : TLD ztz ztn mto mrw := ht
  have hJ : J (640 * j) A [] none := hc.1.1
  have w := hJ.1
  have hX0 : RC (HS 0) A := hc.1.2.1
  have hR0 : RM mme 0 mme A := hc.1.2.2
  have hcu : COR (640 * (j + 1)) HS zkb zpn zps mme mun mkp A K U kb u pn := COR_up hc (by omega)
  obtain ⟨mm1, et, r1, k1⟩ := q_try (N := N) (by omega) hc
  obtain ⟨c, A2, w1, w2, w3, w4, w5, w6, w7, w8, w9, HS', mm2, mc2, mn2, mv2, f1, f2, f3, f4, f5, f6⟩ := set_j (B := 640 * j) hN (by omega) mm1 ztz ztn mto mrw N 0 A (updH HS 1 (HS 0)) mm1 zcd zgo ztd ztv zcl zca zwa zpt zpf mco mcn mvi (by omega) hJ (by rw [updH_s]; exact hX0) r1 (by omega)
  have fr := RM_fr f5
  have hcN : COR (640 * (j + 1)) HS' zkb zpn zps mm2 mun mkp A K U kb u pn := COR_sp hcu (fun i hi => by rw [f6 i hi, updH_n hi]) (fun i hi => by rw [fr i (by omega), k1 i hi])
  have w2' := f3.1
  have hlen := W_len w2'
  have e1 : fX11_settles N ztz ztn zcd zgo ztd ztv zcl zca zwa zpt zpf HS = fX11_settles_49 N ztz ztn w1 w2 w3 w4 w5 w6 w7 w8 w9 HS' (nI c) := f1
  have e2 : fX12_settles N mth mto mrw mme 0 mco mcn mvi = fX12_settles_34 N 0 mto mrw mm2 (nI 1708) mc2 mn2 mv2 (nI c) := by
    unfold fX12_settles
    rw [et, b2_s]; exact f2
  rw [e1, e2]
  unfold fX11_settles_49 fX12_settles_34 fX12_settles_46 fX12_isBack
  rw [RC_h11 f4, M_listed f5 (by decide), b1_s]
  by_cases q2 : (a_ls A2).length = 0
  · have hs := ct_sub (fun x h => rcd_th w2' (x := x) h) 24
    have hsub : nI (nt A2) - nI (fb_ct (rcd A2) 24) = nI (fb_ct (fun x => a_th A2 x && !rcd A2 x) 24) := by
      rw [pk_sub (by unfold nt; omega)]
      congr 1
      unfold nt; omega
    obtain ⟨zn', mr1, mr', t1, t2, t3, ht2⟩ := TL_2 ztz ztn mrw (nI (nt A2)).toInt64 (nI (fb_ct (fun x => a_th A2 x && !rcd A2 x) 24)).toInt64
    refine ⟨nI c, 2, zn', w1, w2, w3, w4, w5, w6, w7, w8, w9, HS', 0, 2, mr', mm2, 0, mc2, mn2, mv2, ?_, ?_, A, K, U, kb, u, pn, hcN, hx, ht2, rfl⟩
    · rw [if_pos ((le_f0 (by omega)).mpr q2), C_objects f4, b1_s, b1_s, C_reached f4 w2' (by omega), b1_s, bitCount_c, b1_s, hsub, t1, b2_s]
    · rw [if_pos ((eq_0 (by omega)).mpr q2), M_thereAll f5 (by decide) (by omega), b1_s, M_reached f5 (by decide) w2' (by omega), b1_s, b1_s, if_neg (by decide), M_sizeOf (by omega), b1_s, show nI (fb_ct (a_th A2) 24) = nI (nt A2) from rfl, t2, b2_s, bs_andn, M_sizeOf (by omega), b1_s, t3, b2_s]
  · refine ⟨-2, ztz, ztn, w1, w2, w3, w4, w5, w6, w7, w8, w9, HS', 0, mto, mrw, mm2, 0, mc2, mn2, mv2, ?_, ?_, A, K, U, kb, u, pn, hcN, hx, ht, rfl⟩
    · rw [if_neg (fun c => q2 ((le_f0 (by omega)).mp c))]
    · rw [if_neg (fun c => q2 ((eq_0 (by omega)).mp c)), M_thereAll f5 (by decide) (by omega), b1_s, M_reached f5 (by decide) w2' (by omega), b1_s, b1_s, if_pos rfl]
