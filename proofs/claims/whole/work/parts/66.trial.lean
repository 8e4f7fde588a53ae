/-! a trial, both sides -/
theorem C_ctR {X : Nat → Nat → Int32} {A : AS} {z : Nat → Int32} {t : Nat → Int} (h : RC X A) (hz : ∀ o, o < 24 → z o = cI (t o)) : RC (upR X 4 z) (u_ct A t) := by
  obtain ⟨h1, h2, h3, h4, h5, h6, h7, h8, h9, h10, h11, h12, h13, h14, h15, h16, h17, h18⟩ := h
  exact ⟨h1, h2, h3, h4, h5, h6, hz, h8, h9, h10, h11, h12, h13, h14, h15, h16, h17, h18⟩
theorem W_cl {A : AS} (w : WF A) : WF (clA A) := by
  obtain ⟨w1, w2, w3, w4, w5, w6, w7, w8, w9, w10⟩ := w
  exact ⟨w1, w2, w3, w4, w5, List.nodup_nil, (fun x hx => absurd hx List.not_mem_nil), (fun o ho => by cases ho), w9, w10⟩
theorem W_ct {A : AS} (w : WF A) (t : Nat → Int) : WF (u_ct A t) := w
theorem W_dt {A : AS} (w : WF A) : WF (dtA A) := by
  obtain ⟨w1, w2, w3, w4, w5, w6, w7, w8, w9, w10⟩ := w
  exact ⟨w1, w2, w3, w4, w5, List.Pairwise.filter _ w6, fun x hx => w7 x (List.mem_filter.mp hx).1, fun x hx => List.mem_filter.mpr ⟨w8 x hx, hx⟩, w9, w10⟩
theorem J_cl {B : Nat} {A : AS} (h : J B A [] none) : J B (clA A) [] none := ⟨W_cl h.1, h.2.1, h.2.2.1, (fun x hx => absurd hx List.not_mem_nil), h.2.2.2.2.1, h.2.2.2.2.2⟩
theorem J_dt {B : Nat} {A : AS} (h : J B A [] none) : J B (dtA A) [] none := ⟨W_dt h.1, h.2.1, h.2.2.1, (fun x hx => absurd hx List.not_mem_nil), h.2.2.2.2.1, h.2.2.2.2.2⟩
theorem P2_cl {A : AS} {c : Nat → Nat} {t : Nat → Int} (h : P2 A c t) : P2 (clA (u_ct A t)) c (a_ct (clA (u_ct A t))) := h
theorem cl_ct (A : AS) (t : Nat → Int) : u_ct (clA (u_ct A t)) (a_ct A) = clA A := rfl
theorem GSq_ex {A : AS} (w : WF A) : ∀ (L : List Nat), (∀ s ∈ L, a_th A s = true) → ∀ (c : Nat → Nat) (t : Nat → Int) (v : Nat), ∃ c' t' v', GSq (a_fd A) L c t v c' t' v' := by
  intro L
  induction L with
  | nil => intro _ c t v; exact ⟨c, t, v, rfl, rfl, rfl⟩
  | cons s L ih =>
    intro hL c t v
    obtain ⟨c1, t1, v1, g1, _, _⟩ := T_gray w (N := 1000) (Nat.le_refl _) (hL s List.mem_cons_self) c t v
    obtain ⟨c', t', v', g2⟩ := ih (fun x hx => hL x (List.mem_cons_of_mem _ hx)) c1 t1 v1
    exact ⟨c', t', v', c1, t1, v1, g1, g2⟩
theorem no_gray {A : AS} (w : WF A) {L : List Nat} {c c' : Nat → Nat} {t t' : Nat → Int} (h1 : P1 A L c t) (h2 : P2 A c' t') (hW : WD A c' []) (hs : ∀ s ∈ L, c' s ≠ 1) (hz : ∀ y, c' y = 0 ↔ c y = 0) : ∀ y, c' y ≠ 1 := by
  intro y q
  obtain ⟨_, b2, _, _, b5, b6⟩ := h1
  obtain ⟨_, p2, p3, _, _, p6⟩ := h2
  have hc : c y = 1 := by
    rcases b2 y with q2 | q2
    · have := (hz y).mpr q2; omega
    · exact q2
  have := b5 (fun y => c' y ≠ 0 ∧ c' y ≠ 1) (fun s hs2 => ⟨fun q2 => by have := (hz s).mp q2; have := b6 s hs2; omega, hs s hs2⟩) (fun y j x q2 q3 => by
    refine ⟨p2 y j x q2.1 q3, ?_⟩
    have := p6 y
    have hq : c' y = 2 ∨ c' y = 3 := by omega
    rcases hq with q4 | q4
    · exact hW y q4 List.not_mem_nil j x q3
    · rw [p3 y j x q4 q3]; omega) y hc
  exact this.2 q
theorem M_7 {N : Nat} (hN : 24 < N) {m0 mm : Nat → Int32} {b : Nat} {A : AS} (hb : b ≤ 5124) (hR : RM m0 b mm A) (mco mcn : Nat → Int32) (mvi : Int32) : ∃ mco' mcn', fX12_runsTrial_7 N (nI b) N mm mco mcn mvi 0 = fX12_runsTrial_40 N (nI b) N mm mco' mcn' mvi 0 ∧ CP mco' (fun _ => 0) ∧ ∀ o, o < 24 → a_th A o = true → mcn' o = cI (a_ct A o) := by
  have gen : ∀ (r i : Nat) (z1 z2 : Nat → Int32) (f : Nat), i + r = 24 → (∀ o, o < i → z1 o = 0) → (∀ o, o < i → a_th A o = true → z2 o = cI (a_ct A o)) → r < f → ∃ z1' z2', fX12_runsTrial_7 N (nI b) f mm z1 z2 mvi (nI i) = fX12_runsTrial_40 N (nI b) N mm z1' z2' mvi 0 ∧ (∀ o, o < 24 → z1' o = 0) ∧ (∀ o, o < 24 → a_th A o = true → z2' o = cI (a_ct A o)) := by
    intro r
    induction r with
    | zero =>
      intro i z1 z2 f hi h1 h2 hf
      obtain ⟨f', rfl⟩ : ∃ f', f = f' + 1 := ⟨f - 1, by omega⟩
      have : i = 24 := by omega
      subst this
      refine ⟨z1, z2, ?_, h1, h2⟩
      show fX12_runsTrial_7b N (nI b) (fX12_runsTrial_7 N (nI b) f') mm z1 z2 mvi (nI 24) = _
      unfold fX12_runsTrial_7b
      rw [if_pos (by rw [le_24 (by omega)]; omega)]
    | succ r ih =>
      intro i z1 z2 f hi h1 h2 hf
      obtain ⟨f', rfl⟩ : ∃ f', f = f' + 1 := ⟨f - 1, by omega⟩
      obtain ⟨z1', z2', e, k1, k2⟩ := ih (i + 1) (upd z1 i 0) (upd z2 i (mm (b + 163 + 11 * i + 5))) f' (by omega) (fun o ho => by
        by_cases q : o = i
        · rw [q, pk_us]
        · rw [pk_un q]; exact h1 o (by omega)) (fun o ho ht => by
        by_cases q : o = i
        · rw [q, pk_us]
          rw [q] at ht
          have := M_of5 hR hb (o := i) (by omega) ht
          have e2 : fX12_of mm (nI b) (nI i) 5 = some (mm (b + 163 + 11 * i + 5)) := of_n mm (w := 5) hb (by omega) (by decide)
          rw [e2] at this
          exact Option.some.inj this
        · rw [pk_un q]; exact h2 o (by omega) ht) (by omega)
      refine ⟨z1', z2', ?_, k1, k2⟩
      show fX12_runsTrial_7b N (nI b) (fX12_runsTrial_7 N (nI b) f') mm z1 z2 mvi (nI i) = _
      unfold fX12_runsTrial_7b
      have e2 : fX12_of mm (nI b) (nI i) 5 = some (mm (b + 163 + 11 * i + 5)) := of_n mm (w := 5) hb (by omega) (by decide)
      rw [if_neg (by rw [le_24 (by omega)]; omega), inb_n (by omega) (by decide), grd_t, cl_n (by omega), lt_e, e2, b1_s, grd_t, lt_e, nI_1, e]
  obtain ⟨z1', z2', e, k1, k2⟩ := gen 24 0 mco mcn N (by omega) (fun o ho => absurd ho (Nat.not_lt_zero o)) (fun o ho => absurd ho (Nat.not_lt_zero o)) (by omega)
  exact ⟨z1', z2', e, fun o ho => ⟨k1 o ho, Nat.zero_le 3⟩, k2⟩
theorem M_2 {N : Nat} (hN : 24 < N) {m0 mm : Nat → Int32} {b : Nat} {A : AS} (hb : b ≤ 5124) {t t' : Nat → Int} (hR : RM m0 b mm (u_ct A t)) {mcn : Nat → Int32} {p1 : Int32} (hc : ∀ o, o < 24 → a_th A o = true → mcn o = cI (t' o)) (hrng : ∀ o, a_th A o = true → 0 ≤ t' o ∧ t' o ≤ 1000) : ∃ mm', fX12_runsEnds N mm (nI b) mcn p1 = fX12_runsEnds_28 N (nI b) mcn p1 N mm' 0 ∧ RM m0 b mm' (u_ct A t') := by
  have gen : ∀ (r i : Nat) (Y : Nat → Int32) (u : Nat → Int) (f : Nat), i + r = 24 → RM m0 b Y (u_ct A u) → (∀ o, o < i → a_th A o = true → u o = t' o) → r < f → ∃ mm', fX12_runsEnds_2 N (nI b) mcn p1 f Y (nI i) = fX12_runsEnds_28 N (nI b) mcn p1 N mm' 0 ∧ RM m0 b mm' (u_ct A t') := by
    intro r
    induction r with
    | zero =>
      intro i Y u f hi hY hu hf
      obtain ⟨f', rfl⟩ : ∃ f', f = f' + 1 := ⟨f - 1, by omega⟩
      have : i = 24 := by omega
      subst this
      refine ⟨Y, ?_, RM_irC hY (fun o ho ht => hu o ho ht)⟩
      show fX12_runsEnds_2b N (nI b) mcn p1 (fX12_runsEnds_2 N (nI b) mcn p1 f') Y (nI 24) = _
      unfold fX12_runsEnds_2b
      rw [if_pos (by rw [le_24 (by omega)]; omega)]
    | succ r ih =>
      intro i Y u f hi hY hu hf
      obtain ⟨f', rfl⟩ : ∃ f', f = f' + 1 := ⟨f - 1, by omega⟩
      obtain ⟨m1, e1, r1⟩ := M_put5 hY hb (o := i) (by omega) (mcn i).toInt
      have ec : cI (mcn i).toInt = mcn i := Int32.ofInt_toInt (mcn i)
      rw [ec] at e1
      have r1' : RM m0 b m1 (u_ct A (fs u i (mcn i).toInt)) := r1
      obtain ⟨mm', e, k⟩ := ih (i + 1) m1 (fs u i (mcn i).toInt) f' (by omega) r1' (fun o ho ht => by
        by_cases q : o = i
        · subst q
          rw [fs_s, hc o (by omega) ht]
          have := hrng o ht
          exact cI_toInt (by omega) (by omega)
        · rw [fs_n q]; exact hu o (by omega) ht) (by omega)
      refine ⟨mm', ?_, k⟩
      show fX12_runsEnds_2b N (nI b) mcn p1 (fX12_runsEnds_2 N (nI b) mcn p1 f') Y (nI i) = _
      unfold fX12_runsEnds_2b
      rw [if_neg (by rw [le_24 (by omega)]; omega), inb_n (by omega) (by decide), grd_t, cl_n (by omega), e1, b1_s, nI_1, e]
  exact gen 24 0 mm t N (by omega) hR (fun o ho => absurd ho (Nat.not_lt_zero o)) (by omega)
/-- a trial, on both sides -/
def CTr (N : Nat) (A A' : AS) (v : Nat) : Prop := ∀ (X : Nat → Nat → Int32) (zcd : Int32) (zgo : Nat → Int32) (ztd ztv : Int32) (zcl zca zwa zpt zpf : Nat → Int32), RC X A → ∃ zcd' zgo' ztd' zcl' zca' zwa' zpt' zpf' X', fX9_tries N zcd zgo ztd ztv zcl zca zwa zpt zpf X = some (zcd', zgo', ztd', nI v, zcl', zca', zwa', zpt', zpf', X') ∧ RC X' A'
def MTr (N : Nat) (A A' : AS) (v : Nat) : Prop := ∀ (m0 : Nat → Int32) (b : Nat) (mm mco mcn : Nat → Int32) (mvi : Int32), b ≤ 5124 → RM m0 b mm A → ∃ mm' mco' mcn', fX12_runsTrial N mm (nI b) mco mcn mvi = some (mm', mco', mcn', nI v) ∧ RM m0 b mm' A'
theorem T_trial {N B : Nat} (hN : 200000 ≤ N) (hB : B ≤ 2147400000) {A : AS} (hJ : J B A [] none) : ∃ A' v, J B A' [] none ∧ LGR (a_lg A) (a_lg A') ∧ CTr N A A' v ∧ MTr N A A' v := by
  have w := hJ.1
  have w1 := W_dt w
  have hJ1 := J_dt hJ
  have hct1 : ∀ x, a_th (dtA A) x = true → a_ct (dtA A) x = (rf (dtA A) x : Int) := fun x hx => by
    have := hJ1.2.1 x hx
    rw [if_neg nn_ne] at this
    omega
  obtain ⟨c1, t1, v1, g1⟩ := GSq_ex w1 (a_ls (dtA A)) (fun s hs => W_ls w1 hs) (fun _ => 0) (a_ct (dtA A)) 0
  have hP1 := P1_q w1 (a_ls (dtA A)) (fun s hs => W_ls w1 hs) [] _ _ _ _ _ _ (P1_0 (dtA A)) g1
  rw [List.nil_append] at hP1
  obtain ⟨hP2, hWD⟩ := P1_P2 hct1 hP1
  obtain ⟨c2, t2, v2, s1, s2, s3, s4, s5, s6⟩ := ph2 w1 hN (a_ls (dtA A)).length 0 c1 t1 v1 (Nat.zero_add _) hP2 hWD (fun s hs => absurd hs List.not_mem_nil)
  have hng := no_gray w1 hP1 s1 s2 s3 s4
  have hw2 : ∀ o, c2 o = 2 → a_th (dtA A) o = true := fun o q => s1.2.2.2.2.1 o (by omega)
  have hlen := W_len w
  have hlen1 := W_len w1
  have hJ3 := J_cl hJ1
  have hlg := J_lg hJ (by decide) hB
  have hbnd : (a_lg A).1 + 5 * nt A + 2 * un A ≤ B := hJ.2.2.2.2.2
  have cpre : ∀ (X : Nat → Nat → Int32) (zcd : Int32) (zgo : Nat → Int32) (ztd ztv : Int32) (zcl zca zwa zpt zpf : Nat → Int32), RC X A → ∃ ztd' zcl' zwa' zpt' zpf' Y, fX9_tries N zcd zgo ztd ztv zcl zca zwa zpt zpf X = (bnd1 (fX9_hasWhiteEnd N zcl' Y) fun r310 => if r310 = 0 then bnd1 (fX9_frees N zcl' Y) fun X_311 => some (zcd, zgo, ztd', nI v2, zcl', X 4, zwa', zpt', zpf', X_311) else bnd3 (fX9_runsEnds N zcd zgo zcl' (X 4) Y) fun z g X_312 => some (z, g, ztd', nI v2, zcl', X 4, zwa', zpt', zpf', X_312)) ∧ RC Y (clA (u_ct (dtA A) t2)) ∧ CP zcl' c2 := by
    intro X zcd zgo ztd ztv zcl zca zwa zpt zpf hX
    obtain ⟨z0, e0, k0⟩ := fill_c (N := N) (by omega) zcl
    obtain ⟨X1, e1, r1⟩ := C_dropsTrusted hX hlen (W_l24 w) (fun o ho => W_mt w ho) (N := N) (by omega)
    obtain ⟨c1', t1', v1', zcl1, zwa1, X2, q1, q2, q3, q4⟩ := ph1C w1 (N := N) (by omega) (zcd := zcd) (ztd := ztd) (zgo := zgo) (zca := X 4) (zpt := zpt) (zpf := zpf) (a_ls (dtA A)).length 0 (fun _ => 0) (a_ct (dtA A)) 0 X1 z0 zwa N (Nat.zero_add _) r1 k0 (by omega)
    rw [List.drop_zero] at q1
    obtain ⟨a1, a2, a3⟩ := GSq_uniq (a_ls (dtA A)) q1 g1
    subst a1 a2 a3
    obtain ⟨ztd', zcl', zwa', zpt', zpf', X3, e3, r3, k3⟩ := s6 X2 zcl1 zwa1 zpt zpf zgo (X 4) zcd ztd N q3 q4 (by omega)
    obtain ⟨Y, e4, r4⟩ := C_clears r3
    refine ⟨ztd', zcl', zwa', zpt', zpf', Y, ?_, r4, k3⟩
    unfold fX9_tries
    have q2' : fX9_tries_37 N N zcd zgo ztd 0 z0 (X 4) zwa zpt zpf X1 0 = fX9_tries_70 N N zcd zgo ztd (nI v1') zcl1 (X 4) zwa1 zpt zpf X2 0 := q2
    have e3' : fX9_tries_70 N N zcd zgo ztd (nI v1') zcl1 (X 4) zwa1 zpt zpf X2 0 = fX9_tries_101 N zcd zgo ztd' (nI v2) zcl' (X 4) zwa' zpt' zpf' X3 := e3
    rw [e0, b1_s, e1, b1_s, q2', e3']
    unfold fX9_tries_101
    rw [e4, b1_s]
  have mpre : ∀ (m0 : Nat → Int32) (b : Nat) (mm mco mcn : Nat → Int32) (mvi : Int32), b ≤ 5124 → RM m0 b mm A → ∃ mco' mcn' m4, fX12_runsTrial N mm (nI b) mco mcn mvi = fX12_runsTrial_128 N (nI b) m4 mco' mcn' (nI v2) ∧ RM m0 b m4 (clA (u_ct (dtA A) t2)) ∧ CP mco' c2 ∧ ∀ o, o < 24 → a_th A o = true → mcn' o = cI (a_ct A o) := by
    intro m0 b mm mco mcn mvi hb hR
    obtain ⟨z1, z2, e0, k0, k1⟩ := M_7 (N := N) (by omega) hb hR mco mcn 0
    obtain ⟨c1', t1', v1', m1, mc1, q1, q2, q3, q4⟩ := ph1M w (N := N) (by omega) (m0 := m0) hb (mcn := z2) (a_ls A).length 0 (fun _ => 0) (a_ct A) 0 mm z1 N (Nat.zero_add _) hR k0 (by omega)
    rw [List.drop_zero] at q1
    obtain ⟨a1, a2, a3⟩ := GSq_uniq (a_ls (dtA A)) q1 g1
    subst a1 a2 a3
    obtain ⟨m2, mc2, e3, r3, k3⟩ := s5 m0 b m1 mc1 z2 N hb q3 q4 (by omega)
    obtain ⟨m4, e4, r4⟩ := M_108 (N := N) (by omega) hb (mco := mc2) (mcn := z2) (mvi := nI v2) (a_ls (dtA A)).length (u_ct (dtA A) t2) m2 N (W_ct w1 t2) rfl r3 (by omega)
    refine ⟨mc2, z2, m4, ?_, r4, k3, k1⟩
    unfold fX12_runsTrial
    have q2' : fX12_runsTrial_40 N (nI b) N mm z1 z2 0 0 = fX12_runsTrial_85 N (nI b) N m1 mc1 z2 (nI v1') 0 := q2
    have e3' : fX12_runsTrial_85 N (nI b) N m1 mc1 z2 (nI v1') 0 = fX12_runsTrial_108 N (nI b) N m2 mc2 z2 (nI v2) := e3
    rw [e0, q2', e3', e4]
  have w3 : WF (clA (u_ct (dtA A) t2)) := W_cl (W_ct w1 t2)
  have hEe : ∀ o, hE (clA (u_ct (dtA A) t2)) o = hE A o := fun _ => rfl
  have hwh : ∀ o, o < 24 → decide (c2 o = 2) = true → a_th (clA (u_ct (dtA A) t2)) o = true := fun o _ q => hw2 o (decide_eq_true_eq.mp q)
  by_cases hq : ∀ o, o < 24 → ¬ (c2 o = 2 ∧ hE A o = true)
  · have hP3 := P2_cl s1
    have hJF : J B (frA (clA (u_ct (dtA A) t2)) c2 24) [] none := J_frees w3 rfl hP3 hng hbnd
    have hnt : (a_lg (clA (u_ct (dtA A) t2))).1 + 5 * nt (clA (u_ct (dtA A) t2)) < 2147460000 := by
      show (a_lg A).1 + 5 * nt A < 2147460000
      omega
    refine ⟨_, v2, hJF, fr_lgr (clA (u_ct (dtA A) t2)) c2 24, fun X zcd zgo ztd ztv zcl zca zwa zpt zpf hX => ?_, fun m0 b mm mco mcn mvi hb hR => ?_⟩
    · obtain ⟨ztd', zcl', zwa', zpt', zpf', Y, e, r, k⟩ := cpre X zcd zgo ztd ztv zcl zca zwa zpt zpf hX
      obtain ⟨rr, e1, h1⟩ := C_whiteEnd r w3 (N := N) (by omega) k
      obtain ⟨Y2, e2, r2⟩ := C_frees (N := N) (by omega) w3 hw2 hnt k r
      refine ⟨zcd, zgo, ztd', zcl', X 4, zwa', zpt', zpf', Y2, ?_, r2⟩
      rw [e, e1, b1_s, if_pos (h1.mpr hq), e2, b1_s]
    · obtain ⟨mc, mn, m4, e, r, k, kc⟩ := mpre m0 b mm mco mcn mvi hb hR
      obtain ⟨m5, e2, r2⟩ := M_frees (N := N) (by omega) w3 hw2 hnt hb r
      refine ⟨m5, mc, mn, ?_, r2⟩
      rw [e]
      unfold fX12_runsTrial_128
      rw [M_whites (by omega) k, b1_s, M_withEnds r hb w3 (by omega) hwh, b1_s, if_pos (bs_eq0.mpr (fun o ho => by
        rw [Bool.and_eq_false_iff]
        by_cases q : c2 o = 2
        · right
          cases q2 : hE (clA (u_ct (dtA A) t2)) o with
          | false => rfl
          | true => exact absurd ⟨q, q2⟩ (hq o ho)
        · left; exact decide_eq_false q)), e2, b1_s]
  · obtain ⟨A4, h1, hl, h2, h3⟩ := re_loop hN hB (c := c2) 24 0 (clA (dtA A)) (by omega) hJ3
    obtain ⟨A5, k1, kl, k2, k3⟩ := mn_loop hN (B := B) (c := c2) 24 0 A4 (by omega) h1
    refine ⟨A5, v2, k1, LGR_t hl kl, fun X zcd zgo ztd ztv zcl zca zwa zpt zpf hX => ?_, fun m0 b mm mco mcn mvi hb hR => ?_⟩
    · obtain ⟨ztd', zcl', zwa', zpt', zpf', Y, e, r, k⟩ := cpre X zcd zgo ztd ztv zcl zca zwa zpt zpf hX
      obtain ⟨rr, e1, hr⟩ := C_whiteEnd r w3 (N := N) (by omega) k
      have r2 := C_ctR (z := X 4) (t := a_ct (dtA A)) r (fun o ho => RC_h7 hX o ho)
      rw [cl_ct] at r2
      obtain ⟨z, g, Y2, e2, r3⟩ := h3 (upR Y 4 (X 4)) zcd zgo zcl' (X 4) N r2 k (by omega)
      obtain ⟨Y3, e3, r4⟩ := k3 Y2 z g zcl' (X 4) N r3 k (by omega)
      refine ⟨z, g, ztd', zcl', X 4, zwa', zpt', zpf', Y3, ?_, r4⟩
      have e2' : fX9_runsEnds_17 N zcl' (X 4) N zcd zgo (upR Y 4 (X 4)) 0 = fX9_runsEnds_66 N zcl' (X 4) N z g Y2 0 := e2
      have e3' : fX9_runsEnds_66 N zcl' (X 4) N z g Y2 0 = some (z, g, Y3) := e3
      have hre : fX9_runsEnds N zcd zgo zcl' (X 4) Y = some (z, g, Y3) := by
        unfold fX9_runsEnds
        rw [lt_e, e2', e3']
      rw [e, e1, b1_s, if_neg (fun q => hq (hr.mp q)), hre, b3_s]
    · obtain ⟨mc, mn, m4, e, r, k, kc⟩ := mpre m0 b mm mco mcn mvi hb hR
      obtain ⟨m5, e5, r5⟩ := M_2 (N := N) (by omega) (A := clA (dtA A)) hb (t := t2) (t' := a_ct A) r (mcn := mn) (p1 := bs (fun o => decide (c2 o = 2))) kc (fun o ho => by have := J_rng hJ (t := o) ho; omega)
      obtain ⟨m6, e6, r6⟩ := h2 m0 b m5 mn N hb r5 (by omega)
      obtain ⟨m7, e7, r7⟩ := k2 m0 b m6 mn N hb r6 (by omega)
      refine ⟨m7, mc, mn, ?_, r7⟩
      have e6' : fX12_runsEnds_28 N (nI b) mn (bs (fun o => decide (c2 o = 2))) N m5 0 = fX12_runsEnds_74 N (nI b) mn (bs (fun o => decide (c2 o = 2))) N m6 0 := e6
      have e7' : fX12_runsEnds_74 N (nI b) mn (bs (fun o => decide (c2 o = 2))) N m6 0 = some m7 := e7
      rw [e]
      unfold fX12_runsTrial_128
      rw [M_whites (by omega) k, b1_s, M_withEnds r hb w3 (by omega) hwh, b1_s, if_neg (fun q => hq (fun o ho q2 => by
        have := bs_eq0.mp q o ho
        rw [decide_eq_true q2.1, hEe o, q2.2] at this
        cases this)), e5, e6', e7', b1_s]
