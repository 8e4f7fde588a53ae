/-! acts: makes, trial, whole -/
theorem M_78 {N : Nat} (hN : 24 < N) {m0 mm : Nat → Int32} {b : Nat} {A : AS} (hb : b ≤ 5124) (h : RM m0 b mm A) (w : WF A) {o : Nat} (ho : o < 24) (ht : a_th A o = false) (f e : Nat) (v p4 : Int32) (mco mcn : Nat → Int32) (mvi : Int32) : ∃ mm', fX12_makesOne_78 N (nI b) (nI f) v (nI e) p4 mm mco mcn mvi (nI o) = fX12_makesOne_172 N (nI b) (nI f) v (nI e) p4 mm' mco mcn mvi (nI o) ∧ RM m0 b mm' (mk0 A o f v e) := by
  obtain ⟨mm', e1, k1, k2⟩ := M_148 (N := N) hN hb ho (p1 := nI f) (p2 := v) (p3 := nI e) (p4 := p4) (upd (upd (upd (upd (upd (upd (upd mm (b + 163 + 11 * o + 0) 1) (b + 163 + 11 * o + 1) (nI f)) (b + 163 + 11 * o + 2) v) (b + 163 + 11 * o + 3) (nI e)) (b + 163 + 11 * o + 4) 0) (b + 163 + 11 * o + 5) 0) (b + 163 + 11 * o + 6) 0) mco mcn mvi
  refine ⟨mm', ?_, M_make h w ho ht f e v (fun j hj => ?_) ?_ ?_ ?_ ?_ ?_ ?_ ?_ k2⟩
  · unfold fX12_makesOne_78
    have z0 := fun (Y : Nat → Int32) (x : Int32) => puts_n Y x (b := b) (o := o) (w := 0) hb ho (by decide)
    have z1 := fun (Y : Nat → Int32) (x : Int32) => puts_n Y x (b := b) (o := o) (w := 1) hb ho (by decide)
    have z2 := fun (Y : Nat → Int32) (x : Int32) => puts_n Y x (b := b) (o := o) (w := 2) hb ho (by decide)
    have z3 := fun (Y : Nat → Int32) (x : Int32) => puts_n Y x (b := b) (o := o) (w := 3) hb ho (by decide)
    have z4 := fun (Y : Nat → Int32) (x : Int32) => puts_n Y x (b := b) (o := o) (w := 4) hb ho (by decide)
    have z5 := fun (Y : Nat → Int32) (x : Int32) => puts_n Y x (b := b) (o := o) (w := 5) hb ho (by decide)
    have z6 := fun (Y : Nat → Int32) (x : Int32) => puts_n Y x (b := b) (o := o) (w := 6) hb ho (by decide)
    rw [show (0 : Int32) = nI 0 from rfl] at e1
    rw [if_neg (by rw [show (24 : Int32) = nI 24 from rfl, eq_n (by omega) (by omega)]; omega), show fX12_puts mm (nI b) (nI o) 0 1 = some (upd mm (b + 163 + 11 * o + 0) 1) from z0 mm 1, b1_s, show ∀ Y : Nat → Int32, fX12_puts Y (nI b) (nI o) 1 (nI f) = some (upd Y (b + 163 + 11 * o + 1) (nI f)) from fun Y => z1 Y _, b1_s, show ∀ Y : Nat → Int32, fX12_puts Y (nI b) (nI o) 2 v = some (upd Y (b + 163 + 11 * o + 2) v) from fun Y => z2 Y _, b1_s, show ∀ Y : Nat → Int32, fX12_puts Y (nI b) (nI o) 3 (nI e) = some (upd Y (b + 163 + 11 * o + 3) (nI e)) from fun Y => z3 Y _, b1_s, show ∀ Y : Nat → Int32, fX12_puts Y (nI b) (nI o) 4 0 = some (upd Y (b + 163 + 11 * o + 4) (nI 0)) from fun Y => z4 Y _, b1_s, show ∀ Y : Nat → Int32, fX12_puts Y (nI b) (nI o) 5 0 = some (upd Y (b + 163 + 11 * o + 5) (nI 0)) from fun Y => z5 Y _, b1_s, show ∀ Y : Nat → Int32, fX12_puts Y (nI b) (nI o) 6 0 = some (upd Y (b + 163 + 11 * o + 6) (nI 0)) from fun Y => z6 Y _, b1_s]
    exact e1
  · rw [k1 _ (by omega), pk_un (by omega), pk_un (by omega), pk_un (by omega), pk_un (by omega), pk_un (by omega), pk_un (by omega), pk_un (by omega)]
  · rw [k1 _ (by omega), pk_un (by omega), pk_un (by omega), pk_un (by omega), pk_un (by omega), pk_un (by omega), pk_un (by omega), Nat.add_zero, pk_us]
  · rw [k1 _ (by omega), pk_un (by omega), pk_un (by omega), pk_un (by omega), pk_un (by omega), pk_un (by omega), pk_us]
  · rw [k1 _ (by omega), pk_un (by omega), pk_un (by omega), pk_un (by omega), pk_un (by omega), pk_us]
  · rw [k1 _ (by omega), pk_un (by omega), pk_un (by omega), pk_un (by omega), pk_us]
  · rw [k1 _ (by omega), pk_un (by omega), pk_un (by omega), pk_us]
  · rw [k1 _ (by omega), pk_un (by omega), pk_us]
  · rw [k1 _ (by omega), pk_us]
theorem M_54 {N : Nat} (hN : 24 < N) {m0 mm : Nat → Int32} {b : Nat} {A : AS} (hb : b ≤ 5124) (h : RM m0 b mm A) (p1 p2 p3 p4 : Int32) (mco mcn : Nat → Int32) (mvi : Int32) {o : Nat} (ho : o ≤ 24) (h1 : o < 24 → a_th A o = false) (h2 : ∀ j, j < o → a_th A j = true) : fX12_makesOne_54 N (nI b) p1 p2 p3 p4 N mm mco mcn mvi 0 = fX12_makesOne_78 N (nI b) p1 p2 p3 p4 mm mco mcn mvi (nI o) := by
  have step : ∀ n j, j < 24 → fX12_makesOne_54 N (nI b) p1 p2 p3 p4 (n + 1) mm mco mcn mvi (nI j) = if a_th A j then fX12_makesOne_54 N (nI b) p1 p2 p3 p4 n mm mco mcn mvi (nI (j + 1)) else fX12_makesOne_78 N (nI b) p1 p2 p3 p4 mm mco mcn mvi (nI j) := by
    intro n j hj
    show fX12_makesOne_54b N (nI b) p1 p2 p3 p4 (fX12_makesOne_54 N (nI b) p1 p2 p3 p4 n) mm mco mcn mvi (nI j) = _
    unfold fX12_makesOne_54b
    rw [if_neg (by rw [le_24 (by omega)]; omega), M_of0 h hb hj, b1_s, nI_1]
    cases a_th A j <;> rfl
  have skip : ∀ o, o ≤ 24 → (∀ j, j < o → a_th A j = true) → ∀ n, fX12_makesOne_54 N (nI b) p1 p2 p3 p4 (n + o) mm mco mcn mvi (nI 0) = fX12_makesOne_54 N (nI b) p1 p2 p3 p4 n mm mco mcn mvi (nI o) := by
    intro o
    induction o with
    | zero => intro _ _ n; rfl
    | succ o ih =>
      intro ho hj n
      rw [show n + (o + 1) = n + 1 + o by omega, ih (by omega) (fun j q => hj j (by omega)) (n + 1), step n o (by omega), hj o (by omega), if_pos rfl]
  have e := skip o ho h2 ((N - o - 1) + 1)
  rw [show (N - o - 1) + 1 + o = N by omega] at e
  have e' : fX12_makesOne_54 N (nI b) p1 p2 p3 p4 N mm mco mcn mvi 0 = fX12_makesOne_54 N (nI b) p1 p2 p3 p4 ((N - o - 1) + 1) mm mco mcn mvi (nI o) := e
  rw [e']
  by_cases q : o < 24
  · rw [step _ o q, h1 q, if_neg (by decide)]
  · show fX12_makesOne_54b N (nI b) p1 p2 p3 p4 (fX12_makesOne_54 N (nI b) p1 p2 p3 p4 (N - o - 1)) mm mco mcn mvi (nI o) = _
    unfold fX12_makesOne_54b
    rw [if_pos (by rw [le_24 (by omega)]; omega)]
/-- makes: refused by r (below 0), or the object o is made -/
theorem T_makes {N B : Nat} (hN : 200000 ≤ N) (hB : B + 8 ≤ 2147400000) {A : AS} (hJ : J B A [] none) (p1 p2 p3 p4 : Int32) : ∃ r q A' l, J (B + 8) A' [] none ∧ LGR (a_lg A) (a_lg A') ∧ CDo N 110 p1 p2 p3 p4 A A' r ∧ MDo (fun mm d mco mcn mvi => fX12_makesOne N mm d mco mcn mvi p1 p2 p3 p4) A A' q ∧ (∀ X, RC X A → fX3_leastFree N X = some l) ∧ ((r < 0 ∧ q = r ∧ A' = A) ∨ (r = nI (dt A A') ∧ ∃ o, o < 24 ∧ q = nI o ∧ l = nI o)) := by
  have w := hJ.1
  have ⟨l, hl⟩ : ∃ l, ∀ X, RC X A → fX3_leastFree N X = some l := by
    rcases free_or A with ⟨o, h1, h2, h3⟩ | h
    · exact ⟨nI o, fun X hX => (C_leastFree hX (N := N) (by omega)).1 o h1 h2 h3⟩
    · exact ⟨-1, fun X hX => (C_leastFree hX (N := N) (by omega)).2 h⟩
  have ref : ∀ r : Int32, r < 0 → ¬ 0 ≤ r → (∀ X, RC X A → fX1_refusesMake N p1 p2 p3 p4 X = some r) → (∀ (m0 : Nat → Int32) (b : Nat) (mm mco mcn : Nat → Int32) (mvi : Int32), b ≤ 5124 → RM m0 b mm A → fX12_makesOne N mm (nI b) mco mcn mvi p1 p2 p3 p4 = some (r, mm, mco, mcn, mvi)) → ∃ r q A' l, J (B + 8) A' [] none ∧ LGR (a_lg A) (a_lg A') ∧ CDo N 110 p1 p2 p3 p4 A A' r ∧ MDo (fun mm d mco mcn mvi => fX12_makesOne N mm d mco mcn mvi p1 p2 p3 p4) A A' q ∧ (∀ X, RC X A → fX3_leastFree N X = some l) ∧ ((r < 0 ∧ q = r ∧ A' = A) ∨ (r = nI (dt A A') ∧ ∃ o, o < 24 ∧ q = nI o ∧ l = nI o)) := by
    intro r hr hr2 h1 h2
    refine ⟨r, r, A, l, J_up hJ (by omega), LGR_r _, fun X zcd zgo ztd ztv zcl zca zwa zpt zpf hX => ⟨zcd, zgo, ztd, ztv, zcl, zca, zwa, zpt, zpf, X, ?_, hX⟩, fun m0 b mm mco mcn mvi hb hR => ⟨mm, mco, mcn, mvi, h2 m0 b mm mco mcn mvi hb hR, hR⟩, hl, Or.inl ⟨hr, rfl, rfl⟩⟩
    unfold fX1_does fX1_refuses
    rw [if_neg (by decide), if_pos rfl, h1 X hX, b1_s, b1_s, if_neg hr2]
  have c1 : fX1_isWithin p1 0 4 = some (bI (decide ((0 : Nat) ≤ p1.toInt ∧ p1.toInt ≤ (4 : Nat)))) := lit_within 0 4 rfl rfl p1
  have m1 : fX12_in p1.toInt64 0 4 = some (bI (decide ((0 : Nat) ≤ p1.toInt ∧ p1.toInt ≤ (4 : Nat)))) := lit_in 0 4 rfl rfl rfl rfl p1
  have c2 : fX1_isWithin p2 1 9 = some (bI (decide ((1 : Nat) ≤ p2.toInt ∧ p2.toInt ≤ (9 : Nat)))) := lit_within 1 9 rfl rfl p2
  have m2 : fX12_in p2.toInt64 1 9 = some (bI (decide ((1 : Nat) ≤ p2.toInt ∧ p2.toInt ≤ (9 : Nat)))) := lit_in 1 9 rfl rfl rfl rfl p2
  have c3 : fX1_isWithin p3 0 7 = some (bI (decide ((0 : Nat) ≤ p3.toInt ∧ p3.toInt ≤ (7 : Nat)))) := lit_within 0 7 rfl rfl p3
  have m3 : fX12_in p3.toInt64 0 7 = some (bI (decide ((0 : Nat) ≤ p3.toInt ∧ p3.toInt ≤ (7 : Nat)))) := lit_in 0 7 rfl rfl rfl rfl p3
  have c4 : fX1_isWithin p4 0 5 = some (bI (decide ((0 : Nat) ≤ p4.toInt ∧ p4.toInt ≤ (5 : Nat)))) := lit_within 0 5 rfl rfl p4
  have m4 : fX12_in p4.toInt64 0 5 = some (bI (decide ((0 : Nat) ≤ p4.toInt ∧ p4.toInt ≤ (5 : Nat)))) := lit_in 0 5 rfl rfl rfl rfl p4
  by_cases q1 : ((0 : Nat) : Int) ≤ p1.toInt ∧ p1.toInt ≤ (4 : Nat)
  case neg =>
    rw [decide_eq_false q1] at c1 m1
    refine ref (-1) (by decide) (by decide) (fun X hX => ?_) (fun m0 b mm mco mcn mvi hb hR => ?_)
    · unfold fX1_refusesMake; rw [c1, b1_s, if_pos (by decide)]
    · unfold fX12_makesOne; rw [m1, b1_s, if_pos (by decide)]
  rw [decide_eq_true q1] at c1 m1
  by_cases q2 : ((1 : Nat) : Int) ≤ p2.toInt ∧ p2.toInt ≤ (9 : Nat)
  case neg =>
    rw [decide_eq_false q2] at c2 m2
    refine ref (-1) (by decide) (by decide) (fun X hX => ?_) (fun m0 b mm mco mcn mvi hb hR => ?_)
    · unfold fX1_refusesMake; rw [c1, b1_s, if_neg (by decide), c2, b1_s, if_pos (by decide)]
    · unfold fX12_makesOne; rw [m1, b1_s, if_neg (by decide), m2, b1_s, if_pos (by decide)]
  rw [decide_eq_true q2] at c2 m2
  by_cases q3 : ((0 : Nat) : Int) ≤ p3.toInt ∧ p3.toInt ≤ (7 : Nat)
  case neg =>
    rw [decide_eq_false q3] at c3 m3
    refine ref (-1) (by decide) (by decide) (fun X hX => ?_) (fun m0 b mm mco mcn mvi hb hR => ?_)
    · unfold fX1_refusesMake; rw [c1, b1_s, if_neg (by decide), c2, b1_s, if_neg (by decide), c3, b1_s, if_pos (by decide)]
    · unfold fX12_makesOne; rw [m1, b1_s, if_neg (by decide), m2, b1_s, if_neg (by decide), m3, b1_s, if_pos (by decide)]
  rw [decide_eq_true q3] at c3 m3
  by_cases q4 : ((0 : Nat) : Int) ≤ p4.toInt ∧ p4.toInt ≤ (5 : Nat)
  case neg =>
    rw [decide_eq_false q4] at c4 m4
    refine ref (-1) (by decide) (by decide) (fun X hX => ?_) (fun m0 b mm mco mcn mvi hb hR => ?_)
    · unfold fX1_refusesMake; rw [c1, b1_s, if_neg (by decide), c2, b1_s, if_neg (by decide), c3, b1_s, if_neg (by decide), c4, b1_s, if_pos (by decide)]
    · unfold fX12_makesOne; rw [m1, b1_s, if_neg (by decide), m2, b1_s, if_neg (by decide), m3, b1_s, if_neg (by decide), m4, b1_s, if_pos (by decide)]
  rw [decide_eq_true q4] at c4 m4
  obtain ⟨ef, hf⟩ := nI_back (p := p1) (by omega)
  have hf4 : p1.toInt.toNat ≤ 4 := by omega
  obtain ⟨ee, he⟩ := nI_back (p := p3) (by omega)
  have he7 : p3.toInt.toNat ≤ 7 := by omega
  obtain ⟨er, hr⟩ := nI_back (p := p4) (by omega)
  have hr6 : p4.toInt.toNat < 6 := by omega
  generalize p1.toInt.toNat = f at *
  generalize p3.toInt.toNat = e at *
  generalize p4.toInt.toNat = ro at *
  subst ef ee er
  rcases free_or A with ⟨o, h1, h2, h3⟩ | hfull
  · have hlX : ∀ X, RC X A → fX3_leastFree N X = some (nI o) := fun X hX => (C_leastFree hX (N := N) (by omega)).1 o h1 h2 h3
    have hlg := J_lg hJ (by decide) (by omega)
    have hJ1 := J_make hJ h1 h2 hf4 he7 p2
    have hto : a_th (mkA A o f p2 e) o = true := by show fs (a_th A) o true o = true; rw [fs_s]
    obtain ⟨A1, j1, l1, ml, cl⟩ := T_layR (N := N) (v := some o) (by omega) hB hJ1 hr6 (fun u q => by cases q; exact hto)
    have l0 : LGR (a_lg A) (a_lg (mkA A o f p2 e)) := LGR_a (mk0 A o f p2 e) 0 o
    obtain ⟨A', g1, g2, g3, g4⟩ := T_rows hN hB j1 (LGR_t l0 l1.2.2.2.2.2.2.2)
    refine ⟨nI (dt A A'), nI o, A', nI o, g1, g2, fun X zcd zgo ztd ztv zcl zca zwa zpt zpf hX => ?_, fun m0 b mm mco mcn mvi hb hR => ?_, hlX, Or.inr ⟨rfl, o, h1, rfl, rfl⟩⟩
    · obtain ⟨X1, ea, ra⟩ := C_make hX w h1 h2 f e p2 (by omega) (N := N) (by omega)
      obtain ⟨z, g, Y, e3, r⟩ := cl X1 zcd zgo ra
      have e' : fX2_laysRoot N zcd zgo X1 (nI ro) (nI o) = some (z, g, Y) := e3
      obtain ⟨z1, z2, z3, z4, z5, z6, z7, z8, z9, X', e2, r2⟩ := g3 110 (nI f) p2 (nI e) (nI ro) Y X z g ztd ztv zcl zca zwa zpt zpf hX r (by decide) (by decide)
      refine ⟨z1, z2, z3, z4, z5, z6, z7, z8, z9, X', ?_, r2⟩
      have cref : fX1_refusesMake N (nI f) p2 (nI e) (nI ro) X = some 0 := by
        unfold fX1_refusesMake
        rw [c1, b1_s, if_neg (by decide), c2, b1_s, if_neg (by decide), c3, b1_s, if_neg (by decide), c4, b1_s, if_neg (by decide), hlX X hX, b1_s, if_neg (nI_ne1 (by omega))]
      unfold fX1_does fX1_refuses
      rw [if_neg (by decide), if_pos rfl, cref, b1_s, b1_s, if_pos (by decide), if_neg (by decide), if_pos rfl, hlX X hX, b1_s, ea, b1_s, e', b3_s, e2]
    · obtain ⟨m78, e78, r78⟩ := M_78 (N := N) (by omega) hb hR w h1 h2 f e p2 (nI ro) mco mcn mvi
      obtain ⟨m5, e5, r5⟩ := M_log r78 hb (kd := 0) (o := o) (by decide) (by show (a_lg A).1 < _; omega)
      have e5' : fX12_logs m78 (nI b) 0 (nI o) = some m5 := e5
      obtain ⟨m6, e6, r6⟩ := ml m0 b m5 hb r5
      have e6' : fX12_laysRoot N m5 (nI b) (nI ro) (nI o) = some m6 := e6
      obtain ⟨m7, mc7, mn7, mv7, e7, r7, _, _⟩ := g4 m0 m0 b mm m6 mco mcn mvi hb hR r6
      refine ⟨m7, mc7, mn7, mv7, ?_, r7⟩
      show fX12_makesOne N mm (nI b) mco mcn mvi (nI f) p2 (nI e) (nI ro) = _
      unfold fX12_makesOne
      rw [m1, b1_s, if_neg (by decide), m2, b1_s, if_neg (by decide), m3, b1_s, if_neg (by decide), m4, b1_s, if_neg (by decide), M_54 (N := N) (by omega) hb hR _ _ _ _ mco mcn mvi (o := o) (by omega) (fun _ => h2) h3, e78]
      unfold fX12_makesOne_172
      rw [e5', b1_s, e6', b1_s, e7, b4_s]
  · refine ref (-2) (by decide) (by decide) (fun X hX => ?_) (fun m0 b mm mco mcn mvi hb hR => ?_)
    · unfold fX1_refusesMake
      rw [c1, b1_s, if_neg (by decide), c2, b1_s, if_neg (by decide), c3, b1_s, if_neg (by decide), c4, b1_s, if_neg (by decide), (C_leastFree hX (N := N) (by omega)).2 hfull, b1_s, if_pos rfl]
    · unfold fX12_makesOne
      rw [m1, b1_s, if_neg (by decide), m2, b1_s, if_neg (by decide), m3, b1_s, if_neg (by decide), m4, b1_s, if_neg (by decide), M_54 (N := N) (by omega) hb hR _ _ _ _ mco mcn mvi (o := 24) (by omega) (fun q => by omega) hfull]
      unfold fX12_makesOne_78
      rw [if_pos (by decide)]
theorem M_freed {m0 mm : Nat → Int32} {b : Nat} {A : AS} (h : RM m0 b mm A) (hb : b ≤ 5124) : fX12_freedMany mm (nI b) = some ((a_lg A).2.2.2 1 + (a_lg A).2.2.2 2) := by
  have h5 := h.2.2.2.2.1
  unfold fX12_freedMany
  rw [show nI b + 3 + 1 = nI (b + 3 + 1) from ad_c b 3 1, show nI b + 3 + 2 = nI (b + 3 + 2) from ad_c b 3 2, inb_n (by omega) (by decide), inb_n (by omega) (by decide), grd_t, grd_t, cl_n (by omega), cl_n (by omega), h5 1 (by decide), h5 2 (by decide)]
/-- trial by hand -/
theorem T_tr1 {N B : Nat} (hN : 200000 ≤ N) (hB : B ≤ 900000000) {A : AS} (hJ : J B A [] none) (p1 p2 p3 p4 : Int32) : ∃ r q A' v, J B A' [] none ∧ LGR (a_lg A) (a_lg A') ∧
    ((r < 0 ∧ q = r ∧ A' = A ∧ CDo N 116 p1 p2 p3 p4 A A' r ∧ ∀ (m0 : Nat → Int32) (b : Nat) (mm mco mcn : Nat → Int32) (mvi men : Int32), b ≤ 5124 → RM m0 b mm A → fX12_trialOne N mm (nI b) mco mcn mvi men = some (r, mm, mco, mcn, mvi, men)) ∨
     (r = nI (dt A A') ∧ q = fk A A' ∧ 0 ≤ q ∧ (a_ls A).length ≠ 0 ∧ CTr N A A' v ∧ MTr N A A' v ∧
      (∀ (X : Nat → Nat → Int32) (zcd : Int32) (zgo : Nat → Int32) (ztd ztv : Int32) (zcl zca zwa zpt zpf : Nat → Int32), RC X A → ∃ zcd' zgo' ztd' zcl' zca' zwa' zpt' zpf' X', fX1_does N 116 p1 p2 p3 p4 zcd zgo ztd ztv zcl zca zwa zpt zpf X = some (r, zcd', zgo', ztd', nI v, zcl', zca', zwa', zpt', zpf', X') ∧ RC X' A') ∧
      ∀ (m0 : Nat → Int32) (b : Nat) (mm mco mcn : Nat → Int32) (mvi men : Int32), b ≤ 5124 → RM m0 b mm A → ∃ mm' mco' mcn', fX12_trialOne N mm (nI b) mco mcn mvi men = some (q, mm', mco', mcn', nI v, ek A A') ∧ RM m0 b mm' A')) := by
  have w := hJ.1
  have hlen := W_len w
  by_cases q0 : (a_ls A).length = 0
  · refine ⟨-2, -2, A, 0, hJ, LGR_r _, Or.inl ⟨by decide, rfl, rfl, fun X zcd zgo ztd ztv zcl zca zwa zpt zpf hX => ⟨zcd, zgo, ztd, ztv, zcl, zca, zwa, zpt, zpf, X, ?_, hX⟩, fun m0 b mm mco mcn mvi men hb hR => ?_⟩⟩
    · unfold fX1_does fX1_refuses
      rw [if_neg (by decide), if_neg (by decide), if_neg (by decide), if_neg (by decide), if_pos rfl, RC_h11 hX, q0, if_pos (show nI 0 = 0 from rfl), b1_s, if_neg (by decide)]
    · unfold fX12_trialOne
      rw [M_listed hR hb, b1_s, q0, if_pos (show nI 0 = 0 from rfl)]
  · obtain ⟨A', v, g1, g2, g3, g4⟩ := T_trial hN (by omega) hJ
    have hlg' : (a_lg A').1 < 1000000000 := by
      have : (a_lg A').1 + 5 * nt A' + 2 * un A' ≤ B + 0 := g1.2.2.2.2.2
      omega
    obtain ⟨n, en, hn⟩ := fk_pos g2 hlg'
    refine ⟨nI (dt A A'), fk A A', A', v, g1, g2, Or.inr ⟨rfl, rfl, by rw [en]; exact nI_pos' (by omega), q0, g3, g4, fun X zcd zgo ztd ztv zcl zca zwa zpt zpf hX => ?_, fun m0 b mm mco mcn mvi men hb hR => ?_⟩⟩
    · obtain ⟨z1, z2, z3, z4, z5, z6, z7, z8, X', e, r⟩ := g3 X zcd zgo ztd ztv zcl zca zwa zpt zpf hX
      refine ⟨z1, z2, z3, z4, z5, z6, z7, z8, X', ?_, r⟩
      unfold fX1_does fX1_refuses
      rw [if_neg (by decide), if_neg (by decide), if_neg (by decide), if_neg (by decide), if_pos rfl, RC_h11 hX, if_neg (by rw [eq_0 (by omega)]; exact q0), b1_s, if_pos (by decide), if_neg (by decide), if_neg (by decide), if_neg (by decide), if_neg (by decide), if_neg (by decide)]
      unfold fX1_does_215
      rw [e, b10_s]
      unfold fX1_does_223 fX1_does_263
      rw [if_neg (by decide), if_pos rfl, RC_h15 r, RC_h15 hX, lg_dt g2]
    · obtain ⟨m1, mc1, mn1, e, r⟩ := g4 m0 b mm mco mcn mvi hb hR
      refine ⟨m1, mc1, mn1, ?_, r⟩
      have a1 := hR.2.2.2.2.1 3 (by decide)
      have a2 := r.2.2.2.2.1 3 (by decide)
      unfold fX12_trialOne
      rw [M_listed hR hb, b1_s, if_neg (by rw [eq_0 (by omega)]; exact q0), M_freed hR hb, b1_s, show nI b + 3 + 3 = nI (b + 3 + 3) from ad_c b 3 3, inb_n (by omega) (by decide), grd_t, cl_n (by omega), lt_e, e, b4_s, grd_t, lt_e, M_freed r hb, b1_s, a1, a2]
      rfl
