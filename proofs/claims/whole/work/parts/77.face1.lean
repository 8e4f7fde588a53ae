/-! simple questions; undo, keep, again -/
theorem M_weakN {m0 mm : Nat → Int32} {A : AS} (h : RM m0 0 mm A) : RTS (fun t i => if t = 6 then oI (a_rt A i) else oI (a_wk A i)) mm 0 := ⟨fun k hk => (h.2.2.2.2.2.2.1 k hk).symm, fun k hk => (h.2.2.2.2.2.2.2.1 k hk).symm⟩
theorem RTS_of {m0 mm X} {A : AS} (hX : RC X A) (h : RM m0 0 mm A) : RTS X mm 0 := ⟨fun k hk => by rw [RC_h9 hX k hk]; exact (h.2.2.2.2.2.2.1 k hk).symm, fun k hk => by rw [RC_h10 hX k hk]; exact (h.2.2.2.2.2.2.2.1 k hk).symm⟩
def wsn (W : Nat → Int32) (p : Nat → Bool) : Nat → Int32
  | 0 => 0
  | n + 1 => wsn W p n + (if p n then W n else 0)
theorem bI_mul (x : Bool) (y : Int32) : bI x * y = if x then y else 0 := by
  cases x with
  | true => show 1 * y = y; exact Int32.one_mul y
  | false => show 0 * y = 0; exact Int32.zero_mul
theorem C_weightOf {X : Nat → Nat → Int32} {A : AS} (h : RC X A) (p : Nat → Bool) {N : Nat} (hN : 24 < N) : fX3_weightOf N X (bs p) = some (wsn (a_wt A) p 24) := by
  have hs : ∀ (n j : Nat) (s : Unit), j < 24 → True → (∃ s' : Unit, True ∧ fX3_weightOf_4 N X (bs p) (n + 1) (wsn (a_wt A) p j) (nI j) = fX3_weightOf_4 N X (bs p) n (wsn (a_wt A) p (j + 1)) (nI (j + 1))) ∨ ∃ r, fX3_weightOf_4 N X (bs p) (n + 1) (wsn (a_wt A) p j) (nI j) = some r ∧ r = wsn (a_wt A) p 24 := by
    intro n j s hj _
    left
    refine ⟨(), trivial, ?_⟩
    show fX3_weightOf_4b N X (bs p) (fX3_weightOf_4 N X (bs p) n) (wsn (a_wt A) p j) (nI j) = fX3_weightOf_4 N X (bs p) n (wsn (a_wt A) p j + (if p j then a_wt A j else 0)) (nI (j + 1))
    unfold fX3_weightOf_4b fX11_bit
    rw [if_neg (by rw [le_24 (by omega)]; omega), bs_bit _ hj, b1_s, inb_n hj (by decide), grd_t, cl_n (by omega), RC_h5 h j hj, bI_mul, lt_e, nI_1]
  have he : ∀ (n : Nat) (s : Unit), True → ∃ r, fX3_weightOf_4 N X (bs p) (n + 1) (wsn (a_wt A) p 24) (nI 24) = some r ∧ r = wsn (a_wt A) p 24 := by
    intro n s _
    refine ⟨_, ?_, rfl⟩
    show fX3_weightOf_4b N X (bs p) (fX3_weightOf_4 N X (bs p) n) (wsn (a_wt A) p 24) (nI 24) = _
    unfold fX3_weightOf_4b
    rw [if_pos (by rw [le_24 (by omega)]; omega)]
  obtain ⟨r, e, hr⟩ := lpC (fun n j (_ : Unit) => fX3_weightOf_4 N X (bs p) n (wsn (a_wt A) p j) (nI j)) (fun _ _ => True) (fun r => r = wsn (a_wt A) p 24) 24 hs he N 0 () (by omega) trivial (by omega)
  rw [← hr]
  exact e
theorem M_weights {m0 mm : Nat → Int32} {b : Nat} {A : AS} (h : RM m0 b mm A) (hb : b ≤ 5124) {p : Nat → Bool} (hp : ∀ x, x < 24 → p x = true → a_th A x = true) {N : Nat} (hN : 24 < N) : fX12_weights N mm (nI b) (bs p) = some (wsn (a_wt A) p 24) := by
  have hs : ∀ (n j : Nat) (s : Unit), j < 24 → True → (∃ s' : Unit, True ∧ fX12_weights_4 N mm (nI b) (bs p) (n + 1) (wsn (a_wt A) p j) (nI j) = fX12_weights_4 N mm (nI b) (bs p) n (wsn (a_wt A) p (j + 1)) (nI (j + 1))) ∨ ∃ r, fX12_weights_4 N mm (nI b) (bs p) (n + 1) (wsn (a_wt A) p j) (nI j) = some r ∧ r = wsn (a_wt A) p 24 := by
    intro n j s hj _
    left
    refine ⟨(), trivial, ?_⟩
    show fX12_weights_4b N mm (nI b) (bs p) (fX12_weights_4 N mm (nI b) (bs p) n) (wsn (a_wt A) p j) (nI j) = fX12_weights_4 N mm (nI b) (bs p) n (wsn (a_wt A) p j + (if p j then a_wt A j else 0)) (nI (j + 1))
    unfold fX12_weights_4b
    rw [if_neg (by rw [le_24 (by omega)]; omega), M_has _ hj, b1_s, nI_1, bI_if]
    cases q : p j with
    | false => rfl
    | true => rw [if_pos rfl, M_of2 h hb hj (hp j hj q), b1_s]; rfl
  have he : ∀ (n : Nat) (s : Unit), True → ∃ r, fX12_weights_4 N mm (nI b) (bs p) (n + 1) (wsn (a_wt A) p 24) (nI 24) = some r ∧ r = wsn (a_wt A) p 24 := by
    intro n s _
    refine ⟨_, ?_, rfl⟩
    show fX12_weights_4b N mm (nI b) (bs p) (fX12_weights_4 N mm (nI b) (bs p) n) (wsn (a_wt A) p 24) (nI 24) = _
    unfold fX12_weights_4b
    rw [if_pos (by rw [le_24 (by omega)]; omega)]
  obtain ⟨r, e, hr⟩ := lpC (fun n j (_ : Unit) => fX12_weights_4 N mm (nI b) (bs p) n (wsn (a_wt A) p j) (nI j)) (fun _ _ => True) (fun r => r = wsn (a_wt A) p 24) 24 hs he N 0 () (by omega) trivial (by omega)
  rw [← hr]
  exact e
theorem C_ctog {X : Nat → Nat → Int32} {A : AS} (h : RC X A) {N : Nat} (hN : 24 < N) : fX3_countsTogether N X = some (wsn (fun o => cI (a_ct A o)) (a_th A) 24) := by
  have hs : ∀ (n j : Nat) (s : Unit), j < 24 → True → (∃ s' : Unit, True ∧ fX3_countsTogether_4 N X (n + 1) (wsn (fun o => cI (a_ct A o)) (a_th A) j) (nI j) = fX3_countsTogether_4 N X n (wsn (fun o => cI (a_ct A o)) (a_th A) (j + 1)) (nI (j + 1))) ∨ ∃ r, fX3_countsTogether_4 N X (n + 1) (wsn (fun o => cI (a_ct A o)) (a_th A) j) (nI j) = some r ∧ r = wsn (fun o => cI (a_ct A o)) (a_th A) 24 := by
    intro n j s hj _
    left
    refine ⟨(), trivial, ?_⟩
    show fX3_countsTogether_4b N X (fX3_countsTogether_4 N X n) (wsn (fun o => cI (a_ct A o)) (a_th A) j) (nI j) = fX3_countsTogether_4 N X n (wsn (fun o => cI (a_ct A o)) (a_th A) j + (if a_th A j then cI (a_ct A j) else 0)) (nI (j + 1))
    unfold fX3_countsTogether_4b fX11_bit
    rw [if_neg (by rw [le_24 (by omega)]; omega), RC_h1 h, bs_bit _ hj, b1_s, inb_n hj (by decide), grd_t, cl_n (by omega), RC_h7 h j hj, bI_mul, lt_e, nI_1]
  have he : ∀ (n : Nat) (s : Unit), True → ∃ r, fX3_countsTogether_4 N X (n + 1) (wsn (fun o => cI (a_ct A o)) (a_th A) 24) (nI 24) = some r ∧ r = wsn (fun o => cI (a_ct A o)) (a_th A) 24 := by
    intro n s _
    refine ⟨_, ?_, rfl⟩
    show fX3_countsTogether_4b N X (fX3_countsTogether_4 N X n) (wsn (fun o => cI (a_ct A o)) (a_th A) 24) (nI 24) = _
    unfold fX3_countsTogether_4b
    rw [if_pos (by rw [le_24 (by omega)]; omega)]
  obtain ⟨r, e, hr⟩ := lpC (fun n j (_ : Unit) => fX3_countsTogether_4 N X n (wsn (fun o => cI (a_ct A o)) (a_th A) j) (nI j)) (fun _ _ => True) (fun r => r = wsn (fun o => cI (a_ct A o)) (a_th A) 24) 24 hs he N 0 () (by omega) trivial (by omega)
  rw [← hr]
  exact e
theorem M_ctog {m0 mm : Nat → Int32} {b : Nat} {A : AS} (h : RM m0 b mm A) (hb : b ≤ 5124) {N : Nat} (hN : 24 < N) : fX12_countsOfAll N mm (nI b) = some (wsn (fun o => cI (a_ct A o)) (a_th A) 24) := by
  have hs : ∀ (n j : Nat) (s : Unit), j < 24 → True → (∃ s' : Unit, True ∧ fX12_countsOfAll_4 N mm (nI b) (n + 1) (wsn (fun o => cI (a_ct A o)) (a_th A) j) (nI j) = fX12_countsOfAll_4 N mm (nI b) n (wsn (fun o => cI (a_ct A o)) (a_th A) (j + 1)) (nI (j + 1))) ∨ ∃ r, fX12_countsOfAll_4 N mm (nI b) (n + 1) (wsn (fun o => cI (a_ct A o)) (a_th A) j) (nI j) = some r ∧ r = wsn (fun o => cI (a_ct A o)) (a_th A) 24 := by
    intro n j s hj _
    left
    refine ⟨(), trivial, ?_⟩
    show fX12_countsOfAll_4b N mm (nI b) (fX12_countsOfAll_4 N mm (nI b) n) (wsn (fun o => cI (a_ct A o)) (a_th A) j) (nI j) = fX12_countsOfAll_4 N mm (nI b) n (wsn (fun o => cI (a_ct A o)) (a_th A) j + (if a_th A j then cI (a_ct A j) else 0)) (nI (j + 1))
    unfold fX12_countsOfAll_4b
    rw [if_neg (by rw [le_24 (by omega)]; omega), M_isThere h hb hj, b1_s, nI_1, bI_if]
    cases q : a_th A j with
    | false => rfl
    | true => rw [if_pos rfl, M_of5 h hb hj q, b1_s]; rfl
  have he : ∀ (n : Nat) (s : Unit), True → ∃ r, fX12_countsOfAll_4 N mm (nI b) (n + 1) (wsn (fun o => cI (a_ct A o)) (a_th A) 24) (nI 24) = some r ∧ r = wsn (fun o => cI (a_ct A o)) (a_th A) 24 := by
    intro n s _
    refine ⟨_, ?_, rfl⟩
    show fX12_countsOfAll_4b N mm (nI b) (fX12_countsOfAll_4 N mm (nI b) n) (wsn (fun o => cI (a_ct A o)) (a_th A) 24) (nI 24) = _
    unfold fX12_countsOfAll_4b
    rw [if_pos (by rw [le_24 (by omega)]; omega)]
  obtain ⟨r, e, hr⟩ := lpC (fun n j (_ : Unit) => fX12_countsOfAll_4 N mm (nI b) n (wsn (fun o => cI (a_ct A o)) (a_th A) j) (nI j)) (fun _ _ => True) (fun r => r = wsn (fun o => cI (a_ct A o)) (a_th A) 24) 24 hs he N 0 () (by omega) trivial (by omega)
  rw [← hr]
  exact e
theorem M_suspects {m0 mm : Nat → Int32} {b : Nat} {A : AS} (h : RM m0 b mm A) (hb : b ≤ 5124) (w : WF A) {N : Nat} (hN : 24 < N) : fX12_suspects N mm (nI b) = some (bs (fun o => (a_ls A).contains o)) := by
  have hlen := W_len w
  have hs : ∀ (n j : Nat) (s : Unit), j < (a_ls A).length → True → (∃ s' : Unit, True ∧ fX12_suspects_4 N mm (nI b) (n + 1) (bs (fun o => ((a_ls A).take j).contains o)) (nI j) = fX12_suspects_4 N mm (nI b) n (bs (fun o => ((a_ls A).take (j + 1)).contains o)) (nI (j + 1))) ∨ ∃ r, fX12_suspects_4 N mm (nI b) (n + 1) (bs (fun o => ((a_ls A).take j).contains o)) (nI j) = some r ∧ r = bs (fun o => (a_ls A).contains o) := by
    intro n j s hj _
    left
    refine ⟨(), trivial, ?_⟩
    show fX12_suspects_4b N mm (nI b) (fX12_suspects_4 N mm (nI b) n) _ (nI j) = _
    unfold fX12_suspects_4b
    have hx := W_l24 w _ (getD_mem hj)
    rw [M_listed h hb, b1_s, if_neg (by rw [le_n (by omega) (by omega)]; omega), M_onList h hb hj, b1_s, bs_set _ hx, nI_1]
    congr 1
    exact bs_ext (fun x _ => by
      show fs (fun o => ((a_ls A).take j).contains o) ((a_ls A).getD j 0) true x = ((a_ls A).take (j + 1)).contains x
      rw [tk_s hj]
      unfold fs
      by_cases q : x = (a_ls A).getD j 0
      · rw [if_pos q, q]
        symm
        rw [List.contains_iff_mem]
        exact List.mem_append_right _ (List.mem_singleton.mpr rfl)
      · rw [if_neg q]
        show ((a_ls A).take j).contains x = _
        cases e : ((a_ls A).take j).contains x with
        | true =>
          symm
          rw [List.contains_iff_mem] at e ⊢
          exact List.mem_append_left _ e
        | false =>
          symm
          rw [Bool.eq_false_iff] at e ⊢
          intro c
          rw [List.contains_iff_mem] at c
          rcases List.mem_append.mp c with c | c
          · exact e (List.contains_iff_mem.mpr c)
          · exact q (List.mem_singleton.mp c))
  have he : ∀ (n : Nat) (s : Unit), True → ∃ r, fX12_suspects_4 N mm (nI b) (n + 1) (bs (fun o => ((a_ls A).take (a_ls A).length).contains o)) (nI (a_ls A).length) = some r ∧ r = bs (fun o => (a_ls A).contains o) := by
    intro n s _
    rw [List.take_length]
    refine ⟨_, ?_, rfl⟩
    show fX12_suspects_4b N mm (nI b) (fX12_suspects_4 N mm (nI b) n) _ (nI (a_ls A).length) = _
    unfold fX12_suspects_4b
    rw [M_listed h hb, b1_s, if_pos (by rw [le_n (by omega) (by omega)]; omega)]
  obtain ⟨r, e, hr⟩ := lpC (fun n j (_ : Unit) => fX12_suspects_4 N mm (nI b) n (bs (fun o => ((a_ls A).take j).contains o)) (nI j)) (fun _ _ => True) (fun r => r = bs (fun o => (a_ls A).contains o)) (a_ls A).length hs he N 0 () (by omega) trivial (by omega)
  unfold fX12_suspects
  have e' : fX12_suspects_4 N mm (nI b) N (bs (fun _ => false)) 0 = some r := e
  rw [bs_zero] at e'
  rw [e', hr]
theorem S_sign {N : Nat} (hN : 200000 ≤ N) (j : Nat) (hj : j < 512) : ST_sign N (INV j) (INV (j + 1)) := by
  intro HS zkb zdr zky zpn zps ztz ztn zxz zxa zsg za0 za1 za2 za3 za4 zfr zcd zgo ztd ztv zcl zca zwa zpt zpf mth mto mrw mta mtp mat mtt mme mun mde mco mcn mvi men mfa mac mfi mse mtd mra mkp a1 hI
  obtain ⟨A, K, U, kb, u, pn, hc, hx, ht, hd⟩ := hI
  have hd' : mde = 0 := hd
  subst hd'
  replace hc : COR (640 * j) HS zkb zpn zps mme mun mkp A K U kb u pn := hc
  replace hx : TXT zxz zsg mta mtp := hx
  replace ht : TLD ztz ztn mto mrw := ht
  have hJ : J (640 * j) A [] none := hc.1.1
  have w := hJ.1
  have hX0 : RC (HS 0) A := hc.1.2.1
  have hR0 : RM mme 0 mme A := hc.1.2.2
  have hcu : COR (640 * (j + 1)) HS zkb zpn zps mme mun mkp A K U kb u pn := COR_up hc (by omega)
  obtain ⟨n, rfl⟩ : ∃ n, N = n + 5 := ⟨N - 5, by omega⟩
  obtain ⟨r, z1, z2, z3, z4, z5, e1, e2, h2⟩ := p_sign (n := n) (mth := mth) hx a1
  exact ⟨r, z1, z2, z3, z4, z5, e1, e2, A, K, U, kb, u, pn, hcu, h2, ht, rfl⟩
theorem S_end {N : Nat} (hN : 200000 ≤ N) (j : Nat) (hj : j < 512) : ST_end N (INV j) (INV (j + 1)) := by
  intro HS zkb zdr zky zpn zps ztz ztn zxz zxa zsg za0 za1 za2 za3 za4 zfr zcd zgo ztd ztv zcl zca zwa zpt zpf mth mto mrw mta mtp mat mtt mme mun mde mco mcn mvi men mfa mac mfi mse mtd mra mkp a1 hI
  obtain ⟨A, K, U, kb, u, pn, hc, hx, ht, hd⟩ := hI
  have hd' : mde = 0 := hd
  subst hd'
  replace hc : COR (640 * j) HS zkb zpn zps mme mun mkp A K U kb u pn := hc
  replace hx : TXT zxz zsg mta mtp := hx
  replace ht : TLD ztz ztn mto mrw := ht
  have hJ : J (640 * j) A [] none := hc.1.1
  have w := hJ.1
  have hX0 : RC (HS 0) A := hc.1.2.1
  have hR0 : RM mme 0 mme A := hc.1.2.2
  have hcu : COR (640 * (j + 1)) HS zkb zpn zps mme mun mkp A K U kb u pn := COR_up hc (by omega)
  obtain ⟨r, z1, z3, z5, e1, e2, h2⟩ := p_end (mth := mth) hx a1
  exact ⟨r, z1, z3, z5, e1, e2, A, K, U, kb, u, pn, hcu, h2, ht, rfl⟩
theorem S_row {N : Nat} (hN : 200000 ≤ N) (j : Nat) (hj : j < 512) : ST_row N (INV j) (INV (j + 1)) := by
  intro HS zkb zdr zky zpn zps ztz ztn zxz zxa zsg za0 za1 za2 za3 za4 zfr zcd zgo ztd ztv zcl zca zwa zpt zpf mth mto mrw mta mtp mat mtt mme mun mde mco mcn mvi men mfa mac mfi mse mtd mra mkp a1 hI
  obtain ⟨A, K, U, kb, u, pn, hc, hx, ht, hd⟩ := hI
  have hd' : mde = 0 := hd
  subst hd'
  replace hc : COR (640 * j) HS zkb zpn zps mme mun mkp A K U kb u pn := hc
  replace hx : TXT zxz zsg mta mtp := hx
  replace ht : TLD ztz ztn mto mrw := ht
  have hJ : J (640 * j) A [] none := hc.1.1
  have w := hJ.1
  have hX0 : RC (HS 0) A := hc.1.2.1
  have hR0 : RM mme 0 mme A := hc.1.2.2
  have hcu : COR (640 * (j + 1)) HS zkb zpn zps mme mun mkp A K U kb u pn := COR_up hc (by omega)
  obtain ⟨r, b', m', e1, e2, h2⟩ := p_row (mth := mth) ht a1
  exact ⟨r, b', m', e1, e2, h2, A, K, U, kb, u, pn, hcu, hx, ht, rfl⟩
theorem S_root {N : Nat} (hN : 200000 ≤ N) (j : Nat) (hj : j < 512) : ST_root N (INV j) (INV (j + 1)) := by
  intro HS zkb zdr zky zpn zps ztz ztn zxz zxa zsg za0 za1 za2 za3 za4 zfr zcd zgo ztd ztv zcl zca zwa zpt zpf mth mto mrw mta mtp mat mtt mme mun mde mco mcn mvi men mfa mac mfi mse mtd mra mkp a1 hI
  obtain ⟨A, K, U, kb, u, pn, hc, hx, ht, hd⟩ := hI
  have hd' : mde = 0 := hd
  subst hd'
  replace hc : COR (640 * j) HS zkb zpn zps mme mun mkp A K U kb u pn := hc
  replace hx : TXT zxz zsg mta mtp := hx
  replace ht : TLD ztz ztn mto mrw := ht
  have hJ : J (640 * j) A [] none := hc.1.1
  have w := hJ.1
  have hX0 : RC (HS 0) A := hc.1.2.1
  have hR0 : RM mme 0 mme A := hc.1.2.2
  have hcu : COR (640 * (j + 1)) HS zkb zpn zps mme mun mkp A K U kb u pn := COR_up hc (by omega)
  obtain ⟨r, b', m', e1, e2, h2⟩ := p_root (mth := mth) (RTS_of hX0 hR0) a1
  exact ⟨r, b', m', e1, e2, h2, A, K, U, kb, u, pn, hcu, hx, ht, rfl⟩
theorem S_field {N : Nat} (hN : 200000 ≤ N) (j : Nat) (hj : j < 512) : ST_field N (INV j) (INV (j + 1)) := by
  intro HS zkb zdr zky zpn zps ztz ztn zxz zxa zsg za0 za1 za2 za3 za4 zfr zcd zgo ztd ztv zcl zca zwa zpt zpf mth mto mrw mta mtp mat mtt mme mun mde mco mcn mvi men mfa mac mfi mse mtd mra mkp a1 a2 hI
  obtain ⟨A, K, U, kb, u, pn, hc, hx, ht, hd⟩ := hI
  have hd' : mde = 0 := hd
  subst hd'
  replace hc : COR (640 * j) HS zkb zpn zps mme mun mkp A K U kb u pn := hc
  replace hx : TXT zxz zsg mta mtp := hx
  replace ht : TLD ztz ztn mto mrw := ht
  have hJ : J (640 * j) A [] none := hc.1.1
  have w := hJ.1
  have hX0 : RC (HS 0) A := hc.1.2.1
  have hR0 : RM mme 0 mme A := hc.1.2.2
  have hcu : COR (640 * (j + 1)) HS zkb zpn zps mme mun mkp A K U kb u pn := COR_up hc (by omega)
  suffices hh : ∃ (r : Option Int32) (b' m' : Int32), fX11_field HS a1 a2 = some r ∧ fX12_field mth mme 0 a1 a2 = some (b', m') ∧ ((r = none ∧ m' = 1) ∨ (r = some b' ∧ m' = 0)) by
    obtain ⟨r, b', m', e1, e2, h2⟩ := hh
    exact ⟨r, b', m', e1, e2, h2, A, K, U, kb, u, pn, hcu, hx, ht, rfl⟩
  rcases obj_or A a1 with ⟨o, e1, ho, hto⟩ | ⟨n1, n2⟩
  · subst e1
    have m1 : fX12_isThere mme 0 (nI o) = some (bI (a_th A o)) := M_isThere (b := 0) hR0 (by decide) ho
    have m2 : fX12_of mme 0 (nI o) 1 = some (nI (a_my A o)) := M_of1 (b := 0) hR0 (by decide) ho hto
    by_cases qk : 0 ≤ a2.toInt ∧ a2.toInt < a_my A o
    · have hmy := W_my w o
      obtain ⟨ek, hk⟩ := nI_back (p := a2) (by omega)
      have hk4 : a2.toInt.toNat < 4 := by omega
      have qk2 := qk
      generalize a2.toInt.toNat = k at *
      subst ek
      have m3 : fX12_fieldOf mme 0 (nI o) (nI k) = some (oI (a_fd A o k)) := M_fieldOf (b := 0) hR0 (by decide) ho hk4 hto
      refine ⟨some (oI (a_fd A o k)), oI (a_fd A o k), 0, ?_, ?_, Or.inr ⟨rfl, rfl⟩⟩
      · unfold fX11_field
        rw [C_hasField hX0 w hto, decide_eq_true qk2, b1_s, if_neg (by decide), C_fieldAt hX0 ho hk4, b1_s]
      · unfold fX12_field fX12_field_32
        rw [m1, hto, b1_s, if_neg (by decide), m2, b1_s, M_inField w o, decide_eq_true qk2, b1_s, if_neg (by decide), show fX12_flag 0 = some 0 from rfl, b1_s, if_neg (by decide), m3, b1_s]
    · refine ⟨none, 0, 1, ?_, ?_, Or.inl ⟨rfl, rfl⟩⟩
      · unfold fX11_field
        rw [C_hasField hX0 w hto, decide_eq_false qk, b1_s, if_pos (by decide)]
      · unfold fX12_field fX12_field_27 fX12_field_32
        rw [m1, hto, b1_s, if_neg (by decide), m2, b1_s, M_inField w o, decide_eq_false qk, b1_s, if_pos (by decide)]
        rfl
  · refine ⟨none, 0, 1, ?_, ?_, Or.inl ⟨rfl, rfl⟩⟩
    · unfold fX11_field fX3_hasField
      rw [n1 _ hX0, b1_s, if_pos rfl, b1_s, if_pos rfl]
    · have m1 : fX12_isThere mme 0 a1 = some 0 := n2 mme 0 mme (by decide) hR0
      unfold fX12_field fX12_field_27 fX12_field_32
      rw [m1, b1_s, if_pos rfl]
      rfl
theorem S_count {N : Nat} (hN : 200000 ≤ N) (j : Nat) (hj : j < 512) : ST_count N (INV j) (INV (j + 1)) := by
  intro HS zkb zdr zky zpn zps ztz ztn zxz zxa zsg za0 za1 za2 za3 za4 zfr zcd zgo ztd ztv zcl zca zwa zpt zpf mth mto mrw mta mtp mat mtt mme mun mde mco mcn mvi men mfa mac mfi mse mtd mra mkp a1 hI
  obtain ⟨A, K, U, kb, u, pn, hc, hx, ht, hd⟩ := hI
  have hd' : mde = 0 := hd
  subst hd'
  replace hc : COR (640 * j) HS zkb zpn zps mme mun mkp A K U kb u pn := hc
  replace hx : TXT zxz zsg mta mtp := hx
  replace ht : TLD ztz ztn mto mrw := ht
  have hJ : J (640 * j) A [] none := hc.1.1
  have w := hJ.1
  have hX0 : RC (HS 0) A := hc.1.2.1
  have hR0 : RM mme 0 mme A := hc.1.2.2
  have hcu : COR (640 * (j + 1)) HS zkb zpn zps mme mun mkp A K U kb u pn := COR_up hc (by omega)
  have hu := hc.2.2
  have m0' : fX12_thereAll N mme 0 = some (bs (a_th A)) := M_thereAll (b := 0) hR0 (by decide) (by omega)
  have m1 : fX12_listed mme 0 = some (nI (a_ls A).length) := M_listed (b := 0) hR0 (by decide)
  have m2 : mme 0 = nI (a_li A) := hR0.2.1
  have m3 : fX12_countsOfAll N mme 0 = some (wsn (fun o => cI (a_ct A o)) (a_th A) 24) := M_ctog (b := 0) hR0 (by decide) (by omega)
  have m4 : mme 2 = nI (a_lg A).1 := hR0.2.2.2.1
  have m5 : fX12_sizeOf N (bs (a_th A)) = some (nI (nt A)) := M_sizeOf (by omega) _
  suffices hh : ∃ r : Int32, fX11_count N zps ztz zxz HS a1 = some r ∧ fX12_count N mth mto mtp mme mun 0 a1 = some (r, 0) by
    obtain ⟨r, e1, e2⟩ := hh
    exact ⟨r, 0, e1, e2, A, K, U, kb, u, pn, hcu, hx, ht, rfl⟩
  unfold fX11_count fX12_count
  rw [C_objects hX0, RC_h11 hX0, RC_h3 hX0, C_ctog hX0 (by omega), RC_h15 hX0, hu.1, ← ht.1, ← hx.1, m0', m1, m3, hu.2.1, show inb 0 5551 = true from by decide, show inb 2 5551 = true from by decide, grd_t, grd_t, show (0 : Int32).toNatClampNeg = 0 from by decide, show (2 : Int32).toNatClampNeg = 2 from by decide, m2, m4]
  simp only [b1_s, m5]
  by_cases q0 : a1 = 0
  · exact ⟨_, if_pos q0, if_pos q0⟩
  rw [if_neg q0, if_neg q0]
  by_cases q1 : a1 = 1
  · exact ⟨_, if_pos q1, if_pos q1⟩
  rw [if_neg q1, if_neg q1]
  by_cases q2 : a1 = 2
  · exact ⟨_, if_pos q2, if_pos q2⟩
  rw [if_neg q2, if_neg q2]
  by_cases q3 : a1 = 3
  · exact ⟨_, if_pos q3, if_pos q3⟩
  rw [if_neg q3, if_neg q3]
  by_cases q4 : a1 = 4
  · exact ⟨_, if_pos q4, if_pos q4⟩
  rw [if_neg q4, if_neg q4]
  by_cases q5 : a1 = 5
  · exact ⟨_, if_pos q5, if_pos q5⟩
  rw [if_neg q5, if_neg q5]
  by_cases q6 : a1 = 6
  · exact ⟨_, if_pos q6, if_pos q6⟩
  rw [if_neg q6, if_neg q6]
  by_cases q7 : a1 = 7
  · exact ⟨_, if_pos q7, if_pos q7⟩
  rw [if_neg q7, if_neg q7]
  exact ⟨_, rfl, rfl⟩
theorem S_logged {N : Nat} (hN : 200000 ≤ N) (j : Nat) (hj : j < 512) : ST_logged N (INV j) (INV (j + 1)) := by
  intro HS zkb zdr zky zpn zps ztz ztn zxz zxa zsg za0 za1 za2 za3 za4 zfr zcd zgo ztd ztv zcl zca zwa zpt zpf mth mto mrw mta mtp mat mtt mme mun mde mco mcn mvi men mfa mac mfi mse mtd mra mkp a1 hI
  obtain ⟨A, K, U, kb, u, pn, hc, hx, ht, hd⟩ := hI
  have hd' : mde = 0 := hd
  subst hd'
  replace hc : COR (640 * j) HS zkb zpn zps mme mun mkp A K U kb u pn := hc
  replace hx : TXT zxz zsg mta mtp := hx
  replace ht : TLD ztz ztn mto mrw := ht
  have hJ : J (640 * j) A [] none := hc.1.1
  have w := hJ.1
  have hX0 : RC (HS 0) A := hc.1.2.1
  have hR0 : RM mme 0 mme A := hc.1.2.2
  have hcu : COR (640 * (j + 1)) HS zkb zpn zps mme mun mkp A K U kb u pn := COR_up hc (by omega)
  have mw : fX12_in a1.toInt64 0 5 = some (bI (decide ((0 : Nat) ≤ a1.toInt ∧ a1.toInt ≤ (5 : Nat)))) := lit_in 0 5 rfl rfl rfl rfl a1
  by_cases q1 : ((0 : Nat) : Int) ≤ a1.toInt ∧ a1.toInt ≤ (5 : Nat)
  · rw [decide_eq_true q1] at mw
    obtain ⟨er, hr⟩ := nI_back (p := a1) (by omega)
    have hr6 : a1.toInt.toNat < 6 := by omega
    generalize a1.toInt.toNat = k at *
    subst er
    obtain ⟨zn', mr', t1, t2, ht2⟩ := TL_1 ztz ztn mrw (nI (a_lg A).1).toInt64
    have m4 : mme 2 = nI (a_lg A).1 := hR0.2.2.2.1
    have m5 : mme (0 + 3 + k) = (a_lg A).2.2.2 k := hR0.2.2.2.2.1 k hr6
    refine ⟨(a_lg A).2.2.2 k, 1, zn', 0, 1, mr', ?_, ?_, A, K, U, kb, u, pn, hcu, hx, ht2, rfl⟩
    · unfold fX11_logged
      rw [if_neg (nI_nlt0 (by omega)), if_pos (show nI k < 6 from (ltn (j := 6) (by omega) (by omega)).mpr hr6), RC_h15 hX0, t1, b2_s, inb_n hr6 (by decide), grd_t, cl_n (by omega), RC_h18 hX0 k hr6]
    · unfold fX12_logged
      rw [mw, b1_s, if_neg (by decide), show inb 2 5551 = true from by decide, grd_t, show (2 : Int32).toNatClampNeg = 2 from by decide, m4, t2, b2_s, show (3 : Int32) + nI k = nI (0 + 3 + k) from by rw [show (3 : Int32) = nI 3 from rfl, nI_add, Nat.zero_add], inb_n (by omega) (by decide), grd_t, cl_n (by omega), m5]
  · rw [decide_eq_false q1] at mw
    refine ⟨-1, ztz, ztn, 0, mto, mrw, ?_, ?_, A, K, U, kb, u, pn, hcu, hx, ht, rfl⟩
    · unfold fX11_logged
      simp only [lt_i, i0, show (6 : Int32).toInt = 6 from by decide]
      by_cases c : a1.toInt < 0
      · rw [if_pos c]
      · rw [if_neg c, if_neg (by omega)]
    · unfold fX12_logged
      rw [mw, b1_s, if_pos (by decide)]
theorem S_all {N : Nat} (hN : 200000 ≤ N) (j : Nat) (hj : j < 512) : ST_all N (INV j) (INV (j + 1)) := by
  intro HS zkb zdr zky zpn zps ztz ztn zxz zxa zsg za0 za1 za2 za3 za4 zfr zcd zgo ztd ztv zcl zca zwa zpt zpf mth mto mrw mta mtp mat mtt mme mun mde mco mcn mvi men mfa mac mfi mse mtd mra mkp a1 hI
  obtain ⟨A, K, U, kb, u, pn, hc, hx, ht, hd⟩ := hI
  have hd' : mde = 0 := hd
  subst hd'
  replace hc : COR (640 * j) HS zkb zpn zps mme mun mkp A K U kb u pn := hc
  replace hx : TXT zxz zsg mta mtp := hx
  replace ht : TLD ztz ztn mto mrw := ht
  have hJ : J (640 * j) A [] none := hc.1.1
  have w := hJ.1
  have hX0 : RC (HS 0) A := hc.1.2.1
  have hR0 : RM mme 0 mme A := hc.1.2.2
  have hcu : COR (640 * (j + 1)) HS zkb zpn zps mme mun mkp A K U kb u pn := COR_up hc (by omega)
  have mw : fX12_in a1.toInt64 0 3 = some (bI (decide ((0 : Nat) ≤ a1.toInt ∧ a1.toInt ≤ (3 : Nat)))) := lit_in 0 3 rfl rfl rfl rfl a1
  have m0' : fX12_thereAll N mme 0 = some (bs (a_th A)) := M_thereAll (b := 0) hR0 (by decide) (by omega)
  have m1 : fX12_reached N mme 0 = some (bs (rcd A)) := M_reached (b := 0) hR0 (by decide) w (by omega)
  have m2 : fX12_suspects N mme 0 = some (bs (fun o => (a_ls A).contains o)) := M_suspects (b := 0) hR0 (by decide) w (by omega)
  have key : ∀ p : Nat → Bool, (∀ x, x < 24 → p x = true → a_th A x = true) → ∃ zn' mr', fX11_all_99 N HS a1 ztz ztn (bs p) = some (bs p, 1, zn') ∧ fX12_all_64 N mme 0 a1 0 mto mrw (bs p) = some (bs p, 0, 1, mr') ∧ TLD 1 zn' 1 mr' := by
    intro p hp
    obtain ⟨zn', mr', t1, t2, ht2⟩ := TL_1 ztz ztn mrw (wsn (a_wt A) p 24).toInt64
    have m3 : fX12_weights N mme 0 (bs p) = some (wsn (a_wt A) p 24) := M_weights (b := 0) hR0 (by decide) hp (by omega)
    refine ⟨zn', mr', ?_, ?_, ht2⟩
    · unfold fX11_all_99; rw [C_weightOf hX0 p (by omega), b1_s, t1, b2_s]
    · unfold fX12_all_64; rw [m3, b1_s, t2, b2_s]
  by_cases q1 : ((0 : Nat) : Int) ≤ a1.toInt ∧ a1.toInt ≤ (3 : Nat)
  · rw [decide_eq_true q1] at mw
    obtain ⟨er, hr⟩ := nI_back (p := a1) (by omega)
    have hr6 : a1.toInt.toNat < 4 := by omega
    generalize a1.toInt.toNat = k at *
    subst er
    suffices hh : ∃ p : Nat → Bool, (∀ x, x < 24 → p x = true → a_th A x = true) ∧ fX11_all N ztz ztn HS (nI k) = fX11_all_99 N HS (nI k) ztz ztn (bs p) ∧ fX12_all N mth mto mrw mme 0 (nI k) = fX12_all_64 N mme 0 (nI k) 0 mto mrw (bs p) by
      obtain ⟨p, hp, e1, e2⟩ := hh
      obtain ⟨zn', mr', t1, t2, ht2⟩ := key p hp
      exact ⟨bs p, 1, zn', 0, 1, mr', e1.trans t1, e2.trans t2, A, K, U, kb, u, pn, hcu, hx, ht2, rfl⟩
    unfold fX11_all fX12_all
    rw [C_reached hX0 w (by omega), RC_h1 hX0, RC_h12 hX0, b1_s, b1_s, mw, b1_s, if_neg (show ¬ bI true = 0 from by decide), m0', b1_s, m1, b1_s, b1_s, m2, b1_s, bs_andn, lt_e]
    have h4 : k = 0 ∨ k = 1 ∨ k = 2 ∨ k = 3 := by omega
    rcases h4 with h | h | h | h
    · subst h; exact ⟨a_th A, fun x _ q => q, rfl, rfl⟩
    · subst h; exact ⟨rcd A, fun x _ q => rcd_th w q, rfl, rfl⟩
    · subst h; exact ⟨fun i => a_th A i && !rcd A i, fun x _ q => (Bool.and_eq_true _ _ ▸ q : _ ∧ _).1, rfl, rfl⟩
    · subst h; exact ⟨fun o => (a_ls A).contains o, fun x _ q => W_ls w (List.contains_iff_mem.mp q), rfl, rfl⟩
  · rw [decide_eq_false q1] at mw
    have ne : ∀ k : Nat, k < 4 → ¬ a1 = nI k := fun k hk e => q1 (by rw [e, nI_toInt (by omega)]; omega)
    refine ⟨-1, ztz, ztn, 0, mto, mrw, ?_, ?_, A, K, U, kb, u, pn, hcu, hx, ht, rfl⟩
    · unfold fX11_all
      rw [if_neg (show ¬ a1 = 0 from ne 0 (by decide)), if_neg (show ¬ a1 = 1 from ne 1 (by decide)), if_neg (show ¬ a1 = 2 from ne 2 (by decide)), if_neg (show ¬ a1 = 3 from ne 3 (by decide))]
    · unfold fX12_all
      rw [mw, b1_s, if_pos (by decide)]
