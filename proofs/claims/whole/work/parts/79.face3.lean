/-! list, object, log, holders -/
theorem lpE {ρ : Type} (L : Nat → Nat → Option ρ) (e : Nat) (R : Option ρ) (hs : ∀ n j, j < e → L (n + 1) j = L n (j + 1)) (he : ∀ n, L (n + 1) e = R) : ∀ n j, j ≤ e → e - j < n → L n j = R := by
  intro n
  induction n with
  | zero => intro j _ h; omega
  | succ n ih =>
    intro j hj hm
    by_cases q : j = e
    · subst q; exact he n
    · rw [hs n j (by omega)]; exact ih (j + 1) (by omega) (by omega)
theorem lst_j {HS : Nat → Nat → Nat → Int32} {mme : Nat → Int32} {A : AS} (hX : RC (HS 0) A) (hR : RM mme 0 mme A) (N : Nat) : ∀ n k zn mr, k ≤ (a_ls A).length → TLD (nI k) zn (nI k) mr → (a_ls A).length - k < n → ∃ zn' mr', fX11_list_9 N HS n (nI k) zn (nI k) = some (nI (a_ls A).length, nI (a_ls A).length, zn') ∧ fX12_list_12 N mme 0 n 0 (nI k) mr (nI k) = some (nI (a_ls A).length, 0, nI (a_ls A).length, mr') ∧ TLD (nI (a_ls A).length) zn' (nI (a_ls A).length) mr' := by
  have hl := RM_hl hR
  have m1 : fX12_listed mme 0 = some (nI (a_ls A).length) := M_listed (b := 0) hR (by decide)
  intro n
  induction n with
  | zero => intro k zn mr _ _ h; omega
  | succ n ih =>
    intro k zn mr hk ht hn
    by_cases q : k = (a_ls A).length
    · subst q
      refine ⟨zn, mr, ?_, ?_, ht⟩
      · show fX11_list_9b N HS (fX11_list_9 N HS n) (nI (a_ls A).length) zn (nI (a_ls A).length) = _
        unfold fX11_list_9b
        rw [RC_h11 hX, if_pos (by rw [le_n (by omega) (by omega)]; omega)]
      · show fX12_list_12b N mme 0 (fX12_list_12 N mme 0 n) 0 (nI (a_ls A).length) mr (nI (a_ls A).length) = _
        unfold fX12_list_12b
        rw [m1, b1_s, if_pos (by rw [le_n (by omega) (by omega)]; omega)]
    · have hk' : k < (a_ls A).length := by omega
      have m2 : fX12_onList mme 0 (nI k) = some (nI ((a_ls A).getD k 0)) := M_onList (b := 0) hR (by decide) hk'
      obtain ⟨t1, t2, t3⟩ := TL_a ht (by omega) (nI ((a_ls A).getD k 0)).toInt64
      obtain ⟨zn', mr', e1, e2, h3⟩ := ih (k + 1) _ _ (by omega) t3 (by omega)
      refine ⟨zn', mr', ?_, ?_, h3⟩
      · show fX11_list_9b N HS (fX11_list_9 N HS n) (nI k) zn (nI k) = _
        unfold fX11_list_9b
        rw [RC_h11 hX, if_neg (by rw [le_n (by omega) (by omega)]; omega), inb_n (by omega) (by decide), grd_t, cl_n (by omega), RC_h14 hX k hk', t1, b2_s, nI_1, e1]
      · show fX12_list_12b N mme 0 (fX12_list_12 N mme 0 n) 0 (nI k) mr (nI k) = _
        unfold fX12_list_12b
        rw [m1, b1_s, if_neg (by rw [le_n (by omega) (by omega)]; omega), m2, b1_s, t2, b2_s, nI_1, e2]
theorem S_list {N : Nat} (hN : 200000 ≤ N) (j : Nat) (hj : j < 512) : ST_list N (INV j) (INV (j + 1)) := by
  intro HS zkb zdr zky zpn zps ztz ztn zxz zxa zsg za0 za1 za2 za3 za4 zfr zcd zgo ztd ztv zcl zca zwa zpt zpf mth mto mrw mta mtp mat mtt mme mun mde mco mcn mvi men mfa mac mfi mse mtd mra mkp hI
  obtain ⟨A, K, U, kb, u, pn, hc, hx, ht, hd⟩ := hI
  have hd' : mde = 0 := hd
  subst hd'
  replace hc : COR (640 * j) HS zkb zpn zps mme mun mkp A K U kb u pn := hc
  replace hx : TXT zxz zsg mta mtp := hx
  replace ht : TLD ztz ztn mto mrw := ht
  have hJ : J (640 * j) A [] none := hc.1.1
  have w := hJ.1
  have hX0 : RC (HS 0) A := hc.1.2.1
  have hR0 : RM mme 0 mme A := hc.1.2.2
  have hcu : COR (640 * (j + 1)) HS zkb zpn zps mme mun mkp A K U kb u pn := COR_up hc (by omega)
  have hl := RM_hl hR0
  obtain ⟨zn', mr', e1, e2, h3⟩ := lst_j hX0 hR0 N N 0 ztn mrw (Nat.zero_le _) (TL_0 ztn mrw) (by omega)
  exact ⟨nI (a_ls A).length, nI (a_ls A).length, zn', 0, nI (a_ls A).length, mr', e1, e2, A, K, U, kb, u, pn, hcu, hx, h3, rfl⟩
theorem S_object {N : Nat} (hN : 200000 ≤ N) (j : Nat) (hj : j < 512) : ST_object N (INV j) (INV (j + 1)) := by
  intro HS zkb zdr zky zpn zps ztz ztn zxz zxa zsg za0 za1 za2 za3 za4 zfr zcd zgo ztd ztv zcl zca zwa zpt zpf mth mto mrw mta mtp mat mtt mme mun mde mco mcn mvi men mfa mac mfi mse mtd mra mkp a1 a2 hI
  obtain ⟨A, K, U, kb, u, pn, hc, hx, ht, hd⟩ := hI
  have hd' : mde = 0 := hd
  subst hd'
  replace hc : COR (640 * j) HS zkb zpn zps mme mun mkp A K U kb u pn := hc
  replace hx : TXT zxz zsg mta mtp := hx
  replace ht : TLD ztz ztn mto mrw := ht
  have hJ : J (640 * j) A [] none := hc.1.1
  have w := hJ.1
  have hX0 : RC (HS 0) A := hc.1.2.1
  have hR0 : RM mme 0 mme A := hc.1.2.2
  have hcu : COR (640 * (j + 1)) HS zkb zpn zps mme mun mkp A K U kb u pn := COR_up hc (by omega)
  suffices hh : ∃ (r : Option Int32) (b' m' : Int32), fX11_object N HS a1 a2 = some r ∧ fX12_object N mth mme 0 a1 a2 = some (b', m') ∧ ((r = none ∧ m' = 1) ∨ (r = some b' ∧ m' = 0)) by
    obtain ⟨r, b', m', e1, e2, h2⟩ := hh
    exact ⟨r, b', m', e1, e2, h2, A, K, U, kb, u, pn, hcu, hx, ht, rfl⟩
  rcases obj_or A a1 with ⟨o, e1, ho, hto⟩ | ⟨n1, n2⟩
  · subst e1
    have m1 : fX12_isThere mme 0 (nI o) = some (bI (a_th A o)) := M_isThere (b := 0) hR0 (by decide) ho
    have mw : fX12_in a2.toInt64 0 6 = some (bI (decide ((0 : Nat) ≤ a2.toInt ∧ a2.toInt ≤ (6 : Nat)))) := lit_in 0 6 rfl rfl rfl rfl a2
    by_cases q : ((0 : Nat) : Int) ≤ a2.toInt ∧ a2.toInt ≤ (6 : Nat)
    · rw [decide_eq_true q] at mw
      obtain ⟨er, hr⟩ := nI_back (p := a2) (by omega)
      have hr6 : a2.toInt.toNat < 7 := by omega
      generalize a2.toInt.toNat = k at *
      subst er
      have ine : inb (nI o) 24 = true := inb_n ho (by decide)
      have icl : (nI o).toNatClampNeg = o := cl_n (by omega)
      unfold fX11_object fX12_object fX12_object_26
      rw [C_has hX0 ho, m1, hto, b1_s, b1_s, if_neg (show ¬ bI true = 0 from by decide), if_neg (show ¬ bI true = 0 from by decide), mw, b1_s, if_neg (show ¬ bI true = 0 from by decide), show fX12_flag 0 = some 0 from rfl, b1_s, if_neg (show ¬ (0 : Int32) = 1 from by decide), ine, icl, grd_t, grd_t, grd_t, grd_t]
      rcases (by omega : k = 0 ∨ k = 1 ∨ k = 2 ∨ k = 3 ∨ k = 4 ∨ k = 5 ∨ k = 6) with rfl | rfl | rfl | rfl | rfl | rfl | rfl
      · have m2 : fX12_of mme 0 (nI o) 5 = some (cI (a_ct A o)) := M_of5 (b := 0) hR0 (by decide) ho hto
        refine ⟨some (cI (a_ct A o)), cI (a_ct A o), 0, ?_, ?_, Or.inr ⟨rfl, rfl⟩⟩
        · rw [if_pos (by decide), RC_h7 hX0 o ho]
        · rw [if_pos (by decide), m2, b1_s]
      · have m2 : fX12_of mme 0 (nI o) 1 = some (nI (a_my A o)) := M_of1 (b := 0) hR0 (by decide) ho hto
        refine ⟨some (nI (a_my A o)), nI (a_my A o), 0, ?_, ?_, Or.inr ⟨rfl, rfl⟩⟩
        · rw [if_neg (by decide), if_pos (by decide), RC_h4 hX0 o ho]
        · rw [if_neg (by decide), if_pos (by decide), m2, b1_s]
      · have m2 : fX12_of mme 0 (nI o) 2 = some (a_wt A o) := M_of2 (b := 0) hR0 (by decide) ho hto
        refine ⟨some (a_wt A o), a_wt A o, 0, ?_, ?_, Or.inr ⟨rfl, rfl⟩⟩
        · rw [if_neg (by decide), if_neg (by decide), if_pos (by decide), RC_h5 hX0 o ho]
        · rw [if_neg (by decide), if_neg (by decide), if_pos (by decide), m2, b1_s]
      · have m2 : fX12_of mme 0 (nI o) 3 = some (nI (a_en A o)) := M_of3 (b := 0) hR0 (by decide) ho hto
        refine ⟨some (nI (a_en A o)), nI (a_en A o), 0, ?_, ?_, Or.inr ⟨rfl, rfl⟩⟩
        · rw [if_neg (by decide), if_neg (by decide), if_neg (by decide), if_pos (by decide), RC_h6 hX0 o ho]
        · rw [if_neg (by decide), if_neg (by decide), if_neg (by decide), if_pos (by decide), m2, b1_s]
      · have m2 : fX12_of mme 0 (nI o) 4 = some (bI (a_rn A o)) := M_of4 (b := 0) hR0 (by decide) ho hto
        refine ⟨some (bI (a_rn A o)), bI (a_rn A o), 0, ?_, ?_, Or.inr ⟨rfl, rfl⟩⟩
        · rw [if_neg (by decide), if_neg (by decide), if_neg (by decide), if_neg (by decide), if_pos (by decide), RC_h2 hX0]
          unfold fX11_bit
          rw [bs_bit _ ho, b1_s]
        · rw [if_neg (by decide), if_neg (by decide), if_neg (by decide), if_neg (by decide), if_pos (by decide), m2, b1_s]
      · have m2 : fX12_of mme 0 (nI o) 6 = some (bI (a_mt A o)) := M_of6 (b := 0) hR0 (by decide) ho hto
        obtain ⟨r, e, hr⟩ := M_place (b := 0) hR0 (by decide) (fun x hx => W_th w (W_ls w hx)) ho (N := N) (by omega)
        have m3 : fX12_placeOnList N mme 0 (nI o) = some r := e
        unfold fX6_state fX11_bit
        rw [if_neg (show ¬ nI 5 = 0 from by decide), if_neg (show ¬ nI 5 = 1 from by decide), if_neg (show ¬ nI 5 = 2 from by decide), if_neg (show ¬ nI 5 = 3 from by decide), if_neg (show ¬ nI 5 = 4 from by decide), if_pos (show nI 5 = 5 from rfl), if_neg (show ¬ nI 5 = 0 from by decide), if_neg (show ¬ nI 5 = 1 from by decide), if_neg (show ¬ nI 5 = 2 from by decide), if_neg (show ¬ nI 5 = 3 from by decide), if_neg (show ¬ nI 5 = 4 from by decide), if_pos (show nI 5 = 5 from rfl), RC_h12 hX0, RC_h13 hX0, bs_bit _ ho, bs_bit _ ho, b1_s, b1_s, m3, b1_s, m2, b1_s]
        rcases hr with ⟨hn, rfl⟩ | ⟨i, hi, ei, rfl⟩
        · have : (a_ls A).contains o = false := by
            cases c : (a_ls A).contains o with
            | false => rfl
            | true => exact absurd (List.contains_iff_mem.mp c) hn
          refine ⟨some 0, 0, 0, ?_, ?_, Or.inr ⟨rfl, rfl⟩⟩
          · rw [this, if_pos (by decide), b1_s]
          · rw [if_neg (by decide)]
        · have hl := RM_hl hR0
          have : (a_ls A).contains o = true := List.contains_iff_mem.mpr (by rw [← ei]; exact getD_mem hi)
          rw [this, if_neg (by decide), if_pos (nI_pos' (by omega))]
          cases a_mt A o with
          | true => exact ⟨some 1, 1, 0, rfl, rfl, Or.inr ⟨rfl, rfl⟩⟩
          | false => exact ⟨some 2, 2, 0, rfl, rfl, Or.inr ⟨rfl, rfl⟩⟩
      · have m2 : fX12_isReached N mme 0 (nI o) = some (bI (rcd A o)) := M_isReached (b := 0) hR0 (by decide) w ho (by omega)
        refine ⟨some (bI (rcd A o)), bI (rcd A o), 0, ?_, ?_, Or.inr ⟨rfl, rfl⟩⟩
        · rw [if_neg (by decide), if_neg (by decide), if_neg (by decide), if_neg (by decide), if_neg (by decide), if_neg (by decide), if_pos (by decide), C_reached hX0 w (by omega), b1_s]
          unfold fX11_bit
          rw [bs_bit _ ho, b1_s]
        · rw [if_neg (by decide), if_neg (by decide), if_neg (by decide), if_neg (by decide), if_neg (by decide), if_neg (by decide), m2, b1_s, flag_c, b1_s]
    · rw [decide_eq_false q] at mw
      refine ⟨none, 0, 1, ?_, ?_, Or.inl ⟨rfl, rfl⟩⟩
      · unfold fX11_object
        have ne : ∀ c : Int32, 0 ≤ c.toInt → c.toInt ≤ 6 → a2 ≠ c := fun c c1 c2 e => q (by rw [e]; omega)
        rw [C_has hX0 ho, hto, b1_s, if_neg (by decide), if_neg (ne 0 (by decide) (by decide)), if_neg (ne 1 (by decide) (by decide)), if_neg (ne 2 (by decide) (by decide)), if_neg (ne 3 (by decide) (by decide)), if_neg (ne 4 (by decide) (by decide)), if_neg (ne 5 (by decide) (by decide)), if_neg (ne 6 (by decide) (by decide))]
      · unfold fX12_object fX12_object_21 fX12_object_26
        rw [m1, hto, b1_s, if_neg (by decide), mw, b1_s, if_pos (by decide)]
        rfl
  · refine ⟨none, 0, 1, ?_, ?_, Or.inl ⟨rfl, rfl⟩⟩
    · unfold fX11_object
      rw [n1 _ hX0, b1_s, if_pos rfl]
    · have m1 : fX12_isThere mme 0 a1 = some 0 := n2 mme 0 mme (by decide) hR0
      unfold fX12_object fX12_object_21 fX12_object_26
      rw [m1, b1_s, if_pos rfl]
      rfl
