def vld (t i : Nat) : Bool := match t with
  | 0 => decide (i < 3)
  | 8 => decide (1 ≤ i) && decide (i < 4)
  | 10 => decide (i = 3)
  | 1 => decide (i < 24)
  | 2 => decide (i < 24)
  | 3 => decide (i < 24)
  | 4 => decide (i < 24)
  | 5 => decide (i < 96)
  | 6 => decide (i < 6)
  | 7 => decide (i < 4)
  | 9 => decide (i < 24)
  | 11 => decide (i < 60)
  | 12 => decide (i < 60)
  | 13 => decide (i < 6)
  | _ => false
theorem updH_ne {HS : Nat → Nat → Nat → Int32} {j i : Nat} {X : Nat → Nat → Int32} (h : i ≠ j) : updH HS j X i = HS i := by simp [updH, h]
theorem eH_at {Z : ZC} {j : Nat} {X Y : Nat → Nat → Int32} {t : Nat} {D : va_G} {a : Nat} {H : Heap} (ht : t < 14) (h : ∀ i, vld t i = true → X t i = Y t i) (hP : va_at D vwCl (a, eH Z j X t) H) : va_at D vwCl (a, eH Z j Y t) H := by
  rcases t with _ | _ | _ | _ | _ | _ | _ | _ | _ | _ | _ | _ | _ | _ | t
  · try simp only [Nat.zero_add, Nat.reduceAdd] at h
    simp only [eH, Nat.zero_add, Nat.reduceAdd] at hP ⊢
    rw [h 0 rfl, h 1 rfl, h 2 rfl] at hP; exact hP
  · try simp only [Nat.zero_add, Nat.reduceAdd] at h
    simp only [eH, Nat.zero_add, Nat.reduceAdd] at hP ⊢
    show H[a]? = _
    rw [← vp_cell_ext (f := X 1) (g := Y 1) (fun i hi => h i (by simp [vld, hi]))]; exact hP
  · try simp only [Nat.zero_add, Nat.reduceAdd] at h
    simp only [eH, Nat.zero_add, Nat.reduceAdd] at hP ⊢
    show H[a]? = _
    rw [← vp_cell_ext (f := X 2) (g := Y 2) (fun i hi => h i (by simp [vld, hi]))]; exact hP
  · try simp only [Nat.zero_add, Nat.reduceAdd] at h
    simp only [eH, Nat.zero_add, Nat.reduceAdd] at hP ⊢
    show H[a]? = _
    rw [← vp_cell_ext (f := X 3) (g := Y 3) (fun i hi => h i (by simp [vld, hi]))]; exact hP
  · try simp only [Nat.zero_add, Nat.reduceAdd] at h
    simp only [eH, Nat.zero_add, Nat.reduceAdd] at hP ⊢
    show H[a]? = _
    rw [← vp_cell_ext (f := X 4) (g := Y 4) (fun i hi => h i (by simp [vld, hi]))]; exact hP
  · try simp only [Nat.zero_add, Nat.reduceAdd] at h
    simp only [eH, Nat.zero_add, Nat.reduceAdd] at hP ⊢
    show H[a]? = _
    rw [← vp_cell_ext (f := X 5) (g := Y 5) (fun i hi => h i (by simp [vld, hi]))]; exact hP
  · try simp only [Nat.zero_add, Nat.reduceAdd] at h
    simp only [eH, Nat.zero_add, Nat.reduceAdd] at hP ⊢
    show H[a]? = _
    rw [← vp_cell_ext (f := X 6) (g := Y 6) (fun i hi => h i (by simp [vld, hi]))]; exact hP
  · try simp only [Nat.zero_add, Nat.reduceAdd] at h
    simp only [eH, Nat.zero_add, Nat.reduceAdd] at hP ⊢
    show H[a]? = _
    rw [← vp_cell_ext (f := X 7) (g := Y 7) (fun i hi => h i (by simp [vld, hi]))]; exact hP
  · try simp only [Nat.zero_add, Nat.reduceAdd] at h
    simp only [eH, Nat.zero_add, Nat.reduceAdd] at hP ⊢
    rw [h 1 rfl, h 2 rfl, h 3 rfl] at hP; exact hP
  · try simp only [Nat.zero_add, Nat.reduceAdd] at h
    simp only [eH, Nat.zero_add, Nat.reduceAdd] at hP ⊢
    show H[a]? = _
    rw [← vp_cell_ext (f := X 9) (g := Y 9) (fun i hi => h i (by simp [vld, hi]))]; exact hP
  · try simp only [Nat.zero_add, Nat.reduceAdd] at h
    simp only [eH, Nat.zero_add, Nat.reduceAdd] at hP ⊢
    rw [h 3 rfl] at hP; exact hP
  · try simp only [Nat.zero_add, Nat.reduceAdd] at h
    simp only [eH, Nat.zero_add, Nat.reduceAdd] at hP ⊢
    show H[a]? = _
    rw [← vp_cell_ext (f := X 11) (g := Y 11) (fun i hi => h i (by simp [vld, hi]))]; exact hP
  · try simp only [Nat.zero_add, Nat.reduceAdd] at h
    simp only [eH, Nat.zero_add, Nat.reduceAdd] at hP ⊢
    show H[a]? = _
    rw [← vp_cell_ext (f := X 12) (g := Y 12) (fun i hi => h i (by simp [vld, hi]))]; exact hP
  · try simp only [Nat.zero_add, Nat.reduceAdd] at h
    simp only [eH, Nat.zero_add, Nat.reduceAdd] at hP ⊢
    show H[a]? = _
    rw [← vp_cell_ext (f := X 13) (g := Y 13) (fun i hi => h i (by simp [vld, hi]))]; exact hP
  · omega
set_option maxRecDepth 100000 in
theorem PX_ext {Z : ZC} {HS : Nat → Nat → Nat → Int32} {zkb : Int32} {zdr : Int32} {zky : Nat → Int32} {zpn : Int32} {zps : Int32} {ztz : Int32} {ztn : Nat → Int64} {zxz : Int32} {zxa : Int32} {zsg : Nat → Int32} {za0 : Int32} {za1 : Int32} {za2 : Int32} {za3 : Int32} {za4 : Int32} {zfr : Nat → Int32} {zcd : Int32} {zgo : Nat → Int32} {ztd : Int32} {ztv : Int32} {zcl : Nat → Int32} {zca : Nat → Int32} {zwa : Nat → Int32} {zpt : Nat → Int32} {zpf : Nat → Int32} {j : Nat} {X Y : Nat → Nat → Int32} {H : Heap} (h : ∀ t i, vld t i = true → X t i = Y t i) (hP : PX Z (updH HS j X) zkb zdr zky zpn zps ztz ztn zxz zxa zsg za0 za1 za2 za3 za4 zfr zcd zgo ztd ztv zcl zca zwa zpt zpf H) : PX Z (updH HS j Y) zkb zdr zky zpn zps ztz ztn zxz zxa zsg za0 za1 za2 za3 za4 zfr zcd zgo ztd ztv zcl zca zwa zpt zpf H := by
  intro i q hq
  by_cases hi : i < 203
  · rw [lX_get hi] at hq
    cases hq
    have h1 := hP i _ (lX_get hi)
    by_cases h2 : i < 182
    · simp only [wX, if_pos h2] at h1 ⊢
      by_cases h3 : i / 14 = j
      · rw [h3, updH_at] at h1 ⊢
        exact eH_at (by omega) (h _) h1
      · rw [updH_ne h3] at h1 ⊢
        exact h1
    · simp only [wX, if_neg h2] at h1 ⊢
      exact h1
  · have e1 : (lX Z (updH HS j Y) (eO Z zkb zdr zky zpn zps ztz ztn zxz zxa zsg za0 za1 za2 za3 za4 zfr zcd zgo ztd ztv zcl zca zwa zpt zpf))[i]? = none := List.getElem?_eq_none (by simp [lX]; omega)
    rw [e1] at hq
    cases hq
set_option maxRecDepth 100000 in
set_option maxHeartbeats 4000000 in
theorem ccX6_copies {l : Launch} {Z : ZC} {HS HS1 : Nat → Nat → Nat → Int32} {j k : Nat} {zkb : Int32} {zdr : Int32} {zky : Nat → Int32} {zpn : Int32} {zps : Int32} {ztz : Int32} {ztn : Nat → Int64} {zxz : Int32} {zxa : Int32} {zsg : Nat → Int32} {za0 : Int32} {za1 : Int32} {za2 : Int32} {za3 : Int32} {za4 : Int32} {zfr : Nat → Int32} {zcd : Int32} {zgo : Nat → Int32} {ztd : Int32} {ztv : Int32} {zcl : Nat → Int32} {zca : Nat → Int32} {zwa : Nat → Int32} {zpt : Nat → Int32} {zpf : Nat → Int32} (hj : j < 13) (hk : k < 13) (hne : j ≠ k) (h1 : updH HS j (upR (upR (HS j) 8 (HS k 8)) 9 (HS k 9)) = HS1) : Mg l yX6_copies cX6_copies 2 none (rmk 1 26) (KX Z) (AX Z) [.ref (hA Z j 8), .ref (hA Z k 8)] (PX Z HS zkb zdr zky zpn zps ztz ztn zxz zxa zsg za0 za1 za2 za3 za4 zfr zcd zgo ztd ztv zcl zca zwa zpt zpf) (Qv (KX Z) (AX Z) (PX Z HS1 zkb zdr zky zpn zps ztz ztn zxz zxa zsg za0 za1 za2 za3 za4 zfr zcd zgo ztd ztv zcl zca zwa zpt zpf)) := by
  subst h1
  refine Mg.start (lv := [(0, .ref (hA Z j 8)), (1, .ref (hA Z k 8))]) (by decide) rfl (Nat.le_of_ble_eq_true rfl) rfl ?_
  intro p e s m below meth c F hr hlk C hP ls hl
  have hS : va_S (AX Z) s.heap s.heap [] := va_S.rf
  refine lv_aload_n F.1 F.2.1 dX6_copies_0 rfl (lv_at hl 1 rfl) ?_
  refine gX6_9 F C hP hk rfl dX6_copies_1 ?_
  refine lv_iconst (v := 0) F.1 F.2.1 dX6_copies_4 (by decide) ?_
  refine lv_aload_n F.1 F.2.1 dX6_copies_5 rfl (lv_at hl 0 rfl) ?_
  refine gX6_9 F C hP hj rfl dX6_copies_6 ?_
  refine lv_iconst (v := 0) F.1 F.2.1 dX6_copies_9 (by decide) ?_
  refine lv_bipush (v := 24) F.1 F.2.1 dX6_copies_10 (by decide) ?_
  obtain ⟨HS_767, eHS_767⟩ : ∃ z, z = updH HS j (upR (HS j) 9 (HS k 9)) := ⟨_, rfl⟩
  refine cphh9 F C hP hj hk hne hS eHS_767.symm (F.2.2.2.2 _ (bw_t 393 (by decide +kernel) rfl)) hl.1 (Nat.le_of_ble_eq_true rfl) (Nat.le_of_ble_eq_true rfl) dX6_copies_12 (fun H locs hP hS => ?_)
  refine lv_aload_n F.1 F.2.1 dX6_copies_15 rfl (lv_at hl 0 rfl) ?_
  refine lv_aload_n F.1 F.2.1 dX6_copies_16 rfl (lv_at hl 1 rfl) ?_
  refine gX6_21 F C hP hk rfl dX6_copies_17 ?_
  obtain ⟨HS_768, eHS_768⟩ : ∃ z, z = updH HS_767 j (up2 (HS_767 j) 8 1 ((HS_767 k) 8 1)) := ⟨_, rfl⟩
  refine pX6_21 F C hP hj rfl hS eHS_768.symm dX6_copies_20 (fun H locs hP hS => ?_)
  refine lv_aload_n F.1 F.2.1 dX6_copies_23 rfl (lv_at hl 0 rfl) ?_
  refine lv_aload_n F.1 F.2.1 dX6_copies_24 rfl (lv_at hl 1 rfl) ?_
  refine gX6_25 F C hP hk rfl dX6_copies_25 ?_
  obtain ⟨HS_769, eHS_769⟩ : ∃ z, z = updH HS_768 j (up2 (HS_768 j) 8 2 ((HS_768 k) 8 2)) := ⟨_, rfl⟩
  refine pX6_25 F C hP hj rfl hS eHS_769.symm dX6_copies_28 (fun H locs hP hS => ?_)
  refine lv_aload_n F.1 F.2.1 dX6_copies_31 rfl (lv_at hl 0 rfl) ?_
  refine lv_aload_n F.1 F.2.1 dX6_copies_32 rfl (lv_at hl 1 rfl) ?_
  refine gX6_28 F C hP hk rfl dX6_copies_33 ?_
  obtain ⟨HS_770, eHS_770⟩ : ∃ z, z = updH HS_769 j (up2 (HS_769 j) 8 3 ((HS_769 k) 8 3)) := ⟨_, rfl⟩
  refine pX6_28 F C hP hj rfl hS eHS_770.symm dX6_copies_36 (fun H locs hP hS => ?_)
  have hP9 : PX Z (updH HS j (upR (upR (HS j) 8 (HS k 8)) 9 (HS k 9))) zkb zdr zky zpn zps ztz ztn zxz zxa zsg za0 za1 za2 za3 za4 zfr zcd zgo ztd ztv zcl zca zwa zpt zpf H := by
    subst eHS_770 eHS_769 eHS_768 eHS_767
    simp only [updH_at, updH_upd, updH_ne hne.symm] at hP
    refine PX_ext ?_ hP
    intro t i hv
    rcases t with _ | _ | _ | _ | _ | _ | _ | _ | _ | _ | _ | _ | _ | _ | t <;> first | (simp [up2, upR]; done) | (simp [vld] at hv; done) | (simp [vld] at hv; rcases i with _ | _ | _ | _ | i <;> first | (exfalso; omega) | (simp [up2, upR, upd]; done) | (simp at hv; done))
  exact ret_v F hr hlk hP9 hS dX6_copies_39
set_option maxRecDepth 100000 in
set_option maxHeartbeats 4000000 in
theorem ccX4_copies {l : Launch} {Z : ZC} {HS HS1 : Nat → Nat → Nat → Int32} {j k : Nat} {zkb : Int32} {zdr : Int32} {zky : Nat → Int32} {zpn : Int32} {zps : Int32} {ztz : Int32} {ztn : Nat → Int64} {zxz : Int32} {zxa : Int32} {zsg : Nat → Int32} {za0 : Int32} {za1 : Int32} {za2 : Int32} {za3 : Int32} {za4 : Int32} {zfr : Nat → Int32} {zcd : Int32} {zgo : Nat → Int32} {ztd : Int32} {ztv : Int32} {zcl : Nat → Int32} {zca : Nat → Int32} {zwa : Nat → Int32} {zpt : Nat → Int32} {zpf : Nat → Int32} (hj : j < 13) (hk : k < 13) (hne : j ≠ k) (h1 : updH HS j (upR (upR (upR (upR (HS j) 10 (HS k 10)) 11 (HS k 11)) 12 (HS k 12)) 13 (HS k 13)) = HS1) : Mg l yX4_copies cX4_copies 2 none (rmk 1 26) (KX Z) (AX Z) [.ref (hA Z j 10), .ref (hA Z k 10)] (PX Z HS zkb zdr zky zpn zps ztz ztn zxz zxa zsg za0 za1 za2 za3 za4 zfr zcd zgo ztd ztv zcl zca zwa zpt zpf) (Qv (KX Z) (AX Z) (PX Z HS1 zkb zdr zky zpn zps ztz ztn zxz zxa zsg za0 za1 za2 za3 za4 zfr zcd zgo ztd ztv zcl zca zwa zpt zpf)) := by
  subst h1
  refine Mg.start (lv := [(0, .ref (hA Z j 10)), (1, .ref (hA Z k 10))]) (by decide) rfl (Nat.le_of_ble_eq_true rfl) rfl ?_
  intro p e s m below meth c F hr hlk C hP ls hl
  have hS : va_S (AX Z) s.heap s.heap [] := va_S.rf
  refine lv_aload_n F.1 F.2.1 dX4_copies_0 rfl (lv_at hl 1 rfl) ?_
  refine gX4_9 F C hP hk rfl dX4_copies_1 ?_
  refine lv_iconst (v := 0) F.1 F.2.1 dX4_copies_4 (by decide) ?_
  refine lv_aload_n F.1 F.2.1 dX4_copies_5 rfl (lv_at hl 0 rfl) ?_
  refine gX4_9 F C hP hj rfl dX4_copies_6 ?_
  refine lv_iconst (v := 0) F.1 F.2.1 dX4_copies_9 (by decide) ?_
  refine lv_bipush (v := 60) F.1 F.2.1 dX4_copies_10 (by decide) ?_
  obtain ⟨HS_775, eHS_775⟩ : ∃ z, z = updH HS j (upR (HS j) 11 (HS k 11)) := ⟨_, rfl⟩
  refine cphh11 F C hP hj hk hne hS eHS_775.symm (F.2.2.2.2 _ (bw_t 398 (by decide +kernel) rfl)) hl.1 (Nat.le_of_ble_eq_true rfl) (Nat.le_of_ble_eq_true rfl) dX4_copies_12 (fun H locs hP hS => ?_)
  refine lv_aload_n F.1 F.2.1 dX4_copies_15 rfl (lv_at hl 1 rfl) ?_
  refine gX4_15 F C hP hk rfl dX4_copies_16 ?_
  refine lv_iconst (v := 0) F.1 F.2.1 dX4_copies_19 (by decide) ?_
  refine lv_aload_n F.1 F.2.1 dX4_copies_20 rfl (lv_at hl 0 rfl) ?_
  refine gX4_15 F C hP hj rfl dX4_copies_21 ?_
  refine lv_iconst (v := 0) F.1 F.2.1 dX4_copies_24 (by decide) ?_
  refine lv_bipush (v := 60) F.1 F.2.1 dX4_copies_25 (by decide) ?_
  obtain ⟨HS_776, eHS_776⟩ : ∃ z, z = updH HS_775 j (upR (HS_775 j) 12 (HS_775 k 12)) := ⟨_, rfl⟩
  refine cphh12 F C hP hj hk hne hS eHS_776.symm (F.2.2.2.2 _ (bw_t 398 (by decide +kernel) rfl)) hl.1 (Nat.le_of_ble_eq_true rfl) (Nat.le_of_ble_eq_true rfl) dX4_copies_27 (fun H locs hP hS => ?_)
  refine lv_aload_n F.1 F.2.1 dX4_copies_30 rfl (lv_at hl 1 rfl) ?_
  refine gX4_18 F C hP hk rfl dX4_copies_31 ?_
  refine lv_iconst (v := 0) F.1 F.2.1 dX4_copies_34 (by decide) ?_
  refine lv_aload_n F.1 F.2.1 dX4_copies_35 rfl (lv_at hl 0 rfl) ?_
  refine gX4_18 F C hP hj rfl dX4_copies_36 ?_
  refine lv_iconst (v := 0) F.1 F.2.1 dX4_copies_39 (by decide) ?_
  refine lv_bipush (v := 6) F.1 F.2.1 dX4_copies_40 (by decide) ?_
  obtain ⟨HS_777, eHS_777⟩ : ∃ z, z = updH HS_776 j (upR (HS_776 j) 13 (HS_776 k 13)) := ⟨_, rfl⟩
  refine cphh13 F C hP hj hk hne hS eHS_777.symm (F.2.2.2.2 _ (bw_t 398 (by decide +kernel) rfl)) hl.1 (Nat.le_of_ble_eq_true rfl) (Nat.le_of_ble_eq_true rfl) dX4_copies_42 (fun H locs hP hS => ?_)
  refine lv_aload_n F.1 F.2.1 dX4_copies_45 rfl (lv_at hl 0 rfl) ?_
  refine lv_aload_n F.1 F.2.1 dX4_copies_46 rfl (lv_at hl 1 rfl) ?_
  refine gX4_27 F C hP hk rfl dX4_copies_47 ?_
  obtain ⟨HS_778, eHS_778⟩ : ∃ z, z = updH HS_777 j (up2 (HS_777 j) 10 3 ((HS_777 k) 10 3)) := ⟨_, rfl⟩
  refine pX4_27 F C hP hj rfl hS eHS_778.symm dX4_copies_50 (fun H locs hP hS => ?_)
  have hP9 : PX Z (updH HS j (upR (upR (upR (upR (HS j) 10 (HS k 10)) 11 (HS k 11)) 12 (HS k 12)) 13 (HS k 13))) zkb zdr zky zpn zps ztz ztn zxz zxa zsg za0 za1 za2 za3 za4 zfr zcd zgo ztd ztv zcl zca zwa zpt zpf H := by
    subst eHS_778 eHS_777 eHS_776 eHS_775
    simp only [updH_at, updH_upd, updH_ne hne.symm] at hP
    refine PX_ext ?_ hP
    intro t i hv
    rcases t with _ | _ | _ | _ | _ | _ | _ | _ | _ | _ | _ | _ | _ | _ | t <;> first | (simp [up2, upR]; done) | (simp [vld] at hv; done) | (simp [vld] at hv; rcases i with _ | _ | _ | _ | i <;> first | (exfalso; omega) | (simp [up2, upR, upd]; done) | (simp at hv; done))
  exact ret_v F hr hlk hP9 hS dX4_copies_53
set_option maxRecDepth 100000 in
set_option maxHeartbeats 4000000 in
theorem ccX3_copies {l : Launch} {Z : ZC} {HS HS1 : Nat → Nat → Nat → Int32} {j k : Nat} {zkb : Int32} {zdr : Int32} {zky : Nat → Int32} {zpn : Int32} {zps : Int32} {ztz : Int32} {ztn : Nat → Int64} {zxz : Int32} {zxa : Int32} {zsg : Nat → Int32} {za0 : Int32} {za1 : Int32} {za2 : Int32} {za3 : Int32} {za4 : Int32} {zfr : Nat → Int32} {zcd : Int32} {zgo : Nat → Int32} {ztd : Int32} {ztv : Int32} {zcl : Nat → Int32} {zca : Nat → Int32} {zwa : Nat → Int32} {zpt : Nat → Int32} {zpf : Nat → Int32} (hj : j < 13) (hk : k < 13) (hne : j ≠ k) (h1 : updH HS j (HS k) = HS1) : Mg l yX3_copies cX3_copies 2 none (rmk 2 47) (KX Z) (AX Z) [.ref (hA Z j 0), .ref (hA Z k 0)] (PX Z HS zkb zdr zky zpn zps ztz ztn zxz zxa zsg za0 za1 za2 za3 za4 zfr zcd zgo ztd ztv zcl zca zwa zpt zpf) (Qv (KX Z) (AX Z) (PX Z HS1 zkb zdr zky zpn zps ztz ztn zxz zxa zsg za0 za1 za2 za3 za4 zfr zcd zgo ztd ztv zcl zca zwa zpt zpf)) := by
  subst h1
  refine Mg.start (lv := [(0, .ref (hA Z j 0)), (1, .ref (hA Z k 0))]) (by decide) rfl (Nat.le_of_ble_eq_true rfl) rfl ?_
  intro p e s m below meth c F hr hlk C hP ls hl
  have hS : va_S (AX Z) s.heap s.heap [] := va_S.rf
  refine lv_aload_n F.1 F.2.1 dX3_copies_0 rfl (lv_at hl 0 rfl) ?_
  refine lv_aload_n F.1 F.2.1 dX3_copies_1 rfl (lv_at hl 1 rfl) ?_
  refine gX3_57 F C hP hk rfl dX3_copies_2 ?_
  obtain ⟨HS_791, eHS_791⟩ : ∃ z, z = updH HS j (up2 (HS j) 0 0 ((HS k) 0 0)) := ⟨_, rfl⟩
  refine pX3_57 F C hP hj rfl hS eHS_791.symm dX3_copies_5 (fun H locs hP hS => ?_)
  refine lv_aload_n F.1 F.2.1 dX3_copies_8 rfl (lv_at hl 0 rfl) ?_
  refine lv_aload_n F.1 F.2.1 dX3_copies_9 rfl (lv_at hl 1 rfl) ?_
  refine gX3_60 F C hP hk rfl dX3_copies_10 ?_
  obtain ⟨HS_792, eHS_792⟩ : ∃ z, z = updH HS_791 j (up2 (HS_791 j) 0 1 ((HS_791 k) 0 1)) := ⟨_, rfl⟩
  refine pX3_60 F C hP hj rfl hS eHS_792.symm dX3_copies_13 (fun H locs hP hS => ?_)
  refine lv_aload_n F.1 F.2.1 dX3_copies_16 rfl (lv_at hl 0 rfl) ?_
  refine lv_aload_n F.1 F.2.1 dX3_copies_17 rfl (lv_at hl 1 rfl) ?_
  refine gX3_9 F C hP hk rfl dX3_copies_18 ?_
  obtain ⟨HS_793, eHS_793⟩ : ∃ z, z = updH HS_792 j (up2 (HS_792 j) 0 2 ((HS_792 k) 0 2)) := ⟨_, rfl⟩
  refine pX3_9 F C hP hj rfl hS eHS_793.symm dX3_copies_21 (fun H locs hP hS => ?_)
  refine lv_aload_n F.1 F.2.1 dX3_copies_24 rfl (lv_at hl 1 rfl) ?_
  refine gX3_15 F C hP hk rfl dX3_copies_25 ?_
  refine lv_iconst (v := 0) F.1 F.2.1 dX3_copies_28 (by decide) ?_
  refine lv_aload_n F.1 F.2.1 dX3_copies_29 rfl (lv_at hl 0 rfl) ?_
  refine gX3_15 F C hP hj rfl dX3_copies_30 ?_
  refine lv_iconst (v := 0) F.1 F.2.1 dX3_copies_33 (by decide) ?_
  refine lv_bipush (v := 24) F.1 F.2.1 dX3_copies_34 (by decide) ?_
  obtain ⟨HS_794, eHS_794⟩ : ∃ z, z = updH HS_793 j (upR (HS_793 j) 1 (HS_793 k 1)) := ⟨_, rfl⟩
  refine cphh1 F C hP hj hk hne hS eHS_794.symm (F.2.2.2.2 _ (bw_t 386 (by decide +kernel) rfl)) hl.1 (Nat.le_of_ble_eq_true rfl) (Nat.le_of_ble_eq_true rfl) dX3_copies_36 (fun H locs hP hS => ?_)
  refine lv_aload_n F.1 F.2.1 dX3_copies_39 rfl (lv_at hl 1 rfl) ?_
  refine gX3_19 F C hP hk rfl dX3_copies_40 ?_
  refine lv_iconst (v := 0) F.1 F.2.1 dX3_copies_43 (by decide) ?_
  refine lv_aload_n F.1 F.2.1 dX3_copies_44 rfl (lv_at hl 0 rfl) ?_
  refine gX3_19 F C hP hj rfl dX3_copies_45 ?_
  refine lv_iconst (v := 0) F.1 F.2.1 dX3_copies_48 (by decide) ?_
  refine lv_bipush (v := 24) F.1 F.2.1 dX3_copies_49 (by decide) ?_
  obtain ⟨HS_795, eHS_795⟩ : ∃ z, z = updH HS_794 j (upR (HS_794 j) 2 (HS_794 k 2)) := ⟨_, rfl⟩
  refine cphh2 F C hP hj hk hne hS eHS_795.symm (F.2.2.2.2 _ (bw_t 386 (by decide +kernel) rfl)) hl.1 (Nat.le_of_ble_eq_true rfl) (Nat.le_of_ble_eq_true rfl) dX3_copies_51 (fun H locs hP hS => ?_)
  refine lv_aload_n F.1 F.2.1 dX3_copies_54 rfl (lv_at hl 1 rfl) ?_
  refine gX3_22 F C hP hk rfl dX3_copies_55 ?_
  refine lv_iconst (v := 0) F.1 F.2.1 dX3_copies_58 (by decide) ?_
  refine lv_aload_n F.1 F.2.1 dX3_copies_59 rfl (lv_at hl 0 rfl) ?_
  refine gX3_22 F C hP hj rfl dX3_copies_60 ?_
  refine lv_iconst (v := 0) F.1 F.2.1 dX3_copies_63 (by decide) ?_
  refine lv_bipush (v := 24) F.1 F.2.1 dX3_copies_64 (by decide) ?_
  obtain ⟨HS_796, eHS_796⟩ : ∃ z, z = updH HS_795 j (upR (HS_795 j) 3 (HS_795 k 3)) := ⟨_, rfl⟩
  refine cphh3 F C hP hj hk hne hS eHS_796.symm (F.2.2.2.2 _ (bw_t 386 (by decide +kernel) rfl)) hl.1 (Nat.le_of_ble_eq_true rfl) (Nat.le_of_ble_eq_true rfl) dX3_copies_66 (fun H locs hP hS => ?_)
  refine lv_aload_n F.1 F.2.1 dX3_copies_69 rfl (lv_at hl 1 rfl) ?_
  refine gX3_25 F C hP hk rfl dX3_copies_70 ?_
  refine lv_iconst (v := 0) F.1 F.2.1 dX3_copies_73 (by decide) ?_
  refine lv_aload_n F.1 F.2.1 dX3_copies_74 rfl (lv_at hl 0 rfl) ?_
  refine gX3_25 F C hP hj rfl dX3_copies_75 ?_
  refine lv_iconst (v := 0) F.1 F.2.1 dX3_copies_78 (by decide) ?_
  refine lv_bipush (v := 24) F.1 F.2.1 dX3_copies_79 (by decide) ?_
  obtain ⟨HS_797, eHS_797⟩ : ∃ z, z = updH HS_796 j (upR (HS_796 j) 4 (HS_796 k 4)) := ⟨_, rfl⟩
  refine cphh4 F C hP hj hk hne hS eHS_797.symm (F.2.2.2.2 _ (bw_t 386 (by decide +kernel) rfl)) hl.1 (Nat.le_of_ble_eq_true rfl) (Nat.le_of_ble_eq_true rfl) dX3_copies_81 (fun H locs hP hS => ?_)
  refine lv_aload_n F.1 F.2.1 dX3_copies_84 rfl (lv_at hl 1 rfl) ?_
  refine gX3_28 F C hP hk rfl dX3_copies_85 ?_
  refine lv_iconst (v := 0) F.1 F.2.1 dX3_copies_88 (by decide) ?_
  refine lv_aload_n F.1 F.2.1 dX3_copies_89 rfl (lv_at hl 0 rfl) ?_
  refine gX3_28 F C hP hj rfl dX3_copies_90 ?_
  refine lv_iconst (v := 0) F.1 F.2.1 dX3_copies_93 (by decide) ?_
  refine lv_bipush (v := 96) F.1 F.2.1 dX3_copies_94 (by decide) ?_
  obtain ⟨HS_798, eHS_798⟩ : ∃ z, z = updH HS_797 j (upR (HS_797 j) 5 (HS_797 k 5)) := ⟨_, rfl⟩
  refine cphh5 F C hP hj hk hne hS eHS_798.symm (F.2.2.2.2 _ (bw_t 386 (by decide +kernel) rfl)) hl.1 (Nat.le_of_ble_eq_true rfl) (Nat.le_of_ble_eq_true rfl) dX3_copies_96 (fun H locs hP hS => ?_)
  refine lv_aload_n F.1 F.2.1 dX3_copies_99 rfl (lv_at hl 1 rfl) ?_
  refine gX3_31 F C hP hk rfl dX3_copies_100 ?_
  refine lv_iconst (v := 0) F.1 F.2.1 dX3_copies_103 (by decide) ?_
  refine lv_aload_n F.1 F.2.1 dX3_copies_104 rfl (lv_at hl 0 rfl) ?_
  refine gX3_31 F C hP hj rfl dX3_copies_105 ?_
  refine lv_iconst (v := 0) F.1 F.2.1 dX3_copies_108 (by decide) ?_
  refine lv_bipush (v := 6) F.1 F.2.1 dX3_copies_109 (by decide) ?_
  obtain ⟨HS_799, eHS_799⟩ : ∃ z, z = updH HS_798 j (upR (HS_798 j) 6 (HS_798 k 6)) := ⟨_, rfl⟩
  refine cphh6 F C hP hj hk hne hS eHS_799.symm (F.2.2.2.2 _ (bw_t 386 (by decide +kernel) rfl)) hl.1 (Nat.le_of_ble_eq_true rfl) (Nat.le_of_ble_eq_true rfl) dX3_copies_111 (fun H locs hP hS => ?_)
  refine lv_aload_n F.1 F.2.1 dX3_copies_114 rfl (lv_at hl 1 rfl) ?_
  refine gX3_34 F C hP hk rfl dX3_copies_115 ?_
  refine lv_iconst (v := 0) F.1 F.2.1 dX3_copies_118 (by decide) ?_
  refine lv_aload_n F.1 F.2.1 dX3_copies_119 rfl (lv_at hl 0 rfl) ?_
  refine gX3_34 F C hP hj rfl dX3_copies_120 ?_
  refine lv_iconst (v := 0) F.1 F.2.1 dX3_copies_123 (by decide) ?_
  refine lv_iconst (v := 4) F.1 F.2.1 dX3_copies_124 (by decide) ?_
  obtain ⟨HS_800, eHS_800⟩ : ∃ z, z = updH HS_799 j (upR (HS_799 j) 7 (HS_799 k 7)) := ⟨_, rfl⟩
  refine cphh7 F C hP hj hk hne hS eHS_800.symm (F.2.2.2.2 _ (bw_t 386 (by decide +kernel) rfl)) hl.1 (Nat.le_of_ble_eq_true rfl) (Nat.le_of_ble_eq_true rfl) dX3_copies_125 (fun H locs hP hS => ?_)
  refine lv_aload_n F.1 F.2.1 dX3_copies_128 rfl (lv_at hl 0 rfl) ?_
  refine gX3_40 F C hP hj rfl dX3_copies_129 ?_
  refine lv_aload_n F.1 F.2.1 dX3_copies_132 rfl (lv_at hl 1 rfl) ?_
  refine gX3_40 F C hP hk rfl dX3_copies_133 ?_
  obtain ⟨HS_801, eHS_801⟩ : ∃ z, z = updH HS_800 j (upR (upR (HS_800 j) 8 (HS_800 k 8)) 9 (HS_800 k 9)) := ⟨_, rfl⟩
  refine aft_v (run_N (rest := []) F (ccX6_copies hj hk hne eHS_801.symm) (okX Z) C hS (C.2.2 _ _ mlX3_69 rfl) lkX3_69 ⟨Nat.le_of_ble_eq_true rfl, Nat.le_of_ble_eq_true rfl⟩ (rvh8 C hP hj) hP rfl hl.1 rfl (lv_room (Nat.le_of_ble_eq_true rfl)) dX3_copies_136 ⟨Nat.zero_le _, Nat.zero_le _⟩) hS (fun H locs hP hS => ?_)
  refine lv_aload_n F.1 F.2.1 dX3_copies_139 rfl (lv_at hl 0 rfl) ?_
  refine gX3_47 F C hP hj rfl dX3_copies_140 ?_
  refine lv_aload_n F.1 F.2.1 dX3_copies_143 rfl (lv_at hl 1 rfl) ?_
  refine gX3_47 F C hP hk rfl dX3_copies_144 ?_
  obtain ⟨HS_802, eHS_802⟩ : ∃ z, z = updH HS_801 j (upR (upR (upR (upR (HS_801 j) 10 (HS_801 k 10)) 11 (HS_801 k 11)) 12 (HS_801 k 12)) 13 (HS_801 k 13)) := ⟨_, rfl⟩
  refine aft_v (run_N (rest := []) F (ccX4_copies hj hk hne eHS_802.symm) (okX Z) C hS (C.2.2 _ _ mlX3_73 rfl) lkX3_73 ⟨Nat.le_of_ble_eq_true rfl, Nat.le_of_ble_eq_true rfl⟩ (rvh10 C hP hj) hP rfl hl.1 rfl (lv_room (Nat.le_of_ble_eq_true rfl)) dX3_copies_147 ⟨Nat.zero_le _, Nat.zero_le _⟩) hS (fun H locs hP hS => ?_)
  have hP9 : PX Z (updH HS j (HS k)) zkb zdr zky zpn zps ztz ztn zxz zxa zsg za0 za1 za2 za3 za4 zfr zcd zgo ztd ztv zcl zca zwa zpt zpf H := by
    subst eHS_802 eHS_801 eHS_800 eHS_799 eHS_798 eHS_797 eHS_796 eHS_795 eHS_794 eHS_793 eHS_792 eHS_791
    simp only [updH_at, updH_upd, updH_ne hne.symm] at hP
    refine PX_ext ?_ hP
    intro t i hv
    rcases t with _ | _ | _ | _ | _ | _ | _ | _ | _ | _ | _ | _ | _ | _ | t <;> first | (simp [up2, upR]; done) | (simp [vld] at hv; done) | (simp [vld] at hv; rcases i with _ | _ | _ | _ | i <;> first | (exfalso; omega) | (simp [up2, upR, upd]; done) | (simp at hv; done))
  exact ret_v F hr hlk hP9 hS dX3_copies_150
