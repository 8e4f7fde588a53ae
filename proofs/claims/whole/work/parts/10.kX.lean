set_option maxRecDepth 100000 in
set_option maxHeartbeats 4000000 in
theorem kJ6_bitCount_0f7a4 {l : Launch} {Z : ZC} {HS : Nat → Nat → Nat → Int32} {zkb : Int32} {zdr : Int32} {zky : Nat → Int32} {zpn : Int32} {zps : Int32} {ztz : Int32} {ztn : Nat → Int64} {zxz : Int32} {zxa : Int32} {zsg : Nat → Int32} {za0 : Int32} {za1 : Int32} {za2 : Int32} {za3 : Int32} {za4 : Int32} {zfr : Nat → Int32} {zcd : Int32} {zgo : Nat → Int32} {ztd : Int32} {ztv : Int32} {zcl : Nat → Int32} {zca : Nat → Int32} {zwa : Nat → Int32} {zpt : Nat → Int32} {zpf : Nat → Int32} {p0 : Int32} {r' : Int32} (hE : fJ6_bitCount_0f7a4 p0 = some r') : Mg l yJ6_bitCount_0f7a4 cJ6_bitCount_0f7a4 1 (some .int) (rmk 0 0) (KX Z) (AX Z) [.int p0] (PX Z HS zkb zdr zky zpn zps ztz ztn zxz zxa zsg za0 za1 za2 za3 za4 zfr zcd zgo ztd ztv zcl zca zwa zpt zpf) (Qi (KX Z) (AX Z) (PX Z HS zkb zdr zky zpn zps ztz ztn zxz zxa zsg za0 za1 za2 za3 za4 zfr zcd zgo ztd ztv zcl zca zwa zpt zpf) r') := by
  refine Mg.start (lv := [(0, .int p0)]) (by decide) rfl (Nat.le_of_ble_eq_true rfl) rfl ?_
  intro p e s m below meth c F hr hlk C hP ls hl
  have hS : va_S (AX Z) s.heap s.heap [] := va_S.rf
  unfold fJ6_bitCount_0f7a4 at hE
  refine lv_iload_n F.1 F.2.1 dJ6_bitCount_0f7a4_0 rfl (lv_at hl 0 rfl) ?_
  refine lv_iload_n F.1 F.2.1 dJ6_bitCount_0f7a4_1 rfl (lv_at hl 0 rfl) ?_
  refine lv_iconst (v := 1) F.1 F.2.1 dJ6_bitCount_0f7a4_2 (by decide) ?_
  refine rj_iushr F.1 F.2.1 dJ6_bitCount_0f7a4_3 ?_
  refine lv_ldcw (v := 1431655765) F.1 F.2.1 F.2.2.2.1 (F.2.2.2.2 _ (bw_t 450 (by decide +kernel) rfl)) dJ6_bitCount_0f7a4_4 ?_
  refine lv_iand F.1 F.2.1 dJ6_bitCount_0f7a4_7 ?_
  refine lv_isub F.1 F.2.1 dJ6_bitCount_0f7a4_8 ?_
  obtain ⟨v_5, ev_5, hE⟩ := lt_some hE
  refine lv_seti ev_5 ?_
  refine lv_istore_n (lv' := [(0, .int v_5)]) F.1 F.2.1 dJ6_bitCount_0f7a4_9 rfl hl (by decide) rfl (fun ls hl => ?_)
  refine lv_iload_n F.1 F.2.1 dJ6_bitCount_0f7a4_10 rfl (lv_at hl 0 rfl) ?_
  refine lv_ldcw (v := 858993459) F.1 F.2.1 F.2.2.2.1 (F.2.2.2.2 _ (bw_t 451 (by decide +kernel) rfl)) dJ6_bitCount_0f7a4_11 ?_
  refine lv_iand F.1 F.2.1 dJ6_bitCount_0f7a4_14 ?_
  refine lv_iload_n F.1 F.2.1 dJ6_bitCount_0f7a4_15 rfl (lv_at hl 0 rfl) ?_
  refine lv_iconst (v := 2) F.1 F.2.1 dJ6_bitCount_0f7a4_16 (by decide) ?_
  refine rj_iushr F.1 F.2.1 dJ6_bitCount_0f7a4_17 ?_
  refine lv_ldcw (v := 858993459) F.1 F.2.1 F.2.2.2.1 (F.2.2.2.2 _ (bw_t 451 (by decide +kernel) rfl)) dJ6_bitCount_0f7a4_18 ?_
  refine lv_iand F.1 F.2.1 dJ6_bitCount_0f7a4_21 ?_
  refine lv_iadd F.1 F.2.1 dJ6_bitCount_0f7a4_22 ?_
  obtain ⟨v_6, ev_6, hE⟩ := lt_some hE
  refine lv_seti ev_6 ?_
  refine lv_istore_n (lv' := [(0, .int v_6)]) F.1 F.2.1 dJ6_bitCount_0f7a4_23 rfl hl (by decide) rfl (fun ls hl => ?_)
  refine lv_iload_n F.1 F.2.1 dJ6_bitCount_0f7a4_24 rfl (lv_at hl 0 rfl) ?_
  refine lv_iload_n F.1 F.2.1 dJ6_bitCount_0f7a4_25 rfl (lv_at hl 0 rfl) ?_
  refine lv_iconst (v := 4) F.1 F.2.1 dJ6_bitCount_0f7a4_26 (by decide) ?_
  refine rj_iushr F.1 F.2.1 dJ6_bitCount_0f7a4_27 ?_
  refine lv_iadd F.1 F.2.1 dJ6_bitCount_0f7a4_28 ?_
  refine lv_ldcw (v := 252645135) F.1 F.2.1 F.2.2.2.1 (F.2.2.2.2 _ (bw_t 452 (by decide +kernel) rfl)) dJ6_bitCount_0f7a4_29 ?_
  refine lv_iand F.1 F.2.1 dJ6_bitCount_0f7a4_32 ?_
  obtain ⟨v_7, ev_7, hE⟩ := lt_some hE
  refine lv_seti ev_7 ?_
  refine lv_istore_n (lv' := [(0, .int v_7)]) F.1 F.2.1 dJ6_bitCount_0f7a4_33 rfl hl (by decide) rfl (fun ls hl => ?_)
  refine lv_iload_n F.1 F.2.1 dJ6_bitCount_0f7a4_34 rfl (lv_at hl 0 rfl) ?_
  refine lv_iload_n F.1 F.2.1 dJ6_bitCount_0f7a4_35 rfl (lv_at hl 0 rfl) ?_
  refine lv_bipush (v := 8) F.1 F.2.1 dJ6_bitCount_0f7a4_36 (by decide) ?_
  refine rj_iushr F.1 F.2.1 dJ6_bitCount_0f7a4_38 ?_
  refine lv_iadd F.1 F.2.1 dJ6_bitCount_0f7a4_39 ?_
  refine lv_istore_n (lv' := [(0, .int (v_7 + (jushr v_7 8)))]) F.1 F.2.1 dJ6_bitCount_0f7a4_40 rfl hl (by decide) rfl (fun ls hl => ?_)
  refine lv_iload_n F.1 F.2.1 dJ6_bitCount_0f7a4_41 rfl (lv_at hl 0 rfl) ?_
  refine lv_iload_n F.1 F.2.1 dJ6_bitCount_0f7a4_42 rfl (lv_at hl 0 rfl) ?_
  refine lv_bipush (v := 16) F.1 F.2.1 dJ6_bitCount_0f7a4_43 (by decide) ?_
  refine rj_iushr F.1 F.2.1 dJ6_bitCount_0f7a4_45 ?_
  refine lv_iadd F.1 F.2.1 dJ6_bitCount_0f7a4_46 ?_
  obtain ⟨v_8, ev_8, hE⟩ := lt_some hE
  refine lv_seti ev_8 ?_
  refine lv_istore_n (lv' := [(0, .int v_8)]) F.1 F.2.1 dJ6_bitCount_0f7a4_47 rfl hl (by decide) rfl (fun ls hl => ?_)
  refine lv_iload_n F.1 F.2.1 dJ6_bitCount_0f7a4_48 rfl (lv_at hl 0 rfl) ?_
  refine lv_bipush (v := 63) F.1 F.2.1 dJ6_bitCount_0f7a4_49 (by decide) ?_
  refine lv_iand F.1 F.2.1 dJ6_bitCount_0f7a4_51 ?_
  obtain rfl := Option.some.inj hE
  exact ret_i F hr hlk hP hS dJ6_bitCount_0f7a4_52
set_option maxRecDepth 100000 in
set_option maxHeartbeats 4000000 in
theorem qJ7_fill_53178_cl_5 {p : Program} {l : Launch} {e : Env} {s : State} {m : MethodId} {args : Array Value} {below : List Frame} {meth : Method} {c : Code} {Z : ZC} {HS : Nat → Nat → Nat → Int32} {zkb : Int32} {zdr : Int32} {zky : Nat → Int32} {zpn : Int32} {zps : Int32} {ztz : Int32} {ztn : Nat → Int64} {zxz : Int32} {zxa : Int32} {zsg : Nat → Int32} {za0 : Int32} {za1 : Int32} {za2 : Int32} {za3 : Int32} {za4 : Int32} {zfr : Nat → Int32} {zcd : Int32} {zgo : Nat → Int32} {ztd : Int32} {ztv : Int32} {zca : Nat → Int32} {zwa : Nat → Int32} {zpt : Nat → Int32} {zpf : Nat → Int32} {N : Nat} {p1 : Int32} {zcl' : Nat → Int32} (F : CallFix p m c cJ7_fill_53178 4 s args bigW RJ7) (hr : meth.sig.returnType = none) (hlk : meth.locks = false) (C : KX Z s) : ∀ n : Nat, ∀ (zcl : Nat → Int32) (x2 : Int32) (x3 : Int32), fJ7_fill_53178_cl_5 N p1 n zcl x2 x3 = some zcl' → ∀ (H : Heap) (locs : List Loc), PX Z HS zkb zdr zky zpn zps ztz ztn zxz zxa zsg za0 za1 za2 za3 za4 zfr zcd zgo ztd ztv zcl zca zwa zpt zpf H → va_S (AX Z) s.heap H locs → ∀ ls : Array Slot, lv_has ls 4 [(0, .ref (oA Z 14)), (1, .int p1), (2, .int x2), (3, .int x3)] → W p l e (rmk 0 0) s m args below meth c H locs 0 0 (MQ below (Qv (KX Z) (AX Z) (PX Z HS zkb zdr zky zpn zps ztz ztn zxz zxa zsg za0 za1 za2 za3 za4 zfr zcd zgo ztd ztv zcl' zca zwa zpt zpf)) args s 0 0 (AX Z)) (F0 m 5 ls []) := by
  intro n
  induction n with
  | zero => intro zcl x2 x3 hE; cases hE
  | succ n h5 =>
    intro zcl x2 x3 hE H locs hP hS ls hl
    have hE : fJ7_fill_53178_cl_5b N p1 (fJ7_fill_53178_cl_5 N p1 n) zcl x2 x3 = some zcl' := hE
    refine lv_iload_n F.1 F.2.1 dJ7_fill_53178_5 rfl (lv_at hl 2 rfl) ?_
    refine lv_iload_n F.1 F.2.1 dJ7_fill_53178_6 rfl (lv_at hl 3 rfl) ?_
    refine lv_icmp_ge (tgt := 20) F.1 F.2.1 dJ7_fill_53178_7 (by decide) (fun hc => ?_) (fun hc => ?_)
    · have hE := ifp hE hc
      obtain rfl := Option.some.inj hE
      exact ret_v F hr hlk hP hS dJ7_fill_53178_20
    · have hE := ifn hE hc
      refine lv_aload_n F.1 F.2.1 dJ7_fill_53178_10 rfl (lv_at hl 0 rfl) ?_
      refine lv_iload_n F.1 F.2.1 dJ7_fill_53178_11 rfl (lv_at hl 2 rfl) ?_
      refine lv_iload_n F.1 F.2.1 dJ7_fill_53178_12 rfl (lv_at hl 1 rfl) ?_
      obtain ⟨hi, hE⟩ := grd_some hE
      obtain ⟨zcl_10, ezcl_10, hE⟩ := lt_some hE
      refine so14 F C hP hi hS ezcl_10.symm dJ7_fill_53178_13 (fun H locs hP hS => ?_)
      refine lv_iinc (v := x2 + 1) (lv' := [(2, .int (x2 + 1)), (0, .ref (oA Z 14)), (1, .int p1), (3, .int x3)]) F.1 F.2.1 dJ7_fill_53178_14 hl (k := 2) rfl rfl (by decide) rfl (fun ls hl => ?_)
      refine lv_goto (tgt := 5) F.1 F.2.1 dJ7_fill_53178_17 (by decide) ?_
      exact h5 zcl_10 (x2 + 1) x3 hE _ _ hP hS ls (lv_sub hl [1, 2, 0, 3] rfl)
set_option maxRecDepth 100000 in
set_option maxHeartbeats 4000000 in
theorem kJ7_fill_53178_cl {l : Launch} {Z : ZC} {HS : Nat → Nat → Nat → Int32} {zkb : Int32} {zdr : Int32} {zky : Nat → Int32} {zpn : Int32} {zps : Int32} {ztz : Int32} {ztn : Nat → Int64} {zxz : Int32} {zxa : Int32} {zsg : Nat → Int32} {za0 : Int32} {za1 : Int32} {za2 : Int32} {za3 : Int32} {za4 : Int32} {zfr : Nat → Int32} {zcd : Int32} {zgo : Nat → Int32} {ztd : Int32} {ztv : Int32} {zcl : Nat → Int32} {zca : Nat → Int32} {zwa : Nat → Int32} {zpt : Nat → Int32} {zpf : Nat → Int32} {N : Nat} {p1 : Int32} {zcl' : Nat → Int32} (hE : fJ7_fill_53178_cl N zcl p1 = some zcl') : Mg l yJ7_fill_53178 cJ7_fill_53178 4 none (rmk 0 0) (KX Z) (AX Z) [.ref (oA Z 14), .int p1] (PX Z HS zkb zdr zky zpn zps ztz ztn zxz zxa zsg za0 za1 za2 za3 za4 zfr zcd zgo ztd ztv zcl zca zwa zpt zpf) (Qv (KX Z) (AX Z) (PX Z HS zkb zdr zky zpn zps ztz ztn zxz zxa zsg za0 za1 za2 za3 za4 zfr zcd zgo ztd ztv zcl' zca zwa zpt zpf)) := by
  refine Mg.start (lv := [(0, .ref (oA Z 14)), (1, .int p1)]) (by decide) rfl (Nat.le_of_ble_eq_true rfl) rfl ?_
  intro p e s m below meth c F hr hlk C hP ls hl
  have hS : va_S (AX Z) s.heap s.heap [] := va_S.rf
  unfold fJ7_fill_53178_cl at hE
  refine lv_iconst (v := 0) F.1 F.2.1 dJ7_fill_53178_0 (by decide) ?_
  refine lv_istore_n (lv' := [(2, .int 0), (0, .ref (oA Z 14)), (1, .int p1)]) F.1 F.2.1 dJ7_fill_53178_1 rfl hl (by decide) rfl (fun ls hl => ?_)
  refine lv_aload_n F.1 F.2.1 dJ7_fill_53178_2 rfl (lv_at hl 1 rfl) ?_
  refine alo14 F C hP dJ7_fill_53178_3 ?_
  refine lv_istore_n (lv' := [(3, .int 24), (2, .int 0), (0, .ref (oA Z 14)), (1, .int p1)]) F.1 F.2.1 dJ7_fill_53178_4 rfl hl (by decide) rfl (fun ls hl => ?_)
  exact qJ7_fill_53178_cl_5 F hr hlk C N zcl 0 24 hE _ _ hP hS ls (lv_sub hl [2, 3, 1, 0] rfl)
set_option maxRecDepth 100000 in
set_option maxHeartbeats 4000000 in
theorem qJ7_fill_53178_fr_5 {p : Program} {l : Launch} {e : Env} {s : State} {m : MethodId} {args : Array Value} {below : List Frame} {meth : Method} {c : Code} {Z : ZC} {HS : Nat → Nat → Nat → Int32} {zkb : Int32} {zdr : Int32} {zky : Nat → Int32} {zpn : Int32} {zps : Int32} {ztz : Int32} {ztn : Nat → Int64} {zxz : Int32} {zxa : Int32} {zsg : Nat → Int32} {za0 : Int32} {za1 : Int32} {za2 : Int32} {za3 : Int32} {za4 : Int32} {zcd : Int32} {zgo : Nat → Int32} {ztd : Int32} {ztv : Int32} {zcl : Nat → Int32} {zca : Nat → Int32} {zwa : Nat → Int32} {zpt : Nat → Int32} {zpf : Nat → Int32} {N : Nat} {p1 : Int32} {zfr' : Nat → Int32} (F : CallFix p m c cJ7_fill_53178 4 s args bigW RJ7) (hr : meth.sig.returnType = none) (hlk : meth.locks = false) (C : KX Z s) : ∀ n : Nat, ∀ (zfr : Nat → Int32) (x2 : Int32) (x3 : Int32), fJ7_fill_53178_fr_5 N p1 n zfr x2 x3 = some zfr' → ∀ (H : Heap) (locs : List Loc), PX Z HS zkb zdr zky zpn zps ztz ztn zxz zxa zsg za0 za1 za2 za3 za4 zfr zcd zgo ztd ztv zcl zca zwa zpt zpf H → va_S (AX Z) s.heap H locs → ∀ ls : Array Slot, lv_has ls 4 [(0, .ref (oA Z 10)), (1, .int p1), (2, .int x2), (3, .int x3)] → W p l e (rmk 0 0) s m args below meth c H locs 0 0 (MQ below (Qv (KX Z) (AX Z) (PX Z HS zkb zdr zky zpn zps ztz ztn zxz zxa zsg za0 za1 za2 za3 za4 zfr' zcd zgo ztd ztv zcl zca zwa zpt zpf)) args s 0 0 (AX Z)) (F0 m 5 ls []) := by
  intro n
  induction n with
  | zero => intro zfr x2 x3 hE; cases hE
  | succ n h5 =>
    intro zfr x2 x3 hE H locs hP hS ls hl
    have hE : fJ7_fill_53178_fr_5b N p1 (fJ7_fill_53178_fr_5 N p1 n) zfr x2 x3 = some zfr' := hE
    refine lv_iload_n F.1 F.2.1 dJ7_fill_53178_5 rfl (lv_at hl 2 rfl) ?_
    refine lv_iload_n F.1 F.2.1 dJ7_fill_53178_6 rfl (lv_at hl 3 rfl) ?_
    refine lv_icmp_ge (tgt := 20) F.1 F.2.1 dJ7_fill_53178_7 (by decide) (fun hc => ?_) (fun hc => ?_)
    · have hE := ifp hE hc
      obtain rfl := Option.some.inj hE
      exact ret_v F hr hlk hP hS dJ7_fill_53178_20
    · have hE := ifn hE hc
      refine lv_aload_n F.1 F.2.1 dJ7_fill_53178_10 rfl (lv_at hl 0 rfl) ?_
      refine lv_iload_n F.1 F.2.1 dJ7_fill_53178_11 rfl (lv_at hl 2 rfl) ?_
      refine lv_iload_n F.1 F.2.1 dJ7_fill_53178_12 rfl (lv_at hl 1 rfl) ?_
      obtain ⟨hi, hE⟩ := grd_some hE
      obtain ⟨zfr_12, ezfr_12, hE⟩ := lt_some hE
      refine so10 F C hP hi hS ezfr_12.symm dJ7_fill_53178_13 (fun H locs hP hS => ?_)
      refine lv_iinc (v := x2 + 1) (lv' := [(2, .int (x2 + 1)), (0, .ref (oA Z 10)), (1, .int p1), (3, .int x3)]) F.1 F.2.1 dJ7_fill_53178_14 hl (k := 2) rfl rfl (by decide) rfl (fun ls hl => ?_)
      refine lv_goto (tgt := 5) F.1 F.2.1 dJ7_fill_53178_17 (by decide) ?_
      exact h5 zfr_12 (x2 + 1) x3 hE _ _ hP hS ls (lv_sub hl [1, 2, 0, 3] rfl)
set_option maxRecDepth 100000 in
set_option maxHeartbeats 4000000 in
theorem kJ7_fill_53178_fr {l : Launch} {Z : ZC} {HS : Nat → Nat → Nat → Int32} {zkb : Int32} {zdr : Int32} {zky : Nat → Int32} {zpn : Int32} {zps : Int32} {ztz : Int32} {ztn : Nat → Int64} {zxz : Int32} {zxa : Int32} {zsg : Nat → Int32} {za0 : Int32} {za1 : Int32} {za2 : Int32} {za3 : Int32} {za4 : Int32} {zfr : Nat → Int32} {zcd : Int32} {zgo : Nat → Int32} {ztd : Int32} {ztv : Int32} {zcl : Nat → Int32} {zca : Nat → Int32} {zwa : Nat → Int32} {zpt : Nat → Int32} {zpf : Nat → Int32} {N : Nat} {p1 : Int32} {zfr' : Nat → Int32} (hE : fJ7_fill_53178_fr N zfr p1 = some zfr') : Mg l yJ7_fill_53178 cJ7_fill_53178 4 none (rmk 0 0) (KX Z) (AX Z) [.ref (oA Z 10), .int p1] (PX Z HS zkb zdr zky zpn zps ztz ztn zxz zxa zsg za0 za1 za2 za3 za4 zfr zcd zgo ztd ztv zcl zca zwa zpt zpf) (Qv (KX Z) (AX Z) (PX Z HS zkb zdr zky zpn zps ztz ztn zxz zxa zsg za0 za1 za2 za3 za4 zfr' zcd zgo ztd ztv zcl zca zwa zpt zpf)) := by
  refine Mg.start (lv := [(0, .ref (oA Z 10)), (1, .int p1)]) (by decide) rfl (Nat.le_of_ble_eq_true rfl) rfl ?_
  intro p e s m below meth c F hr hlk C hP ls hl
  have hS : va_S (AX Z) s.heap s.heap [] := va_S.rf
  unfold fJ7_fill_53178_fr at hE
  refine lv_iconst (v := 0) F.1 F.2.1 dJ7_fill_53178_0 (by decide) ?_
  refine lv_istore_n (lv' := [(2, .int 0), (0, .ref (oA Z 10)), (1, .int p1)]) F.1 F.2.1 dJ7_fill_53178_1 rfl hl (by decide) rfl (fun ls hl => ?_)
  refine lv_aload_n F.1 F.2.1 dJ7_fill_53178_2 rfl (lv_at hl 1 rfl) ?_
  refine alo10 F C hP dJ7_fill_53178_3 ?_
  refine lv_istore_n (lv' := [(3, .int 24), (2, .int 0), (0, .ref (oA Z 10)), (1, .int p1)]) F.1 F.2.1 dJ7_fill_53178_4 rfl hl (by decide) rfl (fun ls hl => ?_)
  exact qJ7_fill_53178_fr_5 F hr hlk C N zfr 0 24 hE _ _ hP hS ls (lv_sub hl [2, 3, 1, 0] rfl)
set_option maxRecDepth 100000 in
set_option maxHeartbeats 4000000 in
theorem qX7_takes_14 {p : Program} {l : Launch} {e : Env} {s : State} {m : MethodId} {args : Array Value} {below : List Frame} {meth : Method} {c : Code} {Z : ZC} {HS : Nat → Nat → Nat → Int32} {zkb : Int32} {zdr : Int32} {zky : Nat → Int32} {zpn : Int32} {zps : Int32} {ztz : Int32} {ztn : Nat → Int64} {zxa : Int32} {za0 : Int32} {za1 : Int32} {za2 : Int32} {za3 : Int32} {za4 : Int32} {zfr : Nat → Int32} {zcd : Int32} {zgo : Nat → Int32} {ztd : Int32} {ztv : Int32} {zcl : Nat → Int32} {zca : Nat → Int32} {zwa : Nat → Int32} {zpt : Nat → Int32} {zpf : Nat → Int32} {N : Nat} {p1 : Int32} {r' : Int32} {zxz' : Int32} {zsg' : Nat → Int32} (F : CallFix p m c cX7_takes 3 s args bigW RX7) (hr : meth.sig.returnType = (some .boolean)) (hlk : meth.locks = false) (C : KX Z s) : ∀ n : Nat, ∀ (zxz : Int32) (zsg : Nat → Int32) (x2 : Int32), fX7_takes_14 N p1 n zxz zsg x2 = some (r', zxz', zsg') → ∀ (H : Heap) (locs : List Loc), PX Z HS zkb zdr zky zpn zps ztz ztn zxz zxa zsg za0 za1 za2 za3 za4 zfr zcd zgo ztd ztv zcl zca zwa zpt zpf H → va_S (AX Z) s.heap H locs → ∀ ls : Array Slot, lv_has ls 3 [(0, .ref (oA Z 6)), (1, .int p1), (2, .int x2)] → W p l e (rmk 0 0) s m args below meth c H locs 0 0 (MQ below (Qi (KX Z) (AX Z) (PX Z HS zkb zdr zky zpn zps ztz ztn zxz' zxa zsg' za0 za1 za2 za3 za4 zfr zcd zgo ztd ztv zcl zca zwa zpt zpf) r') args s 0 0 (AX Z)) (F0 m 14 ls []) := by
  intro n
  induction n with
  | zero => intro zxz zsg x2 hE; cases hE
  | succ n h14 =>
    intro zxz zsg x2 hE H locs hP hS ls hl
    have hE : fX7_takes_14b N p1 (fX7_takes_14 N p1 n) zxz zsg x2 = some (r', zxz', zsg') := hE
    refine lv_iload_n F.1 F.2.1 dX7_takes_14 rfl (lv_at hl 2 rfl) ?_
    refine lv_if_lt (tgt := 50) F.1 F.2.1 dX7_takes_15 (by decide) (fun hc => ?_) (fun hc => ?_)
    · have hE := ifp hE hc
      refine lv_iconst (v := 1) F.1 F.2.1 dX7_takes_50 (by decide) ?_
      have w0 := Option.some.inj hE
      obtain ⟨g0, w1⟩ := Prod.mk.inj w0
      obtain ⟨g1, w2⟩ := Prod.mk.inj w1
      subst g0 g1 w2
      exact ret_z F hr rfl hlk hP hS dX7_takes_51
    · have hE := ifn hE hc
      refine lv_aload_n F.1 F.2.1 dX7_takes_18 rfl (lv_at hl 0 rfl) ?_
      refine gX7_9 F C hP dX7_takes_19 ?_
      refine lv_aload_n F.1 F.2.1 dX7_takes_22 rfl (lv_at hl 0 rfl) ?_
      refine gX7_15 F C hP dX7_takes_23 ?_
      refine lv_iload_n F.1 F.2.1 dX7_takes_26 rfl (lv_at hl 1 rfl) ?_
      refine lv_iload_n F.1 F.2.1 dX7_takes_27 rfl (lv_at hl 2 rfl) ?_
      refine rj_iushr F.1 F.2.1 dX7_takes_28 ?_
      refine lv_sipush (v := 255) F.1 F.2.1 dX7_takes_29 (by decide) ?_
      refine lv_iand F.1 F.2.1 dX7_takes_32 ?_
      obtain ⟨hi, hE⟩ := grd_some hE
      obtain ⟨zsg_15, ezsg_15, hE⟩ := lt_some hE
      refine so7 F C hP hi hS ezsg_15.symm dX7_takes_33 (fun H locs hP hS => ?_)
      refine lv_aload_n F.1 F.2.1 dX7_takes_34 rfl (lv_at hl 0 rfl) ?_
      refine lv_dup F.1 F.2.1 dX7_takes_35 rfl ?_
      refine gX7_15 F C hP dX7_takes_36 ?_
      refine lv_iconst (v := 1) F.1 F.2.1 dX7_takes_39 (by decide) ?_
      refine lv_iadd F.1 F.2.1 dX7_takes_40 ?_
      obtain ⟨zxz_16, ezxz_16, hE⟩ := lt_some hE
      refine pX7_15 F C hP hS ezxz_16.symm dX7_takes_41 (fun H locs hP hS => ?_)
      refine lv_iinc (v := x2 + (-8)) (lv' := [(2, .int (x2 + (-8))), (0, .ref (oA Z 6)), (1, .int p1)]) F.1 F.2.1 dX7_takes_44 hl (k := 2) rfl rfl (by decide) rfl (fun ls hl => ?_)
      refine lv_goto (tgt := 14) F.1 F.2.1 dX7_takes_47 (by decide) ?_
      exact h14 zxz_16 zsg_15 (x2 + (-8)) hE _ _ hP hS ls (lv_sub hl [1, 2, 0] rfl)
set_option maxRecDepth 100000 in
set_option maxHeartbeats 4000000 in
theorem kX7_takes {l : Launch} {Z : ZC} {HS : Nat → Nat → Nat → Int32} {zkb : Int32} {zdr : Int32} {zky : Nat → Int32} {zpn : Int32} {zps : Int32} {ztz : Int32} {ztn : Nat → Int64} {zxz : Int32} {zxa : Int32} {zsg : Nat → Int32} {za0 : Int32} {za1 : Int32} {za2 : Int32} {za3 : Int32} {za4 : Int32} {zfr : Nat → Int32} {zcd : Int32} {zgo : Nat → Int32} {ztd : Int32} {ztv : Int32} {zcl : Nat → Int32} {zca : Nat → Int32} {zwa : Nat → Int32} {zpt : Nat → Int32} {zpf : Nat → Int32} {N : Nat} {p1 : Int32} {r' : Int32} {zxz' : Int32} {zsg' : Nat → Int32} (hE : fX7_takes N zxz zsg p1 = some (r', zxz', zsg')) : Mg l yX7_takes cX7_takes 3 (some .boolean) (rmk 0 0) (KX Z) (AX Z) [.ref (oA Z 6), .int p1] (PX Z HS zkb zdr zky zpn zps ztz ztn zxz zxa zsg za0 za1 za2 za3 za4 zfr zcd zgo ztd ztv zcl zca zwa zpt zpf) (Qi (KX Z) (AX Z) (PX Z HS zkb zdr zky zpn zps ztz ztn zxz' zxa zsg' za0 za1 za2 za3 za4 zfr zcd zgo ztd ztv zcl zca zwa zpt zpf) r') := by
  refine Mg.start (lv := [(0, .ref (oA Z 6)), (1, .int p1)]) (by decide) rfl (Nat.le_of_ble_eq_true rfl) rfl ?_
  intro p e s m below meth c F hr hlk C hP ls hl
  have hS : va_S (AX Z) s.heap s.heap [] := va_S.rf
  unfold fX7_takes at hE
  refine lv_aload_n F.1 F.2.1 dX7_takes_0 rfl (lv_at hl 0 rfl) ?_
  refine gX7_15 F C hP dX7_takes_1 ?_
  refine lv_bipush (v := 76) F.1 F.2.1 dX7_takes_4 (by decide) ?_
  refine lv_icmp_le (tgt := 11) F.1 F.2.1 dX7_takes_6 (by decide) (fun hc => ?_) (fun hc => ?_)
  · have hE := ifp hE hc
    refine lv_bipush (v := 24) F.1 F.2.1 dX7_takes_11 (by decide) ?_
    refine lv_istore_n (lv' := [(2, .int 24), (0, .ref (oA Z 6)), (1, .int p1)]) F.1 F.2.1 dX7_takes_13 rfl hl (by decide) rfl (fun ls hl => ?_)
    exact qX7_takes_14 F hr hlk C N zxz zsg 24 hE _ _ hP hS ls (lv_sub hl [1, 2, 0] rfl)
  · have hE := ifn hE hc
    refine lv_iconst (v := 0) F.1 F.2.1 dX7_takes_9 (by decide) ?_
    have w0 := Option.some.inj hE
    obtain ⟨g0, w1⟩ := Prod.mk.inj w0
    obtain ⟨g1, w2⟩ := Prod.mk.inj w1
    subst g0 g1 w2
    exact ret_z F hr rfl hlk hP hS dX7_takes_10
set_option maxRecDepth 100000 in
set_option maxHeartbeats 4000000 in
theorem kX11_bit {l : Launch} {Z : ZC} {HS : Nat → Nat → Nat → Int32} {zkb : Int32} {zdr : Int32} {zky : Nat → Int32} {zpn : Int32} {zps : Int32} {ztz : Int32} {ztn : Nat → Int64} {zxz : Int32} {zxa : Int32} {zsg : Nat → Int32} {za0 : Int32} {za1 : Int32} {za2 : Int32} {za3 : Int32} {za4 : Int32} {zfr : Nat → Int32} {zcd : Int32} {zgo : Nat → Int32} {ztd : Int32} {ztv : Int32} {zcl : Nat → Int32} {zca : Nat → Int32} {zwa : Nat → Int32} {zpt : Nat → Int32} {zpf : Nat → Int32} {p0 : Int32} {p1 : Int32} {r' : Int32} (hE : fX11_bit p0 p1 = some r') : Mg l yX11_bit cX11_bit 2 (some .int) (rmk 0 0) (KX Z) (AX Z) [.int p0, .int p1] (PX Z HS zkb zdr zky zpn zps ztz ztn zxz zxa zsg za0 za1 za2 za3 za4 zfr zcd zgo ztd ztv zcl zca zwa zpt zpf) (Qi (KX Z) (AX Z) (PX Z HS zkb zdr zky zpn zps ztz ztn zxz zxa zsg za0 za1 za2 za3 za4 zfr zcd zgo ztd ztv zcl zca zwa zpt zpf) r') := by
  refine Mg.start (lv := [(0, .int p0), (1, .int p1)]) (by decide) rfl (Nat.le_of_ble_eq_true rfl) rfl ?_
  intro p e s m below meth c F hr hlk C hP ls hl
  have hS : va_S (AX Z) s.heap s.heap [] := va_S.rf
  unfold fX11_bit at hE
  refine lv_iload_n F.1 F.2.1 dX11_bit_0 rfl (lv_at hl 0 rfl) ?_
  refine lv_iload_n F.1 F.2.1 dX11_bit_1 rfl (lv_at hl 1 rfl) ?_
  refine rj_iushr F.1 F.2.1 dX11_bit_2 ?_
  refine lv_iconst (v := 1) F.1 F.2.1 dX11_bit_3 (by decide) ?_
  refine lv_iand F.1 F.2.1 dX11_bit_4 ?_
  obtain rfl := Option.some.inj hE
  exact ret_i F hr hlk hP hS dX11_bit_5
set_option maxRecDepth 100000 in
set_option maxHeartbeats 4000000 in
theorem qX3_leastFree_2 {p : Program} {l : Launch} {e : Env} {s : State} {m : MethodId} {args : Array Value} {below : List Frame} {meth : Method} {c : Code} {Z : ZC} {HS : Nat → Nat → Nat → Int32} {j : Nat} {X : Nat → Nat → Int32} {zkb : Int32} {zdr : Int32} {zky : Nat → Int32} {zpn : Int32} {zps : Int32} {ztz : Int32} {ztn : Nat → Int64} {zxz : Int32} {zxa : Int32} {zsg : Nat → Int32} {za0 : Int32} {za1 : Int32} {za2 : Int32} {za3 : Int32} {za4 : Int32} {zfr : Nat → Int32} {zcd : Int32} {zgo : Nat → Int32} {ztd : Int32} {ztv : Int32} {zcl : Nat → Int32} {zca : Nat → Int32} {zwa : Nat → Int32} {zpt : Nat → Int32} {zpf : Nat → Int32} {N : Nat} {r' : Int32} (F : CallFix p m c cX3_leastFree 2 s args bigW RX3) (hr : meth.sig.returnType = (some .int)) (hlk : meth.locks = false) (C : KX Z s) (hj : j < 13) : ∀ n : Nat, ∀ (x1 : Int32), fX3_leastFree_2 N X n x1 = some r' → ∀ (H : Heap) (locs : List Loc), PX Z (updH HS j X) zkb zdr zky zpn zps ztz ztn zxz zxa zsg za0 za1 za2 za3 za4 zfr zcd zgo ztd ztv zcl zca zwa zpt zpf H → va_S (AX Z) s.heap H locs → ∀ ls : Array Slot, lv_has ls 2 [(0, .ref (hA Z j 0)), (1, .int x1)] → W p l e (rmk 1 21) s m args below meth c H locs 0 0 (MQ below (Qi (KX Z) (AX Z) (PX Z (updH HS j X) zkb zdr zky zpn zps ztz ztn zxz zxa zsg za0 za1 za2 za3 za4 zfr zcd zgo ztd ztv zcl zca zwa zpt zpf) r') args s 0 0 (AX Z)) (F0 m 2 ls []) := by
  intro n
  induction n with
  | zero => intro x1 hE; cases hE
  | succ n h2 =>
    intro x1 hE H locs hP hS ls hl
    have hE : fX3_leastFree_2b N X (fX3_leastFree_2 N X n) x1 = some r' := hE
    refine lv_iload_n F.1 F.2.1 dX3_leastFree_2 rfl (lv_at hl 1 rfl) ?_
    refine lv_bipush (v := 24) F.1 F.2.1 dX3_leastFree_3 (by decide) ?_
    refine lv_icmp_ge (tgt := 27) F.1 F.2.1 dX3_leastFree_5 (by decide) (fun hc => ?_) (fun hc => ?_)
    · have hE := ifp hE hc
      refine lv_iconst (v := (-1)) F.1 F.2.1 dX3_leastFree_27 (by decide) ?_
      obtain rfl := Option.some.inj hE
      exact ret_i F hr hlk hP hS dX3_leastFree_28
    · have hE := ifn hE hc
      refine lv_aload_n F.1 F.2.1 dX3_leastFree_8 rfl (lv_at hl 0 rfl) ?_
      refine gX3_57 F C hP hj (updH_at _ _ _) dX3_leastFree_9 ?_
      refine lv_iload_n F.1 F.2.1 dX3_leastFree_12 rfl (lv_at hl 1 rfl) ?_
      obtain ⟨r20, hc, hE⟩ := bnd1_some hE
      refine aft_i (run_SN (rest := []) F (kX11_bit hc) (okX Z) C hS (C.2.2 _ _ mlX3_86 rfl) lkX3_86 ⟨Nat.le_of_ble_eq_true rfl, Nat.le_of_ble_eq_true rfl⟩ hP rfl hl.1 rfl (lv_room (Nat.le_of_ble_eq_true rfl)) dX3_leastFree_13 ⟨Nat.zero_le _, Nat.zero_le _⟩) hS (fun H locs hP hS => ?_)
      refine lv_if_ne (tgt := 21) F.1 F.2.1 dX3_leastFree_16 (by decide) (fun hc => ?_) (fun hc => ?_)
      · have hE := ifn hE hc
        refine lv_iinc (v := x1 + 1) (lv' := [(1, .int (x1 + 1)), (0, .ref (hA Z j 0))]) F.1 F.2.1 dX3_leastFree_21 hl (k := 1) rfl rfl (by decide) rfl (fun ls hl => ?_)
        refine lv_goto (tgt := 2) F.1 F.2.1 dX3_leastFree_24 (by decide) ?_
        exact h2 (x1 + 1) hE _ _ hP hS ls (lv_sub hl [1, 0] rfl)
      · have hE := ifp hE hc
        refine lv_iload_n F.1 F.2.1 dX3_leastFree_19 rfl (lv_at hl 1 rfl) ?_
        obtain rfl := Option.some.inj hE
        exact ret_i F hr hlk hP hS dX3_leastFree_20
set_option maxRecDepth 100000 in
set_option maxHeartbeats 4000000 in
theorem kX3_leastFree {l : Launch} {Z : ZC} {HS : Nat → Nat → Nat → Int32} {j : Nat} {X : Nat → Nat → Int32} {zkb : Int32} {zdr : Int32} {zky : Nat → Int32} {zpn : Int32} {zps : Int32} {ztz : Int32} {ztn : Nat → Int64} {zxz : Int32} {zxa : Int32} {zsg : Nat → Int32} {za0 : Int32} {za1 : Int32} {za2 : Int32} {za3 : Int32} {za4 : Int32} {zfr : Nat → Int32} {zcd : Int32} {zgo : Nat → Int32} {ztd : Int32} {ztv : Int32} {zcl : Nat → Int32} {zca : Nat → Int32} {zwa : Nat → Int32} {zpt : Nat → Int32} {zpf : Nat → Int32} {N : Nat} {r' : Int32} (hj : j < 13) (hX : HS j = X) (hE : fX3_leastFree N X = some r') : Mg l yX3_leastFree cX3_leastFree 2 (some .int) (rmk 1 21) (KX Z) (AX Z) [.ref (hA Z j 0)] (PX Z HS zkb zdr zky zpn zps ztz ztn zxz zxa zsg za0 za1 za2 za3 za4 zfr zcd zgo ztd ztv zcl zca zwa zpt zpf) (Qi (KX Z) (AX Z) (PX Z HS zkb zdr zky zpn zps ztz ztn zxz zxa zsg za0 za1 za2 za3 za4 zfr zcd zgo ztd ztv zcl zca zwa zpt zpf) r') := by
  rw [← updH_eq hX]
  refine Mg.start (lv := [(0, .ref (hA Z j 0))]) (by decide) rfl (Nat.le_of_ble_eq_true rfl) rfl ?_
  intro p e s m below meth c F hr hlk C hP ls hl
  have hS : va_S (AX Z) s.heap s.heap [] := va_S.rf
  unfold fX3_leastFree at hE
  refine lv_iconst (v := 0) F.1 F.2.1 dX3_leastFree_0 (by decide) ?_
  refine lv_istore_n (lv' := [(1, .int 0), (0, .ref (hA Z j 0))]) F.1 F.2.1 dX3_leastFree_1 rfl hl (by decide) rfl (fun ls hl => ?_)
  exact qX3_leastFree_2 F hr hlk C hj N 0 hE _ _ hP hS ls (lv_sub hl [1, 0] rfl)
set_option maxRecDepth 100000 in
set_option maxHeartbeats 4000000 in
theorem kX0_becomes {l : Launch} {Z : ZC} {HS : Nat → Nat → Nat → Int32} {zkb : Int32} {zdr : Int32} {zky : Nat → Int32} {zpn : Int32} {zps : Int32} {ztz : Int32} {ztn : Nat → Int64} {zxz : Int32} {zxa : Int32} {zsg : Nat → Int32} {za0 : Int32} {za1 : Int32} {za2 : Int32} {za3 : Int32} {za4 : Int32} {zfr : Nat → Int32} {zcd : Int32} {zgo : Nat → Int32} {ztd : Int32} {ztv : Int32} {zcl : Nat → Int32} {zca : Nat → Int32} {zwa : Nat → Int32} {zpt : Nat → Int32} {zpf : Nat → Int32} {p1 : Int32} {p2 : Int32} {p3 : Int32} {p4 : Int32} {p5 : Int32} {za0' : Int32} {za1' : Int32} {za2' : Int32} {za3' : Int32} {za4' : Int32} (hE : fX0_becomes za0 za1 za2 za3 za4 p1 p2 p3 p4 p5 = some (za0', za1', za2', za3', za4')) : Mg l yX0_becomes cX0_becomes 6 none (rmk 0 0) (KX Z) (AX Z) [.ref (oA Z 8), .int p1, .int p2, .int p3, .int p4, .int p5] (PX Z HS zkb zdr zky zpn zps ztz ztn zxz zxa zsg za0 za1 za2 za3 za4 zfr zcd zgo ztd ztv zcl zca zwa zpt zpf) (Qv (KX Z) (AX Z) (PX Z HS zkb zdr zky zpn zps ztz ztn zxz zxa zsg za0' za1' za2' za3' za4' zfr zcd zgo ztd ztv zcl zca zwa zpt zpf)) := by
  refine Mg.start (lv := [(0, .ref (oA Z 8)), (1, .int p1), (2, .int p2), (3, .int p3), (4, .int p4), (5, .int p5)]) (by decide) rfl (Nat.le_of_ble_eq_true rfl) rfl ?_
  intro p e s m below meth c F hr hlk C hP ls hl
  have hS : va_S (AX Z) s.heap s.heap [] := va_S.rf
  unfold fX0_becomes at hE
  refine lv_aload_n F.1 F.2.1 dX0_becomes_0 rfl (lv_at hl 0 rfl) ?_
  refine lv_iload_n F.1 F.2.1 dX0_becomes_1 rfl (lv_at hl 1 rfl) ?_
  refine pX0_7 F C hP hS rfl dX0_becomes_2 (fun H locs hP hS => ?_)
  refine lv_aload_n F.1 F.2.1 dX0_becomes_5 rfl (lv_at hl 0 rfl) ?_
  refine lv_iload_n F.1 F.2.1 dX0_becomes_6 rfl (lv_at hl 2 rfl) ?_
  refine pX0_13 F C hP hS rfl dX0_becomes_7 (fun H locs hP hS => ?_)
  refine lv_aload_n F.1 F.2.1 dX0_becomes_10 rfl (lv_at hl 0 rfl) ?_
  refine lv_iload_n F.1 F.2.1 dX0_becomes_11 rfl (lv_at hl 3 rfl) ?_
  refine pX0_16 F C hP hS rfl dX0_becomes_12 (fun H locs hP hS => ?_)
  refine lv_aload_n F.1 F.2.1 dX0_becomes_15 rfl (lv_at hl 0 rfl) ?_
  refine lv_iload F.1 F.2.1 dX0_becomes_16 (lv_at hl 4 rfl) ?_
  refine pX0_19 F C hP hS rfl dX0_becomes_18 (fun H locs hP hS => ?_)
  refine lv_aload_n F.1 F.2.1 dX0_becomes_21 rfl (lv_at hl 0 rfl) ?_
  refine lv_iload F.1 F.2.1 dX0_becomes_22 (lv_at hl 5 rfl) ?_
  refine pX0_22 F C hP hS rfl dX0_becomes_24 (fun H locs hP hS => ?_)
  have w0 := Option.some.inj hE
  obtain ⟨g0, w1⟩ := Prod.mk.inj w0
  obtain ⟨g1, w2⟩ := Prod.mk.inj w1
  obtain ⟨g2, w3⟩ := Prod.mk.inj w2
  obtain ⟨g3, w4⟩ := Prod.mk.inj w3
  subst g0 g1 g2 g3 w4
  exact ret_v F hr hlk hP hS dX0_becomes_27
set_option maxRecDepth 100000 in
set_option maxHeartbeats 4000000 in
theorem kX1_isWithin {l : Launch} {Z : ZC} {HS : Nat → Nat → Nat → Int32} {zkb : Int32} {zdr : Int32} {zky : Nat → Int32} {zpn : Int32} {zps : Int32} {ztz : Int32} {ztn : Nat → Int64} {zxz : Int32} {zxa : Int32} {zsg : Nat → Int32} {za0 : Int32} {za1 : Int32} {za2 : Int32} {za3 : Int32} {za4 : Int32} {zfr : Nat → Int32} {zcd : Int32} {zgo : Nat → Int32} {ztd : Int32} {ztv : Int32} {zcl : Nat → Int32} {zca : Nat → Int32} {zwa : Nat → Int32} {zpt : Nat → Int32} {zpf : Nat → Int32} {p0 : Int32} {p1 : Int32} {p2 : Int32} {r' : Int32} (hE : fX1_isWithin p0 p1 p2 = some r') : Mg l yX1_isWithin cX1_isWithin 3 (some .boolean) (rmk 0 0) (KX Z) (AX Z) [.int p0, .int p1, .int p2] (PX Z HS zkb zdr zky zpn zps ztz ztn zxz zxa zsg za0 za1 za2 za3 za4 zfr zcd zgo ztd ztv zcl zca zwa zpt zpf) (Qi (KX Z) (AX Z) (PX Z HS zkb zdr zky zpn zps ztz ztn zxz zxa zsg za0 za1 za2 za3 za4 zfr zcd zgo ztd ztv zcl zca zwa zpt zpf) r') := by
  refine Mg.start (lv := [(0, .int p0), (1, .int p1), (2, .int p2)]) (by decide) rfl (Nat.le_of_ble_eq_true rfl) rfl ?_
  intro p e s m below meth c F hr hlk C hP ls hl
  have hS : va_S (AX Z) s.heap s.heap [] := va_S.rf
  unfold fX1_isWithin at hE
  refine lv_iload_n F.1 F.2.1 dX1_isWithin_0 rfl (lv_at hl 0 rfl) ?_
  refine lv_iload_n F.1 F.2.1 dX1_isWithin_1 rfl (lv_at hl 1 rfl) ?_
  refine lv_icmp_lt (tgt := 14) F.1 F.2.1 dX1_isWithin_2 (by decide) (fun hc => ?_) (fun hc => ?_)
  · have hE := ifp hE hc
    refine lv_iconst (v := 0) F.1 F.2.1 dX1_isWithin_14 (by decide) ?_
    obtain rfl := Option.some.inj hE
    exact ret_z F hr rfl hlk hP hS dX1_isWithin_15
  · have hE := ifn hE hc
    refine lv_iload_n F.1 F.2.1 dX1_isWithin_5 rfl (lv_at hl 0 rfl) ?_
    refine lv_iload_n F.1 F.2.1 dX1_isWithin_6 rfl (lv_at hl 2 rfl) ?_
    refine lv_icmp_gt (tgt := 14) F.1 F.2.1 dX1_isWithin_7 (by decide) (fun hc => ?_) (fun hc => ?_)
    · have hE := ifp hE hc
      refine lv_iconst (v := 0) F.1 F.2.1 dX1_isWithin_14 (by decide) ?_
      obtain rfl := Option.some.inj hE
      exact ret_z F hr rfl hlk hP hS dX1_isWithin_15
    · have hE := ifn hE hc
      refine lv_iconst (v := 1) F.1 F.2.1 dX1_isWithin_10 (by decide) ?_
      refine lv_goto (tgt := 15) F.1 F.2.1 dX1_isWithin_11 (by decide) ?_
      obtain rfl := Option.some.inj hE
      exact ret_z F hr rfl hlk hP hS dX1_isWithin_15
set_option maxRecDepth 100000 in
set_option maxHeartbeats 4000000 in
theorem kX1_refusesMake {l : Launch} {Z : ZC} {HS : Nat → Nat → Nat → Int32} {j : Nat} {X : Nat → Nat → Int32} {zkb : Int32} {zdr : Int32} {zky : Nat → Int32} {zpn : Int32} {zps : Int32} {ztz : Int32} {ztn : Nat → Int64} {zxz : Int32} {zxa : Int32} {zsg : Nat → Int32} {za0 : Int32} {za1 : Int32} {za2 : Int32} {za3 : Int32} {za4 : Int32} {zfr : Nat → Int32} {zcd : Int32} {zgo : Nat → Int32} {ztd : Int32} {ztv : Int32} {zcl : Nat → Int32} {zca : Nat → Int32} {zwa : Nat → Int32} {zpt : Nat → Int32} {zpf : Nat → Int32} {N : Nat} {r' : Int32} (hj : j < 13) (hX : HS j = X) (hE : fX1_refusesMake N za1 za2 za3 za4 X = some r') : Mg l yX1_refusesMake cX1_refusesMake 3 (some .int) (rmk 2 42) (KX Z) (AX Z) [.ref (oA Z 19), .ref (hA Z j 0), .ref (oA Z 8)] (PX Z HS zkb zdr zky zpn zps ztz ztn zxz zxa zsg za0 za1 za2 za3 za4 zfr zcd zgo ztd ztv zcl zca zwa zpt zpf) (Qi (KX Z) (AX Z) (PX Z HS zkb zdr zky zpn zps ztz ztn zxz zxa zsg za0 za1 za2 za3 za4 zfr zcd zgo ztd ztv zcl zca zwa zpt zpf) r') := by
  rw [← updH_eq hX]
  refine Mg.start (lv := [(0, .ref (oA Z 19)), (1, .ref (hA Z j 0)), (2, .ref (oA Z 8))]) (by decide) rfl (Nat.le_of_ble_eq_true rfl) rfl ?_
  intro p e s m below meth c F hr hlk C hP ls hl
  have hS : va_S (AX Z) s.heap s.heap [] := va_S.rf
  unfold fX1_refusesMake at hE
  refine lv_aload_n F.1 F.2.1 dX1_refusesMake_0 rfl (lv_at hl 2 rfl) ?_
  refine gX1_48 F C hP dX1_refusesMake_1 ?_
  refine lv_iconst (v := 0) F.1 F.2.1 dX1_refusesMake_4 (by decide) ?_
  refine lv_iconst (v := 4) F.1 F.2.1 dX1_refusesMake_5 (by decide) ?_
  obtain ⟨r28, hc, hE⟩ := bnd1_some hE
  refine aft_i (run_S (rest := []) F (kX1_isWithin hc) (okX Z) C hS lkX1_113 ⟨Nat.le_of_ble_eq_true rfl, Nat.le_of_ble_eq_true rfl⟩ hP rfl hl.1 rfl (lv_room (Nat.le_of_ble_eq_true rfl)) dX1_refusesMake_6 ⟨Nat.zero_le _, Nat.zero_le _⟩) hS (fun H locs hP hS => ?_)
  refine lv_if_eq (tgt := 50) F.1 F.2.1 dX1_refusesMake_9 (by decide) (fun hc => ?_) (fun hc => ?_)
  · have hE := ifp hE hc
    refine lv_iconst (v := (-1)) F.1 F.2.1 dX1_refusesMake_50 (by decide) ?_
    obtain rfl := Option.some.inj hE
    exact ret_i F hr hlk hP hS dX1_refusesMake_51
  · have hE := ifn hE hc
    refine lv_aload_n F.1 F.2.1 dX1_refusesMake_12 rfl (lv_at hl 2 rfl) ?_
    refine gX1_51 F C hP dX1_refusesMake_13 ?_
    refine lv_iconst (v := 1) F.1 F.2.1 dX1_refusesMake_16 (by decide) ?_
    refine lv_bipush (v := 9) F.1 F.2.1 dX1_refusesMake_17 (by decide) ?_
    obtain ⟨r29, hc, hE⟩ := bnd1_some hE
    refine aft_i (run_S (rest := []) F (kX1_isWithin hc) (okX Z) C hS lkX1_113 ⟨Nat.le_of_ble_eq_true rfl, Nat.le_of_ble_eq_true rfl⟩ hP rfl hl.1 rfl (lv_room (Nat.le_of_ble_eq_true rfl)) dX1_refusesMake_19 ⟨Nat.zero_le _, Nat.zero_le _⟩) hS (fun H locs hP hS => ?_)
    refine lv_if_eq (tgt := 50) F.1 F.2.1 dX1_refusesMake_22 (by decide) (fun hc => ?_) (fun hc => ?_)
    · have hE := ifp hE hc
      refine lv_iconst (v := (-1)) F.1 F.2.1 dX1_refusesMake_50 (by decide) ?_
      obtain rfl := Option.some.inj hE
      exact ret_i F hr hlk hP hS dX1_refusesMake_51
    · have hE := ifn hE hc
      refine lv_aload_n F.1 F.2.1 dX1_refusesMake_25 rfl (lv_at hl 2 rfl) ?_
      refine gX1_54 F C hP dX1_refusesMake_26 ?_
      refine lv_iconst (v := 0) F.1 F.2.1 dX1_refusesMake_29 (by decide) ?_
      refine lv_bipush (v := 7) F.1 F.2.1 dX1_refusesMake_30 (by decide) ?_
      obtain ⟨r30, hc, hE⟩ := bnd1_some hE
      refine aft_i (run_S (rest := []) F (kX1_isWithin hc) (okX Z) C hS lkX1_113 ⟨Nat.le_of_ble_eq_true rfl, Nat.le_of_ble_eq_true rfl⟩ hP rfl hl.1 rfl (lv_room (Nat.le_of_ble_eq_true rfl)) dX1_refusesMake_32 ⟨Nat.zero_le _, Nat.zero_le _⟩) hS (fun H locs hP hS => ?_)
      refine lv_if_eq (tgt := 50) F.1 F.2.1 dX1_refusesMake_35 (by decide) (fun hc => ?_) (fun hc => ?_)
      · have hE := ifp hE hc
        refine lv_iconst (v := (-1)) F.1 F.2.1 dX1_refusesMake_50 (by decide) ?_
        obtain rfl := Option.some.inj hE
        exact ret_i F hr hlk hP hS dX1_refusesMake_51
      · have hE := ifn hE hc
        refine lv_aload_n F.1 F.2.1 dX1_refusesMake_38 rfl (lv_at hl 2 rfl) ?_
        refine gX1_61 F C hP dX1_refusesMake_39 ?_
        refine lv_iconst (v := 0) F.1 F.2.1 dX1_refusesMake_42 (by decide) ?_
        refine lv_iconst (v := 5) F.1 F.2.1 dX1_refusesMake_43 (by decide) ?_
        obtain ⟨r31, hc, hE⟩ := bnd1_some hE
        refine aft_i (run_S (rest := []) F (kX1_isWithin hc) (okX Z) C hS lkX1_113 ⟨Nat.le_of_ble_eq_true rfl, Nat.le_of_ble_eq_true rfl⟩ hP rfl hl.1 rfl (lv_room (Nat.le_of_ble_eq_true rfl)) dX1_refusesMake_44 ⟨Nat.zero_le _, Nat.zero_le _⟩) hS (fun H locs hP hS => ?_)
        refine lv_if_ne (tgt := 52) F.1 F.2.1 dX1_refusesMake_47 (by decide) (fun hc => ?_) (fun hc => ?_)
        · have hE := ifn hE hc
          refine lv_aload_n F.1 F.2.1 dX1_refusesMake_52 rfl (lv_at hl 1 rfl) ?_
          obtain ⟨r32, hc, hE⟩ := bnd1_some hE
          refine aft_i (run_N (rest := []) F (kX3_leastFree hj (updH_at _ _ _) hc) (okX Z) C hS (C.2.2 _ _ mlX1_44 rfl) lkX1_44 ⟨Nat.le_of_ble_eq_true rfl, Nat.le_of_ble_eq_true rfl⟩ (rvh0 C hP hj) hP rfl hl.1 rfl (lv_room (Nat.le_of_ble_eq_true rfl)) dX1_refusesMake_53 ⟨Nat.zero_le _, Nat.zero_le _⟩) hS (fun H locs hP hS => ?_)
          refine lv_iconst (v := (-1)) F.1 F.2.1 dX1_refusesMake_56 (by decide) ?_
          refine lv_icmp_ne (tgt := 65) F.1 F.2.1 dX1_refusesMake_57 (by decide) (fun hc => ?_) (fun hc => ?_)
          · have hE := ifn hE hc
            refine lv_iconst (v := 0) F.1 F.2.1 dX1_refusesMake_65 (by decide) ?_
            obtain rfl := Option.some.inj hE
            exact ret_i F hr hlk hP hS dX1_refusesMake_66
          · have hE := ifp hE hc
            refine lv_bipush (v := (-2)) F.1 F.2.1 dX1_refusesMake_60 (by decide) ?_
            refine lv_goto (tgt := 66) F.1 F.2.1 dX1_refusesMake_62 (by decide) ?_
            obtain rfl := Option.some.inj hE
            exact ret_i F hr hlk hP hS dX1_refusesMake_66
        · have hE := ifp hE hc
          refine lv_iconst (v := (-1)) F.1 F.2.1 dX1_refusesMake_50 (by decide) ?_
          obtain rfl := Option.some.inj hE
          exact ret_i F hr hlk hP hS dX1_refusesMake_51
set_option maxRecDepth 100000 in
set_option maxHeartbeats 4000000 in
theorem kX3_has {l : Launch} {Z : ZC} {HS : Nat → Nat → Nat → Int32} {j : Nat} {X : Nat → Nat → Int32} {zkb : Int32} {zdr : Int32} {zky : Nat → Int32} {zpn : Int32} {zps : Int32} {ztz : Int32} {ztn : Nat → Int64} {zxz : Int32} {zxa : Int32} {zsg : Nat → Int32} {za0 : Int32} {za1 : Int32} {za2 : Int32} {za3 : Int32} {za4 : Int32} {zfr : Nat → Int32} {zcd : Int32} {zgo : Nat → Int32} {ztd : Int32} {ztv : Int32} {zcl : Nat → Int32} {zca : Nat → Int32} {zwa : Nat → Int32} {zpt : Nat → Int32} {zpf : Nat → Int32} {p1 : Int32} {r' : Int32} (hj : j < 13) (hX : HS j = X) (hE : fX3_has X p1 = some r') : Mg l yX3_has cX3_has 2 (some .boolean) (rmk 0 0) (KX Z) (AX Z) [.ref (hA Z j 0), .int p1] (PX Z HS zkb zdr zky zpn zps ztz ztn zxz zxa zsg za0 za1 za2 za3 za4 zfr zcd zgo ztd ztv zcl zca zwa zpt zpf) (Qi (KX Z) (AX Z) (PX Z HS zkb zdr zky zpn zps ztz ztn zxz zxa zsg za0 za1 za2 za3 za4 zfr zcd zgo ztd ztv zcl zca zwa zpt zpf) r') := by
  rw [← updH_eq hX]
  refine Mg.start (lv := [(0, .ref (hA Z j 0)), (1, .int p1)]) (by decide) rfl (Nat.le_of_ble_eq_true rfl) rfl ?_
  intro p e s m below meth c F hr hlk C hP ls hl
  have hS : va_S (AX Z) s.heap s.heap [] := va_S.rf
  unfold fX3_has at hE
  refine lv_iload_n F.1 F.2.1 dX3_has_0 rfl (lv_at hl 1 rfl) ?_
  refine lv_if_lt (tgt := 26) F.1 F.2.1 dX3_has_1 (by decide) (fun hc => ?_) (fun hc => ?_)
  · have hE := ifp hE hc
    refine lv_iconst (v := 0) F.1 F.2.1 dX3_has_26 (by decide) ?_
    obtain rfl := Option.some.inj hE
    exact ret_z F hr rfl hlk hP hS dX3_has_27
  · have hE := ifn hE hc
    refine lv_iload_n F.1 F.2.1 dX3_has_4 rfl (lv_at hl 1 rfl) ?_
    refine lv_bipush (v := 24) F.1 F.2.1 dX3_has_5 (by decide) ?_
    refine lv_icmp_ge (tgt := 26) F.1 F.2.1 dX3_has_7 (by decide) (fun hc => ?_) (fun hc => ?_)
    · have hE := ifp hE hc
      refine lv_iconst (v := 0) F.1 F.2.1 dX3_has_26 (by decide) ?_
      obtain rfl := Option.some.inj hE
      exact ret_z F hr rfl hlk hP hS dX3_has_27
    · have hE := ifn hE hc
      refine lv_aload_n F.1 F.2.1 dX3_has_10 rfl (lv_at hl 0 rfl) ?_
      refine gX3_57 F C hP hj (updH_at _ _ _) dX3_has_11 ?_
      refine lv_iload_n F.1 F.2.1 dX3_has_14 rfl (lv_at hl 1 rfl) ?_
      refine rj_iushr F.1 F.2.1 dX3_has_15 ?_
      refine lv_iconst (v := 1) F.1 F.2.1 dX3_has_16 (by decide) ?_
      refine lv_iand F.1 F.2.1 dX3_has_17 ?_
      refine lv_iconst (v := 1) F.1 F.2.1 dX3_has_18 (by decide) ?_
      refine lv_icmp_ne (tgt := 26) F.1 F.2.1 dX3_has_19 (by decide) (fun hc => ?_) (fun hc => ?_)
      · have hE := ifn hE hc
        refine lv_iconst (v := 0) F.1 F.2.1 dX3_has_26 (by decide) ?_
        obtain rfl := Option.some.inj hE
        exact ret_z F hr rfl hlk hP hS dX3_has_27
      · have hE := ifp hE hc
        refine lv_iconst (v := 1) F.1 F.2.1 dX3_has_22 (by decide) ?_
        refine lv_goto (tgt := 27) F.1 F.2.1 dX3_has_23 (by decide) ?_
        obtain rfl := Option.some.inj hE
        exact ret_z F hr rfl hlk hP hS dX3_has_27
set_option maxRecDepth 100000 in
set_option maxHeartbeats 4000000 in
theorem kX3_hasField {l : Launch} {Z : ZC} {HS : Nat → Nat → Nat → Int32} {j : Nat} {X : Nat → Nat → Int32} {zkb : Int32} {zdr : Int32} {zky : Nat → Int32} {zpn : Int32} {zps : Int32} {ztz : Int32} {ztn : Nat → Int64} {zxz : Int32} {zxa : Int32} {zsg : Nat → Int32} {za0 : Int32} {za1 : Int32} {za2 : Int32} {za3 : Int32} {za4 : Int32} {zfr : Nat → Int32} {zcd : Int32} {zgo : Nat → Int32} {ztd : Int32} {ztv : Int32} {zcl : Nat → Int32} {zca : Nat → Int32} {zwa : Nat → Int32} {zpt : Nat → Int32} {zpf : Nat → Int32} {p1 : Int32} {p2 : Int32} {r' : Int32} (hj : j < 13) (hX : HS j = X) (hE : fX3_hasField X p1 p2 = some r') : Mg l yX3_hasField cX3_hasField 3 (some .boolean) (rmk 1 21) (KX Z) (AX Z) [.ref (hA Z j 0), .int p1, .int p2] (PX Z HS zkb zdr zky zpn zps ztz ztn zxz zxa zsg za0 za1 za2 za3 za4 zfr zcd zgo ztd ztv zcl zca zwa zpt zpf) (Qi (KX Z) (AX Z) (PX Z HS zkb zdr zky zpn zps ztz ztn zxz zxa zsg za0 za1 za2 za3 za4 zfr zcd zgo ztd ztv zcl zca zwa zpt zpf) r') := by
  rw [← updH_eq hX]
  refine Mg.start (lv := [(0, .ref (hA Z j 0)), (1, .int p1), (2, .int p2)]) (by decide) rfl (Nat.le_of_ble_eq_true rfl) rfl ?_
  intro p e s m below meth c F hr hlk C hP ls hl
  have hS : va_S (AX Z) s.heap s.heap [] := va_S.rf
  unfold fX3_hasField at hE
  refine lv_aload_n F.1 F.2.1 dX3_hasField_0 rfl (lv_at hl 0 rfl) ?_
  refine lv_iload_n F.1 F.2.1 dX3_hasField_1 rfl (lv_at hl 1 rfl) ?_
  obtain ⟨r34, hc, hE⟩ := bnd1_some hE
  refine aft_i (run_V (rest := []) F (kX3_has hj (updH_at _ _ _) hc) (okX Z) C hS lkX3_76 ⟨Nat.le_of_ble_eq_true rfl, Nat.le_of_ble_eq_true rfl⟩ (rvh0 C hP hj) hP rfl hl.1 rfl (lv_room (Nat.le_of_ble_eq_true rfl)) dX3_hasField_2 ⟨Nat.zero_le _, Nat.zero_le _⟩) hS (fun H locs hP hS => ?_)
  refine lv_if_eq (tgt := 26) F.1 F.2.1 dX3_hasField_5 (by decide) (fun hc => ?_) (fun hc => ?_)
  · have hE := ifp hE hc
    refine lv_iconst (v := 0) F.1 F.2.1 dX3_hasField_26 (by decide) ?_
    obtain rfl := Option.some.inj hE
    exact ret_z F hr rfl hlk hP hS dX3_hasField_27
  · have hE := ifn hE hc
    refine lv_iload_n F.1 F.2.1 dX3_hasField_8 rfl (lv_at hl 2 rfl) ?_
    refine lv_if_lt (tgt := 26) F.1 F.2.1 dX3_hasField_9 (by decide) (fun hc => ?_) (fun hc => ?_)
    · have hE := ifp hE hc
      refine lv_iconst (v := 0) F.1 F.2.1 dX3_hasField_26 (by decide) ?_
      obtain rfl := Option.some.inj hE
      exact ret_z F hr rfl hlk hP hS dX3_hasField_27
    · have hE := ifn hE hc
      refine lv_iload_n F.1 F.2.1 dX3_hasField_12 rfl (lv_at hl 2 rfl) ?_
      refine lv_aload_n F.1 F.2.1 dX3_hasField_13 rfl (lv_at hl 0 rfl) ?_
      refine gX3_15 F C hP hj (updH_at _ _ _) dX3_hasField_14 ?_
      refine lv_iload_n F.1 F.2.1 dX3_hasField_17 rfl (lv_at hl 1 rfl) ?_
      obtain ⟨hi, hE⟩ := grd_some hE
      refine ah1 F C hP hj (updH_at _ _ _) hi dX3_hasField_18 ?_
      refine lv_icmp_ge (tgt := 26) F.1 F.2.1 dX3_hasField_19 (by decide) (fun hc => ?_) (fun hc => ?_)
      · have hE := ifp hE hc
        refine lv_iconst (v := 0) F.1 F.2.1 dX3_hasField_26 (by decide) ?_
        obtain rfl := Option.some.inj hE
        exact ret_z F hr rfl hlk hP hS dX3_hasField_27
      · have hE := ifn hE hc
        refine lv_iconst (v := 1) F.1 F.2.1 dX3_hasField_22 (by decide) ?_
        refine lv_goto (tgt := 27) F.1 F.2.1 dX3_hasField_23 (by decide) ?_
        obtain rfl := Option.some.inj hE
        exact ret_z F hr rfl hlk hP hS dX3_hasField_27
set_option maxRecDepth 100000 in
set_option maxHeartbeats 4000000 in
theorem kX3_hasOrNone {l : Launch} {Z : ZC} {HS : Nat → Nat → Nat → Int32} {j : Nat} {X : Nat → Nat → Int32} {zkb : Int32} {zdr : Int32} {zky : Nat → Int32} {zpn : Int32} {zps : Int32} {ztz : Int32} {ztn : Nat → Int64} {zxz : Int32} {zxa : Int32} {zsg : Nat → Int32} {za0 : Int32} {za1 : Int32} {za2 : Int32} {za3 : Int32} {za4 : Int32} {zfr : Nat → Int32} {zcd : Int32} {zgo : Nat → Int32} {ztd : Int32} {ztv : Int32} {zcl : Nat → Int32} {zca : Nat → Int32} {zwa : Nat → Int32} {zpt : Nat → Int32} {zpf : Nat → Int32} {p1 : Int32} {r' : Int32} (hj : j < 13) (hX : HS j = X) (hE : fX3_hasOrNone X p1 = some r') : Mg l yX3_hasOrNone cX3_hasOrNone 2 (some .boolean) (rmk 1 21) (KX Z) (AX Z) [.ref (hA Z j 0), .int p1] (PX Z HS zkb zdr zky zpn zps ztz ztn zxz zxa zsg za0 za1 za2 za3 za4 zfr zcd zgo ztd ztv zcl zca zwa zpt zpf) (Qi (KX Z) (AX Z) (PX Z HS zkb zdr zky zpn zps ztz ztn zxz zxa zsg za0 za1 za2 za3 za4 zfr zcd zgo ztd ztv zcl zca zwa zpt zpf) r') := by
  rw [← updH_eq hX]
  refine Mg.start (lv := [(0, .ref (hA Z j 0)), (1, .int p1)]) (by decide) rfl (Nat.le_of_ble_eq_true rfl) rfl ?_
  intro p e s m below meth c F hr hlk C hP ls hl
  have hS : va_S (AX Z) s.heap s.heap [] := va_S.rf
  unfold fX3_hasOrNone at hE
  refine lv_iload_n F.1 F.2.1 dX3_hasOrNone_0 rfl (lv_at hl 1 rfl) ?_
  refine lv_iconst (v := (-1)) F.1 F.2.1 dX3_hasOrNone_1 (by decide) ?_
  refine lv_icmp_eq (tgt := 13) F.1 F.2.1 dX3_hasOrNone_2 (by decide) (fun hc => ?_) (fun hc => ?_)
  · have hE := ifp hE hc
    refine lv_iconst (v := 1) F.1 F.2.1 dX3_hasOrNone_13 (by decide) ?_
    refine lv_goto (tgt := 18) F.1 F.2.1 dX3_hasOrNone_14 (by decide) ?_
    obtain rfl := Option.some.inj hE
    exact ret_z F hr rfl hlk hP hS dX3_hasOrNone_18
  · have hE := ifn hE hc
    refine lv_aload_n F.1 F.2.1 dX3_hasOrNone_5 rfl (lv_at hl 0 rfl) ?_
    refine lv_iload_n F.1 F.2.1 dX3_hasOrNone_6 rfl (lv_at hl 1 rfl) ?_
    obtain ⟨r36, hc, hE⟩ := bnd1_some hE
    refine aft_i (run_V (rest := []) F (kX3_has hj (updH_at _ _ _) hc) (okX Z) C hS lkX3_76 ⟨Nat.le_of_ble_eq_true rfl, Nat.le_of_ble_eq_true rfl⟩ (rvh0 C hP hj) hP rfl hl.1 rfl (lv_room (Nat.le_of_ble_eq_true rfl)) dX3_hasOrNone_7 ⟨Nat.zero_le _, Nat.zero_le _⟩) hS (fun H locs hP hS => ?_)
    refine lv_if_eq (tgt := 17) F.1 F.2.1 dX3_hasOrNone_10 (by decide) (fun hc => ?_) (fun hc => ?_)
    · have hE := ifp hE hc
      refine lv_iconst (v := 0) F.1 F.2.1 dX3_hasOrNone_17 (by decide) ?_
      obtain rfl := Option.some.inj hE
      exact ret_z F hr rfl hlk hP hS dX3_hasOrNone_18
    · have hE := ifn hE hc
      refine lv_iconst (v := 1) F.1 F.2.1 dX3_hasOrNone_13 (by decide) ?_
      refine lv_goto (tgt := 18) F.1 F.2.1 dX3_hasOrNone_14 (by decide) ?_
      obtain rfl := Option.some.inj hE
      exact ret_z F hr rfl hlk hP hS dX3_hasOrNone_18
set_option maxRecDepth 100000 in
set_option maxHeartbeats 4000000 in
theorem kX3_fieldAt {l : Launch} {Z : ZC} {HS : Nat → Nat → Nat → Int32} {j : Nat} {X : Nat → Nat → Int32} {zkb : Int32} {zdr : Int32} {zky : Nat → Int32} {zpn : Int32} {zps : Int32} {ztz : Int32} {ztn : Nat → Int64} {zxz : Int32} {zxa : Int32} {zsg : Nat → Int32} {za0 : Int32} {za1 : Int32} {za2 : Int32} {za3 : Int32} {za4 : Int32} {zfr : Nat → Int32} {zcd : Int32} {zgo : Nat → Int32} {ztd : Int32} {ztv : Int32} {zcl : Nat → Int32} {zca : Nat → Int32} {zwa : Nat → Int32} {zpt : Nat → Int32} {zpf : Nat → Int32} {p1 : Int32} {p2 : Int32} {r' : Int32} (hj : j < 13) (hX : HS j = X) (hE : fX3_fieldAt X p1 p2 = some r') : Mg l yX3_fieldAt cX3_fieldAt 3 (some .int) (rmk 0 0) (KX Z) (AX Z) [.ref (hA Z j 0), .int p1, .int p2] (PX Z HS zkb zdr zky zpn zps ztz ztn zxz zxa zsg za0 za1 za2 za3 za4 zfr zcd zgo ztd ztv zcl zca zwa zpt zpf) (Qi (KX Z) (AX Z) (PX Z HS zkb zdr zky zpn zps ztz ztn zxz zxa zsg za0 za1 za2 za3 za4 zfr zcd zgo ztd ztv zcl zca zwa zpt zpf) r') := by
  rw [← updH_eq hX]
  refine Mg.start (lv := [(0, .ref (hA Z j 0)), (1, .int p1), (2, .int p2)]) (by decide) rfl (Nat.le_of_ble_eq_true rfl) rfl ?_
  intro p e s m below meth c F hr hlk C hP ls hl
  have hS : va_S (AX Z) s.heap s.heap [] := va_S.rf
  unfold fX3_fieldAt at hE
  refine lv_iload_n F.1 F.2.1 dX3_fieldAt_0 rfl (lv_at hl 1 rfl) ?_
  refine lv_if_lt (tgt := 32) F.1 F.2.1 dX3_fieldAt_1 (by decide) (fun hc => ?_) (fun hc => ?_)
  · have hE := ifp hE hc
    refine lv_iconst (v := (-1)) F.1 F.2.1 dX3_fieldAt_32 (by decide) ?_
    obtain rfl := Option.some.inj hE
    exact ret_i F hr hlk hP hS dX3_fieldAt_33
  · have hE := ifn hE hc
    refine lv_iload_n F.1 F.2.1 dX3_fieldAt_4 rfl (lv_at hl 1 rfl) ?_
    refine lv_bipush (v := 24) F.1 F.2.1 dX3_fieldAt_5 (by decide) ?_
    refine lv_icmp_ge (tgt := 32) F.1 F.2.1 dX3_fieldAt_7 (by decide) (fun hc => ?_) (fun hc => ?_)
    · have hE := ifp hE hc
      refine lv_iconst (v := (-1)) F.1 F.2.1 dX3_fieldAt_32 (by decide) ?_
      obtain rfl := Option.some.inj hE
      exact ret_i F hr hlk hP hS dX3_fieldAt_33
    · have hE := ifn hE hc
      refine lv_iload_n F.1 F.2.1 dX3_fieldAt_10 rfl (lv_at hl 2 rfl) ?_
      refine lv_if_lt (tgt := 32) F.1 F.2.1 dX3_fieldAt_11 (by decide) (fun hc => ?_) (fun hc => ?_)
      · have hE := ifp hE hc
        refine lv_iconst (v := (-1)) F.1 F.2.1 dX3_fieldAt_32 (by decide) ?_
        obtain rfl := Option.some.inj hE
        exact ret_i F hr hlk hP hS dX3_fieldAt_33
      · have hE := ifn hE hc
        refine lv_iload_n F.1 F.2.1 dX3_fieldAt_14 rfl (lv_at hl 2 rfl) ?_
        refine lv_iconst (v := 4) F.1 F.2.1 dX3_fieldAt_15 (by decide) ?_
        refine lv_icmp_ge (tgt := 32) F.1 F.2.1 dX3_fieldAt_16 (by decide) (fun hc => ?_) (fun hc => ?_)
        · have hE := ifp hE hc
          refine lv_iconst (v := (-1)) F.1 F.2.1 dX3_fieldAt_32 (by decide) ?_
          obtain rfl := Option.some.inj hE
          exact ret_i F hr hlk hP hS dX3_fieldAt_33
        · have hE := ifn hE hc
          refine lv_aload_n F.1 F.2.1 dX3_fieldAt_19 rfl (lv_at hl 0 rfl) ?_
          refine gX3_28 F C hP hj (updH_at _ _ _) dX3_fieldAt_20 ?_
          refine lv_iload_n F.1 F.2.1 dX3_fieldAt_23 rfl (lv_at hl 1 rfl) ?_
          refine lv_iconst (v := 4) F.1 F.2.1 dX3_fieldAt_24 (by decide) ?_
          refine lv_imul F.1 F.2.1 dX3_fieldAt_25 ?_
          refine lv_iload_n F.1 F.2.1 dX3_fieldAt_26 rfl (lv_at hl 2 rfl) ?_
          refine lv_iadd F.1 F.2.1 dX3_fieldAt_27 ?_
          obtain ⟨hi, hE⟩ := grd_some hE
          refine ah5 F C hP hj (updH_at _ _ _) hi dX3_fieldAt_28 ?_
          refine lv_goto (tgt := 33) F.1 F.2.1 dX3_fieldAt_29 (by decide) ?_
          obtain rfl := Option.some.inj hE
          exact ret_i F hr hlk hP hS dX3_fieldAt_33
set_option maxRecDepth 100000 in
set_option maxHeartbeats 4000000 in
theorem qX3_rootBits_4 {p : Program} {l : Launch} {e : Env} {s : State} {m : MethodId} {args : Array Value} {below : List Frame} {meth : Method} {c : Code} {Z : ZC} {HS : Nat → Nat → Nat → Int32} {j : Nat} {X : Nat → Nat → Int32} {zkb : Int32} {zdr : Int32} {zky : Nat → Int32} {zpn : Int32} {zps : Int32} {ztz : Int32} {ztn : Nat → Int64} {zxz : Int32} {zxa : Int32} {zsg : Nat → Int32} {za0 : Int32} {za1 : Int32} {za2 : Int32} {za3 : Int32} {za4 : Int32} {zfr : Nat → Int32} {zcd : Int32} {zgo : Nat → Int32} {ztd : Int32} {ztv : Int32} {zcl : Nat → Int32} {zca : Nat → Int32} {zwa : Nat → Int32} {zpt : Nat → Int32} {zpf : Nat → Int32} {N : Nat} {p1 : Int32} {r' : Int32} (F : CallFix p m c cX3_rootBits 4 s args bigW RX3) (hr : meth.sig.returnType = (some .int)) (hlk : meth.locks = false) (C : KX Z s) (hj : j < 13) : ∀ n : Nat, ∀ (x2 : Int32) (x3 : Int32), fX3_rootBits_4 N X p1 n x2 x3 = some r' → ∀ (H : Heap) (locs : List Loc), PX Z (updH HS j X) zkb zdr zky zpn zps ztz ztn zxz zxa zsg za0 za1 za2 za3 za4 zfr zcd zgo ztd ztv zcl zca zwa zpt zpf H → va_S (AX Z) s.heap H locs → ∀ ls : Array Slot, lv_has ls 4 [(0, .ref (hA Z j 0)), (1, .int p1), (2, .int x2), (3, .int x3)] → W p l e (rmk 1 21) s m args below meth c H locs 0 0 (MQ below (Qi (KX Z) (AX Z) (PX Z (updH HS j X) zkb zdr zky zpn zps ztz ztn zxz zxa zsg za0 za1 za2 za3 za4 zfr zcd zgo ztd ztv zcl zca zwa zpt zpf) r') args s 0 0 (AX Z)) (F0 m 4 ls []) := by
  intro n
  induction n with
  | zero => intro x2 x3 hE; cases hE
  | succ n h4 =>
    intro x2 x3 hE H locs hP hS ls hl
    have hE : fX3_rootBits_4b N X p1 (fX3_rootBits_4 N X p1 n) x2 x3 = some r' := hE
    refine lv_iload_n F.1 F.2.1 dX3_rootBits_4 rfl (lv_at hl 3 rfl) ?_
    refine lv_bipush (v := 6) F.1 F.2.1 dX3_rootBits_5 (by decide) ?_
    refine lv_icmp_ge (tgt := 45) F.1 F.2.1 dX3_rootBits_7 (by decide) (fun hc => ?_) (fun hc => ?_)
    · have hE := ifp hE hc
      refine lv_iload_n F.1 F.2.1 dX3_rootBits_45 rfl (lv_at hl 2 rfl) ?_
      obtain rfl := Option.some.inj hE
      exact ret_i F hr hlk hP hS dX3_rootBits_46
    · have hE := ifn hE hc
      refine lv_aload_n F.1 F.2.1 dX3_rootBits_10 rfl (lv_at hl 0 rfl) ?_
      refine gX3_31 F C hP hj (updH_at _ _ _) dX3_rootBits_11 ?_
      refine lv_iload_n F.1 F.2.1 dX3_rootBits_14 rfl (lv_at hl 3 rfl) ?_
      obtain ⟨hi, hE⟩ := grd_some hE
      refine ah6 F C hP hj (updH_at _ _ _) hi dX3_rootBits_15 ?_
      refine lv_iconst (v := (-1)) F.1 F.2.1 dX3_rootBits_16 (by decide) ?_
      refine lv_icmp_eq (tgt := 39) F.1 F.2.1 dX3_rootBits_17 (by decide) (fun hc => ?_) (fun hc => ?_)
      · have hE := ifp hE hc
        refine lv_iinc (v := x3 + 1) (lv' := [(3, .int (x3 + 1)), (0, .ref (hA Z j 0)), (1, .int p1), (2, .int x2)]) F.1 F.2.1 dX3_rootBits_39 hl (k := 3) rfl rfl (by decide) rfl (fun ls hl => ?_)
        refine lv_goto (tgt := 4) F.1 F.2.1 dX3_rootBits_42 (by decide) ?_
        exact h4 x2 (x3 + 1) hE _ _ hP hS ls (lv_sub hl [1, 2, 3, 0] rfl)
      · have hE := ifn hE hc
        refine lv_iload_n F.1 F.2.1 dX3_rootBits_20 rfl (lv_at hl 1 rfl) ?_
        refine lv_iload_n F.1 F.2.1 dX3_rootBits_21 rfl (lv_at hl 3 rfl) ?_
        obtain ⟨r39, hc, hE⟩ := bnd1_some hE
        refine aft_i (run_SN (rest := []) F (kX11_bit hc) (okX Z) C hS (C.2.2 _ _ mlX3_86 rfl) lkX3_86 ⟨Nat.le_of_ble_eq_true rfl, Nat.le_of_ble_eq_true rfl⟩ hP rfl hl.1 rfl (lv_room (Nat.le_of_ble_eq_true rfl)) dX3_rootBits_22 ⟨Nat.zero_le _, Nat.zero_le _⟩) hS (fun H locs hP hS => ?_)
        refine lv_if_ne (tgt := 39) F.1 F.2.1 dX3_rootBits_25 (by decide) (fun hc => ?_) (fun hc => ?_)
        · have hE := ifn hE hc
          refine lv_iinc (v := x3 + 1) (lv' := [(3, .int (x3 + 1)), (0, .ref (hA Z j 0)), (1, .int p1), (2, .int x2)]) F.1 F.2.1 dX3_rootBits_39 hl (k := 3) rfl rfl (by decide) rfl (fun ls hl => ?_)
          refine lv_goto (tgt := 4) F.1 F.2.1 dX3_rootBits_42 (by decide) ?_
          exact h4 x2 (x3 + 1) hE _ _ hP hS ls (lv_sub hl [1, 2, 3, 0] rfl)
        · have hE := ifp hE hc
          refine lv_iload_n F.1 F.2.1 dX3_rootBits_28 rfl (lv_at hl 2 rfl) ?_
          refine lv_iconst (v := 1) F.1 F.2.1 dX3_rootBits_29 (by decide) ?_
          refine lv_aload_n F.1 F.2.1 dX3_rootBits_30 rfl (lv_at hl 0 rfl) ?_
          refine gX3_31 F C hP hj (updH_at _ _ _) dX3_rootBits_31 ?_
          refine lv_iload_n F.1 F.2.1 dX3_rootBits_34 rfl (lv_at hl 3 rfl) ?_
          obtain ⟨hi, hE⟩ := grd_some hE
          refine ah6 F C hP hj (updH_at _ _ _) hi dX3_rootBits_35 ?_
          refine rj_ishl F.1 F.2.1 dX3_rootBits_36 ?_
          refine lv_ior F.1 F.2.1 dX3_rootBits_37 ?_
          obtain ⟨v_40, ev_40, hE⟩ := lt_some hE
          refine lv_seti ev_40 ?_
          refine lv_istore_n (lv' := [(2, .int v_40), (0, .ref (hA Z j 0)), (1, .int p1), (3, .int x3)]) F.1 F.2.1 dX3_rootBits_38 rfl hl (by decide) rfl (fun ls hl => ?_)
          refine lv_iinc (v := x3 + 1) (lv' := [(3, .int (x3 + 1)), (2, .int v_40), (0, .ref (hA Z j 0)), (1, .int p1)]) F.1 F.2.1 dX3_rootBits_39 hl (k := 3) rfl rfl (by decide) rfl (fun ls hl => ?_)
          refine lv_goto (tgt := 4) F.1 F.2.1 dX3_rootBits_42 (by decide) ?_
          exact h4 v_40 (x3 + 1) hE _ _ hP hS ls (lv_sub hl [2, 3, 1, 0] rfl)
set_option maxRecDepth 100000 in
set_option maxHeartbeats 4000000 in
theorem kX3_rootBits {l : Launch} {Z : ZC} {HS : Nat → Nat → Nat → Int32} {j : Nat} {X : Nat → Nat → Int32} {zkb : Int32} {zdr : Int32} {zky : Nat → Int32} {zpn : Int32} {zps : Int32} {ztz : Int32} {ztn : Nat → Int64} {zxz : Int32} {zxa : Int32} {zsg : Nat → Int32} {za0 : Int32} {za1 : Int32} {za2 : Int32} {za3 : Int32} {za4 : Int32} {zfr : Nat → Int32} {zcd : Int32} {zgo : Nat → Int32} {ztd : Int32} {ztv : Int32} {zcl : Nat → Int32} {zca : Nat → Int32} {zwa : Nat → Int32} {zpt : Nat → Int32} {zpf : Nat → Int32} {N : Nat} {p1 : Int32} {r' : Int32} (hj : j < 13) (hX : HS j = X) (hE : fX3_rootBits N X p1 = some r') : Mg l yX3_rootBits cX3_rootBits 4 (some .int) (rmk 1 21) (KX Z) (AX Z) [.ref (hA Z j 0), .int p1] (PX Z HS zkb zdr zky zpn zps ztz ztn zxz zxa zsg za0 za1 za2 za3 za4 zfr zcd zgo ztd ztv zcl zca zwa zpt zpf) (Qi (KX Z) (AX Z) (PX Z HS zkb zdr zky zpn zps ztz ztn zxz zxa zsg za0 za1 za2 za3 za4 zfr zcd zgo ztd ztv zcl zca zwa zpt zpf) r') := by
  rw [← updH_eq hX]
  refine Mg.start (lv := [(0, .ref (hA Z j 0)), (1, .int p1)]) (by decide) rfl (Nat.le_of_ble_eq_true rfl) rfl ?_
  intro p e s m below meth c F hr hlk C hP ls hl
  have hS : va_S (AX Z) s.heap s.heap [] := va_S.rf
  unfold fX3_rootBits at hE
  refine lv_iconst (v := 0) F.1 F.2.1 dX3_rootBits_0 (by decide) ?_
  refine lv_istore_n (lv' := [(2, .int 0), (0, .ref (hA Z j 0)), (1, .int p1)]) F.1 F.2.1 dX3_rootBits_1 rfl hl (by decide) rfl (fun ls hl => ?_)
  refine lv_iconst (v := 0) F.1 F.2.1 dX3_rootBits_2 (by decide) ?_
  refine lv_istore_n (lv' := [(3, .int 0), (2, .int 0), (0, .ref (hA Z j 0)), (1, .int p1)]) F.1 F.2.1 dX3_rootBits_3 rfl hl (by decide) rfl (fun ls hl => ?_)
  exact qX3_rootBits_4 F hr hlk C hj N 0 0 hE _ _ hP hS ls (lv_sub hl [2, 3, 1, 0] rfl)
set_option maxRecDepth 100000 in
set_option maxHeartbeats 4000000 in
theorem qX3_fieldBits_4 {p : Program} {l : Launch} {e : Env} {s : State} {m : MethodId} {args : Array Value} {below : List Frame} {meth : Method} {c : Code} {Z : ZC} {HS : Nat → Nat → Nat → Int32} {j : Nat} {X : Nat → Nat → Int32} {zkb : Int32} {zdr : Int32} {zky : Nat → Int32} {zpn : Int32} {zps : Int32} {ztz : Int32} {ztn : Nat → Int64} {zxz : Int32} {zxa : Int32} {zsg : Nat → Int32} {za0 : Int32} {za1 : Int32} {za2 : Int32} {za3 : Int32} {za4 : Int32} {zfr : Nat → Int32} {zcd : Int32} {zgo : Nat → Int32} {ztd : Int32} {ztv : Int32} {zcl : Nat → Int32} {zca : Nat → Int32} {zwa : Nat → Int32} {zpt : Nat → Int32} {zpf : Nat → Int32} {N : Nat} {p1 : Int32} {r' : Int32} (F : CallFix p m c cX3_fieldBits 5 s args bigW RX3) (hr : meth.sig.returnType = (some .int)) (hlk : meth.locks = false) (C : KX Z s) (hj : j < 13) : ∀ n : Nat, ∀ (x2 : Int32) (x3 : Int32), fX3_fieldBits_4 N X p1 n x2 x3 = some r' → ∀ (H : Heap) (locs : List Loc), PX Z (updH HS j X) zkb zdr zky zpn zps ztz ztn zxz zxa zsg za0 za1 za2 za3 za4 zfr zcd zgo ztd ztv zcl zca zwa zpt zpf H → va_S (AX Z) s.heap H locs → ∀ ls : Array Slot, lv_has ls 5 [(0, .ref (hA Z j 0)), (1, .int p1), (2, .int x2), (3, .int x3)] → W p l e (rmk 1 22) s m args below meth c H locs 0 0 (MQ below (Qi (KX Z) (AX Z) (PX Z (updH HS j X) zkb zdr zky zpn zps ztz ztn zxz zxa zsg za0 za1 za2 za3 za4 zfr zcd zgo ztd ztv zcl zca zwa zpt zpf) r') args s 0 0 (AX Z)) (F0 m 4 ls []) := by
  intro n
  induction n with
  | zero => intro x2 x3 hE; cases hE
  | succ n h4 =>
    intro x2 x3 hE H locs hP hS ls hl
    have hE : fX3_fieldBits_4b N X p1 (fX3_fieldBits_4 N X p1 n) x2 x3 = some r' := hE
    refine lv_iload_n F.1 F.2.1 dX3_fieldBits_4 rfl (lv_at hl 3 rfl) ?_
    refine lv_iconst (v := 4) F.1 F.2.1 dX3_fieldBits_5 (by decide) ?_
    refine lv_icmp_ge (tgt := 36) F.1 F.2.1 dX3_fieldBits_6 (by decide) (fun hc => ?_) (fun hc => ?_)
    · have hE := ifp hE hc
      refine lv_iload_n F.1 F.2.1 dX3_fieldBits_36 rfl (lv_at hl 2 rfl) ?_
      obtain rfl := Option.some.inj hE
      exact ret_i F hr hlk hP hS dX3_fieldBits_37
    · have hE := ifn hE hc
      refine lv_aload_n F.1 F.2.1 dX3_fieldBits_9 rfl (lv_at hl 0 rfl) ?_
      refine lv_iload_n F.1 F.2.1 dX3_fieldBits_10 rfl (lv_at hl 1 rfl) ?_
      refine lv_iload_n F.1 F.2.1 dX3_fieldBits_11 rfl (lv_at hl 3 rfl) ?_
      obtain ⟨r42, hc, hE⟩ := bnd1_some hE
      refine aft_i (run_V (rest := []) F (kX3_fieldAt hj (updH_at _ _ _) hc) (okX Z) C hS lkX3_90 ⟨Nat.le_of_ble_eq_true rfl, Nat.le_of_ble_eq_true rfl⟩ (rvh0 C hP hj) hP rfl hl.1 rfl (lv_room (Nat.le_of_ble_eq_true rfl)) dX3_fieldBits_12 ⟨Nat.zero_le _, Nat.zero_le _⟩) hS (fun H locs hP hS => ?_)
      refine lv_istore (lv' := [(4, .int r42), (0, .ref (hA Z j 0)), (1, .int p1), (2, .int x2), (3, .int x3)]) F.1 F.2.1 dX3_fieldBits_15 hl (by decide) rfl (fun ls hl => ?_)
      refine lv_iload F.1 F.2.1 dX3_fieldBits_17 (lv_at hl 0 rfl) ?_
      refine lv_iconst (v := (-1)) F.1 F.2.1 dX3_fieldBits_19 (by decide) ?_
      refine lv_icmp_eq (tgt := 30) F.1 F.2.1 dX3_fieldBits_20 (by decide) (fun hc => ?_) (fun hc => ?_)
      · have hE := ifp hE hc
        refine lv_iinc (v := x3 + 1) (lv' := [(3, .int (x3 + 1)), (4, .int r42), (0, .ref (hA Z j 0)), (1, .int p1), (2, .int x2)]) F.1 F.2.1 dX3_fieldBits_30 hl (k := 4) rfl rfl (by decide) rfl (fun ls hl => ?_)
        refine lv_goto (tgt := 4) F.1 F.2.1 dX3_fieldBits_33 (by decide) ?_
        exact h4 x2 (x3 + 1) hE _ _ hP hS ls (lv_sub hl [2, 3, 4, 0] rfl)
      · have hE := ifn hE hc
        refine lv_iload_n F.1 F.2.1 dX3_fieldBits_23 rfl (lv_at hl 3 rfl) ?_
        refine lv_iconst (v := 1) F.1 F.2.1 dX3_fieldBits_24 (by decide) ?_
        refine lv_iload F.1 F.2.1 dX3_fieldBits_25 (lv_at hl 0 rfl) ?_
        refine rj_ishl F.1 F.2.1 dX3_fieldBits_27 ?_
        refine lv_ior F.1 F.2.1 dX3_fieldBits_28 ?_
        refine lv_istore_n (lv' := [(2, .int (x2 ||| (jshl 1 r42))), (4, .int r42), (0, .ref (hA Z j 0)), (1, .int p1), (3, .int x3)]) F.1 F.2.1 dX3_fieldBits_29 rfl hl (by decide) rfl (fun ls hl => ?_)
        refine lv_iinc (v := x3 + 1) (lv' := [(3, .int (x3 + 1)), (2, .int (x2 ||| (jshl 1 r42))), (4, .int r42), (0, .ref (hA Z j 0)), (1, .int p1)]) F.1 F.2.1 dX3_fieldBits_30 hl (k := 4) rfl rfl (by decide) rfl (fun ls hl => ?_)
        refine lv_goto (tgt := 4) F.1 F.2.1 dX3_fieldBits_33 (by decide) ?_
        exact h4 (x2 ||| (jshl 1 r42)) (x3 + 1) hE _ _ hP hS ls (lv_sub hl [3, 4, 1, 0] rfl)
set_option maxRecDepth 100000 in
set_option maxHeartbeats 4000000 in
theorem kX3_fieldBits {l : Launch} {Z : ZC} {HS : Nat → Nat → Nat → Int32} {j : Nat} {X : Nat → Nat → Int32} {zkb : Int32} {zdr : Int32} {zky : Nat → Int32} {zpn : Int32} {zps : Int32} {ztz : Int32} {ztn : Nat → Int64} {zxz : Int32} {zxa : Int32} {zsg : Nat → Int32} {za0 : Int32} {za1 : Int32} {za2 : Int32} {za3 : Int32} {za4 : Int32} {zfr : Nat → Int32} {zcd : Int32} {zgo : Nat → Int32} {ztd : Int32} {ztv : Int32} {zcl : Nat → Int32} {zca : Nat → Int32} {zwa : Nat → Int32} {zpt : Nat → Int32} {zpf : Nat → Int32} {N : Nat} {p1 : Int32} {r' : Int32} (hj : j < 13) (hX : HS j = X) (hE : fX3_fieldBits N X p1 = some r') : Mg l yX3_fieldBits cX3_fieldBits 5 (some .int) (rmk 1 22) (KX Z) (AX Z) [.ref (hA Z j 0), .int p1] (PX Z HS zkb zdr zky zpn zps ztz ztn zxz zxa zsg za0 za1 za2 za3 za4 zfr zcd zgo ztd ztv zcl zca zwa zpt zpf) (Qi (KX Z) (AX Z) (PX Z HS zkb zdr zky zpn zps ztz ztn zxz zxa zsg za0 za1 za2 za3 za4 zfr zcd zgo ztd ztv zcl zca zwa zpt zpf) r') := by
  rw [← updH_eq hX]
  refine Mg.start (lv := [(0, .ref (hA Z j 0)), (1, .int p1)]) (by decide) rfl (Nat.le_of_ble_eq_true rfl) rfl ?_
  intro p e s m below meth c F hr hlk C hP ls hl
  have hS : va_S (AX Z) s.heap s.heap [] := va_S.rf
  unfold fX3_fieldBits at hE
  refine lv_iconst (v := 0) F.1 F.2.1 dX3_fieldBits_0 (by decide) ?_
  refine lv_istore_n (lv' := [(2, .int 0), (0, .ref (hA Z j 0)), (1, .int p1)]) F.1 F.2.1 dX3_fieldBits_1 rfl hl (by decide) rfl (fun ls hl => ?_)
  refine lv_iconst (v := 0) F.1 F.2.1 dX3_fieldBits_2 (by decide) ?_
  refine lv_istore_n (lv' := [(3, .int 0), (2, .int 0), (0, .ref (hA Z j 0)), (1, .int p1)]) F.1 F.2.1 dX3_fieldBits_3 rfl hl (by decide) rfl (fun ls hl => ?_)
  exact qX3_fieldBits_4 F hr hlk C hj N 0 0 hE _ _ hP hS ls (lv_sub hl [2, 3, 1, 0] rfl)
set_option maxRecDepth 100000 in
set_option maxHeartbeats 4000000 in
theorem qX10_spreads_14 {p : Program} {l : Launch} {e : Env} {s : State} {m : MethodId} {args : Array Value} {below : List Frame} {meth : Method} {c : Code} {Z : ZC} {HS : Nat → Nat → Nat → Int32} {j : Nat} {X : Nat → Nat → Int32} {zkb : Int32} {zdr : Int32} {zky : Nat → Int32} {zpn : Int32} {zps : Int32} {ztz : Int32} {ztn : Nat → Int64} {zxz : Int32} {zxa : Int32} {zsg : Nat → Int32} {za0 : Int32} {za1 : Int32} {za2 : Int32} {za3 : Int32} {za4 : Int32} {zfr : Nat → Int32} {zcd : Int32} {zgo : Nat → Int32} {ztd : Int32} {ztv : Int32} {zcl : Nat → Int32} {zca : Nat → Int32} {zwa : Nat → Int32} {zpt : Nat → Int32} {zpf : Nat → Int32} {N : Nat} {p2 : Int32} {p3 : Int32} {r' : Int32} (F : CallFix p m c cX10_spreads 9 s args bigW RX10) (hr : meth.sig.returnType = (some .int)) (hlk : meth.locks = false) (C : KX Z s) (hj : j < 13) : ∀ n : Nat, ∀ (x4 : Int32) (x5 : Int32) (x6 : Int32), fX10_spreads_14 N X p2 p3 n x4 x5 x6 = some r' → ∀ (H : Heap) (locs : List Loc), PX Z (updH HS j X) zkb zdr zky zpn zps ztz ztn zxz zxa zsg za0 za1 za2 za3 za4 zfr zcd zgo ztd ztv zcl zca zwa zpt zpf H → va_S (AX Z) s.heap H locs → ∀ ls : Array Slot, lv_has ls 9 [(1, .ref (hA Z j 0)), (3, .int p3), (4, .int x4), (5, .int x5), (6, .int x6)] → W p l e (rmk 2 46) s m args below meth c H locs 0 0 (MQ below (Qi (KX Z) (AX Z) (PX Z (updH HS j X) zkb zdr zky zpn zps ztz ztn zxz zxa zsg za0 za1 za2 za3 za4 zfr zcd zgo ztd ztv zcl zca zwa zpt zpf) r') args s 0 0 (AX Z)) (F0 m 14 ls []) := by
  intro n
  induction n with
  | zero => intro x4 x5 x6 hE; cases hE
  | succ n h14 =>
    intro x4 x5 x6 hE H locs hP hS ls hl
    have hE : fX10_spreads_14b N X p2 p3 (fX10_spreads_14 N X p2 p3 n) x4 x5 x6 = some r' := hE
    refine lv_iload F.1 F.2.1 dX10_spreads_14 (lv_at hl 4 rfl) ?_
    refine lv_bipush (v := 24) F.1 F.2.1 dX10_spreads_16 (by decide) ?_
    refine lv_icmp_ge (tgt := 81) F.1 F.2.1 dX10_spreads_18 (by decide) (fun hc => ?_) (fun hc => ?_)
    · have hE := ifp hE hc
      refine lv_iload F.1 F.2.1 dX10_spreads_81 (lv_at hl 2 rfl) ?_
      obtain rfl := Option.some.inj hE
      exact ret_i F hr hlk hP hS dX10_spreads_83
    · have hE := ifn hE hc
      refine lv_iload F.1 F.2.1 dX10_spreads_21 (lv_at hl 3 rfl) ?_
      refine lv_if_eq (tgt := 81) F.1 F.2.1 dX10_spreads_23 (by decide) (fun hc => ?_) (fun hc => ?_)
      · have hE := ifp hE hc
        refine lv_iload F.1 F.2.1 dX10_spreads_81 (lv_at hl 2 rfl) ?_
        obtain rfl := Option.some.inj hE
        exact ret_i F hr hlk hP hS dX10_spreads_83
      · have hE := ifn hE hc
        refine lv_iload F.1 F.2.1 dX10_spreads_26 (lv_at hl 3 rfl) ?_
        refine lv_iload F.1 F.2.1 dX10_spreads_28 (lv_at hl 3 rfl) ?_
        refine lv_ineg F.1 F.2.1 dX10_spreads_30 ?_
        refine lv_iand F.1 F.2.1 dX10_spreads_31 ?_
        refine lv_istore (lv' := [(7, .int (x5 &&& (-x5))), (1, .ref (hA Z j 0)), (3, .int p3), (4, .int x4), (5, .int x5), (6, .int x6)]) F.1 F.2.1 dX10_spreads_32 hl (by decide) rfl (fun ls hl => ?_)
        refine lv_aload_n F.1 F.2.1 dX10_spreads_34 rfl (lv_at hl 1 rfl) ?_
        refine lv_iload F.1 F.2.1 dX10_spreads_35 (lv_at hl 0 rfl) ?_
        refine lv_iconst (v := 1) F.1 F.2.1 dX10_spreads_37 (by decide) ?_
        refine lv_isub F.1 F.2.1 dX10_spreads_38 ?_
        obtain ⟨r47, hc, hE⟩ := bnd1_some hE
        refine aft_i (run_S (rest := [.ref (hA Z j 0)]) F (kJ6_bitCount_0f7a4 hc) (okX Z) C hS lkX10_29 ⟨Nat.le_of_ble_eq_true rfl, Nat.le_of_ble_eq_true rfl⟩ hP rfl hl.1 rfl (lv_room (Nat.le_of_ble_eq_true rfl)) dX10_spreads_39 ⟨Nat.zero_le _, Nat.zero_le _⟩) hS (fun H locs hP hS => ?_)
        obtain ⟨r48, hc, hE⟩ := bnd1_some hE
        refine aft_i (run_N (rest := []) F (kX3_fieldBits hj (updH_at _ _ _) hc) (okX Z) C hS (C.2.2 _ _ mlX10_34 rfl) lkX10_34 ⟨Nat.le_of_ble_eq_true rfl, Nat.le_of_ble_eq_true rfl⟩ (rvh0 C hP hj) hP rfl hl.1 rfl (lv_room (Nat.le_of_ble_eq_true rfl)) dX10_spreads_42 ⟨Nat.zero_le _, Nat.zero_le _⟩) hS (fun H locs hP hS => ?_)
        refine lv_iload F.1 F.2.1 dX10_spreads_45 (lv_at hl 3 rfl) ?_
        refine lv_iconst (v := (-1)) F.1 F.2.1 dX10_spreads_47 (by decide) ?_
        refine lv_ixor F.1 F.2.1 dX10_spreads_48 ?_
        refine lv_iand F.1 F.2.1 dX10_spreads_49 ?_
        refine lv_iload_n F.1 F.2.1 dX10_spreads_50 rfl (lv_at hl 2 rfl) ?_
        refine lv_iconst (v := (-1)) F.1 F.2.1 dX10_spreads_51 (by decide) ?_
        refine lv_ixor F.1 F.2.1 dX10_spreads_52 ?_
        refine lv_iand F.1 F.2.1 dX10_spreads_53 ?_
        obtain ⟨v_49, ev_49, hE⟩ := lt_some hE
        refine lv_seti ev_49 ?_
        refine lv_istore (lv' := [(8, .int v_49), (7, .int (x5 &&& (-x5))), (1, .ref (hA Z j 0)), (3, .int p3), (4, .int x4), (5, .int x5), (6, .int x6)]) F.1 F.2.1 dX10_spreads_54 hl (by decide) rfl (fun ls hl => ?_)
        refine lv_iload F.1 F.2.1 dX10_spreads_56 (lv_at hl 4 rfl) ?_
        refine lv_iload F.1 F.2.1 dX10_spreads_58 (lv_at hl 0 rfl) ?_
        refine lv_ior F.1 F.2.1 dX10_spreads_60 ?_
        refine lv_istore (lv' := [(4, .int (x4 ||| v_49)), (8, .int v_49), (7, .int (x5 &&& (-x5))), (1, .ref (hA Z j 0)), (3, .int p3), (5, .int x5), (6, .int x6)]) F.1 F.2.1 dX10_spreads_61 hl (by decide) rfl (fun ls hl => ?_)
        refine lv_iload F.1 F.2.1 dX10_spreads_63 (lv_at hl 5 rfl) ?_
        refine lv_iload F.1 F.2.1 dX10_spreads_65 (lv_at hl 2 rfl) ?_
        refine lv_iconst (v := (-1)) F.1 F.2.1 dX10_spreads_67 (by decide) ?_
        refine lv_ixor F.1 F.2.1 dX10_spreads_68 ?_
        refine lv_iand F.1 F.2.1 dX10_spreads_69 ?_
        refine lv_iload F.1 F.2.1 dX10_spreads_70 (lv_at hl 1 rfl) ?_
        refine lv_ior F.1 F.2.1 dX10_spreads_72 ?_
        obtain ⟨v_50, ev_50, hE⟩ := lt_some hE
        refine lv_seti ev_50 ?_
        refine lv_istore (lv' := [(5, .int v_50), (4, .int (x4 ||| v_49)), (8, .int v_49), (7, .int (x5 &&& (-x5))), (1, .ref (hA Z j 0)), (3, .int p3), (6, .int x6)]) F.1 F.2.1 dX10_spreads_73 hl (by decide) rfl (fun ls hl => ?_)
        refine lv_iinc (v := x6 + 1) (lv' := [(6, .int (x6 + 1)), (5, .int v_50), (4, .int (x4 ||| v_49)), (8, .int v_49), (7, .int (x5 &&& (-x5))), (1, .ref (hA Z j 0)), (3, .int p3)]) F.1 F.2.1 dX10_spreads_75 hl (k := 6) rfl rfl (by decide) rfl (fun ls hl => ?_)
        refine lv_goto (tgt := 14) F.1 F.2.1 dX10_spreads_78 (by decide) ?_
        exact h14 (x4 ||| v_49) v_50 (x6 + 1) hE _ _ hP hS ls (lv_sub hl [5, 6, 2, 1, 0] rfl)
set_option maxRecDepth 100000 in
set_option maxHeartbeats 4000000 in
theorem kX10_spreads {l : Launch} {Z : ZC} {HS : Nat → Nat → Nat → Int32} {j : Nat} {X : Nat → Nat → Int32} {zkb : Int32} {zdr : Int32} {zky : Nat → Int32} {zpn : Int32} {zps : Int32} {ztz : Int32} {ztn : Nat → Int64} {zxz : Int32} {zxa : Int32} {zsg : Nat → Int32} {za0 : Int32} {za1 : Int32} {za2 : Int32} {za3 : Int32} {za4 : Int32} {zfr : Nat → Int32} {zcd : Int32} {zgo : Nat → Int32} {ztd : Int32} {ztv : Int32} {zcl : Nat → Int32} {zca : Nat → Int32} {zwa : Nat → Int32} {zpt : Nat → Int32} {zpf : Nat → Int32} {N : Nat} {p2 : Int32} {p3 : Int32} {r' : Int32} (hj : j < 13) (hX : HS j = X) (hE : fX10_spreads N X p2 p3 = some r') : Mg l yX10_spreads cX10_spreads 9 (some .int) (rmk 2 46) (KX Z) (AX Z) [.ref (oA Z 9), .ref (hA Z j 0), .int p2, .int p3] (PX Z HS zkb zdr zky zpn zps ztz ztn zxz zxa zsg za0 za1 za2 za3 za4 zfr zcd zgo ztd ztv zcl zca zwa zpt zpf) (Qi (KX Z) (AX Z) (PX Z HS zkb zdr zky zpn zps ztz ztn zxz zxa zsg za0 za1 za2 za3 za4 zfr zcd zgo ztd ztv zcl zca zwa zpt zpf) r') := by
  rw [← updH_eq hX]
  refine Mg.start (lv := [(0, .ref (oA Z 9)), (1, .ref (hA Z j 0)), (2, .int p2), (3, .int p3)]) (by decide) rfl (Nat.le_of_ble_eq_true rfl) rfl ?_
  intro p e s m below meth c F hr hlk C hP ls hl
  have hS : va_S (AX Z) s.heap s.heap [] := va_S.rf
  unfold fX10_spreads at hE
  refine lv_iload_n F.1 F.2.1 dX10_spreads_0 rfl (lv_at hl 2 rfl) ?_
  refine lv_iload_n F.1 F.2.1 dX10_spreads_1 rfl (lv_at hl 3 rfl) ?_
  refine lv_iconst (v := (-1)) F.1 F.2.1 dX10_spreads_2 (by decide) ?_
  refine lv_ixor F.1 F.2.1 dX10_spreads_3 ?_
  refine lv_iand F.1 F.2.1 dX10_spreads_4 ?_
  refine lv_istore (lv' := [(4, .int (p2 &&& (p3 ^^^ (-1)))), (0, .ref (oA Z 9)), (1, .ref (hA Z j 0)), (2, .int p2), (3, .int p3)]) F.1 F.2.1 dX10_spreads_5 hl (by decide) rfl (fun ls hl => ?_)
  refine lv_iload F.1 F.2.1 dX10_spreads_7 (lv_at hl 0 rfl) ?_
  refine lv_istore (lv' := [(5, .int (p2 &&& (p3 ^^^ (-1)))), (4, .int (p2 &&& (p3 ^^^ (-1)))), (0, .ref (oA Z 9)), (1, .ref (hA Z j 0)), (2, .int p2), (3, .int p3)]) F.1 F.2.1 dX10_spreads_9 hl (by decide) rfl (fun ls hl => ?_)
  refine lv_iconst (v := 0) F.1 F.2.1 dX10_spreads_11 (by decide) ?_
  refine lv_istore (lv' := [(6, .int 0), (5, .int (p2 &&& (p3 ^^^ (-1)))), (4, .int (p2 &&& (p3 ^^^ (-1)))), (0, .ref (oA Z 9)), (1, .ref (hA Z j 0)), (2, .int p2), (3, .int p3)]) F.1 F.2.1 dX10_spreads_12 hl (by decide) rfl (fun ls hl => ?_)
  exact qX10_spreads_14 F hr hlk C hj N (p2 &&& (p3 ^^^ (-1))) (p2 &&& (p3 ^^^ (-1))) 0 hE _ _ hP hS ls (lv_sub hl [4, 6, 2, 1, 0] rfl)
set_option maxRecDepth 100000 in
set_option maxHeartbeats 4000000 in
theorem kX10_reached {l : Launch} {Z : ZC} {HS : Nat → Nat → Nat → Int32} {j : Nat} {X : Nat → Nat → Int32} {zkb : Int32} {zdr : Int32} {zky : Nat → Int32} {zpn : Int32} {zps : Int32} {ztz : Int32} {ztn : Nat → Int64} {zxz : Int32} {zxa : Int32} {zsg : Nat → Int32} {za0 : Int32} {za1 : Int32} {za2 : Int32} {za3 : Int32} {za4 : Int32} {zfr : Nat → Int32} {zcd : Int32} {zgo : Nat → Int32} {ztd : Int32} {ztv : Int32} {zcl : Nat → Int32} {zca : Nat → Int32} {zwa : Nat → Int32} {zpt : Nat → Int32} {zpf : Nat → Int32} {N : Nat} {r' : Int32} (hj : j < 13) (hX : HS j = X) (hE : fX10_reached N X = some r') : Mg l yX10_reached cX10_reached 2 (some .int) (rmk 3 74) (KX Z) (AX Z) [.ref (oA Z 9), .ref (hA Z j 0)] (PX Z HS zkb zdr zky zpn zps ztz ztn zxz zxa zsg za0 za1 za2 za3 za4 zfr zcd zgo ztd ztv zcl zca zwa zpt zpf) (Qi (KX Z) (AX Z) (PX Z HS zkb zdr zky zpn zps ztz ztn zxz zxa zsg za0 za1 za2 za3 za4 zfr zcd zgo ztd ztv zcl zca zwa zpt zpf) r') := by
  rw [← updH_eq hX]
  refine Mg.start (lv := [(0, .ref (oA Z 9)), (1, .ref (hA Z j 0))]) (by decide) rfl (Nat.le_of_ble_eq_true rfl) rfl ?_
  intro p e s m below meth c F hr hlk C hP ls hl
  have hS : va_S (AX Z) s.heap s.heap [] := va_S.rf
  unfold fX10_reached at hE
  refine lv_aload_n F.1 F.2.1 dX10_reached_0 rfl (lv_at hl 0 rfl) ?_
  refine lv_aload_n F.1 F.2.1 dX10_reached_1 rfl (lv_at hl 1 rfl) ?_
  refine lv_aload_n F.1 F.2.1 dX10_reached_2 rfl (lv_at hl 1 rfl) ?_
  refine lv_iconst (v := 0) F.1 F.2.1 dX10_reached_3 (by decide) ?_
  obtain ⟨r53, hc, hE⟩ := bnd1_some hE
  refine aft_i (run_N (rest := [.ref (hA Z j 0), .ref (oA Z 9)]) F (kX3_rootBits hj (updH_at _ _ _) hc) (okX Z) C hS (C.2.2 _ _ mlX10_15 rfl) lkX10_15 ⟨Nat.le_of_ble_eq_true rfl, Nat.le_of_ble_eq_true rfl⟩ (rvh0 C hP hj) hP rfl hl.1 rfl (lv_room (Nat.le_of_ble_eq_true rfl)) dX10_reached_4 ⟨Nat.zero_le _, Nat.zero_le _⟩) hS (fun H locs hP hS => ?_)
  refine lv_iconst (v := 0) F.1 F.2.1 dX10_reached_7 (by decide) ?_
  obtain ⟨r54, hc, hE⟩ := bnd1_some hE
  refine aft_i (run_V (rest := []) F (kX10_spreads hj (updH_at _ _ _) hc) (okX Z) C hS lkX10_21 ⟨Nat.le_of_ble_eq_true rfl, Nat.le_of_ble_eq_true rfl⟩ (rvo9 C hP) hP rfl hl.1 rfl (lv_room (Nat.le_of_ble_eq_true rfl)) dX10_reached_8 ⟨Nat.zero_le _, Nat.zero_le _⟩) hS (fun H locs hP hS => ?_)
  obtain rfl := Option.some.inj hE
  exact ret_i F hr hlk hP hS dX10_reached_11
set_option maxRecDepth 100000 in
set_option maxHeartbeats 4000000 in
theorem kX1_isIn {l : Launch} {Z : ZC} {HS : Nat → Nat → Nat → Int32} {zkb : Int32} {zdr : Int32} {zky : Nat → Int32} {zpn : Int32} {zps : Int32} {ztz : Int32} {ztn : Nat → Int64} {zxz : Int32} {zxa : Int32} {zsg : Nat → Int32} {za0 : Int32} {za1 : Int32} {za2 : Int32} {za3 : Int32} {za4 : Int32} {zfr : Nat → Int32} {zcd : Int32} {zgo : Nat → Int32} {ztd : Int32} {ztv : Int32} {zcl : Nat → Int32} {zca : Nat → Int32} {zwa : Nat → Int32} {zpt : Nat → Int32} {zpf : Nat → Int32} {p0 : Int32} {p1 : Int32} {r' : Int32} (hE : fX1_isIn p0 p1 = some r') : Mg l yX1_isIn cX1_isIn 2 (some .boolean) (rmk 1 21) (KX Z) (AX Z) [.int p0, .int p1] (PX Z HS zkb zdr zky zpn zps ztz ztn zxz zxa zsg za0 za1 za2 za3 za4 zfr zcd zgo ztd ztv zcl zca zwa zpt zpf) (Qi (KX Z) (AX Z) (PX Z HS zkb zdr zky zpn zps ztz ztn zxz zxa zsg za0 za1 za2 za3 za4 zfr zcd zgo ztd ztv zcl zca zwa zpt zpf) r') := by
  refine Mg.start (lv := [(0, .int p0), (1, .int p1)]) (by decide) rfl (Nat.le_of_ble_eq_true rfl) rfl ?_
  intro p e s m below meth c F hr hlk C hP ls hl
  have hS : va_S (AX Z) s.heap s.heap [] := va_S.rf
  unfold fX1_isIn at hE
  refine lv_iload_n F.1 F.2.1 dX1_isIn_0 rfl (lv_at hl 1 rfl) ?_
  refine lv_iconst (v := (-1)) F.1 F.2.1 dX1_isIn_1 (by decide) ?_
  refine lv_icmp_eq (tgt := 14) F.1 F.2.1 dX1_isIn_2 (by decide) (fun hc => ?_) (fun hc => ?_)
  · have hE := ifp hE hc
    refine lv_iconst (v := 1) F.1 F.2.1 dX1_isIn_14 (by decide) ?_
    refine lv_goto (tgt := 19) F.1 F.2.1 dX1_isIn_15 (by decide) ?_
    obtain rfl := Option.some.inj hE
    exact ret_z F hr rfl hlk hP hS dX1_isIn_19
  · have hE := ifn hE hc
    refine lv_iload_n F.1 F.2.1 dX1_isIn_5 rfl (lv_at hl 0 rfl) ?_
    refine lv_iload_n F.1 F.2.1 dX1_isIn_6 rfl (lv_at hl 1 rfl) ?_
    obtain ⟨r56, hc, hE⟩ := bnd1_some hE
    refine aft_i (run_SN (rest := []) F (kX11_bit hc) (okX Z) C hS (C.2.2 _ _ mlX1_141 rfl) lkX1_141 ⟨Nat.le_of_ble_eq_true rfl, Nat.le_of_ble_eq_true rfl⟩ hP rfl hl.1 rfl (lv_room (Nat.le_of_ble_eq_true rfl)) dX1_isIn_7 ⟨Nat.zero_le _, Nat.zero_le _⟩) hS (fun H locs hP hS => ?_)
    refine lv_iconst (v := 1) F.1 F.2.1 dX1_isIn_10 (by decide) ?_
    refine lv_icmp_ne (tgt := 18) F.1 F.2.1 dX1_isIn_11 (by decide) (fun hc => ?_) (fun hc => ?_)
    · have hE := ifn hE hc
      refine lv_iconst (v := 0) F.1 F.2.1 dX1_isIn_18 (by decide) ?_
      obtain rfl := Option.some.inj hE
      exact ret_z F hr rfl hlk hP hS dX1_isIn_19
    · have hE := ifp hE hc
      refine lv_iconst (v := 1) F.1 F.2.1 dX1_isIn_14 (by decide) ?_
      refine lv_goto (tgt := 19) F.1 F.2.1 dX1_isIn_15 (by decide) ?_
      obtain rfl := Option.some.inj hE
      exact ret_z F hr rfl hlk hP hS dX1_isIn_19
set_option maxRecDepth 100000 in
set_option maxHeartbeats 4000000 in
theorem kX1_refusesSet {l : Launch} {Z : ZC} {HS : Nat → Nat → Nat → Int32} {j : Nat} {X : Nat → Nat → Int32} {zkb : Int32} {zdr : Int32} {zky : Nat → Int32} {zpn : Int32} {zps : Int32} {ztz : Int32} {ztn : Nat → Int64} {zxz : Int32} {zxa : Int32} {zsg : Nat → Int32} {za0 : Int32} {za1 : Int32} {za2 : Int32} {za3 : Int32} {za4 : Int32} {zfr : Nat → Int32} {zcd : Int32} {zgo : Nat → Int32} {ztd : Int32} {ztv : Int32} {zcl : Nat → Int32} {zca : Nat → Int32} {zwa : Nat → Int32} {zpt : Nat → Int32} {zpf : Nat → Int32} {N : Nat} {p2 : Int32} {p3 : Int32} {p4 : Int32} {r' : Int32} (hj : j < 13) (hX : HS j = X) (hE : fX1_refusesSet N X p2 p3 p4 = some r') : Mg l yX1_refusesSet cX1_refusesSet 6 (some .int) (rmk 4 95) (KX Z) (AX Z) [.ref (oA Z 19), .ref (hA Z j 0), .int p2, .int p3, .int p4] (PX Z HS zkb zdr zky zpn zps ztz ztn zxz zxa zsg za0 za1 za2 za3 za4 zfr zcd zgo ztd ztv zcl zca zwa zpt zpf) (Qi (KX Z) (AX Z) (PX Z HS zkb zdr zky zpn zps ztz ztn zxz zxa zsg za0 za1 za2 za3 za4 zfr zcd zgo ztd ztv zcl zca zwa zpt zpf) r') := by
  rw [← updH_eq hX]
  refine Mg.start (lv := [(0, .ref (oA Z 19)), (1, .ref (hA Z j 0)), (2, .int p2), (3, .int p3), (4, .int p4)]) (by decide) rfl (Nat.le_of_ble_eq_true rfl) rfl ?_
  intro p e s m below meth c F hr hlk C hP ls hl
  have hS : va_S (AX Z) s.heap s.heap [] := va_S.rf
  unfold fX1_refusesSet at hE
  refine lv_aload_n F.1 F.2.1 dX1_refusesSet_0 rfl (lv_at hl 1 rfl) ?_
  refine lv_iload_n F.1 F.2.1 dX1_refusesSet_1 rfl (lv_at hl 2 rfl) ?_
  refine lv_iload_n F.1 F.2.1 dX1_refusesSet_2 rfl (lv_at hl 3 rfl) ?_
  obtain ⟨r63, hc, hE⟩ := bnd1_some hE
  refine aft_i (run_N (rest := []) F (kX3_hasField hj (updH_at _ _ _) hc) (okX Z) C hS (C.2.2 _ _ mlX1_117 rfl) lkX1_117 ⟨Nat.le_of_ble_eq_true rfl, Nat.le_of_ble_eq_true rfl⟩ (rvh0 C hP hj) hP rfl hl.1 rfl (lv_room (Nat.le_of_ble_eq_true rfl)) dX1_refusesSet_3 ⟨Nat.zero_le _, Nat.zero_le _⟩) hS (fun H locs hP hS => ?_)
  refine lv_if_eq (tgt := 18) F.1 F.2.1 dX1_refusesSet_6 (by decide) (fun hc => ?_) (fun hc => ?_)
  · have hE := ifp hE hc
    refine lv_iconst (v := (-1)) F.1 F.2.1 dX1_refusesSet_18 (by decide) ?_
    obtain rfl := Option.some.inj hE
    exact ret_i F hr hlk hP hS dX1_refusesSet_19
  · have hE := ifn hE hc
    refine lv_aload_n F.1 F.2.1 dX1_refusesSet_9 rfl (lv_at hl 1 rfl) ?_
    refine lv_iload F.1 F.2.1 dX1_refusesSet_10 (lv_at hl 4 rfl) ?_
    obtain ⟨r64, hc, hE⟩ := bnd1_some hE
    refine aft_i (run_N (rest := []) F (kX3_hasOrNone hj (updH_at _ _ _) hc) (okX Z) C hS (C.2.2 _ _ mlX1_121 rfl) lkX1_121 ⟨Nat.le_of_ble_eq_true rfl, Nat.le_of_ble_eq_true rfl⟩ (rvh0 C hP hj) hP rfl hl.1 rfl (lv_room (Nat.le_of_ble_eq_true rfl)) dX1_refusesSet_12 ⟨Nat.zero_le _, Nat.zero_le _⟩) hS (fun H locs hP hS => ?_)
    refine lv_if_ne (tgt := 20) F.1 F.2.1 dX1_refusesSet_15 (by decide) (fun hc => ?_) (fun hc => ?_)
    · have hE := ifn hE hc
      refine lv_aload_n F.1 F.2.1 dX1_refusesSet_20 rfl (lv_at hl 1 rfl) ?_
      refine lv_iload_n F.1 F.2.1 dX1_refusesSet_21 rfl (lv_at hl 2 rfl) ?_
      refine lv_iload_n F.1 F.2.1 dX1_refusesSet_22 rfl (lv_at hl 3 rfl) ?_
      obtain ⟨r65, hc, hE⟩ := bnd1_some hE
      refine aft_i (run_N (rest := []) F (kX3_fieldAt hj (updH_at _ _ _) hc) (okX Z) C hS (C.2.2 _ _ mlX1_125 rfl) lkX1_125 ⟨Nat.le_of_ble_eq_true rfl, Nat.le_of_ble_eq_true rfl⟩ (rvh0 C hP hj) hP rfl hl.1 rfl (lv_room (Nat.le_of_ble_eq_true rfl)) dX1_refusesSet_23 ⟨Nat.zero_le _, Nat.zero_le _⟩) hS (fun H locs hP hS => ?_)
      refine lv_iload F.1 F.2.1 dX1_refusesSet_26 (lv_at hl 4 rfl) ?_
      refine lv_icmp_ne (tgt := 34) F.1 F.2.1 dX1_refusesSet_28 (by decide) (fun hc => ?_) (fun hc => ?_)
      · have hE := ifn hE hc
        refine lv_aload_n F.1 F.2.1 dX1_refusesSet_34 rfl (lv_at hl 0 rfl) ?_
        refine gX1_19 F C hP dX1_refusesSet_35 ?_
        refine lv_aload_n F.1 F.2.1 dX1_refusesSet_38 rfl (lv_at hl 1 rfl) ?_
        obtain ⟨r66, hc, hE⟩ := bnd1_some hE
        refine aft_i (run_N (rest := []) F (kX10_reached hj (updH_at _ _ _) hc) (okX Z) C hS (C.2.2 _ _ mlX1_129 rfl) lkX1_129 ⟨Nat.le_of_ble_eq_true rfl, Nat.le_of_ble_eq_true rfl⟩ (rvo9 C hP) hP rfl hl.1 rfl (lv_room (Nat.le_of_ble_eq_true rfl)) dX1_refusesSet_39 ⟨Nat.zero_le _, Nat.zero_le _⟩) hS (fun H locs hP hS => ?_)
        refine lv_istore (lv' := [(5, .int r66), (0, .ref (oA Z 19)), (1, .ref (hA Z j 0)), (2, .int p2), (3, .int p3), (4, .int p4)]) F.1 F.2.1 dX1_refusesSet_42 hl (by decide) rfl (fun ls hl => ?_)
        refine lv_iload F.1 F.2.1 dX1_refusesSet_44 (lv_at hl 0 rfl) ?_
        refine lv_iload_n F.1 F.2.1 dX1_refusesSet_46 rfl (lv_at hl 3 rfl) ?_
        obtain ⟨r67, hc, hE⟩ := bnd1_some hE
        refine aft_i (run_S (rest := []) F (kX1_isIn hc) (okX Z) C hS lkX1_135 ⟨Nat.le_of_ble_eq_true rfl, Nat.le_of_ble_eq_true rfl⟩ hP rfl hl.1 rfl (lv_room (Nat.le_of_ble_eq_true rfl)) dX1_refusesSet_47 ⟨Nat.zero_le _, Nat.zero_le _⟩) hS (fun H locs hP hS => ?_)
        refine lv_if_eq (tgt := 67) F.1 F.2.1 dX1_refusesSet_50 (by decide) (fun hc => ?_) (fun hc => ?_)
        · have hE := ifp hE hc
          refine lv_bipush (v := (-3)) F.1 F.2.1 dX1_refusesSet_67 (by decide) ?_
          obtain rfl := Option.some.inj hE
          exact ret_i F hr hlk hP hS dX1_refusesSet_69
        · have hE := ifn hE hc
          refine lv_iload F.1 F.2.1 dX1_refusesSet_53 (lv_at hl 0 rfl) ?_
          refine lv_iload F.1 F.2.1 dX1_refusesSet_55 (lv_at hl 5 rfl) ?_
          obtain ⟨r68, hc, hE⟩ := bnd1_some hE
          refine aft_i (run_S (rest := []) F (kX1_isIn hc) (okX Z) C hS lkX1_135 ⟨Nat.le_of_ble_eq_true rfl, Nat.le_of_ble_eq_true rfl⟩ hP rfl hl.1 rfl (lv_room (Nat.le_of_ble_eq_true rfl)) dX1_refusesSet_57 ⟨Nat.zero_le _, Nat.zero_le _⟩) hS (fun H locs hP hS => ?_)
          refine lv_if_eq (tgt := 67) F.1 F.2.1 dX1_refusesSet_60 (by decide) (fun hc => ?_) (fun hc => ?_)
          · have hE := ifp hE hc
            refine lv_bipush (v := (-3)) F.1 F.2.1 dX1_refusesSet_67 (by decide) ?_
            obtain rfl := Option.some.inj hE
            exact ret_i F hr hlk hP hS dX1_refusesSet_69
          · have hE := ifn hE hc
            refine lv_iconst (v := 0) F.1 F.2.1 dX1_refusesSet_63 (by decide) ?_
            refine lv_goto (tgt := 69) F.1 F.2.1 dX1_refusesSet_64 (by decide) ?_
            obtain rfl := Option.some.inj hE
            exact ret_i F hr hlk hP hS dX1_refusesSet_69
      · have hE := ifp hE hc
        refine lv_bipush (v := (-2)) F.1 F.2.1 dX1_refusesSet_31 (by decide) ?_
        obtain rfl := Option.some.inj hE
        exact ret_i F hr hlk hP hS dX1_refusesSet_33
    · have hE := ifp hE hc
      refine lv_iconst (v := (-1)) F.1 F.2.1 dX1_refusesSet_18 (by decide) ?_
      obtain rfl := Option.some.inj hE
      exact ret_i F hr hlk hP hS dX1_refusesSet_19
set_option maxRecDepth 100000 in
set_option maxHeartbeats 4000000 in
theorem kX1_refusesRoot {l : Launch} {Z : ZC} {HS : Nat → Nat → Nat → Int32} {j : Nat} {X : Nat → Nat → Int32} {zkb : Int32} {zdr : Int32} {zky : Nat → Int32} {zpn : Int32} {zps : Int32} {ztz : Int32} {ztn : Nat → Int64} {zxz : Int32} {zxa : Int32} {zsg : Nat → Int32} {za0 : Int32} {za1 : Int32} {za2 : Int32} {za3 : Int32} {za4 : Int32} {zfr : Nat → Int32} {zcd : Int32} {zgo : Nat → Int32} {ztd : Int32} {ztv : Int32} {zcl : Nat → Int32} {zca : Nat → Int32} {zwa : Nat → Int32} {zpt : Nat → Int32} {zpf : Nat → Int32} {N : Nat} {p2 : Int32} {p3 : Int32} {r' : Int32} (hj : j < 13) (hX : HS j = X) (hE : fX1_refusesRoot N X p2 p3 = some r') : Mg l yX1_refusesRoot cX1_refusesRoot 4 (some .int) (rmk 4 95) (KX Z) (AX Z) [.ref (oA Z 19), .ref (hA Z j 0), .int p2, .int p3] (PX Z HS zkb zdr zky zpn zps ztz ztn zxz zxa zsg za0 za1 za2 za3 za4 zfr zcd zgo ztd ztv zcl zca zwa zpt zpf) (Qi (KX Z) (AX Z) (PX Z HS zkb zdr zky zpn zps ztz ztn zxz zxa zsg za0 za1 za2 za3 za4 zfr zcd zgo ztd ztv zcl zca zwa zpt zpf) r') := by
  rw [← updH_eq hX]
  refine Mg.start (lv := [(0, .ref (oA Z 19)), (1, .ref (hA Z j 0)), (2, .int p2), (3, .int p3)]) (by decide) rfl (Nat.le_of_ble_eq_true rfl) rfl ?_
  intro p e s m below meth c F hr hlk C hP ls hl
  have hS : va_S (AX Z) s.heap s.heap [] := va_S.rf
  unfold fX1_refusesRoot at hE
  refine lv_iload_n F.1 F.2.1 dX1_refusesRoot_0 rfl (lv_at hl 2 rfl) ?_
  refine lv_iconst (v := 0) F.1 F.2.1 dX1_refusesRoot_1 (by decide) ?_
  refine lv_iconst (v := 5) F.1 F.2.1 dX1_refusesRoot_2 (by decide) ?_
  obtain ⟨r73, hc, hE⟩ := bnd1_some hE
  refine aft_i (run_S (rest := []) F (kX1_isWithin hc) (okX Z) C hS lkX1_113 ⟨Nat.le_of_ble_eq_true rfl, Nat.le_of_ble_eq_true rfl⟩ hP rfl hl.1 rfl (lv_room (Nat.le_of_ble_eq_true rfl)) dX1_refusesRoot_3 ⟨Nat.zero_le _, Nat.zero_le _⟩) hS (fun H locs hP hS => ?_)
  refine lv_if_eq (tgt := 17) F.1 F.2.1 dX1_refusesRoot_6 (by decide) (fun hc => ?_) (fun hc => ?_)
  · have hE := ifp hE hc
    refine lv_iconst (v := (-1)) F.1 F.2.1 dX1_refusesRoot_17 (by decide) ?_
    obtain rfl := Option.some.inj hE
    exact ret_i F hr hlk hP hS dX1_refusesRoot_18
  · have hE := ifn hE hc
    refine lv_aload_n F.1 F.2.1 dX1_refusesRoot_9 rfl (lv_at hl 1 rfl) ?_
    refine lv_iload_n F.1 F.2.1 dX1_refusesRoot_10 rfl (lv_at hl 3 rfl) ?_
    obtain ⟨r74, hc, hE⟩ := bnd1_some hE
    refine aft_i (run_N (rest := []) F (kX3_hasOrNone hj (updH_at _ _ _) hc) (okX Z) C hS (C.2.2 _ _ mlX1_121 rfl) lkX1_121 ⟨Nat.le_of_ble_eq_true rfl, Nat.le_of_ble_eq_true rfl⟩ (rvh0 C hP hj) hP rfl hl.1 rfl (lv_room (Nat.le_of_ble_eq_true rfl)) dX1_refusesRoot_11 ⟨Nat.zero_le _, Nat.zero_le _⟩) hS (fun H locs hP hS => ?_)
    refine lv_if_ne (tgt := 19) F.1 F.2.1 dX1_refusesRoot_14 (by decide) (fun hc => ?_) (fun hc => ?_)
    · have hE := ifn hE hc
      refine lv_aload_n F.1 F.2.1 dX1_refusesRoot_19 rfl (lv_at hl 1 rfl) ?_
      refine gX1_138 F C hP hj (updH_at _ _ _) dX1_refusesRoot_20 ?_
      refine lv_iload_n F.1 F.2.1 dX1_refusesRoot_23 rfl (lv_at hl 2 rfl) ?_
      obtain ⟨hi, hE⟩ := grd_some hE
      refine ah6 F C hP hj (updH_at _ _ _) hi dX1_refusesRoot_24 ?_
      refine lv_iload_n F.1 F.2.1 dX1_refusesRoot_25 rfl (lv_at hl 3 rfl) ?_
      refine lv_icmp_ne (tgt := 32) F.1 F.2.1 dX1_refusesRoot_26 (by decide) (fun hc => ?_) (fun hc => ?_)
      · have hE := ifn hE hc
        refine lv_aload_n F.1 F.2.1 dX1_refusesRoot_32 rfl (lv_at hl 0 rfl) ?_
        refine gX1_19 F C hP dX1_refusesRoot_33 ?_
        refine lv_aload_n F.1 F.2.1 dX1_refusesRoot_36 rfl (lv_at hl 1 rfl) ?_
        obtain ⟨r75, hc, hE⟩ := bnd1_some hE
        refine aft_i (run_N (rest := []) F (kX10_reached hj (updH_at _ _ _) hc) (okX Z) C hS (C.2.2 _ _ mlX1_129 rfl) lkX1_129 ⟨Nat.le_of_ble_eq_true rfl, Nat.le_of_ble_eq_true rfl⟩ (rvo9 C hP) hP rfl hl.1 rfl (lv_room (Nat.le_of_ble_eq_true rfl)) dX1_refusesRoot_37 ⟨Nat.zero_le _, Nat.zero_le _⟩) hS (fun H locs hP hS => ?_)
        refine lv_iload_n F.1 F.2.1 dX1_refusesRoot_40 rfl (lv_at hl 3 rfl) ?_
        obtain ⟨r76, hc, hE⟩ := bnd1_some hE
        refine aft_i (run_S (rest := []) F (kX1_isIn hc) (okX Z) C hS lkX1_135 ⟨Nat.le_of_ble_eq_true rfl, Nat.le_of_ble_eq_true rfl⟩ hP rfl hl.1 rfl (lv_room (Nat.le_of_ble_eq_true rfl)) dX1_refusesRoot_41 ⟨Nat.zero_le _, Nat.zero_le _⟩) hS (fun H locs hP hS => ?_)
        refine lv_if_eq (tgt := 51) F.1 F.2.1 dX1_refusesRoot_44 (by decide) (fun hc => ?_) (fun hc => ?_)
        · have hE := ifp hE hc
          refine lv_bipush (v := (-3)) F.1 F.2.1 dX1_refusesRoot_51 (by decide) ?_
          obtain rfl := Option.some.inj hE
          exact ret_i F hr hlk hP hS dX1_refusesRoot_53
        · have hE := ifn hE hc
          refine lv_iconst (v := 0) F.1 F.2.1 dX1_refusesRoot_47 (by decide) ?_
          refine lv_goto (tgt := 53) F.1 F.2.1 dX1_refusesRoot_48 (by decide) ?_
          obtain rfl := Option.some.inj hE
          exact ret_i F hr hlk hP hS dX1_refusesRoot_53
      · have hE := ifp hE hc
        refine lv_bipush (v := (-2)) F.1 F.2.1 dX1_refusesRoot_29 (by decide) ?_
        obtain rfl := Option.some.inj hE
        exact ret_i F hr hlk hP hS dX1_refusesRoot_31
    · have hE := ifp hE hc
      refine lv_iconst (v := (-1)) F.1 F.2.1 dX1_refusesRoot_17 (by decide) ?_
      obtain rfl := Option.some.inj hE
      exact ret_i F hr hlk hP hS dX1_refusesRoot_18
set_option maxRecDepth 100000 in
set_option maxHeartbeats 4000000 in
theorem kX1_refusesWeak {l : Launch} {Z : ZC} {HS : Nat → Nat → Nat → Int32} {j : Nat} {X : Nat → Nat → Int32} {zkb : Int32} {zdr : Int32} {zky : Nat → Int32} {zpn : Int32} {zps : Int32} {ztz : Int32} {ztn : Nat → Int64} {zxz : Int32} {zxa : Int32} {zsg : Nat → Int32} {za0 : Int32} {za1 : Int32} {za2 : Int32} {za3 : Int32} {za4 : Int32} {zfr : Nat → Int32} {zcd : Int32} {zgo : Nat → Int32} {ztd : Int32} {ztv : Int32} {zcl : Nat → Int32} {zca : Nat → Int32} {zwa : Nat → Int32} {zpt : Nat → Int32} {zpf : Nat → Int32} {N : Nat} {p2 : Int32} {p3 : Int32} {r' : Int32} (hj : j < 13) (hX : HS j = X) (hE : fX1_refusesWeak N X p2 p3 = some r') : Mg l yX1_refusesWeak cX1_refusesWeak 4 (some .int) (rmk 4 95) (KX Z) (AX Z) [.ref (oA Z 19), .ref (hA Z j 0), .int p2, .int p3] (PX Z HS zkb zdr zky zpn zps ztz ztn zxz zxa zsg za0 za1 za2 za3 za4 zfr zcd zgo ztd ztv zcl zca zwa zpt zpf) (Qi (KX Z) (AX Z) (PX Z HS zkb zdr zky zpn zps ztz ztn zxz zxa zsg za0 za1 za2 za3 za4 zfr zcd zgo ztd ztv zcl zca zwa zpt zpf) r') := by
  rw [← updH_eq hX]
  refine Mg.start (lv := [(0, .ref (oA Z 19)), (1, .ref (hA Z j 0)), (2, .int p2), (3, .int p3)]) (by decide) rfl (Nat.le_of_ble_eq_true rfl) rfl ?_
  intro p e s m below meth c F hr hlk C hP ls hl
  have hS : va_S (AX Z) s.heap s.heap [] := va_S.rf
  unfold fX1_refusesWeak at hE
  refine lv_iload_n F.1 F.2.1 dX1_refusesWeak_0 rfl (lv_at hl 2 rfl) ?_
  refine lv_iconst (v := 0) F.1 F.2.1 dX1_refusesWeak_1 (by decide) ?_
  refine lv_iconst (v := 3) F.1 F.2.1 dX1_refusesWeak_2 (by decide) ?_
  obtain ⟨r81, hc, hE⟩ := bnd1_some hE
  refine aft_i (run_S (rest := []) F (kX1_isWithin hc) (okX Z) C hS lkX1_113 ⟨Nat.le_of_ble_eq_true rfl, Nat.le_of_ble_eq_true rfl⟩ hP rfl hl.1 rfl (lv_room (Nat.le_of_ble_eq_true rfl)) dX1_refusesWeak_3 ⟨Nat.zero_le _, Nat.zero_le _⟩) hS (fun H locs hP hS => ?_)
  refine lv_if_eq (tgt := 17) F.1 F.2.1 dX1_refusesWeak_6 (by decide) (fun hc => ?_) (fun hc => ?_)
  · have hE := ifp hE hc
    refine lv_bipush (v := (-4)) F.1 F.2.1 dX1_refusesWeak_17 (by decide) ?_
    obtain rfl := Option.some.inj hE
    exact ret_i F hr hlk hP hS dX1_refusesWeak_19
  · have hE := ifn hE hc
    refine lv_aload_n F.1 F.2.1 dX1_refusesWeak_9 rfl (lv_at hl 1 rfl) ?_
    refine lv_iload_n F.1 F.2.1 dX1_refusesWeak_10 rfl (lv_at hl 3 rfl) ?_
    obtain ⟨r82, hc, hE⟩ := bnd1_some hE
    refine aft_i (run_N (rest := []) F (kX3_hasOrNone hj (updH_at _ _ _) hc) (okX Z) C hS (C.2.2 _ _ mlX1_121 rfl) lkX1_121 ⟨Nat.le_of_ble_eq_true rfl, Nat.le_of_ble_eq_true rfl⟩ (rvh0 C hP hj) hP rfl hl.1 rfl (lv_room (Nat.le_of_ble_eq_true rfl)) dX1_refusesWeak_11 ⟨Nat.zero_le _, Nat.zero_le _⟩) hS (fun H locs hP hS => ?_)
    refine lv_if_ne (tgt := 20) F.1 F.2.1 dX1_refusesWeak_14 (by decide) (fun hc => ?_) (fun hc => ?_)
    · have hE := ifn hE hc
      refine lv_aload_n F.1 F.2.1 dX1_refusesWeak_20 rfl (lv_at hl 1 rfl) ?_
      refine gX1_74 F C hP hj (updH_at _ _ _) dX1_refusesWeak_21 ?_
      refine lv_iload_n F.1 F.2.1 dX1_refusesWeak_24 rfl (lv_at hl 2 rfl) ?_
      obtain ⟨hi, hE⟩ := grd_some hE
      refine ah7 F C hP hj (updH_at _ _ _) hi dX1_refusesWeak_25 ?_
      refine lv_iload_n F.1 F.2.1 dX1_refusesWeak_26 rfl (lv_at hl 3 rfl) ?_
      refine lv_icmp_ne (tgt := 33) F.1 F.2.1 dX1_refusesWeak_27 (by decide) (fun hc => ?_) (fun hc => ?_)
      · have hE := ifn hE hc
        refine lv_aload_n F.1 F.2.1 dX1_refusesWeak_33 rfl (lv_at hl 0 rfl) ?_
        refine gX1_19 F C hP dX1_refusesWeak_34 ?_
        refine lv_aload_n F.1 F.2.1 dX1_refusesWeak_37 rfl (lv_at hl 1 rfl) ?_
        obtain ⟨r83, hc, hE⟩ := bnd1_some hE
        refine aft_i (run_N (rest := []) F (kX10_reached hj (updH_at _ _ _) hc) (okX Z) C hS (C.2.2 _ _ mlX1_129 rfl) lkX1_129 ⟨Nat.le_of_ble_eq_true rfl, Nat.le_of_ble_eq_true rfl⟩ (rvo9 C hP) hP rfl hl.1 rfl (lv_room (Nat.le_of_ble_eq_true rfl)) dX1_refusesWeak_38 ⟨Nat.zero_le _, Nat.zero_le _⟩) hS (fun H locs hP hS => ?_)
        refine lv_iload_n F.1 F.2.1 dX1_refusesWeak_41 rfl (lv_at hl 3 rfl) ?_
        obtain ⟨r84, hc, hE⟩ := bnd1_some hE
        refine aft_i (run_S (rest := []) F (kX1_isIn hc) (okX Z) C hS lkX1_135 ⟨Nat.le_of_ble_eq_true rfl, Nat.le_of_ble_eq_true rfl⟩ hP rfl hl.1 rfl (lv_room (Nat.le_of_ble_eq_true rfl)) dX1_refusesWeak_42 ⟨Nat.zero_le _, Nat.zero_le _⟩) hS (fun H locs hP hS => ?_)
        refine lv_if_eq (tgt := 52) F.1 F.2.1 dX1_refusesWeak_45 (by decide) (fun hc => ?_) (fun hc => ?_)
        · have hE := ifp hE hc
          refine lv_bipush (v := (-3)) F.1 F.2.1 dX1_refusesWeak_52 (by decide) ?_
          obtain rfl := Option.some.inj hE
          exact ret_i F hr hlk hP hS dX1_refusesWeak_54
        · have hE := ifn hE hc
          refine lv_iconst (v := 0) F.1 F.2.1 dX1_refusesWeak_48 (by decide) ?_
          refine lv_goto (tgt := 54) F.1 F.2.1 dX1_refusesWeak_49 (by decide) ?_
          obtain rfl := Option.some.inj hE
          exact ret_i F hr hlk hP hS dX1_refusesWeak_54
      · have hE := ifp hE hc
        refine lv_bipush (v := (-2)) F.1 F.2.1 dX1_refusesWeak_30 (by decide) ?_
        obtain rfl := Option.some.inj hE
        exact ret_i F hr hlk hP hS dX1_refusesWeak_32
    · have hE := ifp hE hc
      refine lv_bipush (v := (-4)) F.1 F.2.1 dX1_refusesWeak_17 (by decide) ?_
      obtain rfl := Option.some.inj hE
      exact ret_i F hr hlk hP hS dX1_refusesWeak_19
set_option maxRecDepth 100000 in
set_option maxHeartbeats 4000000 in
theorem kX1_refusesWake {l : Launch} {Z : ZC} {HS : Nat → Nat → Nat → Int32} {j : Nat} {X : Nat → Nat → Int32} {zkb : Int32} {zdr : Int32} {zky : Nat → Int32} {zpn : Int32} {zps : Int32} {ztz : Int32} {ztn : Nat → Int64} {zxz : Int32} {zxa : Int32} {zsg : Nat → Int32} {za0 : Int32} {za1 : Int32} {za2 : Int32} {za3 : Int32} {za4 : Int32} {zfr : Nat → Int32} {zcd : Int32} {zgo : Nat → Int32} {ztd : Int32} {ztv : Int32} {zcl : Nat → Int32} {zca : Nat → Int32} {zwa : Nat → Int32} {zpt : Nat → Int32} {zpf : Nat → Int32} {p2 : Int32} {p3 : Int32} {r' : Int32} (hj : j < 13) (hX : HS j = X) (hE : fX1_refusesWake X p2 p3 = some r') : Mg l yX1_refusesWake cX1_refusesWake 4 (some .int) (rmk 1 22) (KX Z) (AX Z) [.ref (oA Z 19), .ref (hA Z j 0), .int p2, .int p3] (PX Z HS zkb zdr zky zpn zps ztz ztn zxz zxa zsg za0 za1 za2 za3 za4 zfr zcd zgo ztd ztv zcl zca zwa zpt zpf) (Qi (KX Z) (AX Z) (PX Z HS zkb zdr zky zpn zps ztz ztn zxz zxa zsg za0 za1 za2 za3 za4 zfr zcd zgo ztd ztv zcl zca zwa zpt zpf) r') := by
  rw [← updH_eq hX]
  refine Mg.start (lv := [(0, .ref (oA Z 19)), (1, .ref (hA Z j 0)), (2, .int p2), (3, .int p3)]) (by decide) rfl (Nat.le_of_ble_eq_true rfl) rfl ?_
  intro p e s m below meth c F hr hlk C hP ls hl
  have hS : va_S (AX Z) s.heap s.heap [] := va_S.rf
  unfold fX1_refusesWake at hE
  refine lv_iload_n F.1 F.2.1 dX1_refusesWake_0 rfl (lv_at hl 2 rfl) ?_
  refine lv_iconst (v := 0) F.1 F.2.1 dX1_refusesWake_1 (by decide) ?_
  refine lv_iconst (v := 3) F.1 F.2.1 dX1_refusesWake_2 (by decide) ?_
  obtain ⟨r87, hc, hE⟩ := bnd1_some hE
  refine aft_i (run_S (rest := []) F (kX1_isWithin hc) (okX Z) C hS lkX1_113 ⟨Nat.le_of_ble_eq_true rfl, Nat.le_of_ble_eq_true rfl⟩ hP rfl hl.1 rfl (lv_room (Nat.le_of_ble_eq_true rfl)) dX1_refusesWake_3 ⟨Nat.zero_le _, Nat.zero_le _⟩) hS (fun H locs hP hS => ?_)
  refine lv_if_eq (tgt := 18) F.1 F.2.1 dX1_refusesWake_6 (by decide) (fun hc => ?_) (fun hc => ?_)
  · have hE := ifp hE hc
    refine lv_iconst (v := (-1)) F.1 F.2.1 dX1_refusesWake_18 (by decide) ?_
    obtain rfl := Option.some.inj hE
    exact ret_i F hr hlk hP hS dX1_refusesWake_19
  · have hE := ifn hE hc
    refine lv_iload_n F.1 F.2.1 dX1_refusesWake_9 rfl (lv_at hl 3 rfl) ?_
    refine lv_iconst (v := 0) F.1 F.2.1 dX1_refusesWake_10 (by decide) ?_
    refine lv_iconst (v := 5) F.1 F.2.1 dX1_refusesWake_11 (by decide) ?_
    obtain ⟨r88, hc, hE⟩ := bnd1_some hE
    refine aft_i (run_S (rest := []) F (kX1_isWithin hc) (okX Z) C hS lkX1_113 ⟨Nat.le_of_ble_eq_true rfl, Nat.le_of_ble_eq_true rfl⟩ hP rfl hl.1 rfl (lv_room (Nat.le_of_ble_eq_true rfl)) dX1_refusesWake_12 ⟨Nat.zero_le _, Nat.zero_le _⟩) hS (fun H locs hP hS => ?_)
    refine lv_if_ne (tgt := 20) F.1 F.2.1 dX1_refusesWake_15 (by decide) (fun hc => ?_) (fun hc => ?_)
    · have hE := ifn hE hc
      refine lv_aload_n F.1 F.2.1 dX1_refusesWake_20 rfl (lv_at hl 1 rfl) ?_
      refine gX1_74 F C hP hj (updH_at _ _ _) dX1_refusesWake_21 ?_
      refine lv_iload_n F.1 F.2.1 dX1_refusesWake_24 rfl (lv_at hl 2 rfl) ?_
      obtain ⟨hi, hE⟩ := grd_some hE
      refine ah7 F C hP hj (updH_at _ _ _) hi dX1_refusesWake_25 ?_
      refine lv_iconst (v := (-1)) F.1 F.2.1 dX1_refusesWake_26 (by decide) ?_
      refine lv_icmp_ne (tgt := 33) F.1 F.2.1 dX1_refusesWake_27 (by decide) (fun hc => ?_) (fun hc => ?_)
      · have hE := ifn hE hc
        refine lv_aload_n F.1 F.2.1 dX1_refusesWake_33 rfl (lv_at hl 1 rfl) ?_
        refine gX1_138 F C hP hj (updH_at _ _ _) dX1_refusesWake_34 ?_
        refine lv_iload_n F.1 F.2.1 dX1_refusesWake_37 rfl (lv_at hl 3 rfl) ?_
        obtain ⟨hi, hE⟩ := grd_some hE
        refine ah6 F C hP hj (updH_at _ _ _) hi dX1_refusesWake_38 ?_
        refine lv_aload_n F.1 F.2.1 dX1_refusesWake_39 rfl (lv_at hl 1 rfl) ?_
        refine gX1_74 F C hP hj (updH_at _ _ _) dX1_refusesWake_40 ?_
        refine lv_iload_n F.1 F.2.1 dX1_refusesWake_43 rfl (lv_at hl 2 rfl) ?_
        obtain ⟨hi, hE⟩ := grd_some hE
        refine ah7 F C hP hj (updH_at _ _ _) hi dX1_refusesWake_44 ?_
        refine lv_icmp_ne (tgt := 53) F.1 F.2.1 dX1_refusesWake_45 (by decide) (fun hc => ?_) (fun hc => ?_)
        · have hE := ifn hE hc
          refine lv_iconst (v := 0) F.1 F.2.1 dX1_refusesWake_53 (by decide) ?_
          obtain rfl := Option.some.inj hE
          exact ret_i F hr hlk hP hS dX1_refusesWake_54
        · have hE := ifp hE hc
          refine lv_bipush (v := (-2)) F.1 F.2.1 dX1_refusesWake_48 (by decide) ?_
          refine lv_goto (tgt := 54) F.1 F.2.1 dX1_refusesWake_50 (by decide) ?_
          obtain rfl := Option.some.inj hE
          exact ret_i F hr hlk hP hS dX1_refusesWake_54
      · have hE := ifp hE hc
        refine lv_bipush (v := (-3)) F.1 F.2.1 dX1_refusesWake_30 (by decide) ?_
        obtain rfl := Option.some.inj hE
        exact ret_i F hr hlk hP hS dX1_refusesWake_32
    · have hE := ifp hE hc
      refine lv_iconst (v := (-1)) F.1 F.2.1 dX1_refusesWake_18 (by decide) ?_
      obtain rfl := Option.some.inj hE
      exact ret_i F hr hlk hP hS dX1_refusesWake_19
set_option maxRecDepth 100000 in
set_option maxHeartbeats 4000000 in
theorem kX1_refuses {l : Launch} {Z : ZC} {HS : Nat → Nat → Nat → Int32} {j : Nat} {X : Nat → Nat → Int32} {zkb : Int32} {zdr : Int32} {zky : Nat → Int32} {zpn : Int32} {zps : Int32} {ztz : Int32} {ztn : Nat → Int64} {zxz : Int32} {zxa : Int32} {zsg : Nat → Int32} {za0 : Int32} {za1 : Int32} {za2 : Int32} {za3 : Int32} {za4 : Int32} {zfr : Nat → Int32} {zcd : Int32} {zgo : Nat → Int32} {ztd : Int32} {ztv : Int32} {zcl : Nat → Int32} {zca : Nat → Int32} {zwa : Nat → Int32} {zpt : Nat → Int32} {zpf : Nat → Int32} {N : Nat} {r' : Int32} (hj : j < 13) (hX : HS j = X) (hE : fX1_refuses N za0 za1 za2 za3 za4 X = some r') : Mg l yX1_refuses cX1_refuses 3 (some .int) (rmk 5 120) (KX Z) (AX Z) [.ref (oA Z 19), .ref (hA Z j 0), .ref (oA Z 8)] (PX Z HS zkb zdr zky zpn zps ztz ztn zxz zxa zsg za0 za1 za2 za3 za4 zfr zcd zgo ztd ztv zcl zca zwa zpt zpf) (Qi (KX Z) (AX Z) (PX Z HS zkb zdr zky zpn zps ztz ztn zxz zxa zsg za0 za1 za2 za3 za4 zfr zcd zgo ztd ztv zcl zca zwa zpt zpf) r') := by
  rw [← updH_eq hX]
  refine Mg.start (lv := [(0, .ref (oA Z 19)), (1, .ref (hA Z j 0)), (2, .ref (oA Z 8))]) (by decide) rfl (Nat.le_of_ble_eq_true rfl) rfl ?_
  intro p e s m below meth c F hr hlk C hP ls hl
  have hS : va_S (AX Z) s.heap s.heap [] := va_S.rf
  unfold fX1_refuses at hE
  refine lv_aload_n F.1 F.2.1 dX1_refuses_0 rfl (lv_at hl 2 rfl) ?_
  refine gX1_39 F C hP dX1_refuses_1 ?_
  by_cases hc0 : za0 = 107
  · have hE := ifp hE hc0
    refine lv_tableIn (tgt := 125) (off := 121) F.1 F.2.1 dX1_refuses_4 (by rw [hc0]; decide) (by rw [hc0]; decide) (by rw [hc0]; rfl) (by decide) ?_
    refine lv_aload_n F.1 F.2.1 dX1_refuses_125 rfl (lv_at hl 0 rfl) ?_
    refine lv_aload_n F.1 F.2.1 dX1_refuses_126 rfl (lv_at hl 1 rfl) ?_
    refine lv_aload_n F.1 F.2.1 dX1_refuses_127 rfl (lv_at hl 2 rfl) ?_
    refine gX1_48 F C hP dX1_refuses_128 ?_
    refine lv_aload_n F.1 F.2.1 dX1_refuses_131 rfl (lv_at hl 2 rfl) ?_
    refine gX1_51 F C hP dX1_refuses_132 ?_
    obtain ⟨r94, hc, hE⟩ := bnd1_some hE
    refine aft_i (run_V (rest := []) F (kX1_refusesWake hj (updH_at _ _ _) hc) (okX Z) C hS lkX1_110 ⟨Nat.le_of_ble_eq_true rfl, Nat.le_of_ble_eq_true rfl⟩ (rvo19 C hP) hP rfl hl.1 rfl (lv_room (Nat.le_of_ble_eq_true rfl)) dX1_refuses_135 ⟨Nat.zero_le _, Nat.zero_le _⟩) hS (fun H locs hP hS => ?_)
    obtain rfl := Option.some.inj hE
    exact ret_i F hr hlk hP hS dX1_refuses_138
  have hE := ifn hE hc0
  by_cases hc1 : za0 = 108
  · skip
    refine lv_tableIn (tgt := 156) (off := 152) F.1 F.2.1 dX1_refuses_4 (by rw [hc1]; decide) (by rw [hc1]; decide) (by rw [hc1]; rfl) (by decide) ?_
    have hE := ifn hE (by rw [hc1]; decide)
    have hE := ifn hE (by rw [hc1]; decide)
    have hE := ifn hE (by rw [hc1]; decide)
    have hE := ifn hE (by rw [hc1]; decide)
    have hE := ifn hE (by rw [hc1]; decide)
    refine lv_iconst (v := (-1)) F.1 F.2.1 dX1_refuses_156 (by decide) ?_
    obtain rfl := Option.some.inj hE
    exact ret_i F hr hlk hP hS dX1_refuses_157
  by_cases hc2 : za0 = 109
  · skip
    refine lv_tableIn (tgt := 156) (off := 152) F.1 F.2.1 dX1_refuses_4 (by rw [hc2]; decide) (by rw [hc2]; decide) (by rw [hc2]; rfl) (by decide) ?_
    have hE := ifn hE (by rw [hc2]; decide)
    have hE := ifn hE (by rw [hc2]; decide)
    have hE := ifn hE (by rw [hc2]; decide)
    have hE := ifn hE (by rw [hc2]; decide)
    have hE := ifn hE (by rw [hc2]; decide)
    refine lv_iconst (v := (-1)) F.1 F.2.1 dX1_refuses_156 (by decide) ?_
    obtain rfl := Option.some.inj hE
    exact ret_i F hr hlk hP hS dX1_refuses_157
  by_cases hc3 : za0 = 110
  · have hE := ifp hE hc3
    refine lv_tableIn (tgt := 72) (off := 68) F.1 F.2.1 dX1_refuses_4 (by rw [hc3]; decide) (by rw [hc3]; decide) (by rw [hc3]; rfl) (by decide) ?_
    refine lv_aload_n F.1 F.2.1 dX1_refuses_72 rfl (lv_at hl 0 rfl) ?_
    refine lv_aload_n F.1 F.2.1 dX1_refuses_73 rfl (lv_at hl 1 rfl) ?_
    refine lv_aload_n F.1 F.2.1 dX1_refuses_74 rfl (lv_at hl 2 rfl) ?_
    obtain ⟨r95, hc, hE⟩ := bnd1_some hE
    refine aft_i (run_V (rest := []) F (kX1_refusesMake hj (updH_at _ _ _) hc) (okX Z) C hS lkX1_96 ⟨Nat.le_of_ble_eq_true rfl, Nat.le_of_ble_eq_true rfl⟩ (rvo19 C hP) hP rfl hl.1 rfl (lv_room (Nat.le_of_ble_eq_true rfl)) dX1_refuses_75 ⟨Nat.zero_le _, Nat.zero_le _⟩) hS (fun H locs hP hS => ?_)
    obtain rfl := Option.some.inj hE
    exact ret_i F hr hlk hP hS dX1_refuses_78
  have hE := ifn hE hc3
  by_cases hc4 : za0 = 111
  · skip
    refine lv_tableIn (tgt := 156) (off := 152) F.1 F.2.1 dX1_refuses_4 (by rw [hc4]; decide) (by rw [hc4]; decide) (by rw [hc4]; rfl) (by decide) ?_
    have hE := ifn hE (by rw [hc4]; decide)
    have hE := ifn hE (by rw [hc4]; decide)
    have hE := ifn hE (by rw [hc4]; decide)
    have hE := ifn hE (by rw [hc4]; decide)
    refine lv_iconst (v := (-1)) F.1 F.2.1 dX1_refuses_156 (by decide) ?_
    obtain rfl := Option.some.inj hE
    exact ret_i F hr hlk hP hS dX1_refuses_157
  by_cases hc5 : za0 = 112
  · skip
    refine lv_tableIn (tgt := 156) (off := 152) F.1 F.2.1 dX1_refuses_4 (by rw [hc5]; decide) (by rw [hc5]; decide) (by rw [hc5]; rfl) (by decide) ?_
    have hE := ifn hE (by rw [hc5]; decide)
    have hE := ifn hE (by rw [hc5]; decide)
    have hE := ifn hE (by rw [hc5]; decide)
    have hE := ifn hE (by rw [hc5]; decide)
    refine lv_iconst (v := (-1)) F.1 F.2.1 dX1_refuses_156 (by decide) ?_
    obtain rfl := Option.some.inj hE
    exact ret_i F hr hlk hP hS dX1_refuses_157
  by_cases hc6 : za0 = 113
  · skip
    refine lv_tableIn (tgt := 156) (off := 152) F.1 F.2.1 dX1_refuses_4 (by rw [hc6]; decide) (by rw [hc6]; decide) (by rw [hc6]; rfl) (by decide) ?_
    have hE := ifn hE (by rw [hc6]; decide)
    have hE := ifn hE (by rw [hc6]; decide)
    have hE := ifn hE (by rw [hc6]; decide)
    have hE := ifn hE (by rw [hc6]; decide)
    refine lv_iconst (v := (-1)) F.1 F.2.1 dX1_refuses_156 (by decide) ?_
    obtain rfl := Option.some.inj hE
    exact ret_i F hr hlk hP hS dX1_refuses_157
  by_cases hc7 : za0 = 114
  · have hE := ifp hE hc7
    refine lv_tableIn (tgt := 97) (off := 93) F.1 F.2.1 dX1_refuses_4 (by rw [hc7]; decide) (by rw [hc7]; decide) (by rw [hc7]; rfl) (by decide) ?_
    refine lv_aload_n F.1 F.2.1 dX1_refuses_97 rfl (lv_at hl 0 rfl) ?_
    refine lv_aload_n F.1 F.2.1 dX1_refuses_98 rfl (lv_at hl 1 rfl) ?_
    refine lv_aload_n F.1 F.2.1 dX1_refuses_99 rfl (lv_at hl 2 rfl) ?_
    refine gX1_48 F C hP dX1_refuses_100 ?_
    refine lv_aload_n F.1 F.2.1 dX1_refuses_103 rfl (lv_at hl 2 rfl) ?_
    refine gX1_51 F C hP dX1_refuses_104 ?_
    obtain ⟨r96, hc, hE⟩ := bnd1_some hE
    refine aft_i (run_V (rest := []) F (kX1_refusesRoot hj (updH_at _ _ _) hc) (okX Z) C hS lkX1_103 ⟨Nat.le_of_ble_eq_true rfl, Nat.le_of_ble_eq_true rfl⟩ (rvo19 C hP) hP rfl hl.1 rfl (lv_room (Nat.le_of_ble_eq_true rfl)) dX1_refuses_107 ⟨Nat.zero_le _, Nat.zero_le _⟩) hS (fun H locs hP hS => ?_)
    obtain rfl := Option.some.inj hE
    exact ret_i F hr hlk hP hS dX1_refuses_110
  have hE := ifn hE hc7
  by_cases hc8 : za0 = 115
  · have hE := ifp hE hc8
    refine lv_tableIn (tgt := 79) (off := 75) F.1 F.2.1 dX1_refuses_4 (by rw [hc8]; decide) (by rw [hc8]; decide) (by rw [hc8]; rfl) (by decide) ?_
    refine lv_aload_n F.1 F.2.1 dX1_refuses_79 rfl (lv_at hl 0 rfl) ?_
    refine lv_aload_n F.1 F.2.1 dX1_refuses_80 rfl (lv_at hl 1 rfl) ?_
    refine lv_aload_n F.1 F.2.1 dX1_refuses_81 rfl (lv_at hl 2 rfl) ?_
    refine gX1_48 F C hP dX1_refuses_82 ?_
    refine lv_aload_n F.1 F.2.1 dX1_refuses_85 rfl (lv_at hl 2 rfl) ?_
    refine gX1_51 F C hP dX1_refuses_86 ?_
    refine lv_aload_n F.1 F.2.1 dX1_refuses_89 rfl (lv_at hl 2 rfl) ?_
    refine gX1_54 F C hP dX1_refuses_90 ?_
    obtain ⟨r97, hc, hE⟩ := bnd1_some hE
    refine aft_i (run_V (rest := []) F (kX1_refusesSet hj (updH_at _ _ _) hc) (okX Z) C hS lkX1_99 ⟨Nat.le_of_ble_eq_true rfl, Nat.le_of_ble_eq_true rfl⟩ (rvo19 C hP) hP rfl hl.1 rfl (lv_room (Nat.le_of_ble_eq_true rfl)) dX1_refuses_93 ⟨Nat.zero_le _, Nat.zero_le _⟩) hS (fun H locs hP hS => ?_)
    obtain rfl := Option.some.inj hE
    exact ret_i F hr hlk hP hS dX1_refuses_96
  have hE := ifn hE hc8
  by_cases hc9 : za0 = 116
  · have hE := ifp hE hc9
    refine lv_tableIn (tgt := 139) (off := 135) F.1 F.2.1 dX1_refuses_4 (by rw [hc9]; decide) (by rw [hc9]; decide) (by rw [hc9]; rfl) (by decide) ?_
    refine lv_aload_n F.1 F.2.1 dX1_refuses_139 rfl (lv_at hl 1 rfl) ?_
    refine gX1_84 F C hP hj (updH_at _ _ _) dX1_refuses_140 ?_
    refine gX1_88 F C hP hj (updH_at _ _ _) dX1_refuses_143 ?_
    refine lv_if_ne (tgt := 154) F.1 F.2.1 dX1_refuses_146 (by decide) (fun hc => ?_) (fun hc => ?_)
    · have hE := ifn hE hc
      refine lv_iconst (v := 0) F.1 F.2.1 dX1_refuses_154 (by decide) ?_
      obtain rfl := Option.some.inj hE
      exact ret_i F hr hlk hP hS dX1_refuses_155
    · have hE := ifp hE hc
      refine lv_bipush (v := (-2)) F.1 F.2.1 dX1_refuses_149 (by decide) ?_
      refine lv_goto (tgt := 155) F.1 F.2.1 dX1_refuses_151 (by decide) ?_
      obtain rfl := Option.some.inj hE
      exact ret_i F hr hlk hP hS dX1_refuses_155
  have hE := ifn hE hc9
  by_cases hc10 : za0 = 117
  · skip
    refine lv_tableIn (tgt := 156) (off := 152) F.1 F.2.1 dX1_refuses_4 (by rw [hc10]; decide) (by rw [hc10]; decide) (by rw [hc10]; rfl) (by decide) ?_
    have hE := ifn hE (by rw [hc10]; decide)
    refine lv_iconst (v := (-1)) F.1 F.2.1 dX1_refuses_156 (by decide) ?_
    obtain rfl := Option.some.inj hE
    exact ret_i F hr hlk hP hS dX1_refuses_157
  by_cases hc11 : za0 = 118
  · skip
    refine lv_tableIn (tgt := 156) (off := 152) F.1 F.2.1 dX1_refuses_4 (by rw [hc11]; decide) (by rw [hc11]; decide) (by rw [hc11]; rfl) (by decide) ?_
    have hE := ifn hE (by rw [hc11]; decide)
    refine lv_iconst (v := (-1)) F.1 F.2.1 dX1_refuses_156 (by decide) ?_
    obtain rfl := Option.some.inj hE
    exact ret_i F hr hlk hP hS dX1_refuses_157
  by_cases hc12 : za0 = 119
  · have hE := ifp hE hc12
    refine lv_tableIn (tgt := 111) (off := 107) F.1 F.2.1 dX1_refuses_4 (by rw [hc12]; decide) (by rw [hc12]; decide) (by rw [hc12]; rfl) (by decide) ?_
    refine lv_aload_n F.1 F.2.1 dX1_refuses_111 rfl (lv_at hl 0 rfl) ?_
    refine lv_aload_n F.1 F.2.1 dX1_refuses_112 rfl (lv_at hl 1 rfl) ?_
    refine lv_aload_n F.1 F.2.1 dX1_refuses_113 rfl (lv_at hl 2 rfl) ?_
    refine gX1_48 F C hP dX1_refuses_114 ?_
    refine lv_aload_n F.1 F.2.1 dX1_refuses_117 rfl (lv_at hl 2 rfl) ?_
    refine gX1_51 F C hP dX1_refuses_118 ?_
    obtain ⟨r98, hc, hE⟩ := bnd1_some hE
    refine aft_i (run_V (rest := []) F (kX1_refusesWeak hj (updH_at _ _ _) hc) (okX Z) C hS lkX1_107 ⟨Nat.le_of_ble_eq_true rfl, Nat.le_of_ble_eq_true rfl⟩ (rvo19 C hP) hP rfl hl.1 rfl (lv_room (Nat.le_of_ble_eq_true rfl)) dX1_refuses_121 ⟨Nat.zero_le _, Nat.zero_le _⟩) hS (fun H locs hP hS => ?_)
    obtain rfl := Option.some.inj hE
    exact ret_i F hr hlk hP hS dX1_refuses_124
  have hE := ifn hE hc12
  refine lv_tableOut (tgt := 156) F.1 F.2.1 dX1_refuses_4 (by have g0 : ¬ (za0).toInt = 107 := sw_ne hc0; have g1 : ¬ (za0).toInt = 108 := sw_ne hc1; have g2 : ¬ (za0).toInt = 109 := sw_ne hc2; have g3 : ¬ (za0).toInt = 110 := sw_ne hc3; have g4 : ¬ (za0).toInt = 111 := sw_ne hc4; have g5 : ¬ (za0).toInt = 112 := sw_ne hc5; have g6 : ¬ (za0).toInt = 113 := sw_ne hc6; have g7 : ¬ (za0).toInt = 114 := sw_ne hc7; have g8 : ¬ (za0).toInt = 115 := sw_ne hc8; have g9 : ¬ (za0).toInt = 116 := sw_ne hc9; have g10 : ¬ (za0).toInt = 117 := sw_ne hc10; have g11 : ¬ (za0).toInt = 118 := sw_ne hc11; have g12 : ¬ (za0).toInt = 119 := sw_ne hc12; omega) (by decide) ?_
  refine lv_iconst (v := (-1)) F.1 F.2.1 dX1_refuses_156 (by decide) ?_
  obtain rfl := Option.some.inj hE
  exact ret_i F hr hlk hP hS dX1_refuses_157
set_option maxRecDepth 100000 in
set_option maxHeartbeats 4000000 in
theorem qX3_empties_2 {p : Program} {l : Launch} {e : Env} {s : State} {m : MethodId} {args : Array Value} {below : List Frame} {meth : Method} {c : Code} {Z : ZC} {HS : Nat → Nat → Nat → Int32} {j : Nat} {zkb : Int32} {zdr : Int32} {zky : Nat → Int32} {zpn : Int32} {zps : Int32} {ztz : Int32} {ztn : Nat → Int64} {zxz : Int32} {zxa : Int32} {zsg : Nat → Int32} {za0 : Int32} {za1 : Int32} {za2 : Int32} {za3 : Int32} {za4 : Int32} {zfr : Nat → Int32} {zcd : Int32} {zgo : Nat → Int32} {ztd : Int32} {ztv : Int32} {zcl : Nat → Int32} {zca : Nat → Int32} {zwa : Nat → Int32} {zpt : Nat → Int32} {zpf : Nat → Int32} {N : Nat} {p1 : Int32} {X' : Nat → Nat → Int32} (F : CallFix p m c cX3_empties 3 s args bigW RX3) (hr : meth.sig.returnType = none) (hlk : meth.locks = false) (C : KX Z s) (hj : j < 13) : ∀ n : Nat, ∀ (X : Nat → Nat → Int32) (x2 : Int32), fX3_empties_2 N p1 n X x2 = some X' → ∀ (H : Heap) (locs : List Loc), PX Z (updH HS j X) zkb zdr zky zpn zps ztz ztn zxz zxa zsg za0 za1 za2 za3 za4 zfr zcd zgo ztd ztv zcl zca zwa zpt zpf H → va_S (AX Z) s.heap H locs → ∀ ls : Array Slot, lv_has ls 3 [(0, .ref (hA Z j 0)), (1, .int p1), (2, .int x2)] → W p l e (rmk 0 0) s m args below meth c H locs 0 0 (MQ below (Qv (KX Z) (AX Z) (PX Z (updH HS j X') zkb zdr zky zpn zps ztz ztn zxz zxa zsg za0 za1 za2 za3 za4 zfr zcd zgo ztd ztv zcl zca zwa zpt zpf)) args s 0 0 (AX Z)) (F0 m 2 ls []) := by
  intro n
  induction n with
  | zero => intro X x2 hE; cases hE
  | succ n h2 =>
    intro X x2 hE H locs hP hS ls hl
    have hE : fX3_empties_2b N p1 (fX3_empties_2 N p1 n) X x2 = some X' := hE
    refine lv_iload_n F.1 F.2.1 dX3_empties_2 rfl (lv_at hl 2 rfl) ?_
    refine lv_iconst (v := 4) F.1 F.2.1 dX3_empties_3 (by decide) ?_
    refine lv_icmp_ge (tgt := 24) F.1 F.2.1 dX3_empties_4 (by decide) (fun hc => ?_) (fun hc => ?_)
    · have hE := ifp hE hc
      obtain rfl := Option.some.inj hE
      exact ret_v F hr hlk hP hS dX3_empties_24
    · have hE := ifn hE hc
      refine lv_aload_n F.1 F.2.1 dX3_empties_7 rfl (lv_at hl 0 rfl) ?_
      refine gX3_28 F C hP hj (updH_at _ _ _) dX3_empties_8 ?_
      refine lv_iload_n F.1 F.2.1 dX3_empties_11 rfl (lv_at hl 1 rfl) ?_
      refine lv_iconst (v := 4) F.1 F.2.1 dX3_empties_12 (by decide) ?_
      refine lv_imul F.1 F.2.1 dX3_empties_13 ?_
      refine lv_iload_n F.1 F.2.1 dX3_empties_14 rfl (lv_at hl 2 rfl) ?_
      refine lv_iadd F.1 F.2.1 dX3_empties_15 ?_
      refine lv_iconst (v := (-1)) F.1 F.2.1 dX3_empties_16 (by decide) ?_
      obtain ⟨hi, hE⟩ := grd_some hE
      obtain ⟨X_100, eX_100, hE⟩ := lt_some hE
      refine sh5 F C hP hj (updH_at _ _ _) hi hS (updH_let eX_100) dX3_empties_17 (fun H locs hP hS => ?_)
      refine lv_iinc (v := x2 + 1) (lv' := [(2, .int (x2 + 1)), (0, .ref (hA Z j 0)), (1, .int p1)]) F.1 F.2.1 dX3_empties_18 hl (k := 2) rfl rfl (by decide) rfl (fun ls hl => ?_)
      refine lv_goto (tgt := 2) F.1 F.2.1 dX3_empties_21 (by decide) ?_
      exact h2 X_100 (x2 + 1) hE _ _ hP hS ls (lv_sub hl [1, 2, 0] rfl)
set_option maxRecDepth 100000 in
set_option maxHeartbeats 4000000 in
theorem kX3_empties {l : Launch} {Z : ZC} {HS : Nat → Nat → Nat → Int32} {j : Nat} {X : Nat → Nat → Int32} {zkb : Int32} {zdr : Int32} {zky : Nat → Int32} {zpn : Int32} {zps : Int32} {ztz : Int32} {ztn : Nat → Int64} {zxz : Int32} {zxa : Int32} {zsg : Nat → Int32} {za0 : Int32} {za1 : Int32} {za2 : Int32} {za3 : Int32} {za4 : Int32} {zfr : Nat → Int32} {zcd : Int32} {zgo : Nat → Int32} {ztd : Int32} {ztv : Int32} {zcl : Nat → Int32} {zca : Nat → Int32} {zwa : Nat → Int32} {zpt : Nat → Int32} {zpf : Nat → Int32} {N : Nat} {p1 : Int32} {X' : Nat → Nat → Int32} (hj : j < 13) (hX : HS j = X) {HS1 : Nat → Nat → Nat → Int32} (h1 : updH HS j X' = HS1) (hE : fX3_empties N X p1 = some X') : Mg l yX3_empties cX3_empties 3 none (rmk 0 0) (KX Z) (AX Z) [.ref (hA Z j 0), .int p1] (PX Z HS zkb zdr zky zpn zps ztz ztn zxz zxa zsg za0 za1 za2 za3 za4 zfr zcd zgo ztd ztv zcl zca zwa zpt zpf) (Qv (KX Z) (AX Z) (PX Z HS1 zkb zdr zky zpn zps ztz ztn zxz zxa zsg za0 za1 za2 za3 za4 zfr zcd zgo ztd ztv zcl zca zwa zpt zpf)) := by
  subst h1
  rw [← updH_eq hX, updH_upd]
  refine Mg.start (lv := [(0, .ref (hA Z j 0)), (1, .int p1)]) (by decide) rfl (Nat.le_of_ble_eq_true rfl) rfl ?_
  intro p e s m below meth c F hr hlk C hP ls hl
  have hS : va_S (AX Z) s.heap s.heap [] := va_S.rf
  unfold fX3_empties at hE
  refine lv_iconst (v := 0) F.1 F.2.1 dX3_empties_0 (by decide) ?_
  refine lv_istore_n (lv' := [(2, .int 0), (0, .ref (hA Z j 0)), (1, .int p1)]) F.1 F.2.1 dX3_empties_1 rfl hl (by decide) rfl (fun ls hl => ?_)
  exact qX3_empties_2 F hr hlk C hj N X 0 hE _ _ hP hS ls (lv_sub hl [1, 2, 0] rfl)
set_option maxRecDepth 100000 in
set_option maxHeartbeats 4000000 in
theorem kX4_adds {l : Launch} {Z : ZC} {HS : Nat → Nat → Nat → Int32} {j : Nat} {X : Nat → Nat → Int32} {zkb : Int32} {zdr : Int32} {zky : Nat → Int32} {zpn : Int32} {zps : Int32} {ztz : Int32} {ztn : Nat → Int64} {zxz : Int32} {zxa : Int32} {zsg : Nat → Int32} {za0 : Int32} {za1 : Int32} {za2 : Int32} {za3 : Int32} {za4 : Int32} {zfr : Nat → Int32} {zcd : Int32} {zgo : Nat → Int32} {ztd : Int32} {ztv : Int32} {zcl : Nat → Int32} {zca : Nat → Int32} {zwa : Nat → Int32} {zpt : Nat → Int32} {zpf : Nat → Int32} {p1 : Int32} {p2 : Int32} {X' : Nat → Nat → Int32} (hj : j < 13) (hX : HS j = X) {HS1 : Nat → Nat → Nat → Int32} (h1 : updH HS j X' = HS1) (hE : fX4_adds X p1 p2 = some X') : Mg l yX4_adds cX4_adds 4 none (rmk 0 0) (KX Z) (AX Z) [.ref (hA Z j 10), .int p1, .int p2] (PX Z HS zkb zdr zky zpn zps ztz ztn zxz zxa zsg za0 za1 za2 za3 za4 zfr zcd zgo ztd ztv zcl zca zwa zpt zpf) (Qv (KX Z) (AX Z) (PX Z HS1 zkb zdr zky zpn zps ztz ztn zxz zxa zsg za0 za1 za2 za3 za4 zfr zcd zgo ztd ztv zcl zca zwa zpt zpf)) := by
  subst h1
  rw [← updH_eq hX, updH_upd]
  refine Mg.start (lv := [(0, .ref (hA Z j 10)), (1, .int p1), (2, .int p2)]) (by decide) rfl (Nat.le_of_ble_eq_true rfl) rfl ?_
  intro p e s m below meth c F hr hlk C hP ls hl
  have hS : va_S (AX Z) s.heap s.heap [] := va_S.rf
  unfold fX4_adds at hE
  refine lv_aload_n F.1 F.2.1 dX4_adds_0 rfl (lv_at hl 0 rfl) ?_
  refine gX4_27 F C hP hj (updH_at _ _ _) dX4_adds_1 ?_
  refine lv_bipush (v := 60) F.1 F.2.1 dX4_adds_4 (by decide) ?_
  obtain ⟨hi, hE⟩ := grd_some hE
  refine rj_irem F.1 F.2.1 dX4_adds_6 (nzb_ne hi) ?_
  refine lv_istore_n (lv' := [(3, .int (jrem (X 10 3) 60)), (0, .ref (hA Z j 10)), (1, .int p1), (2, .int p2)]) F.1 F.2.1 dX4_adds_7 rfl hl (by decide) rfl (fun ls hl => ?_)
  refine lv_aload_n F.1 F.2.1 dX4_adds_8 rfl (lv_at hl 1 rfl) ?_
  refine gX4_9 F C hP hj (updH_at _ _ _) dX4_adds_9 ?_
  refine lv_iload_n F.1 F.2.1 dX4_adds_12 rfl (lv_at hl 0 rfl) ?_
  refine lv_iload_n F.1 F.2.1 dX4_adds_13 rfl (lv_at hl 2 rfl) ?_
  obtain ⟨hi, hE⟩ := grd_some hE
  obtain ⟨X_105, eX_105, hE⟩ := lt_some hE
  refine sh11 F C hP hj (updH_at _ _ _) hi hS (updH_let eX_105) dX4_adds_14 (fun H locs hP hS => ?_)
  refine lv_aload_n F.1 F.2.1 dX4_adds_15 rfl (lv_at hl 1 rfl) ?_
  refine gX4_15 F C hP hj (updH_at _ _ _) dX4_adds_16 ?_
  refine lv_iload_n F.1 F.2.1 dX4_adds_19 rfl (lv_at hl 0 rfl) ?_
  refine lv_iload_n F.1 F.2.1 dX4_adds_20 rfl (lv_at hl 3 rfl) ?_
  obtain ⟨hi, hE⟩ := grd_some hE
  obtain ⟨X_106, eX_106, hE⟩ := lt_some hE
  refine sh12 F C hP hj (updH_at _ _ _) hi hS (updH_let eX_106) dX4_adds_21 (fun H locs hP hS => ?_)
  refine lv_aload_n F.1 F.2.1 dX4_adds_22 rfl (lv_at hl 1 rfl) ?_
  refine gX4_18 F C hP hj (updH_at _ _ _) dX4_adds_23 ?_
  refine lv_iload_n F.1 F.2.1 dX4_adds_26 rfl (lv_at hl 2 rfl) ?_
  refine lv_dup2_11 F.1 F.2.1 dX4_adds_27 rfl rfl ?_
  obtain ⟨hi, hE⟩ := grd_some hE
  refine ah13 F C hP hj (updH_at _ _ _) hi dX4_adds_28 ?_
  refine lv_iconst (v := 1) F.1 F.2.1 dX4_adds_29 (by decide) ?_
  refine lv_iadd F.1 F.2.1 dX4_adds_30 ?_
  obtain ⟨hi, hE⟩ := grd_some hE
  obtain ⟨X_107, eX_107, hE⟩ := lt_some hE
  refine sh13 F C hP hj (updH_at _ _ _) hi hS (updH_let eX_107) dX4_adds_31 (fun H locs hP hS => ?_)
  refine lv_aload_n F.1 F.2.1 dX4_adds_32 rfl (lv_at hl 1 rfl) ?_
  refine lv_dup F.1 F.2.1 dX4_adds_33 rfl ?_
  refine gX4_27 F C hP hj (updH_at _ _ _) dX4_adds_34 ?_
  refine lv_iconst (v := 1) F.1 F.2.1 dX4_adds_37 (by decide) ?_
  refine lv_iadd F.1 F.2.1 dX4_adds_38 ?_
  obtain ⟨X_108, eX_108, hE⟩ := lt_some hE
  refine pX4_27 F C hP hj (updH_at _ _ _) hS (updH_let eX_108) dX4_adds_39 (fun H locs hP hS => ?_)
  obtain rfl := Option.some.inj hE
  exact ret_v F hr hlk hP hS dX4_adds_42
set_option maxRecDepth 100000 in
set_option maxHeartbeats 4000000 in
theorem kX3_adds {l : Launch} {Z : ZC} {HS : Nat → Nat → Nat → Int32} {j : Nat} {X : Nat → Nat → Int32} {zkb : Int32} {zdr : Int32} {zky : Nat → Int32} {zpn : Int32} {zps : Int32} {ztz : Int32} {ztn : Nat → Int64} {zxz : Int32} {zxa : Int32} {zsg : Nat → Int32} {za0 : Int32} {za1 : Int32} {za2 : Int32} {za3 : Int32} {za4 : Int32} {zfr : Nat → Int32} {zcd : Int32} {zgo : Nat → Int32} {ztd : Int32} {ztv : Int32} {zcl : Nat → Int32} {zca : Nat → Int32} {zwa : Nat → Int32} {zpt : Nat → Int32} {zpf : Nat → Int32} {N : Nat} {p1 : Int32} {p2 : Int32} {p3 : Int32} {p4 : Int32} {X' : Nat → Nat → Int32} (hj : j < 13) (hX : HS j = X) {HS1 : Nat → Nat → Nat → Int32} (h1 : updH HS j X' = HS1) (hE : fX3_adds N X p1 p2 p3 p4 = some X') : Mg l yX3_adds cX3_adds 5 none (rmk 1 23) (KX Z) (AX Z) [.ref (hA Z j 0), .int p1, .int p2, .int p3, .int p4] (PX Z HS zkb zdr zky zpn zps ztz ztn zxz zxa zsg za0 za1 za2 za3 za4 zfr zcd zgo ztd ztv zcl zca zwa zpt zpf) (Qv (KX Z) (AX Z) (PX Z HS1 zkb zdr zky zpn zps ztz ztn zxz zxa zsg za0 za1 za2 za3 za4 zfr zcd zgo ztd ztv zcl zca zwa zpt zpf)) := by
  subst h1
  rw [← updH_eq hX, updH_upd]
  refine Mg.start (lv := [(0, .ref (hA Z j 0)), (1, .int p1), (2, .int p2), (3, .int p3), (4, .int p4)]) (by decide) rfl (Nat.le_of_ble_eq_true rfl) rfl ?_
  intro p e s m below meth c F hr hlk C hP ls hl
  have hS : va_S (AX Z) s.heap s.heap [] := va_S.rf
  unfold fX3_adds at hE
  refine lv_aload_n F.1 F.2.1 dX3_adds_0 rfl (lv_at hl 0 rfl) ?_
  refine lv_dup F.1 F.2.1 dX3_adds_1 rfl ?_
  refine gX3_57 F C hP hj (updH_at _ _ _) dX3_adds_2 ?_
  refine lv_iconst (v := 1) F.1 F.2.1 dX3_adds_5 (by decide) ?_
  refine lv_iload_n F.1 F.2.1 dX3_adds_6 rfl (lv_at hl 1 rfl) ?_
  refine rj_ishl F.1 F.2.1 dX3_adds_7 ?_
  refine lv_ior F.1 F.2.1 dX3_adds_8 ?_
  obtain ⟨X_117, eX_117, hE⟩ := lt_some hE
  refine pX3_57 F C hP hj (updH_at _ _ _) hS (updH_let eX_117) dX3_adds_9 (fun H locs hP hS => ?_)
  refine lv_aload_n F.1 F.2.1 dX3_adds_12 rfl (lv_at hl 0 rfl) ?_
  refine lv_dup F.1 F.2.1 dX3_adds_13 rfl ?_
  refine gX3_60 F C hP hj (updH_at _ _ _) dX3_adds_14 ?_
  refine lv_iconst (v := 1) F.1 F.2.1 dX3_adds_17 (by decide) ?_
  refine lv_iload_n F.1 F.2.1 dX3_adds_18 rfl (lv_at hl 1 rfl) ?_
  refine rj_ishl F.1 F.2.1 dX3_adds_19 ?_
  refine lv_iconst (v := (-1)) F.1 F.2.1 dX3_adds_20 (by decide) ?_
  refine lv_ixor F.1 F.2.1 dX3_adds_21 ?_
  refine lv_iand F.1 F.2.1 dX3_adds_22 ?_
  obtain ⟨X_118, eX_118, hE⟩ := lt_some hE
  refine pX3_60 F C hP hj (updH_at _ _ _) hS (updH_let eX_118) dX3_adds_23 (fun H locs hP hS => ?_)
  refine lv_aload_n F.1 F.2.1 dX3_adds_26 rfl (lv_at hl 0 rfl) ?_
  refine gX3_15 F C hP hj (updH_at _ _ _) dX3_adds_27 ?_
  refine lv_iload_n F.1 F.2.1 dX3_adds_30 rfl (lv_at hl 1 rfl) ?_
  refine lv_iload_n F.1 F.2.1 dX3_adds_31 rfl (lv_at hl 2 rfl) ?_
  obtain ⟨hi, hE⟩ := grd_some hE
  obtain ⟨X_119, eX_119, hE⟩ := lt_some hE
  refine sh1 F C hP hj (updH_at _ _ _) hi hS (updH_let eX_119) dX3_adds_32 (fun H locs hP hS => ?_)
  refine lv_aload_n F.1 F.2.1 dX3_adds_33 rfl (lv_at hl 0 rfl) ?_
  refine gX3_19 F C hP hj (updH_at _ _ _) dX3_adds_34 ?_
  refine lv_iload_n F.1 F.2.1 dX3_adds_37 rfl (lv_at hl 1 rfl) ?_
  refine lv_iload_n F.1 F.2.1 dX3_adds_38 rfl (lv_at hl 3 rfl) ?_
  obtain ⟨hi, hE⟩ := grd_some hE
  obtain ⟨X_120, eX_120, hE⟩ := lt_some hE
  refine sh2 F C hP hj (updH_at _ _ _) hi hS (updH_let eX_120) dX3_adds_39 (fun H locs hP hS => ?_)
  refine lv_aload_n F.1 F.2.1 dX3_adds_40 rfl (lv_at hl 0 rfl) ?_
  refine gX3_22 F C hP hj (updH_at _ _ _) dX3_adds_41 ?_
  refine lv_iload_n F.1 F.2.1 dX3_adds_44 rfl (lv_at hl 1 rfl) ?_
  refine lv_iload F.1 F.2.1 dX3_adds_45 (lv_at hl 4 rfl) ?_
  obtain ⟨hi, hE⟩ := grd_some hE
  obtain ⟨X_121, eX_121, hE⟩ := lt_some hE
  refine sh3 F C hP hj (updH_at _ _ _) hi hS (updH_let eX_121) dX3_adds_47 (fun H locs hP hS => ?_)
  refine lv_aload_n F.1 F.2.1 dX3_adds_48 rfl (lv_at hl 0 rfl) ?_
  refine gX3_25 F C hP hj (updH_at _ _ _) dX3_adds_49 ?_
  refine lv_iload_n F.1 F.2.1 dX3_adds_52 rfl (lv_at hl 1 rfl) ?_
  refine lv_iconst (v := 0) F.1 F.2.1 dX3_adds_53 (by decide) ?_
  obtain ⟨hi, hE⟩ := grd_some hE
  obtain ⟨X_122, eX_122, hE⟩ := lt_some hE
  refine sh4 F C hP hj (updH_at _ _ _) hi hS (updH_let eX_122) dX3_adds_54 (fun H locs hP hS => ?_)
  refine lv_aload_n F.1 F.2.1 dX3_adds_55 rfl (lv_at hl 0 rfl) ?_
  refine lv_iload_n F.1 F.2.1 dX3_adds_56 rfl (lv_at hl 1 rfl) ?_
  obtain ⟨X_123, hc, hE⟩ := bnd1_some hE
  refine aft_v (run_V (rest := []) F (kX3_empties hj (updH_at _ _ _) (updH_upd _ _ _ _) hc) (okX Z) C hS lkX3_93 ⟨Nat.le_of_ble_eq_true rfl, Nat.le_of_ble_eq_true rfl⟩ (rvh0 C hP hj) hP rfl hl.1 rfl (lv_room (Nat.le_of_ble_eq_true rfl)) dX3_adds_57 ⟨Nat.zero_le _, Nat.zero_le _⟩) hS (fun H locs hP hS => ?_)
  refine lv_aload_n F.1 F.2.1 dX3_adds_60 rfl (lv_at hl 0 rfl) ?_
  refine gX3_47 F C hP hj (updH_at _ _ _) dX3_adds_61 ?_
  refine lv_iconst (v := 0) F.1 F.2.1 dX3_adds_64 (by decide) ?_
  refine lv_iload_n F.1 F.2.1 dX3_adds_65 rfl (lv_at hl 1 rfl) ?_
  obtain ⟨X_124, hc, hE⟩ := bnd1_some hE
  refine aft_v (run_N (rest := []) F (kX4_adds hj (updH_at _ _ _) (updH_upd _ _ _ _) hc) (okX Z) C hS (C.2.2 _ _ mlX3_97 rfl) lkX3_97 ⟨Nat.le_of_ble_eq_true rfl, Nat.le_of_ble_eq_true rfl⟩ (rvh10 C hP hj) hP rfl hl.1 rfl (lv_room (Nat.le_of_ble_eq_true rfl)) dX3_adds_66 ⟨Nat.zero_le _, Nat.zero_le _⟩) hS (fun H locs hP hS => ?_)
  obtain rfl := Option.some.inj hE
  exact ret_v F hr hlk hP hS dX3_adds_69
set_option maxRecDepth 100000 in
set_option maxHeartbeats 4000000 in
theorem kX6_trusts {l : Launch} {Z : ZC} {HS : Nat → Nat → Nat → Int32} {j : Nat} {X : Nat → Nat → Int32} {zkb : Int32} {zdr : Int32} {zky : Nat → Int32} {zpn : Int32} {zps : Int32} {ztz : Int32} {ztn : Nat → Int64} {zxz : Int32} {zxa : Int32} {zsg : Nat → Int32} {za0 : Int32} {za1 : Int32} {za2 : Int32} {za3 : Int32} {za4 : Int32} {zfr : Nat → Int32} {zcd : Int32} {zgo : Nat → Int32} {ztd : Int32} {ztv : Int32} {zcl : Nat → Int32} {zca : Nat → Int32} {zwa : Nat → Int32} {zpt : Nat → Int32} {zpf : Nat → Int32} {p1 : Int32} {X' : Nat → Nat → Int32} (hj : j < 13) (hX : HS j = X) {HS1 : Nat → Nat → Nat → Int32} (h1 : updH HS j X' = HS1) (hE : fX6_trusts X p1 = some X') : Mg l yX6_trusts cX6_trusts 2 none (rmk 0 0) (KX Z) (AX Z) [.ref (hA Z j 8), .int p1] (PX Z HS zkb zdr zky zpn zps ztz ztn zxz zxa zsg za0 za1 za2 za3 za4 zfr zcd zgo ztd ztv zcl zca zwa zpt zpf) (Qv (KX Z) (AX Z) (PX Z HS1 zkb zdr zky zpn zps ztz ztn zxz zxa zsg za0 za1 za2 za3 za4 zfr zcd zgo ztd ztv zcl zca zwa zpt zpf)) := by
  subst h1
  rw [← updH_eq hX, updH_upd]
  refine Mg.start (lv := [(0, .ref (hA Z j 8)), (1, .int p1)]) (by decide) rfl (Nat.le_of_ble_eq_true rfl) rfl ?_
  intro p e s m below meth c F hr hlk C hP ls hl
  have hS : va_S (AX Z) s.heap s.heap [] := va_S.rf
  unfold fX6_trusts at hE
  refine lv_aload_n F.1 F.2.1 dX6_trusts_0 rfl (lv_at hl 0 rfl) ?_
  refine lv_dup F.1 F.2.1 dX6_trusts_1 rfl ?_
  refine gX6_28 F C hP hj (updH_at _ _ _) dX6_trusts_2 ?_
  refine lv_iconst (v := 1) F.1 F.2.1 dX6_trusts_5 (by decide) ?_
  refine lv_iload_n F.1 F.2.1 dX6_trusts_6 rfl (lv_at hl 1 rfl) ?_
  refine rj_ishl F.1 F.2.1 dX6_trusts_7 ?_
  refine lv_iconst (v := (-1)) F.1 F.2.1 dX6_trusts_8 (by decide) ?_
  refine lv_ixor F.1 F.2.1 dX6_trusts_9 ?_
  refine lv_iand F.1 F.2.1 dX6_trusts_10 ?_
  obtain ⟨X_126, eX_126, hE⟩ := lt_some hE
  refine pX6_28 F C hP hj (updH_at _ _ _) hS (updH_let eX_126) dX6_trusts_11 (fun H locs hP hS => ?_)
  obtain rfl := Option.some.inj hE
  exact ret_v F hr hlk hP hS dX6_trusts_14
set_option maxRecDepth 100000 in
set_option maxHeartbeats 4000000 in
theorem kX6_means {l : Launch} {Z : ZC} {HS : Nat → Nat → Nat → Int32} {j : Nat} {X : Nat → Nat → Int32} {zkb : Int32} {zdr : Int32} {zky : Nat → Int32} {zpn : Int32} {zps : Int32} {ztz : Int32} {ztn : Nat → Int64} {zxz : Int32} {zxa : Int32} {zsg : Nat → Int32} {za0 : Int32} {za1 : Int32} {za2 : Int32} {za3 : Int32} {za4 : Int32} {zfr : Nat → Int32} {zcd : Int32} {zgo : Nat → Int32} {ztd : Int32} {ztv : Int32} {zcl : Nat → Int32} {zca : Nat → Int32} {zwa : Nat → Int32} {zpt : Nat → Int32} {zpf : Nat → Int32} {p1 : Int32} {X' : Nat → Nat → Int32} (hj : j < 13) (hX : HS j = X) {HS1 : Nat → Nat → Nat → Int32} (h1 : updH HS j X' = HS1) (hE : fX6_means X p1 = some X') : Mg l yX6_means cX6_means 2 none (rmk 1 21) (KX Z) (AX Z) [.ref (hA Z j 8), .int p1] (PX Z HS zkb zdr zky zpn zps ztz ztn zxz zxa zsg za0 za1 za2 za3 za4 zfr zcd zgo ztd ztv zcl zca zwa zpt zpf) (Qv (KX Z) (AX Z) (PX Z HS1 zkb zdr zky zpn zps ztz ztn zxz zxa zsg za0 za1 za2 za3 za4 zfr zcd zgo ztd ztv zcl zca zwa zpt zpf)) := by
  subst h1
  rw [← updH_eq hX, updH_upd]
  refine Mg.start (lv := [(0, .ref (hA Z j 8)), (1, .int p1)]) (by decide) rfl (Nat.le_of_ble_eq_true rfl) rfl ?_
  intro p e s m below meth c F hr hlk C hP ls hl
  have hS : va_S (AX Z) s.heap s.heap [] := va_S.rf
  unfold fX6_means at hE
  refine lv_aload_n F.1 F.2.1 dX6_means_0 rfl (lv_at hl 0 rfl) ?_
  refine lv_dup F.1 F.2.1 dX6_means_1 rfl ?_
  refine gX6_28 F C hP hj (updH_at _ _ _) dX6_means_2 ?_
  refine lv_iconst (v := 1) F.1 F.2.1 dX6_means_5 (by decide) ?_
  refine lv_iload_n F.1 F.2.1 dX6_means_6 rfl (lv_at hl 1 rfl) ?_
  refine rj_ishl F.1 F.2.1 dX6_means_7 ?_
  refine lv_ior F.1 F.2.1 dX6_means_8 ?_
  obtain ⟨X_132, eX_132, hE⟩ := lt_some hE
  refine pX6_28 F C hP hj (updH_at _ _ _) hS (updH_let eX_132) dX6_means_9 (fun H locs hP hS => ?_)
  refine lv_aload_n F.1 F.2.1 dX6_means_12 rfl (lv_at hl 0 rfl) ?_
  refine gX6_25 F C hP hj (updH_at _ _ _) dX6_means_13 ?_
  refine lv_iload_n F.1 F.2.1 dX6_means_16 rfl (lv_at hl 1 rfl) ?_
  obtain ⟨r133, hc, hE⟩ := bnd1_some hE
  refine aft_i (run_SN (rest := []) F (kX11_bit hc) (okX Z) C hS (C.2.2 _ _ mlX6_31 rfl) lkX6_31 ⟨Nat.le_of_ble_eq_true rfl, Nat.le_of_ble_eq_true rfl⟩ hP rfl hl.1 rfl (lv_room (Nat.le_of_ble_eq_true rfl)) dX6_means_17 ⟨Nat.zero_le _, Nat.zero_le _⟩) hS (fun H locs hP hS => ?_)
  refine lv_if_ne (tgt := 64) F.1 F.2.1 dX6_means_20 (by decide) (fun hc => ?_) (fun hc => ?_)
  · have hE := ifn hE hc
    obtain rfl := Option.some.inj hE
    exact ret_v F hr hlk hP hS dX6_means_64
  · have hE := ifp hE hc
    refine lv_aload_n F.1 F.2.1 dX6_means_23 rfl (lv_at hl 0 rfl) ?_
    refine gX6_21 F C hP hj (updH_at _ _ _) dX6_means_24 ?_
    refine lv_bipush (v := 24) F.1 F.2.1 dX6_means_27 (by decide) ?_
    refine lv_icmp_ge (tgt := 64) F.1 F.2.1 dX6_means_29 (by decide) (fun hc => ?_) (fun hc => ?_)
    · have hE := ifp hE hc
      obtain rfl := Option.some.inj hE
      exact ret_v F hr hlk hP hS dX6_means_64
    · have hE := ifn hE hc
      refine lv_aload_n F.1 F.2.1 dX6_means_32 rfl (lv_at hl 0 rfl) ?_
      refine gX6_9 F C hP hj (updH_at _ _ _) dX6_means_33 ?_
      refine lv_aload_n F.1 F.2.1 dX6_means_36 rfl (lv_at hl 0 rfl) ?_
      refine gX6_21 F C hP hj (updH_at _ _ _) dX6_means_37 ?_
      refine lv_iload_n F.1 F.2.1 dX6_means_40 rfl (lv_at hl 1 rfl) ?_
      obtain ⟨hi, hE⟩ := grd_some hE
      obtain ⟨X_134, eX_134, hE⟩ := lt_some hE
      refine sh9 F C hP hj (updH_at _ _ _) hi hS (updH_let eX_134) dX6_means_41 (fun H locs hP hS => ?_)
      refine lv_aload_n F.1 F.2.1 dX6_means_42 rfl (lv_at hl 0 rfl) ?_
      refine lv_dup F.1 F.2.1 dX6_means_43 rfl ?_
      refine gX6_21 F C hP hj (updH_at _ _ _) dX6_means_44 ?_
      refine lv_iconst (v := 1) F.1 F.2.1 dX6_means_47 (by decide) ?_
      refine lv_iadd F.1 F.2.1 dX6_means_48 ?_
      obtain ⟨X_135, eX_135, hE⟩ := lt_some hE
      refine pX6_21 F C hP hj (updH_at _ _ _) hS (updH_let eX_135) dX6_means_49 (fun H locs hP hS => ?_)
      refine lv_aload_n F.1 F.2.1 dX6_means_52 rfl (lv_at hl 0 rfl) ?_
      refine lv_dup F.1 F.2.1 dX6_means_53 rfl ?_
      refine gX6_25 F C hP hj (updH_at _ _ _) dX6_means_54 ?_
      refine lv_iconst (v := 1) F.1 F.2.1 dX6_means_57 (by decide) ?_
      refine lv_iload_n F.1 F.2.1 dX6_means_58 rfl (lv_at hl 1 rfl) ?_
      refine rj_ishl F.1 F.2.1 dX6_means_59 ?_
      refine lv_ior F.1 F.2.1 dX6_means_60 ?_
      obtain ⟨X_136, eX_136, hE⟩ := lt_some hE
      refine pX6_25 F C hP hj (updH_at _ _ _) hS (updH_let eX_136) dX6_means_61 (fun H locs hP hS => ?_)
      obtain rfl := Option.some.inj hE
      exact ret_v F hr hlk hP hS dX6_means_64
set_option maxRecDepth 100000 in
set_option maxHeartbeats 4000000 in
theorem qX6_drops_43 {p : Program} {l : Launch} {e : Env} {s : State} {m : MethodId} {args : Array Value} {below : List Frame} {meth : Method} {c : Code} {Z : ZC} {HS : Nat → Nat → Nat → Int32} {j : Nat} {zkb : Int32} {zdr : Int32} {zky : Nat → Int32} {zpn : Int32} {zps : Int32} {ztz : Int32} {ztn : Nat → Int64} {zxz : Int32} {zxa : Int32} {zsg : Nat → Int32} {za0 : Int32} {za1 : Int32} {za2 : Int32} {za3 : Int32} {za4 : Int32} {zfr : Nat → Int32} {zcd : Int32} {zgo : Nat → Int32} {ztd : Int32} {ztv : Int32} {zcl : Nat → Int32} {zca : Nat → Int32} {zwa : Nat → Int32} {zpt : Nat → Int32} {zpf : Nat → Int32} {N : Nat} {p1 : Int32} {X' : Nat → Nat → Int32} (F : CallFix p m c cX6_drops 4 s args bigW RX6) (hr : meth.sig.returnType = none) (hlk : meth.locks = false) (C : KX Z s) (hj : j < 13) : ∀ (X : Nat → Nat → Int32) (x2 : Int32), fX6_drops_43 N p1 X x2 = some X' → ∀ (H : Heap) (locs : List Loc), PX Z (updH HS j X) zkb zdr zky zpn zps ztz ztn zxz zxa zsg za0 za1 za2 za3 za4 zfr zcd zgo ztd ztv zcl zca zwa zpt zpf H → va_S (AX Z) s.heap H locs → ∀ ls : Array Slot, lv_has ls 4 [(0, .ref (hA Z j 8)), (1, .int p1), (2, .int x2)] → W p l e (rmk 0 0) s m args below meth c H locs 0 0 (MQ below (Qv (KX Z) (AX Z) (PX Z (updH HS j X') zkb zdr zky zpn zps ztz ztn zxz zxa zsg za0 za1 za2 za3 za4 zfr zcd zgo ztd ztv zcl zca zwa zpt zpf)) args s 0 0 (AX Z)) (F0 m 43 ls []) := by
  intro X x2 hE H locs hP hS ls hl
  unfold fX6_drops_43 at hE
  refine lv_aload_n F.1 F.2.1 dX6_drops_43 rfl (lv_at hl 0 rfl) ?_
  refine lv_iload_n F.1 F.2.1 dX6_drops_44 rfl (lv_at hl 2 rfl) ?_
  obtain ⟨X_142, eX_142, hE⟩ := lt_some hE
  refine pX6_21 F C hP hj (updH_at _ _ _) hS (updH_let eX_142) dX6_drops_45 (fun H locs hP hS => ?_)
  refine lv_aload_n F.1 F.2.1 dX6_drops_48 rfl (lv_at hl 0 rfl) ?_
  refine lv_dup F.1 F.2.1 dX6_drops_49 rfl ?_
  refine gX6_25 F C hP hj (updH_at _ _ _) dX6_drops_50 ?_
  refine lv_iconst (v := 1) F.1 F.2.1 dX6_drops_53 (by decide) ?_
  refine lv_iload_n F.1 F.2.1 dX6_drops_54 rfl (lv_at hl 1 rfl) ?_
  refine rj_ishl F.1 F.2.1 dX6_drops_55 ?_
  refine lv_iconst (v := (-1)) F.1 F.2.1 dX6_drops_56 (by decide) ?_
  refine lv_ixor F.1 F.2.1 dX6_drops_57 ?_
  refine lv_iand F.1 F.2.1 dX6_drops_58 ?_
  obtain ⟨X_143, eX_143, hE⟩ := lt_some hE
  refine pX6_25 F C hP hj (updH_at _ _ _) hS (updH_let eX_143) dX6_drops_59 (fun H locs hP hS => ?_)
  refine lv_aload_n F.1 F.2.1 dX6_drops_62 rfl (lv_at hl 0 rfl) ?_
  refine lv_dup F.1 F.2.1 dX6_drops_63 rfl ?_
  refine gX6_28 F C hP hj (updH_at _ _ _) dX6_drops_64 ?_
  refine lv_iconst (v := 1) F.1 F.2.1 dX6_drops_67 (by decide) ?_
  refine lv_iload_n F.1 F.2.1 dX6_drops_68 rfl (lv_at hl 1 rfl) ?_
  refine rj_ishl F.1 F.2.1 dX6_drops_69 ?_
  refine lv_iconst (v := (-1)) F.1 F.2.1 dX6_drops_70 (by decide) ?_
  refine lv_ixor F.1 F.2.1 dX6_drops_71 ?_
  refine lv_iand F.1 F.2.1 dX6_drops_72 ?_
  obtain ⟨X_144, eX_144, hE⟩ := lt_some hE
  refine pX6_28 F C hP hj (updH_at _ _ _) hS (updH_let eX_144) dX6_drops_73 (fun H locs hP hS => ?_)
  obtain rfl := Option.some.inj hE
  exact ret_v F hr hlk hP hS dX6_drops_76
set_option maxRecDepth 100000 in
set_option maxHeartbeats 4000000 in
theorem qX6_drops_4 {p : Program} {l : Launch} {e : Env} {s : State} {m : MethodId} {args : Array Value} {below : List Frame} {meth : Method} {c : Code} {Z : ZC} {HS : Nat → Nat → Nat → Int32} {j : Nat} {zkb : Int32} {zdr : Int32} {zky : Nat → Int32} {zpn : Int32} {zps : Int32} {ztz : Int32} {ztn : Nat → Int64} {zxz : Int32} {zxa : Int32} {zsg : Nat → Int32} {za0 : Int32} {za1 : Int32} {za2 : Int32} {za3 : Int32} {za4 : Int32} {zfr : Nat → Int32} {zcd : Int32} {zgo : Nat → Int32} {ztd : Int32} {ztv : Int32} {zcl : Nat → Int32} {zca : Nat → Int32} {zwa : Nat → Int32} {zpt : Nat → Int32} {zpf : Nat → Int32} {N : Nat} {p1 : Int32} {X' : Nat → Nat → Int32} (F : CallFix p m c cX6_drops 4 s args bigW RX6) (hr : meth.sig.returnType = none) (hlk : meth.locks = false) (C : KX Z s) (hj : j < 13) : ∀ n : Nat, ∀ (X : Nat → Nat → Int32) (x2 : Int32) (x3 : Int32), fX6_drops_4 N p1 n X x2 x3 = some X' → ∀ (H : Heap) (locs : List Loc), PX Z (updH HS j X) zkb zdr zky zpn zps ztz ztn zxz zxa zsg za0 za1 za2 za3 za4 zfr zcd zgo ztd ztv zcl zca zwa zpt zpf H → va_S (AX Z) s.heap H locs → ∀ ls : Array Slot, lv_has ls 4 [(0, .ref (hA Z j 8)), (1, .int p1), (2, .int x2), (3, .int x3)] → W p l e (rmk 0 0) s m args below meth c H locs 0 0 (MQ below (Qv (KX Z) (AX Z) (PX Z (updH HS j X') zkb zdr zky zpn zps ztz ztn zxz zxa zsg za0 za1 za2 za3 za4 zfr zcd zgo ztd ztv zcl zca zwa zpt zpf)) args s 0 0 (AX Z)) (F0 m 4 ls []) := by
  intro n
  induction n with
  | zero => intro X x2 x3 hE; cases hE
  | succ n h4 =>
    intro X x2 x3 hE H locs hP hS ls hl
    have hE : fX6_drops_4b N p1 (fX6_drops_4 N p1 n) X x2 x3 = some X' := hE
    refine lv_iload_n F.1 F.2.1 dX6_drops_4 rfl (lv_at hl 3 rfl) ?_
    refine lv_aload_n F.1 F.2.1 dX6_drops_5 rfl (lv_at hl 0 rfl) ?_
    refine gX6_21 F C hP hj (updH_at _ _ _) dX6_drops_6 ?_
    refine lv_icmp_ge (tgt := 43) F.1 F.2.1 dX6_drops_9 (by decide) (fun hc => ?_) (fun hc => ?_)
    · have hE := ifp hE hc
      exact qX6_drops_43 F hr hlk C hj X x2 hE _ _ hP hS ls (lv_sub hl [0, 1, 2] rfl)
    · have hE := ifn hE hc
      refine lv_aload_n F.1 F.2.1 dX6_drops_12 rfl (lv_at hl 0 rfl) ?_
      refine gX6_9 F C hP hj (updH_at _ _ _) dX6_drops_13 ?_
      refine lv_iload_n F.1 F.2.1 dX6_drops_16 rfl (lv_at hl 3 rfl) ?_
      obtain ⟨hi, hE⟩ := grd_some hE
      refine ah9 F C hP hj (updH_at _ _ _) hi dX6_drops_17 ?_
      refine lv_iload_n F.1 F.2.1 dX6_drops_18 rfl (lv_at hl 1 rfl) ?_
      refine lv_icmp_eq (tgt := 37) F.1 F.2.1 dX6_drops_19 (by decide) (fun hc => ?_) (fun hc => ?_)
      · have hE := ifp hE hc
        refine lv_iinc (v := x3 + 1) (lv' := [(3, .int (x3 + 1)), (0, .ref (hA Z j 8)), (1, .int p1), (2, .int x2)]) F.1 F.2.1 dX6_drops_37 hl (k := 3) rfl rfl (by decide) rfl (fun ls hl => ?_)
        refine lv_goto (tgt := 4) F.1 F.2.1 dX6_drops_40 (by decide) ?_
        exact h4 X x2 (x3 + 1) hE _ _ hP hS ls (lv_sub hl [1, 2, 3, 0] rfl)
      · have hE := ifn hE hc
        refine lv_aload_n F.1 F.2.1 dX6_drops_22 rfl (lv_at hl 0 rfl) ?_
        refine gX6_9 F C hP hj (updH_at _ _ _) dX6_drops_23 ?_
        refine lv_iload_n F.1 F.2.1 dX6_drops_26 rfl (lv_at hl 2 rfl) ?_
        refine lv_aload_n F.1 F.2.1 dX6_drops_27 rfl (lv_at hl 0 rfl) ?_
        refine gX6_9 F C hP hj (updH_at _ _ _) dX6_drops_28 ?_
        refine lv_iload_n F.1 F.2.1 dX6_drops_31 rfl (lv_at hl 3 rfl) ?_
        obtain ⟨hi, hE⟩ := grd_some hE
        refine ah9 F C hP hj (updH_at _ _ _) hi dX6_drops_32 ?_
        obtain ⟨hi, hE⟩ := grd_some hE
        obtain ⟨X_141, eX_141, hE⟩ := lt_some hE
        refine sh9 F C hP hj (updH_at _ _ _) hi hS (updH_let eX_141) dX6_drops_33 (fun H locs hP hS => ?_)
        refine lv_iinc (v := x2 + 1) (lv' := [(2, .int (x2 + 1)), (0, .ref (hA Z j 8)), (1, .int p1), (3, .int x3)]) F.1 F.2.1 dX6_drops_34 hl (k := 2) rfl rfl (by decide) rfl (fun ls hl => ?_)
        refine lv_iinc (v := x3 + 1) (lv' := [(3, .int (x3 + 1)), (2, .int (x2 + 1)), (0, .ref (hA Z j 8)), (1, .int p1)]) F.1 F.2.1 dX6_drops_37 hl (k := 3) rfl rfl (by decide) rfl (fun ls hl => ?_)
        refine lv_goto (tgt := 4) F.1 F.2.1 dX6_drops_40 (by decide) ?_
        exact h4 X_141 (x2 + 1) (x3 + 1) hE _ _ hP hS ls (lv_sub hl [2, 3, 1, 0] rfl)
set_option maxRecDepth 100000 in
set_option maxHeartbeats 4000000 in
theorem kX6_drops {l : Launch} {Z : ZC} {HS : Nat → Nat → Nat → Int32} {j : Nat} {X : Nat → Nat → Int32} {zkb : Int32} {zdr : Int32} {zky : Nat → Int32} {zpn : Int32} {zps : Int32} {ztz : Int32} {ztn : Nat → Int64} {zxz : Int32} {zxa : Int32} {zsg : Nat → Int32} {za0 : Int32} {za1 : Int32} {za2 : Int32} {za3 : Int32} {za4 : Int32} {zfr : Nat → Int32} {zcd : Int32} {zgo : Nat → Int32} {ztd : Int32} {ztv : Int32} {zcl : Nat → Int32} {zca : Nat → Int32} {zwa : Nat → Int32} {zpt : Nat → Int32} {zpf : Nat → Int32} {N : Nat} {p1 : Int32} {X' : Nat → Nat → Int32} (hj : j < 13) (hX : HS j = X) {HS1 : Nat → Nat → Nat → Int32} (h1 : updH HS j X' = HS1) (hE : fX6_drops N X p1 = some X') : Mg l yX6_drops cX6_drops 4 none (rmk 0 0) (KX Z) (AX Z) [.ref (hA Z j 8), .int p1] (PX Z HS zkb zdr zky zpn zps ztz ztn zxz zxa zsg za0 za1 za2 za3 za4 zfr zcd zgo ztd ztv zcl zca zwa zpt zpf) (Qv (KX Z) (AX Z) (PX Z HS1 zkb zdr zky zpn zps ztz ztn zxz zxa zsg za0 za1 za2 za3 za4 zfr zcd zgo ztd ztv zcl zca zwa zpt zpf)) := by
  subst h1
  rw [← updH_eq hX, updH_upd]
  refine Mg.start (lv := [(0, .ref (hA Z j 8)), (1, .int p1)]) (by decide) rfl (Nat.le_of_ble_eq_true rfl) rfl ?_
  intro p e s m below meth c F hr hlk C hP ls hl
  have hS : va_S (AX Z) s.heap s.heap [] := va_S.rf
  unfold fX6_drops at hE
  refine lv_iconst (v := 0) F.1 F.2.1 dX6_drops_0 (by decide) ?_
  refine lv_istore_n (lv' := [(2, .int 0), (0, .ref (hA Z j 8)), (1, .int p1)]) F.1 F.2.1 dX6_drops_1 rfl hl (by decide) rfl (fun ls hl => ?_)
  refine lv_iconst (v := 0) F.1 F.2.1 dX6_drops_2 (by decide) ?_
  refine lv_istore_n (lv' := [(3, .int 0), (2, .int 0), (0, .ref (hA Z j 8)), (1, .int p1)]) F.1 F.2.1 dX6_drops_3 rfl hl (by decide) rfl (fun ls hl => ?_)
  exact qX6_drops_4 F hr hlk C hj N X 0 0 hE _ _ hP hS ls (lv_sub hl [2, 3, 1, 0] rfl)
set_option maxRecDepth 100000 in
set_option maxHeartbeats 4000000 in
theorem kX3_hasEndToRun {l : Launch} {Z : ZC} {HS : Nat → Nat → Nat → Int32} {j : Nat} {X : Nat → Nat → Int32} {zkb : Int32} {zdr : Int32} {zky : Nat → Int32} {zpn : Int32} {zps : Int32} {ztz : Int32} {ztn : Nat → Int64} {zxz : Int32} {zxa : Int32} {zsg : Nat → Int32} {za0 : Int32} {za1 : Int32} {za2 : Int32} {za3 : Int32} {za4 : Int32} {zfr : Nat → Int32} {zcd : Int32} {zgo : Nat → Int32} {ztd : Int32} {ztv : Int32} {zcl : Nat → Int32} {zca : Nat → Int32} {zwa : Nat → Int32} {zpt : Nat → Int32} {zpf : Nat → Int32} {p1 : Int32} {r' : Int32} (hj : j < 13) (hX : HS j = X) (hE : fX3_hasEndToRun X p1 = some r') : Mg l yX3_hasEndToRun cX3_hasEndToRun 2 (some .boolean) (rmk 1 21) (KX Z) (AX Z) [.ref (hA Z j 0), .int p1] (PX Z HS zkb zdr zky zpn zps ztz ztn zxz zxa zsg za0 za1 za2 za3 za4 zfr zcd zgo ztd ztv zcl zca zwa zpt zpf) (Qi (KX Z) (AX Z) (PX Z HS zkb zdr zky zpn zps ztz ztn zxz zxa zsg za0 za1 za2 za3 za4 zfr zcd zgo ztd ztv zcl zca zwa zpt zpf) r') := by
  rw [← updH_eq hX]
  refine Mg.start (lv := [(0, .ref (hA Z j 0)), (1, .int p1)]) (by decide) rfl (Nat.le_of_ble_eq_true rfl) rfl ?_
  intro p e s m below meth c F hr hlk C hP ls hl
  have hS : va_S (AX Z) s.heap s.heap [] := va_S.rf
  unfold fX3_hasEndToRun at hE
  refine lv_aload_n F.1 F.2.1 dX3_hasEndToRun_0 rfl (lv_at hl 0 rfl) ?_
  refine lv_iload_n F.1 F.2.1 dX3_hasEndToRun_1 rfl (lv_at hl 1 rfl) ?_
  obtain ⟨r147, hc, hE⟩ := bnd1_some hE
  refine aft_i (run_V (rest := []) F (kX3_has hj (updH_at _ _ _) hc) (okX Z) C hS lkX3_76 ⟨Nat.le_of_ble_eq_true rfl, Nat.le_of_ble_eq_true rfl⟩ (rvh0 C hP hj) hP rfl hl.1 rfl (lv_room (Nat.le_of_ble_eq_true rfl)) dX3_hasEndToRun_2 ⟨Nat.zero_le _, Nat.zero_le _⟩) hS (fun H locs hP hS => ?_)
  refine lv_if_eq (tgt := 32) F.1 F.2.1 dX3_hasEndToRun_5 (by decide) (fun hc => ?_) (fun hc => ?_)
  · have hE := ifp hE hc
    refine lv_iconst (v := 0) F.1 F.2.1 dX3_hasEndToRun_32 (by decide) ?_
    obtain rfl := Option.some.inj hE
    exact ret_z F hr rfl hlk hP hS dX3_hasEndToRun_33
  · have hE := ifn hE hc
    refine lv_aload_n F.1 F.2.1 dX3_hasEndToRun_8 rfl (lv_at hl 0 rfl) ?_
    refine gX3_22 F C hP hj (updH_at _ _ _) dX3_hasEndToRun_9 ?_
    refine lv_iload_n F.1 F.2.1 dX3_hasEndToRun_12 rfl (lv_at hl 1 rfl) ?_
    obtain ⟨hi, hE⟩ := grd_some hE
    refine ah3 F C hP hj (updH_at _ _ _) hi dX3_hasEndToRun_13 ?_
    refine lv_if_eq (tgt := 32) F.1 F.2.1 dX3_hasEndToRun_14 (by decide) (fun hc => ?_) (fun hc => ?_)
    · have hE := ifp hE hc
      refine lv_iconst (v := 0) F.1 F.2.1 dX3_hasEndToRun_32 (by decide) ?_
      obtain rfl := Option.some.inj hE
      exact ret_z F hr rfl hlk hP hS dX3_hasEndToRun_33
    · have hE := ifn hE hc
      refine lv_aload_n F.1 F.2.1 dX3_hasEndToRun_17 rfl (lv_at hl 0 rfl) ?_
      refine gX3_60 F C hP hj (updH_at _ _ _) dX3_hasEndToRun_18 ?_
      refine lv_iload_n F.1 F.2.1 dX3_hasEndToRun_21 rfl (lv_at hl 1 rfl) ?_
      obtain ⟨r148, hc, hE⟩ := bnd1_some hE
      refine aft_i (run_SN (rest := []) F (kX11_bit hc) (okX Z) C hS (C.2.2 _ _ mlX3_86 rfl) lkX3_86 ⟨Nat.le_of_ble_eq_true rfl, Nat.le_of_ble_eq_true rfl⟩ hP rfl hl.1 rfl (lv_room (Nat.le_of_ble_eq_true rfl)) dX3_hasEndToRun_22 ⟨Nat.zero_le _, Nat.zero_le _⟩) hS (fun H locs hP hS => ?_)
      refine lv_if_ne (tgt := 32) F.1 F.2.1 dX3_hasEndToRun_25 (by decide) (fun hc => ?_) (fun hc => ?_)
      · have hE := ifn hE hc
        refine lv_iconst (v := 0) F.1 F.2.1 dX3_hasEndToRun_32 (by decide) ?_
        obtain rfl := Option.some.inj hE
        exact ret_z F hr rfl hlk hP hS dX3_hasEndToRun_33
      · have hE := ifp hE hc
        refine lv_iconst (v := 1) F.1 F.2.1 dX3_hasEndToRun_28 (by decide) ?_
        refine lv_goto (tgt := 33) F.1 F.2.1 dX3_hasEndToRun_29 (by decide) ?_
        obtain rfl := Option.some.inj hE
        exact ret_z F hr rfl hlk hP hS dX3_hasEndToRun_33
set_option maxRecDepth 100000 in
set_option maxHeartbeats 4000000 in
theorem kX2_runsEnd {l : Launch} {Z : ZC} {HS : Nat → Nat → Nat → Int32} {j : Nat} {X : Nat → Nat → Int32} {zkb : Int32} {zdr : Int32} {zky : Nat → Int32} {zpn : Int32} {zps : Int32} {ztz : Int32} {ztn : Nat → Int64} {zxz : Int32} {zxa : Int32} {zsg : Nat → Int32} {za0 : Int32} {za1 : Int32} {za2 : Int32} {za3 : Int32} {za4 : Int32} {zfr : Nat → Int32} {zcd : Int32} {zgo : Nat → Int32} {ztd : Int32} {ztv : Int32} {zcl : Nat → Int32} {zca : Nat → Int32} {zwa : Nat → Int32} {zpt : Nat → Int32} {zpf : Nat → Int32} {p2 : Int32} {r' : Int32} {X' : Nat → Nat → Int32} (hj : j < 13) (hX : HS j = X) {HS1 : Nat → Nat → Nat → Int32} (h1 : updH HS j X' = HS1) (hE : fX2_runsEnd X p2 = some (r', X')) : Mg l yX2_runsEnd cX2_runsEnd 5 (some .int) (rmk 1 23) (KX Z) (AX Z) [.ref (oA Z 11), .ref (hA Z j 0), .int p2] (PX Z HS zkb zdr zky zpn zps ztz ztn zxz zxa zsg za0 za1 za2 za3 za4 zfr zcd zgo ztd ztv zcl zca zwa zpt zpf) (Qi (KX Z) (AX Z) (PX Z HS1 zkb zdr zky zpn zps ztz ztn zxz zxa zsg za0 za1 za2 za3 za4 zfr zcd zgo ztd ztv zcl zca zwa zpt zpf) r') := by
  subst h1
  rw [← updH_eq hX, updH_upd]
  refine Mg.start (lv := [(0, .ref (oA Z 11)), (1, .ref (hA Z j 0)), (2, .int p2)]) (by decide) rfl (Nat.le_of_ble_eq_true rfl) rfl ?_
  intro p e s m below meth c F hr hlk C hP ls hl
  have hS : va_S (AX Z) s.heap s.heap [] := va_S.rf
  unfold fX2_runsEnd at hE
  refine lv_aload_n F.1 F.2.1 dX2_runsEnd_0 rfl (lv_at hl 1 rfl) ?_
  refine lv_dup F.1 F.2.1 dX2_runsEnd_1 rfl ?_
  refine gX2_88 F C hP hj (updH_at _ _ _) dX2_runsEnd_2 ?_
  refine lv_iconst (v := 1) F.1 F.2.1 dX2_runsEnd_5 (by decide) ?_
  refine lv_iload_n F.1 F.2.1 dX2_runsEnd_6 rfl (lv_at hl 2 rfl) ?_
  refine rj_ishl F.1 F.2.1 dX2_runsEnd_7 ?_
  refine lv_ior F.1 F.2.1 dX2_runsEnd_8 ?_
  obtain ⟨X_157, eX_157, hE⟩ := lt_some hE
  refine pX2_88 F C hP hj (updH_at _ _ _) hS (updH_let eX_157) dX2_runsEnd_9 (fun H locs hP hS => ?_)
  refine lv_aload_n F.1 F.2.1 dX2_runsEnd_12 rfl (lv_at hl 1 rfl) ?_
  refine gX2_78 F C hP hj (updH_at _ _ _) dX2_runsEnd_13 ?_
  refine lv_iconst (v := 3) F.1 F.2.1 dX2_runsEnd_16 (by decide) ?_
  refine lv_iload_n F.1 F.2.1 dX2_runsEnd_17 rfl (lv_at hl 2 rfl) ?_
  obtain ⟨X_158, hc, hE⟩ := bnd1_some hE
  refine aft_v (run_N (rest := []) F (kX4_adds hj (updH_at _ _ _) (updH_upd _ _ _ _) hc) (okX Z) C hS (C.2.2 _ _ mlX2_82 rfl) lkX2_82 ⟨Nat.le_of_ble_eq_true rfl, Nat.le_of_ble_eq_true rfl⟩ (rvh10 C hP hj) hP rfl hl.1 rfl (lv_room (Nat.le_of_ble_eq_true rfl)) dX2_runsEnd_18 ⟨Nat.zero_le _, Nat.zero_le _⟩) hS (fun H locs hP hS => ?_)
  refine lv_aload_n F.1 F.2.1 dX2_runsEnd_21 rfl (lv_at hl 1 rfl) ?_
  refine gX2_91 F C hP hj (updH_at _ _ _) dX2_runsEnd_22 ?_
  refine lv_iload_n F.1 F.2.1 dX2_runsEnd_25 rfl (lv_at hl 2 rfl) ?_
  obtain ⟨hi, hE⟩ := grd_some hE
  refine ah3 F C hP hj (updH_at _ _ _) hi dX2_runsEnd_26 ?_
  refine lv_iconst (v := 2) F.1 F.2.1 dX2_runsEnd_27 (by decide) ?_
  refine lv_isub F.1 F.2.1 dX2_runsEnd_28 ?_
  obtain ⟨v_159, ev_159, hE⟩ := lt_some hE
  refine lv_seti ev_159 ?_
  refine lv_istore_n (lv' := [(3, .int v_159), (0, .ref (oA Z 11)), (1, .ref (hA Z j 0)), (2, .int p2)]) F.1 F.2.1 dX2_runsEnd_29 rfl hl (by decide) rfl (fun ls hl => ?_)
  refine lv_iload_n F.1 F.2.1 dX2_runsEnd_30 rfl (lv_at hl 0 rfl) ?_
  refine lv_if_lt (tgt := 40) F.1 F.2.1 dX2_runsEnd_31 (by decide) (fun hc => ?_) (fun hc => ?_)
  · have hE := ifp hE hc
    refine lv_iconst (v := (-1)) F.1 F.2.1 dX2_runsEnd_40 (by decide) ?_
    have w0 := Option.some.inj hE
    obtain ⟨g0, w1⟩ := Prod.mk.inj w0
    subst g0 w1
    exact ret_i F hr hlk hP hS dX2_runsEnd_41
  · have hE := ifn hE hc
    refine lv_iload_n F.1 F.2.1 dX2_runsEnd_34 rfl (lv_at hl 0 rfl) ?_
    refine lv_bipush (v := 6) F.1 F.2.1 dX2_runsEnd_35 (by decide) ?_
    refine lv_icmp_lt (tgt := 42) F.1 F.2.1 dX2_runsEnd_37 (by decide) (fun hc => ?_) (fun hc => ?_)
    · have hE := ifp hE hc
      refine lv_aload_n F.1 F.2.1 dX2_runsEnd_42 rfl (lv_at hl 2 rfl) ?_
      refine gX2_78 F C hP hj (updH_at _ _ _) dX2_runsEnd_43 ?_
      refine lv_iconst (v := 4) F.1 F.2.1 dX2_runsEnd_46 (by decide) ?_
      refine lv_iload_n F.1 F.2.1 dX2_runsEnd_47 rfl (lv_at hl 3 rfl) ?_
      obtain ⟨X_160, hc, hE⟩ := bnd1_some hE
      refine aft_v (run_N (rest := []) F (kX4_adds hj (updH_at _ _ _) (updH_upd _ _ _ _) hc) (okX Z) C hS (C.2.2 _ _ mlX2_82 rfl) lkX2_82 ⟨Nat.le_of_ble_eq_true rfl, Nat.le_of_ble_eq_true rfl⟩ (rvh10 C hP hj) hP rfl hl.1 rfl (lv_room (Nat.le_of_ble_eq_true rfl)) dX2_runsEnd_48 ⟨Nat.zero_le _, Nat.zero_le _⟩) hS (fun H locs hP hS => ?_)
      refine lv_aload_n F.1 F.2.1 dX2_runsEnd_51 rfl (lv_at hl 2 rfl) ?_
      refine gX2_29 F C hP hj (updH_at _ _ _) dX2_runsEnd_52 ?_
      refine lv_iload_n F.1 F.2.1 dX2_runsEnd_55 rfl (lv_at hl 0 rfl) ?_
      obtain ⟨hi, hE⟩ := grd_some hE
      refine ah6 F C hP hj (updH_at _ _ _) hi dX2_runsEnd_56 ?_
      obtain ⟨v_161, ev_161, hE⟩ := lt_some hE
      refine lv_seti ev_161 ?_
      refine lv_istore (lv' := [(4, .int v_161), (3, .int v_159), (0, .ref (oA Z 11)), (1, .ref (hA Z j 0)), (2, .int p2)]) F.1 F.2.1 dX2_runsEnd_57 hl (by decide) rfl (fun ls hl => ?_)
      refine lv_aload_n F.1 F.2.1 dX2_runsEnd_59 rfl (lv_at hl 3 rfl) ?_
      refine gX2_29 F C hP hj (updH_at _ _ _) dX2_runsEnd_60 ?_
      refine lv_iload_n F.1 F.2.1 dX2_runsEnd_63 rfl (lv_at hl 1 rfl) ?_
      refine lv_iload_n F.1 F.2.1 dX2_runsEnd_64 rfl (lv_at hl 4 rfl) ?_
      obtain ⟨hi, hE⟩ := grd_some hE
      obtain ⟨X_162, eX_162, hE⟩ := lt_some hE
      refine sh6 F C hP hj (updH_at _ _ _) hi hS (updH_let eX_162) dX2_runsEnd_65 (fun H locs hP hS => ?_)
      refine lv_aload_n F.1 F.2.1 dX2_runsEnd_66 rfl (lv_at hl 3 rfl) ?_
      refine gX2_32 F C hP hj (updH_at _ _ _) dX2_runsEnd_67 ?_
      refine lv_iload_n F.1 F.2.1 dX2_runsEnd_70 rfl (lv_at hl 4 rfl) ?_
      refine lv_dup2_11 F.1 F.2.1 dX2_runsEnd_71 rfl rfl ?_
      obtain ⟨hi, hE⟩ := grd_some hE
      refine ah4 F C hP hj (updH_at _ _ _) hi dX2_runsEnd_72 ?_
      refine lv_iconst (v := 1) F.1 F.2.1 dX2_runsEnd_73 (by decide) ?_
      refine lv_iadd F.1 F.2.1 dX2_runsEnd_74 ?_
      obtain ⟨hi, hE⟩ := grd_some hE
      obtain ⟨X_163, eX_163, hE⟩ := lt_some hE
      refine sh4 F C hP hj (updH_at _ _ _) hi hS (updH_let eX_163) dX2_runsEnd_75 (fun H locs hP hS => ?_)
      refine lv_aload_n F.1 F.2.1 dX2_runsEnd_76 rfl (lv_at hl 3 rfl) ?_
      refine gX2_35 F C hP hj (updH_at _ _ _) dX2_runsEnd_77 ?_
      refine lv_iload_n F.1 F.2.1 dX2_runsEnd_80 rfl (lv_at hl 4 rfl) ?_
      obtain ⟨X_164, hc, hE⟩ := bnd1_some hE
      refine aft_v (run_N (rest := []) F (kX6_trusts hj (updH_at _ _ _) (updH_upd _ _ _ _) hc) (okX Z) C hS (C.2.2 _ _ mlX2_39 rfl) lkX2_39 ⟨Nat.le_of_ble_eq_true rfl, Nat.le_of_ble_eq_true rfl⟩ (rvh8 C hP hj) hP rfl hl.1 rfl (lv_room (Nat.le_of_ble_eq_true rfl)) dX2_runsEnd_81 ⟨Nat.zero_le _, Nat.zero_le _⟩) hS (fun H locs hP hS => ?_)
      refine lv_iload F.1 F.2.1 dX2_runsEnd_84 (lv_at hl 0 rfl) ?_
      have w0 := Option.some.inj hE
      obtain ⟨g0, w1⟩ := Prod.mk.inj w0
      subst g0 w1
      exact ret_i F hr hlk hP hS dX2_runsEnd_86
    · have hE := ifn hE hc
      refine lv_iconst (v := (-1)) F.1 F.2.1 dX2_runsEnd_40 (by decide) ?_
      have w0 := Option.some.inj hE
      obtain ⟨g0, w1⟩ := Prod.mk.inj w0
      subst g0 w1
      exact ret_i F hr hlk hP hS dX2_runsEnd_41
set_option maxRecDepth 100000 in
set_option maxHeartbeats 4000000 in
theorem qX2_countsOneDown_72 {p : Program} {l : Launch} {e : Env} {s : State} {m : MethodId} {args : Array Value} {below : List Frame} {meth : Method} {c : Code} {Z : ZC} {HS : Nat → Nat → Nat → Int32} {j : Nat} {zkb : Int32} {zdr : Int32} {zky : Nat → Int32} {zpn : Int32} {zps : Int32} {ztz : Int32} {ztn : Nat → Int64} {zxz : Int32} {zxa : Int32} {zsg : Nat → Int32} {za0 : Int32} {za1 : Int32} {za2 : Int32} {za3 : Int32} {za4 : Int32} {zfr : Nat → Int32} {ztd : Int32} {ztv : Int32} {zcl : Nat → Int32} {zca : Nat → Int32} {zwa : Nat → Int32} {zpt : Nat → Int32} {zpf : Nat → Int32} {N : Nat} {p2 : Int32} {r' : Int32} {zcd' : Int32} {zgo' : Nat → Int32} {X' : Nat → Nat → Int32} (F : CallFix p m c cX2_countsOneDown 4 s args bigW RX2) (hr : meth.sig.returnType = (some .int)) (hlk : meth.locks = false) (C : KX Z s) (hj : j < 13) : ∀ (zcd : Int32) (zgo : Nat → Int32) (X : Nat → Nat → Int32), fX2_countsOneDown_72 N p2 zcd zgo X = some (r', zcd', zgo', X') → ∀ (H : Heap) (locs : List Loc), PX Z (updH HS j X) zkb zdr zky zpn zps ztz ztn zxz zxa zsg za0 za1 za2 za3 za4 zfr zcd zgo ztd ztv zcl zca zwa zpt zpf H → va_S (AX Z) s.heap H locs → ∀ ls : Array Slot, lv_has ls 4 [(0, .ref (oA Z 11)), (1, .ref (hA Z j 0)), (2, .int p2)] → W p l e (rmk 2 47) s m args below meth c H locs 0 0 (MQ below (Qi (KX Z) (AX Z) (PX Z (updH HS j X') zkb zdr zky zpn zps ztz ztn zxz zxa zsg za0 za1 za2 za3 za4 zfr zcd' zgo' ztd ztv zcl zca zwa zpt zpf) r') args s 0 0 (AX Z)) (F0 m 72 ls []) := by
  intro zcd zgo X hE H locs hP hS ls hl
  unfold fX2_countsOneDown_72 at hE
  refine lv_aload_n F.1 F.2.1 dX2_countsOneDown_72 rfl (lv_at hl 1 rfl) ?_
  refine gX2_78 F C hP hj (updH_at _ _ _) dX2_countsOneDown_73 ?_
  refine lv_iconst (v := 1) F.1 F.2.1 dX2_countsOneDown_76 (by decide) ?_
  refine lv_iload_n F.1 F.2.1 dX2_countsOneDown_77 rfl (lv_at hl 2 rfl) ?_
  obtain ⟨X_178, hc, hE⟩ := bnd1_some hE
  refine aft_v (run_N (rest := []) F (kX4_adds hj (updH_at _ _ _) (updH_upd _ _ _ _) hc) (okX Z) C hS (C.2.2 _ _ mlX2_82 rfl) lkX2_82 ⟨Nat.le_of_ble_eq_true rfl, Nat.le_of_ble_eq_true rfl⟩ (rvh10 C hP hj) hP rfl hl.1 rfl (lv_room (Nat.le_of_ble_eq_true rfl)) dX2_countsOneDown_78 ⟨Nat.zero_le _, Nat.zero_le _⟩) hS (fun H locs hP hS => ?_)
  refine lv_aload_n F.1 F.2.1 dX2_countsOneDown_81 rfl (lv_at hl 0 rfl) ?_
  refine gX2_49 F C hP dX2_countsOneDown_82 ?_
  refine lv_bipush (v := 24) F.1 F.2.1 dX2_countsOneDown_85 (by decide) ?_
  refine lv_icmp_ge (tgt := 110) F.1 F.2.1 dX2_countsOneDown_87 (by decide) (fun hc => ?_) (fun hc => ?_)
  · have hE := ifp hE hc
    refine lv_iconst (v := (-1)) F.1 F.2.1 dX2_countsOneDown_110 (by decide) ?_
    have w0 := Option.some.inj hE
    obtain ⟨g0, w1⟩ := Prod.mk.inj w0
    obtain ⟨g1, w2⟩ := Prod.mk.inj w1
    obtain ⟨g2, w3⟩ := Prod.mk.inj w2
    subst g0 g1 g2 w3
    exact ret_i F hr hlk hP hS dX2_countsOneDown_111
  · have hE := ifn hE hc
    refine lv_aload_n F.1 F.2.1 dX2_countsOneDown_90 rfl (lv_at hl 0 rfl) ?_
    refine gX2_9 F C hP dX2_countsOneDown_91 ?_
    refine lv_aload_n F.1 F.2.1 dX2_countsOneDown_94 rfl (lv_at hl 0 rfl) ?_
    refine gX2_49 F C hP dX2_countsOneDown_95 ?_
    refine lv_iload_n F.1 F.2.1 dX2_countsOneDown_98 rfl (lv_at hl 2 rfl) ?_
    obtain ⟨hi, hE⟩ := grd_some hE
    obtain ⟨zgo_179, ezgo_179, hE⟩ := lt_some hE
    refine so12 F C hP hi hS ezgo_179.symm dX2_countsOneDown_99 (fun H locs hP hS => ?_)
    refine lv_aload_n F.1 F.2.1 dX2_countsOneDown_100 rfl (lv_at hl 0 rfl) ?_
    refine lv_dup F.1 F.2.1 dX2_countsOneDown_101 rfl ?_
    refine gX2_49 F C hP dX2_countsOneDown_102 ?_
    refine lv_iconst (v := 1) F.1 F.2.1 dX2_countsOneDown_105 (by decide) ?_
    refine lv_iadd F.1 F.2.1 dX2_countsOneDown_106 ?_
    obtain ⟨zcd_180, ezcd_180, hE⟩ := lt_some hE
    refine pX2_49 F C hP hS ezcd_180.symm dX2_countsOneDown_107 (fun H locs hP hS => ?_)
    refine lv_iconst (v := (-1)) F.1 F.2.1 dX2_countsOneDown_110 (by decide) ?_
    have w0 := Option.some.inj hE
    obtain ⟨g0, w1⟩ := Prod.mk.inj w0
    obtain ⟨g1, w2⟩ := Prod.mk.inj w1
    obtain ⟨g2, w3⟩ := Prod.mk.inj w2
    subst g0 g1 g2 w3
    exact ret_i F hr hlk hP hS dX2_countsOneDown_111
set_option maxRecDepth 100000 in
set_option maxHeartbeats 4000000 in
theorem kX2_countsOneDown {l : Launch} {Z : ZC} {HS : Nat → Nat → Nat → Int32} {j : Nat} {X : Nat → Nat → Int32} {zkb : Int32} {zdr : Int32} {zky : Nat → Int32} {zpn : Int32} {zps : Int32} {ztz : Int32} {ztn : Nat → Int64} {zxz : Int32} {zxa : Int32} {zsg : Nat → Int32} {za0 : Int32} {za1 : Int32} {za2 : Int32} {za3 : Int32} {za4 : Int32} {zfr : Nat → Int32} {zcd : Int32} {zgo : Nat → Int32} {ztd : Int32} {ztv : Int32} {zcl : Nat → Int32} {zca : Nat → Int32} {zwa : Nat → Int32} {zpt : Nat → Int32} {zpf : Nat → Int32} {N : Nat} {p2 : Int32} {r' : Int32} {zcd' : Int32} {zgo' : Nat → Int32} {X' : Nat → Nat → Int32} (hj : j < 13) (hX : HS j = X) {HS1 : Nat → Nat → Nat → Int32} (h1 : updH HS j X' = HS1) (hE : fX2_countsOneDown N zcd zgo X p2 = some (r', zcd', zgo', X')) : Mg l yX2_countsOneDown cX2_countsOneDown 4 (some .int) (rmk 2 47) (KX Z) (AX Z) [.ref (oA Z 11), .ref (hA Z j 0), .int p2] (PX Z HS zkb zdr zky zpn zps ztz ztn zxz zxa zsg za0 za1 za2 za3 za4 zfr zcd zgo ztd ztv zcl zca zwa zpt zpf) (Qi (KX Z) (AX Z) (PX Z HS1 zkb zdr zky zpn zps ztz ztn zxz zxa zsg za0 za1 za2 za3 za4 zfr zcd' zgo' ztd ztv zcl zca zwa zpt zpf) r') := by
  subst h1
  rw [← updH_eq hX, updH_upd]
  refine Mg.start (lv := [(0, .ref (oA Z 11)), (1, .ref (hA Z j 0)), (2, .int p2)]) (by decide) rfl (Nat.le_of_ble_eq_true rfl) rfl ?_
  intro p e s m below meth c F hr hlk C hP ls hl
  have hS : va_S (AX Z) s.heap s.heap [] := va_S.rf
  unfold fX2_countsOneDown at hE
  refine lv_aload_n F.1 F.2.1 dX2_countsOneDown_0 rfl (lv_at hl 1 rfl) ?_
  refine gX2_32 F C hP hj (updH_at _ _ _) dX2_countsOneDown_1 ?_
  refine lv_iload_n F.1 F.2.1 dX2_countsOneDown_4 rfl (lv_at hl 2 rfl) ?_
  refine lv_dup2_11 F.1 F.2.1 dX2_countsOneDown_5 rfl rfl ?_
  obtain ⟨hi, hE⟩ := grd_some hE
  refine ah4 F C hP hj (updH_at _ _ _) hi dX2_countsOneDown_6 ?_
  refine lv_iconst (v := 1) F.1 F.2.1 dX2_countsOneDown_7 (by decide) ?_
  refine lv_isub F.1 F.2.1 dX2_countsOneDown_8 ?_
  obtain ⟨hi, hE⟩ := grd_some hE
  obtain ⟨X_173, eX_173, hE⟩ := lt_some hE
  refine sh4 F C hP hj (updH_at _ _ _) hi hS (updH_let eX_173) dX2_countsOneDown_9 (fun H locs hP hS => ?_)
  refine lv_aload_n F.1 F.2.1 dX2_countsOneDown_10 rfl (lv_at hl 1 rfl) ?_
  refine gX2_32 F C hP hj (updH_at _ _ _) dX2_countsOneDown_11 ?_
  refine lv_iload_n F.1 F.2.1 dX2_countsOneDown_14 rfl (lv_at hl 2 rfl) ?_
  obtain ⟨hi, hE⟩ := grd_some hE
  refine ah4 F C hP hj (updH_at _ _ _) hi dX2_countsOneDown_15 ?_
  refine lv_if_le (tgt := 38) F.1 F.2.1 dX2_countsOneDown_16 (by decide) (fun hc => ?_) (fun hc => ?_)
  · have hE := ifp hE hc
    refine lv_aload_n F.1 F.2.1 dX2_countsOneDown_38 rfl (lv_at hl 1 rfl) ?_
    refine gX2_35 F C hP hj (updH_at _ _ _) dX2_countsOneDown_39 ?_
    refine lv_iload_n F.1 F.2.1 dX2_countsOneDown_42 rfl (lv_at hl 2 rfl) ?_
    obtain ⟨X_174, hc, hE⟩ := bnd1_some hE
    refine aft_v (run_N (rest := []) F (kX6_drops hj (updH_at _ _ _) (updH_upd _ _ _ _) hc) (okX Z) C hS (C.2.2 _ _ mlX2_68 rfl) lkX2_68 ⟨Nat.le_of_ble_eq_true rfl, Nat.le_of_ble_eq_true rfl⟩ (rvh8 C hP hj) hP rfl hl.1 rfl (lv_room (Nat.le_of_ble_eq_true rfl)) dX2_countsOneDown_43 ⟨Nat.zero_le _, Nat.zero_le _⟩) hS (fun H locs hP hS => ?_)
    refine lv_aload_n F.1 F.2.1 dX2_countsOneDown_46 rfl (lv_at hl 1 rfl) ?_
    refine lv_iload_n F.1 F.2.1 dX2_countsOneDown_47 rfl (lv_at hl 2 rfl) ?_
    obtain ⟨r175, hc, hE⟩ := bnd1_some hE
    refine aft_i (run_N (rest := []) F (kX3_hasEndToRun hj (updH_at _ _ _) hc) (okX Z) C hS (C.2.2 _ _ mlX2_71 rfl) lkX2_71 ⟨Nat.le_of_ble_eq_true rfl, Nat.le_of_ble_eq_true rfl⟩ (rvh0 C hP hj) hP rfl hl.1 rfl (lv_room (Nat.le_of_ble_eq_true rfl)) dX2_countsOneDown_48 ⟨Nat.zero_le _, Nat.zero_le _⟩) hS (fun H locs hP hS => ?_)
    refine lv_if_eq (tgt := 72) F.1 F.2.1 dX2_countsOneDown_51 (by decide) (fun hc => ?_) (fun hc => ?_)
    · have hE := ifp hE hc
      exact qX2_countsOneDown_72 F hr hlk C hj zcd zgo X_174 hE _ _ hP hS ls (lv_sub hl [0, 1, 2] rfl)
    · have hE := ifn hE hc
      refine lv_aload_n F.1 F.2.1 dX2_countsOneDown_54 rfl (lv_at hl 0 rfl) ?_
      refine lv_aload_n F.1 F.2.1 dX2_countsOneDown_55 rfl (lv_at hl 1 rfl) ?_
      refine lv_iload_n F.1 F.2.1 dX2_countsOneDown_56 rfl (lv_at hl 2 rfl) ?_
      obtain ⟨r176, X_176, hc, hE⟩ := bnd2_some hE
      refine aft_i (run_V (rest := []) F (kX2_runsEnd hj (updH_at _ _ _) (updH_upd _ _ _ _) hc) (okX Z) C hS lkX2_75 ⟨Nat.le_of_ble_eq_true rfl, Nat.le_of_ble_eq_true rfl⟩ (rvo11 C hP) hP rfl hl.1 rfl (lv_room (Nat.le_of_ble_eq_true rfl)) dX2_countsOneDown_57 ⟨Nat.zero_le _, Nat.zero_le _⟩) hS (fun H locs hP hS => ?_)
      refine lv_istore_n (lv' := [(3, .int r176), (0, .ref (oA Z 11)), (1, .ref (hA Z j 0)), (2, .int p2)]) F.1 F.2.1 dX2_countsOneDown_60 rfl hl (by decide) rfl (fun ls hl => ?_)
      refine lv_aload_n F.1 F.2.1 dX2_countsOneDown_61 rfl (lv_at hl 2 rfl) ?_
      refine gX2_32 F C hP hj (updH_at _ _ _) dX2_countsOneDown_62 ?_
      refine lv_iload_n F.1 F.2.1 dX2_countsOneDown_65 rfl (lv_at hl 3 rfl) ?_
      obtain ⟨hi, hE⟩ := grd_some hE
      refine ah4 F C hP hj (updH_at _ _ _) hi dX2_countsOneDown_66 ?_
      refine lv_if_le (tgt := 72) F.1 F.2.1 dX2_countsOneDown_67 (by decide) (fun hc => ?_) (fun hc => ?_)
      · have hE := ifp hE hc
        exact qX2_countsOneDown_72 F hr hlk C hj zcd zgo X_176 hE _ _ hP hS ls (lv_sub hl [1, 2, 3] rfl)
      · have hE := ifn hE hc
        refine lv_iload_n F.1 F.2.1 dX2_countsOneDown_70 rfl (lv_at hl 0 rfl) ?_
        have w0 := Option.some.inj hE
        obtain ⟨g0, w1⟩ := Prod.mk.inj w0
        obtain ⟨g1, w2⟩ := Prod.mk.inj w1
        obtain ⟨g2, w3⟩ := Prod.mk.inj w2
        subst g0 g1 g2 w3
        exact ret_i F hr hlk hP hS dX2_countsOneDown_71
  · have hE := ifn hE hc
    refine lv_aload_n F.1 F.2.1 dX2_countsOneDown_19 rfl (lv_at hl 1 rfl) ?_
    refine gX2_62 F C hP hj (updH_at _ _ _) dX2_countsOneDown_20 ?_
    refine lv_iload_n F.1 F.2.1 dX2_countsOneDown_23 rfl (lv_at hl 2 rfl) ?_
    obtain ⟨hi, hE⟩ := grd_some hE
    refine ah1 F C hP hj (updH_at _ _ _) hi dX2_countsOneDown_24 ?_
    refine lv_if_le (tgt := 36) F.1 F.2.1 dX2_countsOneDown_25 (by decide) (fun hc => ?_) (fun hc => ?_)
    · have hE := ifp hE hc
      refine lv_iconst (v := (-1)) F.1 F.2.1 dX2_countsOneDown_36 (by decide) ?_
      have w0 := Option.some.inj hE
      obtain ⟨g0, w1⟩ := Prod.mk.inj w0
      obtain ⟨g1, w2⟩ := Prod.mk.inj w1
      obtain ⟨g2, w3⟩ := Prod.mk.inj w2
      subst g0 g1 g2 w3
      exact ret_i F hr hlk hP hS dX2_countsOneDown_37
    · have hE := ifn hE hc
      refine lv_aload_n F.1 F.2.1 dX2_countsOneDown_28 rfl (lv_at hl 1 rfl) ?_
      refine gX2_35 F C hP hj (updH_at _ _ _) dX2_countsOneDown_29 ?_
      refine lv_iload_n F.1 F.2.1 dX2_countsOneDown_32 rfl (lv_at hl 2 rfl) ?_
      obtain ⟨X_177, hc, hE⟩ := bnd1_some hE
      refine aft_v (run_N (rest := []) F (kX6_means hj (updH_at _ _ _) (updH_upd _ _ _ _) hc) (okX Z) C hS (C.2.2 _ _ mlX2_65 rfl) lkX2_65 ⟨Nat.le_of_ble_eq_true rfl, Nat.le_of_ble_eq_true rfl⟩ (rvh8 C hP hj) hP rfl hl.1 rfl (lv_room (Nat.le_of_ble_eq_true rfl)) dX2_countsOneDown_33 ⟨Nat.zero_le _, Nat.zero_le _⟩) hS (fun H locs hP hS => ?_)
      refine lv_iconst (v := (-1)) F.1 F.2.1 dX2_countsOneDown_36 (by decide) ?_
      have w0 := Option.some.inj hE
      obtain ⟨g0, w1⟩ := Prod.mk.inj w0
      obtain ⟨g1, w2⟩ := Prod.mk.inj w1
      obtain ⟨g2, w3⟩ := Prod.mk.inj w2
      subst g0 g1 g2 w3
      exact ret_i F hr hlk hP hS dX2_countsOneDown_37
set_option maxRecDepth 100000 in
set_option maxHeartbeats 4000000 in
theorem kX3_fills {l : Launch} {Z : ZC} {HS : Nat → Nat → Nat → Int32} {j : Nat} {X : Nat → Nat → Int32} {zkb : Int32} {zdr : Int32} {zky : Nat → Int32} {zpn : Int32} {zps : Int32} {ztz : Int32} {ztn : Nat → Int64} {zxz : Int32} {zxa : Int32} {zsg : Nat → Int32} {za0 : Int32} {za1 : Int32} {za2 : Int32} {za3 : Int32} {za4 : Int32} {zfr : Nat → Int32} {zcd : Int32} {zgo : Nat → Int32} {ztd : Int32} {ztv : Int32} {zcl : Nat → Int32} {zca : Nat → Int32} {zwa : Nat → Int32} {zpt : Nat → Int32} {zpf : Nat → Int32} {p1 : Int32} {p2 : Int32} {p3 : Int32} {X' : Nat → Nat → Int32} (hj : j < 13) (hX : HS j = X) {HS1 : Nat → Nat → Nat → Int32} (h1 : updH HS j X' = HS1) (hE : fX3_fills X p1 p2 p3 = some X') : Mg l yX3_fills cX3_fills 4 none (rmk 0 0) (KX Z) (AX Z) [.ref (hA Z j 0), .int p1, .int p2, .int p3] (PX Z HS zkb zdr zky zpn zps ztz ztn zxz zxa zsg za0 za1 za2 za3 za4 zfr zcd zgo ztd ztv zcl zca zwa zpt zpf) (Qv (KX Z) (AX Z) (PX Z HS1 zkb zdr zky zpn zps ztz ztn zxz zxa zsg za0 za1 za2 za3 za4 zfr zcd zgo ztd ztv zcl zca zwa zpt zpf)) := by
  subst h1
  rw [← updH_eq hX, updH_upd]
  refine Mg.start (lv := [(0, .ref (hA Z j 0)), (1, .int p1), (2, .int p2), (3, .int p3)]) (by decide) rfl (Nat.le_of_ble_eq_true rfl) rfl ?_
  intro p e s m below meth c F hr hlk C hP ls hl
  have hS : va_S (AX Z) s.heap s.heap [] := va_S.rf
  unfold fX3_fills at hE
  refine lv_iload_n F.1 F.2.1 dX3_fills_0 rfl (lv_at hl 1 rfl) ?_
  refine lv_if_lt (tgt := 30) F.1 F.2.1 dX3_fills_1 (by decide) (fun hc => ?_) (fun hc => ?_)
  · have hE := ifp hE hc
    obtain rfl := Option.some.inj hE
    exact ret_v F hr hlk hP hS dX3_fills_30
  · have hE := ifn hE hc
    refine lv_iload_n F.1 F.2.1 dX3_fills_4 rfl (lv_at hl 1 rfl) ?_
    refine lv_bipush (v := 24) F.1 F.2.1 dX3_fills_5 (by decide) ?_
    refine lv_icmp_ge (tgt := 30) F.1 F.2.1 dX3_fills_7 (by decide) (fun hc => ?_) (fun hc => ?_)
    · have hE := ifp hE hc
      obtain rfl := Option.some.inj hE
      exact ret_v F hr hlk hP hS dX3_fills_30
    · have hE := ifn hE hc
      refine lv_iload_n F.1 F.2.1 dX3_fills_10 rfl (lv_at hl 2 rfl) ?_
      refine lv_if_lt (tgt := 30) F.1 F.2.1 dX3_fills_11 (by decide) (fun hc => ?_) (fun hc => ?_)
      · have hE := ifp hE hc
        obtain rfl := Option.some.inj hE
        exact ret_v F hr hlk hP hS dX3_fills_30
      · have hE := ifn hE hc
        refine lv_iload_n F.1 F.2.1 dX3_fills_14 rfl (lv_at hl 2 rfl) ?_
        refine lv_iconst (v := 4) F.1 F.2.1 dX3_fills_15 (by decide) ?_
        refine lv_icmp_ge (tgt := 30) F.1 F.2.1 dX3_fills_16 (by decide) (fun hc => ?_) (fun hc => ?_)
        · have hE := ifp hE hc
          obtain rfl := Option.some.inj hE
          exact ret_v F hr hlk hP hS dX3_fills_30
        · have hE := ifn hE hc
          refine lv_aload_n F.1 F.2.1 dX3_fills_19 rfl (lv_at hl 0 rfl) ?_
          refine gX3_28 F C hP hj (updH_at _ _ _) dX3_fills_20 ?_
          refine lv_iload_n F.1 F.2.1 dX3_fills_23 rfl (lv_at hl 1 rfl) ?_
          refine lv_iconst (v := 4) F.1 F.2.1 dX3_fills_24 (by decide) ?_
          refine lv_imul F.1 F.2.1 dX3_fills_25 ?_
          refine lv_iload_n F.1 F.2.1 dX3_fills_26 rfl (lv_at hl 2 rfl) ?_
          refine lv_iadd F.1 F.2.1 dX3_fills_27 ?_
          refine lv_iload_n F.1 F.2.1 dX3_fills_28 rfl (lv_at hl 3 rfl) ?_
          obtain ⟨hi, hE⟩ := grd_some hE
          obtain ⟨X_182, eX_182, hE⟩ := lt_some hE
          refine sh5 F C hP hj (updH_at _ _ _) hi hS (updH_let eX_182) dX3_fills_29 (fun H locs hP hS => ?_)
          obtain rfl := Option.some.inj hE
          exact ret_v F hr hlk hP hS dX3_fills_30
set_option maxRecDepth 100000 in
set_option maxHeartbeats 4000000 in
theorem qX3_loses_39 {p : Program} {l : Launch} {e : Env} {s : State} {m : MethodId} {args : Array Value} {below : List Frame} {meth : Method} {c : Code} {Z : ZC} {HS : Nat → Nat → Nat → Int32} {j : Nat} {zkb : Int32} {zdr : Int32} {zky : Nat → Int32} {zpn : Int32} {zps : Int32} {ztz : Int32} {ztn : Nat → Int64} {zxz : Int32} {zxa : Int32} {zsg : Nat → Int32} {za0 : Int32} {za1 : Int32} {za2 : Int32} {za3 : Int32} {za4 : Int32} {zfr : Nat → Int32} {zcd : Int32} {zgo : Nat → Int32} {ztd : Int32} {ztv : Int32} {zcl : Nat → Int32} {zca : Nat → Int32} {zwa : Nat → Int32} {zpt : Nat → Int32} {zpf : Nat → Int32} {N : Nat} {p1 : Int32} {X' : Nat → Nat → Int32} (F : CallFix p m c cX3_loses 3 s args bigW RX3) (hr : meth.sig.returnType = none) (hlk : meth.locks = false) (C : KX Z s) (hj : j < 13) : ∀ (X : Nat → Nat → Int32), fX3_loses_39 N p1 X = some X' → ∀ (H : Heap) (locs : List Loc), PX Z (updH HS j X) zkb zdr zky zpn zps ztz ztn zxz zxa zsg za0 za1 za2 za3 za4 zfr zcd zgo ztd ztv zcl zca zwa zpt zpf H → va_S (AX Z) s.heap H locs → ∀ ls : Array Slot, lv_has ls 3 [(0, .ref (hA Z j 0)), (1, .int p1)] → W p l e (rmk 1 23) s m args below meth c H locs 0 0 (MQ below (Qv (KX Z) (AX Z) (PX Z (updH HS j X') zkb zdr zky zpn zps ztz ztn zxz zxa zsg za0 za1 za2 za3 za4 zfr zcd zgo ztd ztv zcl zca zwa zpt zpf)) args s 0 0 (AX Z)) (F0 m 39 ls []) := by
  intro X hE H locs hP hS ls hl
  unfold fX3_loses_39 at hE
  refine lv_aload_n F.1 F.2.1 dX3_loses_39 rfl (lv_at hl 0 rfl) ?_
  refine lv_dup F.1 F.2.1 dX3_loses_40 rfl ?_
  refine gX3_57 F C hP hj (updH_at _ _ _) dX3_loses_41 ?_
  refine lv_iconst (v := 1) F.1 F.2.1 dX3_loses_44 (by decide) ?_
  refine lv_iload_n F.1 F.2.1 dX3_loses_45 rfl (lv_at hl 1 rfl) ?_
  refine rj_ishl F.1 F.2.1 dX3_loses_46 ?_
  refine lv_iconst (v := (-1)) F.1 F.2.1 dX3_loses_47 (by decide) ?_
  refine lv_ixor F.1 F.2.1 dX3_loses_48 ?_
  refine lv_iand F.1 F.2.1 dX3_loses_49 ?_
  obtain ⟨X_188, eX_188, hE⟩ := lt_some hE
  refine pX3_57 F C hP hj (updH_at _ _ _) hS (updH_let eX_188) dX3_loses_50 (fun H locs hP hS => ?_)
  obtain rfl := Option.some.inj hE
  exact ret_v F hr hlk hP hS dX3_loses_53
set_option maxRecDepth 100000 in
set_option maxHeartbeats 4000000 in
theorem qX3_loses_2 {p : Program} {l : Launch} {e : Env} {s : State} {m : MethodId} {args : Array Value} {below : List Frame} {meth : Method} {c : Code} {Z : ZC} {HS : Nat → Nat → Nat → Int32} {j : Nat} {zkb : Int32} {zdr : Int32} {zky : Nat → Int32} {zpn : Int32} {zps : Int32} {ztz : Int32} {ztn : Nat → Int64} {zxz : Int32} {zxa : Int32} {zsg : Nat → Int32} {za0 : Int32} {za1 : Int32} {za2 : Int32} {za3 : Int32} {za4 : Int32} {zfr : Nat → Int32} {zcd : Int32} {zgo : Nat → Int32} {ztd : Int32} {ztv : Int32} {zcl : Nat → Int32} {zca : Nat → Int32} {zwa : Nat → Int32} {zpt : Nat → Int32} {zpf : Nat → Int32} {N : Nat} {p1 : Int32} {X' : Nat → Nat → Int32} (F : CallFix p m c cX3_loses 3 s args bigW RX3) (hr : meth.sig.returnType = none) (hlk : meth.locks = false) (C : KX Z s) (hj : j < 13) : ∀ n : Nat, ∀ (X : Nat → Nat → Int32) (x2 : Int32), fX3_loses_2 N p1 n X x2 = some X' → ∀ (H : Heap) (locs : List Loc), PX Z (updH HS j X) zkb zdr zky zpn zps ztz ztn zxz zxa zsg za0 za1 za2 za3 za4 zfr zcd zgo ztd ztv zcl zca zwa zpt zpf H → va_S (AX Z) s.heap H locs → ∀ ls : Array Slot, lv_has ls 3 [(0, .ref (hA Z j 0)), (1, .int p1), (2, .int x2)] → W p l e (rmk 1 23) s m args below meth c H locs 0 0 (MQ below (Qv (KX Z) (AX Z) (PX Z (updH HS j X') zkb zdr zky zpn zps ztz ztn zxz zxa zsg za0 za1 za2 za3 za4 zfr zcd zgo ztd ztv zcl zca zwa zpt zpf)) args s 0 0 (AX Z)) (F0 m 2 ls []) := by
  intro n
  induction n with
  | zero => intro X x2 hE; cases hE
  | succ n h2 =>
    intro X x2 hE H locs hP hS ls hl
    have hE : fX3_loses_2b N p1 (fX3_loses_2 N p1 n) X x2 = some X' := hE
    refine lv_iload_n F.1 F.2.1 dX3_loses_2 rfl (lv_at hl 2 rfl) ?_
    refine lv_iconst (v := 4) F.1 F.2.1 dX3_loses_3 (by decide) ?_
    refine lv_icmp_ge (tgt := 39) F.1 F.2.1 dX3_loses_4 (by decide) (fun hc => ?_) (fun hc => ?_)
    · have hE := ifp hE hc
      exact qX3_loses_39 F hr hlk C hj X hE _ _ hP hS ls (lv_sub hl [0, 1] rfl)
    · have hE := ifn hE hc
      refine lv_aload_n F.1 F.2.1 dX3_loses_7 rfl (lv_at hl 0 rfl) ?_
      refine gX3_34 F C hP hj (updH_at _ _ _) dX3_loses_8 ?_
      refine lv_iload_n F.1 F.2.1 dX3_loses_11 rfl (lv_at hl 2 rfl) ?_
      obtain ⟨hi, hE⟩ := grd_some hE
      refine ah7 F C hP hj (updH_at _ _ _) hi dX3_loses_12 ?_
      refine lv_iload_n F.1 F.2.1 dX3_loses_13 rfl (lv_at hl 1 rfl) ?_
      refine lv_icmp_ne (tgt := 33) F.1 F.2.1 dX3_loses_14 (by decide) (fun hc => ?_) (fun hc => ?_)
      · have hE := ifn hE hc
        refine lv_iinc (v := x2 + 1) (lv' := [(2, .int (x2 + 1)), (0, .ref (hA Z j 0)), (1, .int p1)]) F.1 F.2.1 dX3_loses_33 hl (k := 2) rfl rfl (by decide) rfl (fun ls hl => ?_)
        refine lv_goto (tgt := 2) F.1 F.2.1 dX3_loses_36 (by decide) ?_
        exact h2 X (x2 + 1) hE _ _ hP hS ls (lv_sub hl [1, 2, 0] rfl)
      · have hE := ifp hE hc
        refine lv_aload_n F.1 F.2.1 dX3_loses_17 rfl (lv_at hl 0 rfl) ?_
        refine gX3_34 F C hP hj (updH_at _ _ _) dX3_loses_18 ?_
        refine lv_iload_n F.1 F.2.1 dX3_loses_21 rfl (lv_at hl 2 rfl) ?_
        refine lv_iconst (v := (-1)) F.1 F.2.1 dX3_loses_22 (by decide) ?_
        obtain ⟨hi, hE⟩ := grd_some hE
        obtain ⟨X_186, eX_186, hE⟩ := lt_some hE
        refine sh7 F C hP hj (updH_at _ _ _) hi hS (updH_let eX_186) dX3_loses_23 (fun H locs hP hS => ?_)
        refine lv_aload_n F.1 F.2.1 dX3_loses_24 rfl (lv_at hl 0 rfl) ?_
        refine gX3_47 F C hP hj (updH_at _ _ _) dX3_loses_25 ?_
        refine lv_iconst (v := 5) F.1 F.2.1 dX3_loses_28 (by decide) ?_
        refine lv_iload_n F.1 F.2.1 dX3_loses_29 rfl (lv_at hl 1 rfl) ?_
        obtain ⟨X_187, hc, hE⟩ := bnd1_some hE
        refine aft_v (run_N (rest := []) F (kX4_adds hj (updH_at _ _ _) (updH_upd _ _ _ _) hc) (okX Z) C hS (C.2.2 _ _ mlX3_97 rfl) lkX3_97 ⟨Nat.le_of_ble_eq_true rfl, Nat.le_of_ble_eq_true rfl⟩ (rvh10 C hP hj) hP rfl hl.1 rfl (lv_room (Nat.le_of_ble_eq_true rfl)) dX3_loses_30 ⟨Nat.zero_le _, Nat.zero_le _⟩) hS (fun H locs hP hS => ?_)
        refine lv_iinc (v := x2 + 1) (lv' := [(2, .int (x2 + 1)), (0, .ref (hA Z j 0)), (1, .int p1)]) F.1 F.2.1 dX3_loses_33 hl (k := 2) rfl rfl (by decide) rfl (fun ls hl => ?_)
        refine lv_goto (tgt := 2) F.1 F.2.1 dX3_loses_36 (by decide) ?_
        exact h2 X_187 (x2 + 1) hE _ _ hP hS ls (lv_sub hl [1, 2, 0] rfl)
set_option maxRecDepth 100000 in
set_option maxHeartbeats 4000000 in
theorem kX3_loses {l : Launch} {Z : ZC} {HS : Nat → Nat → Nat → Int32} {j : Nat} {X : Nat → Nat → Int32} {zkb : Int32} {zdr : Int32} {zky : Nat → Int32} {zpn : Int32} {zps : Int32} {ztz : Int32} {ztn : Nat → Int64} {zxz : Int32} {zxa : Int32} {zsg : Nat → Int32} {za0 : Int32} {za1 : Int32} {za2 : Int32} {za3 : Int32} {za4 : Int32} {zfr : Nat → Int32} {zcd : Int32} {zgo : Nat → Int32} {ztd : Int32} {ztv : Int32} {zcl : Nat → Int32} {zca : Nat → Int32} {zwa : Nat → Int32} {zpt : Nat → Int32} {zpf : Nat → Int32} {N : Nat} {p1 : Int32} {X' : Nat → Nat → Int32} (hj : j < 13) (hX : HS j = X) {HS1 : Nat → Nat → Nat → Int32} (h1 : updH HS j X' = HS1) (hE : fX3_loses N X p1 = some X') : Mg l yX3_loses cX3_loses 3 none (rmk 1 23) (KX Z) (AX Z) [.ref (hA Z j 0), .int p1] (PX Z HS zkb zdr zky zpn zps ztz ztn zxz zxa zsg za0 za1 za2 za3 za4 zfr zcd zgo ztd ztv zcl zca zwa zpt zpf) (Qv (KX Z) (AX Z) (PX Z HS1 zkb zdr zky zpn zps ztz ztn zxz zxa zsg za0 za1 za2 za3 za4 zfr zcd zgo ztd ztv zcl zca zwa zpt zpf)) := by
  subst h1
  rw [← updH_eq hX, updH_upd]
  refine Mg.start (lv := [(0, .ref (hA Z j 0)), (1, .int p1)]) (by decide) rfl (Nat.le_of_ble_eq_true rfl) rfl ?_
  intro p e s m below meth c F hr hlk C hP ls hl
  have hS : va_S (AX Z) s.heap s.heap [] := va_S.rf
  unfold fX3_loses at hE
  refine lv_iconst (v := 0) F.1 F.2.1 dX3_loses_0 (by decide) ?_
  refine lv_istore_n (lv' := [(2, .int 0), (0, .ref (hA Z j 0)), (1, .int p1)]) F.1 F.2.1 dX3_loses_1 rfl hl (by decide) rfl (fun ls hl => ?_)
  exact qX3_loses_2 F hr hlk C hj N X 0 hE _ _ hP hS ls (lv_sub hl [1, 2, 0] rfl)
set_option maxRecDepth 100000 in
set_option maxHeartbeats 4000000 in
theorem qX2_goesOnFreeing_49 {p : Program} {l : Launch} {e : Env} {s : State} {m : MethodId} {args : Array Value} {below : List Frame} {meth : Method} {c : Code} {Z : ZC} {HS : Nat → Nat → Nat → Int32} {j : Nat} {zkb : Int32} {zdr : Int32} {zky : Nat → Int32} {zpn : Int32} {zps : Int32} {ztz : Int32} {ztn : Nat → Int64} {zxz : Int32} {zxa : Int32} {zsg : Nat → Int32} {za0 : Int32} {za1 : Int32} {za2 : Int32} {za3 : Int32} {za4 : Int32} {zfr : Nat → Int32} {zgo : Nat → Int32} {ztd : Int32} {ztv : Int32} {zcl : Nat → Int32} {zca : Nat → Int32} {zwa : Nat → Int32} {zpt : Nat → Int32} {zpf : Nat → Int32} {N : Nat} {r' : Int32} {zcd' : Int32} {X' : Nat → Nat → Int32} (F : CallFix p m c cX2_goesOnFreeing 5 s args bigW RX2) (hr : meth.sig.returnType = (some .int)) (hlk : meth.locks = false) (C : KX Z s) (hj : j < 13) : ∀ (zcd : Int32) (X : Nat → Nat → Int32) (x2 : Int32), fX2_goesOnFreeing_49 N zgo zcd X x2 = some (r', zcd', X') → ∀ (H : Heap) (locs : List Loc), PX Z (updH HS j X) zkb zdr zky zpn zps ztz ztn zxz zxa zsg za0 za1 za2 za3 za4 zfr zcd zgo ztd ztv zcl zca zwa zpt zpf H → va_S (AX Z) s.heap H locs → ∀ ls : Array Slot, lv_has ls 5 [(0, .ref (oA Z 11)), (1, .ref (hA Z j 0)), (2, .int x2)] → W p l e (rmk 2 45) s m args below meth c H locs 0 0 (MQ below (Qi (KX Z) (AX Z) (PX Z (updH HS j X') zkb zdr zky zpn zps ztz ztn zxz zxa zsg za0 za1 za2 za3 za4 zfr zcd' zgo ztd ztv zcl zca zwa zpt zpf) r') args s 0 0 (AX Z)) (F0 m 49 ls []) := by
  intro zcd X x2 hE H locs hP hS ls hl
  unfold fX2_goesOnFreeing_49 at hE
  refine lv_aload_n F.1 F.2.1 dX2_goesOnFreeing_49 rfl (lv_at hl 0 rfl) ?_
  refine lv_dup F.1 F.2.1 dX2_goesOnFreeing_50 rfl ?_
  refine gX2_49 F C hP dX2_goesOnFreeing_51 ?_
  refine lv_iconst (v := 1) F.1 F.2.1 dX2_goesOnFreeing_54 (by decide) ?_
  refine lv_isub F.1 F.2.1 dX2_goesOnFreeing_55 ?_
  obtain ⟨zcd_197, ezcd_197, hE⟩ := lt_some hE
  refine pX2_49 F C hP hS ezcd_197.symm dX2_goesOnFreeing_56 (fun H locs hP hS => ?_)
  refine lv_aload_n F.1 F.2.1 dX2_goesOnFreeing_59 rfl (lv_at hl 1 rfl) ?_
  refine lv_iload_n F.1 F.2.1 dX2_goesOnFreeing_60 rfl (lv_at hl 2 rfl) ?_
  obtain ⟨X_198, hc, hE⟩ := bnd1_some hE
  refine aft_v (run_N (rest := []) F (kX3_loses hj (updH_at _ _ _) (updH_upd _ _ _ _) hc) (okX Z) C hS (C.2.2 _ _ mlX2_94 rfl) lkX2_94 ⟨Nat.le_of_ble_eq_true rfl, Nat.le_of_ble_eq_true rfl⟩ (rvh0 C hP hj) hP rfl hl.1 rfl (lv_room (Nat.le_of_ble_eq_true rfl)) dX2_goesOnFreeing_61 ⟨Nat.zero_le _, Nat.zero_le _⟩) hS (fun H locs hP hS => ?_)
  refine lv_iconst (v := (-1)) F.1 F.2.1 dX2_goesOnFreeing_64 (by decide) ?_
  have w0 := Option.some.inj hE
  obtain ⟨g0, w1⟩ := Prod.mk.inj w0
  obtain ⟨g1, w2⟩ := Prod.mk.inj w1
  subst g0 g1 w2
  exact ret_i F hr hlk hP hS dX2_goesOnFreeing_65
set_option maxRecDepth 100000 in
set_option maxHeartbeats 4000000 in
theorem qX2_goesOnFreeing_14 {p : Program} {l : Launch} {e : Env} {s : State} {m : MethodId} {args : Array Value} {below : List Frame} {meth : Method} {c : Code} {Z : ZC} {HS : Nat → Nat → Nat → Int32} {j : Nat} {zkb : Int32} {zdr : Int32} {zky : Nat → Int32} {zpn : Int32} {zps : Int32} {ztz : Int32} {ztn : Nat → Int64} {zxz : Int32} {zxa : Int32} {zsg : Nat → Int32} {za0 : Int32} {za1 : Int32} {za2 : Int32} {za3 : Int32} {za4 : Int32} {zfr : Nat → Int32} {zgo : Nat → Int32} {ztd : Int32} {ztv : Int32} {zcl : Nat → Int32} {zca : Nat → Int32} {zwa : Nat → Int32} {zpt : Nat → Int32} {zpf : Nat → Int32} {N : Nat} {r' : Int32} {zcd' : Int32} {X' : Nat → Nat → Int32} (F : CallFix p m c cX2_goesOnFreeing 5 s args bigW RX2) (hr : meth.sig.returnType = (some .int)) (hlk : meth.locks = false) (C : KX Z s) (hj : j < 13) : ∀ n : Nat, ∀ (zcd : Int32) (X : Nat → Nat → Int32) (x2 : Int32) (x3 : Int32), fX2_goesOnFreeing_14 N zgo n zcd X x2 x3 = some (r', zcd', X') → ∀ (H : Heap) (locs : List Loc), PX Z (updH HS j X) zkb zdr zky zpn zps ztz ztn zxz zxa zsg za0 za1 za2 za3 za4 zfr zcd zgo ztd ztv zcl zca zwa zpt zpf H → va_S (AX Z) s.heap H locs → ∀ ls : Array Slot, lv_has ls 5 [(0, .ref (oA Z 11)), (1, .ref (hA Z j 0)), (2, .int x2), (3, .int x3)] → W p l e (rmk 2 45) s m args below meth c H locs 0 0 (MQ below (Qi (KX Z) (AX Z) (PX Z (updH HS j X') zkb zdr zky zpn zps ztz ztn zxz zxa zsg za0 za1 za2 za3 za4 zfr zcd' zgo ztd ztv zcl zca zwa zpt zpf) r') args s 0 0 (AX Z)) (F0 m 14 ls []) := by
  intro n
  induction n with
  | zero => intro zcd X x2 x3 hE; cases hE
  | succ n h14 =>
    intro zcd X x2 x3 hE H locs hP hS ls hl
    have hE : fX2_goesOnFreeing_14b N zgo (fX2_goesOnFreeing_14 N zgo n) zcd X x2 x3 = some (r', zcd', X') := hE
    refine lv_iload_n F.1 F.2.1 dX2_goesOnFreeing_14 rfl (lv_at hl 3 rfl) ?_
    refine lv_iconst (v := 4) F.1 F.2.1 dX2_goesOnFreeing_15 (by decide) ?_
    refine lv_icmp_ge (tgt := 49) F.1 F.2.1 dX2_goesOnFreeing_16 (by decide) (fun hc => ?_) (fun hc => ?_)
    · have hE := ifp hE hc
      exact qX2_goesOnFreeing_49 F hr hlk C hj zcd X x2 hE _ _ hP hS ls (lv_sub hl [0, 1, 2] rfl)
    · have hE := ifn hE hc
      refine lv_aload_n F.1 F.2.1 dX2_goesOnFreeing_19 rfl (lv_at hl 1 rfl) ?_
      refine lv_iload_n F.1 F.2.1 dX2_goesOnFreeing_20 rfl (lv_at hl 2 rfl) ?_
      refine lv_iload_n F.1 F.2.1 dX2_goesOnFreeing_21 rfl (lv_at hl 3 rfl) ?_
      obtain ⟨r195, hc, hE⟩ := bnd1_some hE
      refine aft_i (run_N (rest := []) F (kX3_fieldAt hj (updH_at _ _ _) hc) (okX Z) C hS (C.2.2 _ _ mlX2_15 rfl) lkX2_15 ⟨Nat.le_of_ble_eq_true rfl, Nat.le_of_ble_eq_true rfl⟩ (rvh0 C hP hj) hP rfl hl.1 rfl (lv_room (Nat.le_of_ble_eq_true rfl)) dX2_goesOnFreeing_22 ⟨Nat.zero_le _, Nat.zero_le _⟩) hS (fun H locs hP hS => ?_)
      refine lv_istore (lv' := [(4, .int r195), (0, .ref (oA Z 11)), (1, .ref (hA Z j 0)), (2, .int x2), (3, .int x3)]) F.1 F.2.1 dX2_goesOnFreeing_25 hl (by decide) rfl (fun ls hl => ?_)
      refine lv_iload F.1 F.2.1 dX2_goesOnFreeing_27 (lv_at hl 0 rfl) ?_
      refine lv_iconst (v := (-1)) F.1 F.2.1 dX2_goesOnFreeing_29 (by decide) ?_
      refine lv_icmp_eq (tgt := 43) F.1 F.2.1 dX2_goesOnFreeing_30 (by decide) (fun hc => ?_) (fun hc => ?_)
      · have hE := ifp hE hc
        refine lv_iinc (v := x3 + 1) (lv' := [(3, .int (x3 + 1)), (4, .int r195), (0, .ref (oA Z 11)), (1, .ref (hA Z j 0)), (2, .int x2)]) F.1 F.2.1 dX2_goesOnFreeing_43 hl (k := 4) rfl rfl (by decide) rfl (fun ls hl => ?_)
        refine lv_goto (tgt := 14) F.1 F.2.1 dX2_goesOnFreeing_46 (by decide) ?_
        exact h14 zcd X x2 (x3 + 1) hE _ _ hP hS ls (lv_sub hl [2, 3, 4, 0] rfl)
      · have hE := ifn hE hc
        refine lv_aload_n F.1 F.2.1 dX2_goesOnFreeing_33 rfl (lv_at hl 2 rfl) ?_
        refine lv_iload_n F.1 F.2.1 dX2_goesOnFreeing_34 rfl (lv_at hl 3 rfl) ?_
        refine lv_iload_n F.1 F.2.1 dX2_goesOnFreeing_35 rfl (lv_at hl 4 rfl) ?_
        refine lv_iconst (v := (-1)) F.1 F.2.1 dX2_goesOnFreeing_36 (by decide) ?_
        obtain ⟨X_196, hc, hE⟩ := bnd1_some hE
        refine aft_v (run_N (rest := []) F (kX3_fills hj (updH_at _ _ _) (updH_upd _ _ _ _) hc) (okX Z) C hS (C.2.2 _ _ mlX2_21 rfl) lkX2_21 ⟨Nat.le_of_ble_eq_true rfl, Nat.le_of_ble_eq_true rfl⟩ (rvh0 C hP hj) hP rfl hl.1 rfl (lv_room (Nat.le_of_ble_eq_true rfl)) dX2_goesOnFreeing_37 ⟨Nat.zero_le _, Nat.zero_le _⟩) hS (fun H locs hP hS => ?_)
        refine lv_iload F.1 F.2.1 dX2_goesOnFreeing_40 (lv_at hl 0 rfl) ?_
        have w0 := Option.some.inj hE
        obtain ⟨g0, w1⟩ := Prod.mk.inj w0
        obtain ⟨g1, w2⟩ := Prod.mk.inj w1
        subst g0 g1 w2
        exact ret_i F hr hlk hP hS dX2_goesOnFreeing_42
set_option maxRecDepth 100000 in
set_option maxHeartbeats 4000000 in
theorem kX2_goesOnFreeing {l : Launch} {Z : ZC} {HS : Nat → Nat → Nat → Int32} {j : Nat} {X : Nat → Nat → Int32} {zkb : Int32} {zdr : Int32} {zky : Nat → Int32} {zpn : Int32} {zps : Int32} {ztz : Int32} {ztn : Nat → Int64} {zxz : Int32} {zxa : Int32} {zsg : Nat → Int32} {za0 : Int32} {za1 : Int32} {za2 : Int32} {za3 : Int32} {za4 : Int32} {zfr : Nat → Int32} {zcd : Int32} {zgo : Nat → Int32} {ztd : Int32} {ztv : Int32} {zcl : Nat → Int32} {zca : Nat → Int32} {zwa : Nat → Int32} {zpt : Nat → Int32} {zpf : Nat → Int32} {N : Nat} {r' : Int32} {zcd' : Int32} {X' : Nat → Nat → Int32} (hj : j < 13) (hX : HS j = X) {HS1 : Nat → Nat → Nat → Int32} (h1 : updH HS j X' = HS1) (hE : fX2_goesOnFreeing N zcd zgo X = some (r', zcd', X')) : Mg l yX2_goesOnFreeing cX2_goesOnFreeing 5 (some .int) (rmk 2 45) (KX Z) (AX Z) [.ref (oA Z 11), .ref (hA Z j 0)] (PX Z HS zkb zdr zky zpn zps ztz ztn zxz zxa zsg za0 za1 za2 za3 za4 zfr zcd zgo ztd ztv zcl zca zwa zpt zpf) (Qi (KX Z) (AX Z) (PX Z HS1 zkb zdr zky zpn zps ztz ztn zxz zxa zsg za0 za1 za2 za3 za4 zfr zcd' zgo ztd ztv zcl zca zwa zpt zpf) r') := by
  subst h1
  rw [← updH_eq hX, updH_upd]
  refine Mg.start (lv := [(0, .ref (oA Z 11)), (1, .ref (hA Z j 0))]) (by decide) rfl (Nat.le_of_ble_eq_true rfl) rfl ?_
  intro p e s m below meth c F hr hlk C hP ls hl
  have hS : va_S (AX Z) s.heap s.heap [] := va_S.rf
  unfold fX2_goesOnFreeing at hE
  refine lv_aload_n F.1 F.2.1 dX2_goesOnFreeing_0 rfl (lv_at hl 0 rfl) ?_
  refine gX2_9 F C hP dX2_goesOnFreeing_1 ?_
  refine lv_aload_n F.1 F.2.1 dX2_goesOnFreeing_4 rfl (lv_at hl 0 rfl) ?_
  refine gX2_49 F C hP dX2_goesOnFreeing_5 ?_
  refine lv_iconst (v := 1) F.1 F.2.1 dX2_goesOnFreeing_8 (by decide) ?_
  refine lv_isub F.1 F.2.1 dX2_goesOnFreeing_9 ?_
  obtain ⟨hi, hE⟩ := grd_some hE
  refine ao12 F C hP hi dX2_goesOnFreeing_10 ?_
  obtain ⟨v_194, ev_194, hE⟩ := lt_some hE
  refine lv_seti ev_194 ?_
  refine lv_istore_n (lv' := [(2, .int v_194), (0, .ref (oA Z 11)), (1, .ref (hA Z j 0))]) F.1 F.2.1 dX2_goesOnFreeing_11 rfl hl (by decide) rfl (fun ls hl => ?_)
  refine lv_iconst (v := 0) F.1 F.2.1 dX2_goesOnFreeing_12 (by decide) ?_
  refine lv_istore_n (lv' := [(3, .int 0), (2, .int v_194), (0, .ref (oA Z 11)), (1, .ref (hA Z j 0))]) F.1 F.2.1 dX2_goesOnFreeing_13 rfl hl (by decide) rfl (fun ls hl => ?_)
  exact qX2_goesOnFreeing_14 F hr hlk C hj N zcd X v_194 0 hE _ _ hP hS ls (lv_sub hl [2, 3, 1, 0] rfl)
set_option maxRecDepth 100000 in
set_option maxHeartbeats 4000000 in
theorem qX2_countsDown_29 {p : Program} {l : Launch} {e : Env} {s : State} {m : MethodId} {args : Array Value} {below : List Frame} {meth : Method} {c : Code} {Z : ZC} {HS : Nat → Nat → Nat → Int32} {j : Nat} {zkb : Int32} {zdr : Int32} {zky : Nat → Int32} {zpn : Int32} {zps : Int32} {ztz : Int32} {ztn : Nat → Int64} {zxz : Int32} {zxa : Int32} {zsg : Nat → Int32} {za0 : Int32} {za1 : Int32} {za2 : Int32} {za3 : Int32} {za4 : Int32} {zfr : Nat → Int32} {ztd : Int32} {ztv : Int32} {zcl : Nat → Int32} {zca : Nat → Int32} {zwa : Nat → Int32} {zpt : Nat → Int32} {zpf : Nat → Int32} {N : Nat} {p2 : Int32} {zcd' : Int32} {zgo' : Nat → Int32} {X' : Nat → Nat → Int32} (F : CallFix p m c cX2_countsDown 5 s args bigW RX2) (hr : meth.sig.returnType = none) (hlk : meth.locks = false) (C : KX Z s) (hj : j < 13) {k10 : Int32 → (Nat → Int32) → (Nat → Nat → Int32) → Int32 → Int32 → Option (Int32 × (Nat → Int32) × (Nat → Nat → Int32))} (h10 : ∀ (zcd : Int32) (zgo : Nat → Int32) (X : Nat → Nat → Int32) (x3 : Int32) (x4 : Int32), k10 zcd zgo X x3 x4 = some (zcd', zgo', X') → ∀ (H : Heap) (locs : List Loc), PX Z (updH HS j X) zkb zdr zky zpn zps ztz ztn zxz zxa zsg za0 za1 za2 za3 za4 zfr zcd zgo ztd ztv zcl zca zwa zpt zpf H → va_S (AX Z) s.heap H locs → ∀ ls : Array Slot, lv_has ls 5 [(0, .ref (oA Z 11)), (1, .ref (hA Z j 0)), (3, .int x3), (4, .int x4)] → W p l e (rmk 3 70) s m args below meth c H locs 0 0 (MQ below (Qv (KX Z) (AX Z) (PX Z (updH HS j X') zkb zdr zky zpn zps ztz ztn zxz zxa zsg za0 za1 za2 za3 za4 zfr zcd' zgo' ztd ztv zcl zca zwa zpt zpf)) args s 0 0 (AX Z)) (F0 m 10 ls [])) : ∀ (zcd : Int32) (zgo : Nat → Int32) (X : Nat → Nat → Int32) (x3 : Int32) (x4 : Int32), fX2_countsDown_29 N p2 k10 zcd zgo X x3 x4 = some (zcd', zgo', X') → ∀ (H : Heap) (locs : List Loc), PX Z (updH HS j X) zkb zdr zky zpn zps ztz ztn zxz zxa zsg za0 za1 za2 za3 za4 zfr zcd zgo ztd ztv zcl zca zwa zpt zpf H → va_S (AX Z) s.heap H locs → ∀ ls : Array Slot, lv_has ls 5 [(0, .ref (oA Z 11)), (1, .ref (hA Z j 0)), (3, .int x3), (4, .int x4)] → W p l e (rmk 3 70) s m args below meth c H locs 0 0 (MQ below (Qv (KX Z) (AX Z) (PX Z (updH HS j X') zkb zdr zky zpn zps ztz ztn zxz zxa zsg za0 za1 za2 za3 za4 zfr zcd' zgo' ztd ztv zcl zca zwa zpt zpf)) args s 0 0 (AX Z)) (F0 m 29 ls []) := by
  intro zcd zgo X x3 x4 hE H locs hP hS ls hl
  unfold fX2_countsDown_29 at hE
  refine lv_iload_n F.1 F.2.1 dX2_countsDown_29 rfl (lv_at hl 2 rfl) ?_
  refine lv_iconst (v := (-1)) F.1 F.2.1 dX2_countsDown_30 (by decide) ?_
  refine lv_icmp_eq (tgt := 43) F.1 F.2.1 dX2_countsDown_31 (by decide) (fun hc => ?_) (fun hc => ?_)
  · have hE := ifp hE hc
    refine lv_aload_n F.1 F.2.1 dX2_countsDown_43 rfl (lv_at hl 0 rfl) ?_
    refine lv_aload_n F.1 F.2.1 dX2_countsDown_44 rfl (lv_at hl 1 rfl) ?_
    obtain ⟨r201, zcd_201, X_201, hc, hE⟩ := bnd3_some hE
    refine aft_i (run_V (rest := []) F (kX2_goesOnFreeing hj (updH_at _ _ _) (updH_upd _ _ _ _) hc) (okX Z) C hS lkX2_58 ⟨Nat.le_of_ble_eq_true rfl, Nat.le_of_ble_eq_true rfl⟩ (rvo11 C hP) hP rfl hl.1 rfl (lv_room (Nat.le_of_ble_eq_true rfl)) dX2_countsDown_45 ⟨Nat.zero_le _, Nat.zero_le _⟩) hS (fun H locs hP hS => ?_)
    refine lv_istore_n (lv' := [(3, .int r201), (0, .ref (oA Z 11)), (1, .ref (hA Z j 0)), (4, .int x4)]) F.1 F.2.1 dX2_countsDown_48 rfl hl (by decide) rfl (fun ls hl => ?_)
    refine lv_iinc (v := x4 + 1) (lv' := [(4, .int (x4 + 1)), (3, .int r201), (0, .ref (oA Z 11)), (1, .ref (hA Z j 0))]) F.1 F.2.1 dX2_countsDown_49 hl (k := 3) rfl rfl (by decide) rfl (fun ls hl => ?_)
    refine lv_goto (tgt := 10) F.1 F.2.1 dX2_countsDown_52 (by decide) ?_
    exact h10 zcd_201 zgo X_201 r201 (x4 + 1) hE _ _ hP hS ls (lv_sub hl [2, 3, 1, 0] rfl)
  · have hE := ifn hE hc
    refine lv_aload_n F.1 F.2.1 dX2_countsDown_34 rfl (lv_at hl 0 rfl) ?_
    refine lv_aload_n F.1 F.2.1 dX2_countsDown_35 rfl (lv_at hl 1 rfl) ?_
    refine lv_iload_n F.1 F.2.1 dX2_countsDown_36 rfl (lv_at hl 2 rfl) ?_
    obtain ⟨r202, zcd_202, zgo_202, X_202, hc, hE⟩ := bnd4_some hE
    refine aft_i (run_V (rest := []) F (kX2_countsOneDown hj (updH_at _ _ _) (updH_upd _ _ _ _) hc) (okX Z) C hS lkX2_54 ⟨Nat.le_of_ble_eq_true rfl, Nat.le_of_ble_eq_true rfl⟩ (rvo11 C hP) hP rfl hl.1 rfl (lv_room (Nat.le_of_ble_eq_true rfl)) dX2_countsDown_37 ⟨Nat.zero_le _, Nat.zero_le _⟩) hS (fun H locs hP hS => ?_)
    refine lv_goto (tgt := 48) F.1 F.2.1 dX2_countsDown_40 (by decide) ?_
    refine lv_istore_n (lv' := [(3, .int r202), (0, .ref (oA Z 11)), (1, .ref (hA Z j 0)), (4, .int x4)]) F.1 F.2.1 dX2_countsDown_48 rfl hl (by decide) rfl (fun ls hl => ?_)
    refine lv_iinc (v := x4 + 1) (lv' := [(4, .int (x4 + 1)), (3, .int r202), (0, .ref (oA Z 11)), (1, .ref (hA Z j 0))]) F.1 F.2.1 dX2_countsDown_49 hl (k := 3) rfl rfl (by decide) rfl (fun ls hl => ?_)
    refine lv_goto (tgt := 10) F.1 F.2.1 dX2_countsDown_52 (by decide) ?_
    exact h10 zcd_202 zgo_202 X_202 r202 (x4 + 1) hE _ _ hP hS ls (lv_sub hl [2, 3, 1, 0] rfl)
set_option maxRecDepth 100000 in
set_option maxHeartbeats 4000000 in
theorem qX2_countsDown_10 {p : Program} {l : Launch} {e : Env} {s : State} {m : MethodId} {args : Array Value} {below : List Frame} {meth : Method} {c : Code} {Z : ZC} {HS : Nat → Nat → Nat → Int32} {j : Nat} {zkb : Int32} {zdr : Int32} {zky : Nat → Int32} {zpn : Int32} {zps : Int32} {ztz : Int32} {ztn : Nat → Int64} {zxz : Int32} {zxa : Int32} {zsg : Nat → Int32} {za0 : Int32} {za1 : Int32} {za2 : Int32} {za3 : Int32} {za4 : Int32} {zfr : Nat → Int32} {ztd : Int32} {ztv : Int32} {zcl : Nat → Int32} {zca : Nat → Int32} {zwa : Nat → Int32} {zpt : Nat → Int32} {zpf : Nat → Int32} {N : Nat} {p2 : Int32} {zcd' : Int32} {zgo' : Nat → Int32} {X' : Nat → Nat → Int32} (F : CallFix p m c cX2_countsDown 5 s args bigW RX2) (hr : meth.sig.returnType = none) (hlk : meth.locks = false) (C : KX Z s) (hj : j < 13) : ∀ n : Nat, ∀ (zcd : Int32) (zgo : Nat → Int32) (X : Nat → Nat → Int32) (x3 : Int32) (x4 : Int32), fX2_countsDown_10 N p2 n zcd zgo X x3 x4 = some (zcd', zgo', X') → ∀ (H : Heap) (locs : List Loc), PX Z (updH HS j X) zkb zdr zky zpn zps ztz ztn zxz zxa zsg za0 za1 za2 za3 za4 zfr zcd zgo ztd ztv zcl zca zwa zpt zpf H → va_S (AX Z) s.heap H locs → ∀ ls : Array Slot, lv_has ls 5 [(0, .ref (oA Z 11)), (1, .ref (hA Z j 0)), (3, .int x3), (4, .int x4)] → W p l e (rmk 3 70) s m args below meth c H locs 0 0 (MQ below (Qv (KX Z) (AX Z) (PX Z (updH HS j X') zkb zdr zky zpn zps ztz ztn zxz zxa zsg za0 za1 za2 za3 za4 zfr zcd' zgo' ztd ztv zcl zca zwa zpt zpf)) args s 0 0 (AX Z)) (F0 m 10 ls []) := by
  intro n
  induction n with
  | zero => intro zcd zgo X x3 x4 hE; cases hE
  | succ n h10 =>
    intro zcd zgo X x3 x4 hE H locs hP hS ls hl
    have hE : fX2_countsDown_10b N p2 (fX2_countsDown_10 N p2 n) zcd zgo X x3 x4 = some (zcd', zgo', X') := hE
    refine lv_iload F.1 F.2.1 dX2_countsDown_10 (lv_at hl 3 rfl) ?_
    refine lv_ldc (v := 100000) F.1 F.2.1 F.2.2.2.1 (F.2.2.2.2 _ (bw_t 502 (by decide +kernel) rfl)) dX2_countsDown_12 ?_
    refine lv_icmp_ge (tgt := 55) F.1 F.2.1 dX2_countsDown_14 (by decide) (fun hc => ?_) (fun hc => ?_)
    · have hE := ifp hE hc
      have w0 := Option.some.inj hE
      obtain ⟨g0, w1⟩ := Prod.mk.inj w0
      obtain ⟨g1, w2⟩ := Prod.mk.inj w1
      subst g0 g1 w2
      exact ret_v F hr hlk hP hS dX2_countsDown_55
    · have hE := ifn hE hc
      refine lv_iload_n F.1 F.2.1 dX2_countsDown_17 rfl (lv_at hl 2 rfl) ?_
      refine lv_iconst (v := (-1)) F.1 F.2.1 dX2_countsDown_18 (by decide) ?_
      refine lv_icmp_ne (tgt := 29) F.1 F.2.1 dX2_countsDown_19 (by decide) (fun hc => ?_) (fun hc => ?_)
      · have hE := ifn hE hc
        exact qX2_countsDown_29 F hr hlk C hj h10 zcd zgo X x3 x4 hE _ _ hP hS ls (lv_sub hl [0, 1, 2, 3] rfl)
      · have hE := ifp hE hc
        refine lv_aload_n F.1 F.2.1 dX2_countsDown_22 rfl (lv_at hl 0 rfl) ?_
        refine gX2_49 F C hP dX2_countsDown_23 ?_
        refine lv_if_le (tgt := 55) F.1 F.2.1 dX2_countsDown_26 (by decide) (fun hc => ?_) (fun hc => ?_)
        · have hE := ifp hE hc
          have w0 := Option.some.inj hE
          obtain ⟨g0, w1⟩ := Prod.mk.inj w0
          obtain ⟨g1, w2⟩ := Prod.mk.inj w1
          subst g0 g1 w2
          exact ret_v F hr hlk hP hS dX2_countsDown_55
        · have hE := ifn hE hc
          exact qX2_countsDown_29 F hr hlk C hj h10 zcd zgo X x3 x4 hE _ _ hP hS ls (lv_sub hl [0, 1, 2, 3] rfl)
set_option maxRecDepth 100000 in
set_option maxHeartbeats 4000000 in
theorem kX2_countsDown {l : Launch} {Z : ZC} {HS : Nat → Nat → Nat → Int32} {j : Nat} {X : Nat → Nat → Int32} {zkb : Int32} {zdr : Int32} {zky : Nat → Int32} {zpn : Int32} {zps : Int32} {ztz : Int32} {ztn : Nat → Int64} {zxz : Int32} {zxa : Int32} {zsg : Nat → Int32} {za0 : Int32} {za1 : Int32} {za2 : Int32} {za3 : Int32} {za4 : Int32} {zfr : Nat → Int32} {zcd : Int32} {zgo : Nat → Int32} {ztd : Int32} {ztv : Int32} {zcl : Nat → Int32} {zca : Nat → Int32} {zwa : Nat → Int32} {zpt : Nat → Int32} {zpf : Nat → Int32} {N : Nat} {p2 : Int32} {zcd' : Int32} {zgo' : Nat → Int32} {X' : Nat → Nat → Int32} (hj : j < 13) (hX : HS j = X) {HS1 : Nat → Nat → Nat → Int32} (h1 : updH HS j X' = HS1) (hE : fX2_countsDown N zcd zgo X p2 = some (zcd', zgo', X')) : Mg l yX2_countsDown cX2_countsDown 5 none (rmk 3 70) (KX Z) (AX Z) [.ref (oA Z 11), .ref (hA Z j 0), .int p2] (PX Z HS zkb zdr zky zpn zps ztz ztn zxz zxa zsg za0 za1 za2 za3 za4 zfr zcd zgo ztd ztv zcl zca zwa zpt zpf) (Qv (KX Z) (AX Z) (PX Z HS1 zkb zdr zky zpn zps ztz ztn zxz zxa zsg za0 za1 za2 za3 za4 zfr zcd' zgo' ztd ztv zcl zca zwa zpt zpf)) := by
  subst h1
  rw [← updH_eq hX, updH_upd]
  refine Mg.start (lv := [(0, .ref (oA Z 11)), (1, .ref (hA Z j 0)), (2, .int p2)]) (by decide) rfl (Nat.le_of_ble_eq_true rfl) rfl ?_
  intro p e s m below meth c F hr hlk C hP ls hl
  have hS : va_S (AX Z) s.heap s.heap [] := va_S.rf
  unfold fX2_countsDown at hE
  refine lv_aload_n F.1 F.2.1 dX2_countsDown_0 rfl (lv_at hl 0 rfl) ?_
  refine lv_iconst (v := 0) F.1 F.2.1 dX2_countsDown_1 (by decide) ?_
  refine pX2_49 F C hP hS rfl dX2_countsDown_2 (fun H locs hP hS => ?_)
  refine lv_iload_n F.1 F.2.1 dX2_countsDown_5 rfl (lv_at hl 2 rfl) ?_
  refine lv_istore_n (lv' := [(3, .int p2), (0, .ref (oA Z 11)), (1, .ref (hA Z j 0)), (2, .int p2)]) F.1 F.2.1 dX2_countsDown_6 rfl hl (by decide) rfl (fun ls hl => ?_)
  refine lv_iconst (v := 0) F.1 F.2.1 dX2_countsDown_7 (by decide) ?_
  refine lv_istore (lv' := [(4, .int 0), (3, .int p2), (0, .ref (oA Z 11)), (1, .ref (hA Z j 0)), (2, .int p2)]) F.1 F.2.1 dX2_countsDown_8 hl (by decide) rfl (fun ls hl => ?_)
  exact qX2_countsDown_10 F hr hlk C hj N 0 zgo X p2 0 hE _ _ hP hS ls (lv_sub hl [2, 3, 1, 0] rfl)
set_option maxRecDepth 100000 in
set_option maxHeartbeats 4000000 in
theorem qX2_recounts_23 {p : Program} {l : Launch} {e : Env} {s : State} {m : MethodId} {args : Array Value} {below : List Frame} {meth : Method} {c : Code} {Z : ZC} {HS : Nat → Nat → Nat → Int32} {j : Nat} {zkb : Int32} {zdr : Int32} {zky : Nat → Int32} {zpn : Int32} {zps : Int32} {ztz : Int32} {ztn : Nat → Int64} {zxz : Int32} {zxa : Int32} {zsg : Nat → Int32} {za0 : Int32} {za1 : Int32} {za2 : Int32} {za3 : Int32} {za4 : Int32} {zfr : Nat → Int32} {ztd : Int32} {ztv : Int32} {zcl : Nat → Int32} {zca : Nat → Int32} {zwa : Nat → Int32} {zpt : Nat → Int32} {zpf : Nat → Int32} {N : Nat} {p2 : Int32} {p3 : Int32} {zcd' : Int32} {zgo' : Nat → Int32} {X' : Nat → Nat → Int32} (F : CallFix p m c cX2_recounts 4 s args bigW RX2) (hr : meth.sig.returnType = none) (hlk : meth.locks = false) (C : KX Z s) (hj : j < 13) : ∀ (zcd : Int32) (zgo : Nat → Int32) (X : Nat → Nat → Int32), fX2_recounts_23 N p2 p3 zcd zgo X = some (zcd', zgo', X') → ∀ (H : Heap) (locs : List Loc), PX Z (updH HS j X) zkb zdr zky zpn zps ztz ztn zxz zxa zsg za0 za1 za2 za3 za4 zfr zcd zgo ztd ztv zcl zca zwa zpt zpf H → va_S (AX Z) s.heap H locs → ∀ ls : Array Slot, lv_has ls 4 [(0, .ref (oA Z 11)), (1, .ref (hA Z j 0)), (2, .int p2)] → W p l e (rmk 4 94) s m args below meth c H locs 0 0 (MQ below (Qv (KX Z) (AX Z) (PX Z (updH HS j X') zkb zdr zky zpn zps ztz ztn zxz zxa zsg za0 za1 za2 za3 za4 zfr zcd' zgo' ztd ztv zcl zca zwa zpt zpf)) args s 0 0 (AX Z)) (F0 m 23 ls []) := by
  intro zcd zgo X hE H locs hP hS ls hl
  unfold fX2_recounts_23 at hE
  refine lv_aload_n F.1 F.2.1 dX2_recounts_23 rfl (lv_at hl 0 rfl) ?_
  refine lv_aload_n F.1 F.2.1 dX2_recounts_24 rfl (lv_at hl 1 rfl) ?_
  refine lv_iload_n F.1 F.2.1 dX2_recounts_25 rfl (lv_at hl 2 rfl) ?_
  obtain ⟨zcd_208, zgo_208, X_208, hc, hE⟩ := bnd3_some hE
  refine aft_v (run_V (rest := []) F (kX2_countsDown hj (updH_at _ _ _) (updH_upd _ _ _ _) hc) (okX Z) C hS lkX2_45 ⟨Nat.le_of_ble_eq_true rfl, Nat.le_of_ble_eq_true rfl⟩ (rvo11 C hP) hP rfl hl.1 rfl (lv_room (Nat.le_of_ble_eq_true rfl)) dX2_recounts_26 ⟨Nat.zero_le _, Nat.zero_le _⟩) hS (fun H locs hP hS => ?_)
  have w0 := Option.some.inj hE
  obtain ⟨g0, w1⟩ := Prod.mk.inj w0
  obtain ⟨g1, w2⟩ := Prod.mk.inj w1
  subst g0 g1 w2
  exact ret_v F hr hlk hP hS dX2_recounts_29
set_option maxRecDepth 100000 in
set_option maxHeartbeats 4000000 in
theorem kX2_recounts {l : Launch} {Z : ZC} {HS : Nat → Nat → Nat → Int32} {j : Nat} {X : Nat → Nat → Int32} {zkb : Int32} {zdr : Int32} {zky : Nat → Int32} {zpn : Int32} {zps : Int32} {ztz : Int32} {ztn : Nat → Int64} {zxz : Int32} {zxa : Int32} {zsg : Nat → Int32} {za0 : Int32} {za1 : Int32} {za2 : Int32} {za3 : Int32} {za4 : Int32} {zfr : Nat → Int32} {zcd : Int32} {zgo : Nat → Int32} {ztd : Int32} {ztv : Int32} {zcl : Nat → Int32} {zca : Nat → Int32} {zwa : Nat → Int32} {zpt : Nat → Int32} {zpf : Nat → Int32} {N : Nat} {p2 : Int32} {p3 : Int32} {zcd' : Int32} {zgo' : Nat → Int32} {X' : Nat → Nat → Int32} (hj : j < 13) (hX : HS j = X) {HS1 : Nat → Nat → Nat → Int32} (h1 : updH HS j X' = HS1) (hE : fX2_recounts N zcd zgo X p2 p3 = some (zcd', zgo', X')) : Mg l yX2_recounts cX2_recounts 4 none (rmk 4 94) (KX Z) (AX Z) [.ref (oA Z 11), .ref (hA Z j 0), .int p2, .int p3] (PX Z HS zkb zdr zky zpn zps ztz ztn zxz zxa zsg za0 za1 za2 za3 za4 zfr zcd zgo ztd ztv zcl zca zwa zpt zpf) (Qv (KX Z) (AX Z) (PX Z HS1 zkb zdr zky zpn zps ztz ztn zxz zxa zsg za0 za1 za2 za3 za4 zfr zcd' zgo' ztd ztv zcl zca zwa zpt zpf)) := by
  subst h1
  rw [← updH_eq hX, updH_upd]
  refine Mg.start (lv := [(0, .ref (oA Z 11)), (1, .ref (hA Z j 0)), (2, .int p2), (3, .int p3)]) (by decide) rfl (Nat.le_of_ble_eq_true rfl) rfl ?_
  intro p e s m below meth c F hr hlk C hP ls hl
  have hS : va_S (AX Z) s.heap s.heap [] := va_S.rf
  unfold fX2_recounts at hE
  refine lv_iload_n F.1 F.2.1 dX2_recounts_0 rfl (lv_at hl 3 rfl) ?_
  refine lv_iconst (v := (-1)) F.1 F.2.1 dX2_recounts_1 (by decide) ?_
  refine lv_icmp_eq (tgt := 23) F.1 F.2.1 dX2_recounts_2 (by decide) (fun hc => ?_) (fun hc => ?_)
  · have hE := ifp hE hc
    exact qX2_recounts_23 F hr hlk C hj zcd zgo X hE _ _ hP hS ls (lv_sub hl [0, 1, 2] rfl)
  · have hE := ifn hE hc
    refine lv_aload_n F.1 F.2.1 dX2_recounts_5 rfl (lv_at hl 1 rfl) ?_
    refine gX2_32 F C hP hj (updH_at _ _ _) dX2_recounts_6 ?_
    refine lv_iload_n F.1 F.2.1 dX2_recounts_9 rfl (lv_at hl 3 rfl) ?_
    refine lv_dup2_11 F.1 F.2.1 dX2_recounts_10 rfl rfl ?_
    obtain ⟨hi, hE⟩ := grd_some hE
    refine ah4 F C hP hj (updH_at _ _ _) hi dX2_recounts_11 ?_
    refine lv_iconst (v := 1) F.1 F.2.1 dX2_recounts_12 (by decide) ?_
    refine lv_iadd F.1 F.2.1 dX2_recounts_13 ?_
    obtain ⟨hi, hE⟩ := grd_some hE
    obtain ⟨X_206, eX_206, hE⟩ := lt_some hE
    refine sh4 F C hP hj (updH_at _ _ _) hi hS (updH_let eX_206) dX2_recounts_14 (fun H locs hP hS => ?_)
    refine lv_aload_n F.1 F.2.1 dX2_recounts_15 rfl (lv_at hl 1 rfl) ?_
    refine gX2_35 F C hP hj (updH_at _ _ _) dX2_recounts_16 ?_
    refine lv_iload_n F.1 F.2.1 dX2_recounts_19 rfl (lv_at hl 3 rfl) ?_
    obtain ⟨X_207, hc, hE⟩ := bnd1_some hE
    refine aft_v (run_N (rest := []) F (kX6_trusts hj (updH_at _ _ _) (updH_upd _ _ _ _) hc) (okX Z) C hS (C.2.2 _ _ mlX2_39 rfl) lkX2_39 ⟨Nat.le_of_ble_eq_true rfl, Nat.le_of_ble_eq_true rfl⟩ (rvh8 C hP hj) hP rfl hl.1 rfl (lv_room (Nat.le_of_ble_eq_true rfl)) dX2_recounts_20 ⟨Nat.zero_le _, Nat.zero_le _⟩) hS (fun H locs hP hS => ?_)
    exact qX2_recounts_23 F hr hlk C hj zcd zgo X_207 hE _ _ hP hS ls (lv_sub hl [0, 1, 2] rfl)
set_option maxRecDepth 100000 in
set_option maxHeartbeats 4000000 in
theorem kX2_laysRoot {l : Launch} {Z : ZC} {HS : Nat → Nat → Nat → Int32} {j : Nat} {X : Nat → Nat → Int32} {zkb : Int32} {zdr : Int32} {zky : Nat → Int32} {zpn : Int32} {zps : Int32} {ztz : Int32} {ztn : Nat → Int64} {zxz : Int32} {zxa : Int32} {zsg : Nat → Int32} {za0 : Int32} {za1 : Int32} {za2 : Int32} {za3 : Int32} {za4 : Int32} {zfr : Nat → Int32} {zcd : Int32} {zgo : Nat → Int32} {ztd : Int32} {ztv : Int32} {zcl : Nat → Int32} {zca : Nat → Int32} {zwa : Nat → Int32} {zpt : Nat → Int32} {zpf : Nat → Int32} {N : Nat} {p2 : Int32} {p3 : Int32} {zcd' : Int32} {zgo' : Nat → Int32} {X' : Nat → Nat → Int32} (hj : j < 13) (hX : HS j = X) {HS1 : Nat → Nat → Nat → Int32} (h1 : updH HS j X' = HS1) (hE : fX2_laysRoot N zcd zgo X p2 p3 = some (zcd', zgo', X')) : Mg l yX2_laysRoot cX2_laysRoot 5 none (rmk 5 117) (KX Z) (AX Z) [.ref (oA Z 11), .ref (hA Z j 0), .int p2, .int p3] (PX Z HS zkb zdr zky zpn zps ztz ztn zxz zxa zsg za0 za1 za2 za3 za4 zfr zcd zgo ztd ztv zcl zca zwa zpt zpf) (Qv (KX Z) (AX Z) (PX Z HS1 zkb zdr zky zpn zps ztz ztn zxz zxa zsg za0 za1 za2 za3 za4 zfr zcd' zgo' ztd ztv zcl zca zwa zpt zpf)) := by
  subst h1
  rw [← updH_eq hX, updH_upd]
  refine Mg.start (lv := [(0, .ref (oA Z 11)), (1, .ref (hA Z j 0)), (2, .int p2), (3, .int p3)]) (by decide) rfl (Nat.le_of_ble_eq_true rfl) rfl ?_
  intro p e s m below meth c F hr hlk C hP ls hl
  have hS : va_S (AX Z) s.heap s.heap [] := va_S.rf
  unfold fX2_laysRoot at hE
  refine lv_aload_n F.1 F.2.1 dX2_laysRoot_0 rfl (lv_at hl 1 rfl) ?_
  refine gX2_29 F C hP hj (updH_at _ _ _) dX2_laysRoot_1 ?_
  refine lv_iload_n F.1 F.2.1 dX2_laysRoot_4 rfl (lv_at hl 2 rfl) ?_
  obtain ⟨hi, hE⟩ := grd_some hE
  refine ah6 F C hP hj (updH_at _ _ _) hi dX2_laysRoot_5 ?_
  refine lv_istore (lv' := [(4, .int (X 6 p2.toNatClampNeg)), (0, .ref (oA Z 11)), (1, .ref (hA Z j 0)), (2, .int p2), (3, .int p3)]) F.1 F.2.1 dX2_laysRoot_6 hl (by decide) rfl (fun ls hl => ?_)
  refine lv_aload_n F.1 F.2.1 dX2_laysRoot_8 rfl (lv_at hl 2 rfl) ?_
  refine gX2_29 F C hP hj (updH_at _ _ _) dX2_laysRoot_9 ?_
  refine lv_iload_n F.1 F.2.1 dX2_laysRoot_12 rfl (lv_at hl 3 rfl) ?_
  refine lv_iload_n F.1 F.2.1 dX2_laysRoot_13 rfl (lv_at hl 4 rfl) ?_
  obtain ⟨hi, hE⟩ := grd_some hE
  obtain ⟨X_211, eX_211, hE⟩ := lt_some hE
  refine sh6 F C hP hj (updH_at _ _ _) hi hS (updH_let eX_211) dX2_laysRoot_14 (fun H locs hP hS => ?_)
  refine lv_aload_n F.1 F.2.1 dX2_laysRoot_15 rfl (lv_at hl 1 rfl) ?_
  refine lv_aload_n F.1 F.2.1 dX2_laysRoot_16 rfl (lv_at hl 2 rfl) ?_
  refine lv_iload F.1 F.2.1 dX2_laysRoot_17 (lv_at hl 0 rfl) ?_
  refine lv_iload_n F.1 F.2.1 dX2_laysRoot_19 rfl (lv_at hl 4 rfl) ?_
  obtain ⟨zcd_212, zgo_212, X_212, hc, hE⟩ := bnd3_some hE
  refine aft_v (run_V (rest := []) F (kX2_recounts hj (updH_at _ _ _) (updH_upd _ _ _ _) hc) (okX Z) C hS lkX2_25 ⟨Nat.le_of_ble_eq_true rfl, Nat.le_of_ble_eq_true rfl⟩ (rvo11 C hP) hP rfl hl.1 rfl (lv_room (Nat.le_of_ble_eq_true rfl)) dX2_laysRoot_20 ⟨Nat.zero_le _, Nat.zero_le _⟩) hS (fun H locs hP hS => ?_)
  have w0 := Option.some.inj hE
  obtain ⟨g0, w1⟩ := Prod.mk.inj w0
  obtain ⟨g1, w2⟩ := Prod.mk.inj w1
  subst g0 g1 w2
  exact ret_v F hr hlk hP hS dX2_laysRoot_23
set_option maxRecDepth 100000 in
set_option maxHeartbeats 4000000 in
theorem kX2_laysField {l : Launch} {Z : ZC} {HS : Nat → Nat → Nat → Int32} {j : Nat} {X : Nat → Nat → Int32} {zkb : Int32} {zdr : Int32} {zky : Nat → Int32} {zpn : Int32} {zps : Int32} {ztz : Int32} {ztn : Nat → Int64} {zxz : Int32} {zxa : Int32} {zsg : Nat → Int32} {za0 : Int32} {za1 : Int32} {za2 : Int32} {za3 : Int32} {za4 : Int32} {zfr : Nat → Int32} {zcd : Int32} {zgo : Nat → Int32} {ztd : Int32} {ztv : Int32} {zcl : Nat → Int32} {zca : Nat → Int32} {zwa : Nat → Int32} {zpt : Nat → Int32} {zpf : Nat → Int32} {N : Nat} {p2 : Int32} {p3 : Int32} {p4 : Int32} {zcd' : Int32} {zgo' : Nat → Int32} {X' : Nat → Nat → Int32} (hj : j < 13) (hX : HS j = X) {HS1 : Nat → Nat → Nat → Int32} (h1 : updH HS j X' = HS1) (hE : fX2_laysField N zcd zgo X p2 p3 p4 = some (zcd', zgo', X')) : Mg l yX2_laysField cX2_laysField 6 none (rmk 5 117) (KX Z) (AX Z) [.ref (oA Z 11), .ref (hA Z j 0), .int p2, .int p3, .int p4] (PX Z HS zkb zdr zky zpn zps ztz ztn zxz zxa zsg za0 za1 za2 za3 za4 zfr zcd zgo ztd ztv zcl zca zwa zpt zpf) (Qv (KX Z) (AX Z) (PX Z HS1 zkb zdr zky zpn zps ztz ztn zxz zxa zsg za0 za1 za2 za3 za4 zfr zcd' zgo' ztd ztv zcl zca zwa zpt zpf)) := by
  subst h1
  rw [← updH_eq hX, updH_upd]
  refine Mg.start (lv := [(0, .ref (oA Z 11)), (1, .ref (hA Z j 0)), (2, .int p2), (3, .int p3), (4, .int p4)]) (by decide) rfl (Nat.le_of_ble_eq_true rfl) rfl ?_
  intro p e s m below meth c F hr hlk C hP ls hl
  have hS : va_S (AX Z) s.heap s.heap [] := va_S.rf
  unfold fX2_laysField at hE
  refine lv_aload_n F.1 F.2.1 dX2_laysField_0 rfl (lv_at hl 1 rfl) ?_
  refine lv_iload_n F.1 F.2.1 dX2_laysField_1 rfl (lv_at hl 2 rfl) ?_
  refine lv_iload_n F.1 F.2.1 dX2_laysField_2 rfl (lv_at hl 3 rfl) ?_
  obtain ⟨r216, hc, hE⟩ := bnd1_some hE
  refine aft_i (run_N (rest := []) F (kX3_fieldAt hj (updH_at _ _ _) hc) (okX Z) C hS (C.2.2 _ _ mlX2_15 rfl) lkX2_15 ⟨Nat.le_of_ble_eq_true rfl, Nat.le_of_ble_eq_true rfl⟩ (rvh0 C hP hj) hP rfl hl.1 rfl (lv_room (Nat.le_of_ble_eq_true rfl)) dX2_laysField_3 ⟨Nat.zero_le _, Nat.zero_le _⟩) hS (fun H locs hP hS => ?_)
  refine lv_istore (lv' := [(5, .int r216), (0, .ref (oA Z 11)), (1, .ref (hA Z j 0)), (2, .int p2), (3, .int p3), (4, .int p4)]) F.1 F.2.1 dX2_laysField_6 hl (by decide) rfl (fun ls hl => ?_)
  refine lv_aload_n F.1 F.2.1 dX2_laysField_8 rfl (lv_at hl 2 rfl) ?_
  refine lv_iload_n F.1 F.2.1 dX2_laysField_9 rfl (lv_at hl 3 rfl) ?_
  refine lv_iload_n F.1 F.2.1 dX2_laysField_10 rfl (lv_at hl 4 rfl) ?_
  refine lv_iload F.1 F.2.1 dX2_laysField_11 (lv_at hl 5 rfl) ?_
  obtain ⟨X_217, hc, hE⟩ := bnd1_some hE
  refine aft_v (run_N (rest := []) F (kX3_fills hj (updH_at _ _ _) (updH_upd _ _ _ _) hc) (okX Z) C hS (C.2.2 _ _ mlX2_21 rfl) lkX2_21 ⟨Nat.le_of_ble_eq_true rfl, Nat.le_of_ble_eq_true rfl⟩ (rvh0 C hP hj) hP rfl hl.1 rfl (lv_room (Nat.le_of_ble_eq_true rfl)) dX2_laysField_13 ⟨Nat.zero_le _, Nat.zero_le _⟩) hS (fun H locs hP hS => ?_)
  refine lv_aload_n F.1 F.2.1 dX2_laysField_16 rfl (lv_at hl 1 rfl) ?_
  refine lv_aload_n F.1 F.2.1 dX2_laysField_17 rfl (lv_at hl 2 rfl) ?_
  refine lv_iload F.1 F.2.1 dX2_laysField_18 (lv_at hl 0 rfl) ?_
  refine lv_iload F.1 F.2.1 dX2_laysField_20 (lv_at hl 5 rfl) ?_
  obtain ⟨zcd_218, zgo_218, X_218, hc, hE⟩ := bnd3_some hE
  refine aft_v (run_V (rest := []) F (kX2_recounts hj (updH_at _ _ _) (updH_upd _ _ _ _) hc) (okX Z) C hS lkX2_25 ⟨Nat.le_of_ble_eq_true rfl, Nat.le_of_ble_eq_true rfl⟩ (rvo11 C hP) hP rfl hl.1 rfl (lv_room (Nat.le_of_ble_eq_true rfl)) dX2_laysField_22 ⟨Nat.zero_le _, Nat.zero_le _⟩) hS (fun H locs hP hS => ?_)
  have w0 := Option.some.inj hE
  obtain ⟨g0, w1⟩ := Prod.mk.inj w0
  obtain ⟨g1, w2⟩ := Prod.mk.inj w1
  subst g0 g1 w2
  exact ret_v F hr hlk hP hS dX2_laysField_25
set_option maxRecDepth 100000 in
set_option maxHeartbeats 4000000 in
theorem qX6_dropsTrusted_4 {p : Program} {l : Launch} {e : Env} {s : State} {m : MethodId} {args : Array Value} {below : List Frame} {meth : Method} {c : Code} {Z : ZC} {HS : Nat → Nat → Nat → Int32} {j : Nat} {zkb : Int32} {zdr : Int32} {zky : Nat → Int32} {zpn : Int32} {zps : Int32} {ztz : Int32} {ztn : Nat → Int64} {zxz : Int32} {zxa : Int32} {zsg : Nat → Int32} {za0 : Int32} {za1 : Int32} {za2 : Int32} {za3 : Int32} {za4 : Int32} {zfr : Nat → Int32} {zcd : Int32} {zgo : Nat → Int32} {ztd : Int32} {ztv : Int32} {zcl : Nat → Int32} {zca : Nat → Int32} {zwa : Nat → Int32} {zpt : Nat → Int32} {zpf : Nat → Int32} {N : Nat} {X' : Nat → Nat → Int32} (F : CallFix p m c cX6_dropsTrusted 3 s args bigW RX6) (hr : meth.sig.returnType = none) (hlk : meth.locks = false) (C : KX Z s) (hj : j < 13) : ∀ n : Nat, ∀ (X : Nat → Nat → Int32) (x1 : Int32) (x2 : Int32), fX6_dropsTrusted_4 N n X x1 x2 = some X' → ∀ (H : Heap) (locs : List Loc), PX Z (updH HS j X) zkb zdr zky zpn zps ztz ztn zxz zxa zsg za0 za1 za2 za3 za4 zfr zcd zgo ztd ztv zcl zca zwa zpt zpf H → va_S (AX Z) s.heap H locs → ∀ ls : Array Slot, lv_has ls 3 [(0, .ref (hA Z j 8)), (1, .int x1), (2, .int x2)] → W p l e (rmk 1 21) s m args below meth c H locs 0 0 (MQ below (Qv (KX Z) (AX Z) (PX Z (updH HS j X') zkb zdr zky zpn zps ztz ztn zxz zxa zsg za0 za1 za2 za3 za4 zfr zcd zgo ztd ztv zcl zca zwa zpt zpf)) args s 0 0 (AX Z)) (F0 m 4 ls []) := by
  intro n
  induction n with
  | zero => intro X x1 x2 hE; cases hE
  | succ n h4 =>
    intro X x1 x2 hE H locs hP hS ls hl
    have hE : fX6_dropsTrusted_4b N (fX6_dropsTrusted_4 N n) X x1 x2 = some X' := hE
    refine lv_iload_n F.1 F.2.1 dX6_dropsTrusted_4 rfl (lv_at hl 2 rfl) ?_
    refine lv_aload_n F.1 F.2.1 dX6_dropsTrusted_5 rfl (lv_at hl 0 rfl) ?_
    refine gX6_21 F C hP hj (updH_at _ _ _) dX6_dropsTrusted_6 ?_
    refine lv_icmp_ge (tgt := 50) F.1 F.2.1 dX6_dropsTrusted_9 (by decide) (fun hc => ?_) (fun hc => ?_)
    · have hE := ifp hE hc
      refine lv_aload_n F.1 F.2.1 dX6_dropsTrusted_50 rfl (lv_at hl 0 rfl) ?_
      refine lv_iload_n F.1 F.2.1 dX6_dropsTrusted_51 rfl (lv_at hl 1 rfl) ?_
      obtain ⟨X_223, eX_223, hE⟩ := lt_some hE
      refine pX6_21 F C hP hj (updH_at _ _ _) hS (updH_let eX_223) dX6_dropsTrusted_52 (fun H locs hP hS => ?_)
      refine lv_aload_n F.1 F.2.1 dX6_dropsTrusted_55 rfl (lv_at hl 0 rfl) ?_
      refine lv_aload_n F.1 F.2.1 dX6_dropsTrusted_56 rfl (lv_at hl 0 rfl) ?_
      refine gX6_28 F C hP hj (updH_at _ _ _) dX6_dropsTrusted_57 ?_
      obtain ⟨X_224, eX_224, hE⟩ := lt_some hE
      refine pX6_25 F C hP hj (updH_at _ _ _) hS (updH_let eX_224) dX6_dropsTrusted_60 (fun H locs hP hS => ?_)
      obtain rfl := Option.some.inj hE
      exact ret_v F hr hlk hP hS dX6_dropsTrusted_63
    · have hE := ifn hE hc
      refine lv_aload_n F.1 F.2.1 dX6_dropsTrusted_12 rfl (lv_at hl 0 rfl) ?_
      refine gX6_28 F C hP hj (updH_at _ _ _) dX6_dropsTrusted_13 ?_
      refine lv_aload_n F.1 F.2.1 dX6_dropsTrusted_16 rfl (lv_at hl 0 rfl) ?_
      refine gX6_9 F C hP hj (updH_at _ _ _) dX6_dropsTrusted_17 ?_
      refine lv_iload_n F.1 F.2.1 dX6_dropsTrusted_20 rfl (lv_at hl 2 rfl) ?_
      obtain ⟨hi, hE⟩ := grd_some hE
      refine ah9 F C hP hj (updH_at _ _ _) hi dX6_dropsTrusted_21 ?_
      obtain ⟨r225, hc, hE⟩ := bnd1_some hE
      refine aft_i (run_SN (rest := []) F (kX11_bit hc) (okX Z) C hS (C.2.2 _ _ mlX6_31 rfl) lkX6_31 ⟨Nat.le_of_ble_eq_true rfl, Nat.le_of_ble_eq_true rfl⟩ hP rfl hl.1 rfl (lv_room (Nat.le_of_ble_eq_true rfl)) dX6_dropsTrusted_22 ⟨Nat.zero_le _, Nat.zero_le _⟩) hS (fun H locs hP hS => ?_)
      refine lv_iconst (v := 1) F.1 F.2.1 dX6_dropsTrusted_25 (by decide) ?_
      refine lv_icmp_ne (tgt := 44) F.1 F.2.1 dX6_dropsTrusted_26 (by decide) (fun hc => ?_) (fun hc => ?_)
      · have hE := ifn hE hc
        refine lv_iinc (v := x2 + 1) (lv' := [(2, .int (x2 + 1)), (0, .ref (hA Z j 8)), (1, .int x1)]) F.1 F.2.1 dX6_dropsTrusted_44 hl (k := 2) rfl rfl (by decide) rfl (fun ls hl => ?_)
        refine lv_goto (tgt := 4) F.1 F.2.1 dX6_dropsTrusted_47 (by decide) ?_
        exact h4 X x1 (x2 + 1) hE _ _ hP hS ls (lv_sub hl [1, 2, 0] rfl)
      · have hE := ifp hE hc
        refine lv_aload_n F.1 F.2.1 dX6_dropsTrusted_29 rfl (lv_at hl 0 rfl) ?_
        refine gX6_9 F C hP hj (updH_at _ _ _) dX6_dropsTrusted_30 ?_
        refine lv_iload_n F.1 F.2.1 dX6_dropsTrusted_33 rfl (lv_at hl 1 rfl) ?_
        refine lv_aload_n F.1 F.2.1 dX6_dropsTrusted_34 rfl (lv_at hl 0 rfl) ?_
        refine gX6_9 F C hP hj (updH_at _ _ _) dX6_dropsTrusted_35 ?_
        refine lv_iload_n F.1 F.2.1 dX6_dropsTrusted_38 rfl (lv_at hl 2 rfl) ?_
        obtain ⟨hi, hE⟩ := grd_some hE
        refine ah9 F C hP hj (updH_at _ _ _) hi dX6_dropsTrusted_39 ?_
        obtain ⟨hi, hE⟩ := grd_some hE
        obtain ⟨X_226, eX_226, hE⟩ := lt_some hE
        refine sh9 F C hP hj (updH_at _ _ _) hi hS (updH_let eX_226) dX6_dropsTrusted_40 (fun H locs hP hS => ?_)
        refine lv_iinc (v := x1 + 1) (lv' := [(1, .int (x1 + 1)), (0, .ref (hA Z j 8)), (2, .int x2)]) F.1 F.2.1 dX6_dropsTrusted_41 hl (k := 1) rfl rfl (by decide) rfl (fun ls hl => ?_)
        refine lv_iinc (v := x2 + 1) (lv' := [(2, .int (x2 + 1)), (1, .int (x1 + 1)), (0, .ref (hA Z j 8))]) F.1 F.2.1 dX6_dropsTrusted_44 hl (k := 2) rfl rfl (by decide) rfl (fun ls hl => ?_)
        refine lv_goto (tgt := 4) F.1 F.2.1 dX6_dropsTrusted_47 (by decide) ?_
        exact h4 X_226 (x1 + 1) (x2 + 1) hE _ _ hP hS ls (lv_sub hl [2, 1, 0] rfl)
set_option maxRecDepth 100000 in
set_option maxHeartbeats 4000000 in
theorem kX6_dropsTrusted {l : Launch} {Z : ZC} {HS : Nat → Nat → Nat → Int32} {j : Nat} {X : Nat → Nat → Int32} {zkb : Int32} {zdr : Int32} {zky : Nat → Int32} {zpn : Int32} {zps : Int32} {ztz : Int32} {ztn : Nat → Int64} {zxz : Int32} {zxa : Int32} {zsg : Nat → Int32} {za0 : Int32} {za1 : Int32} {za2 : Int32} {za3 : Int32} {za4 : Int32} {zfr : Nat → Int32} {zcd : Int32} {zgo : Nat → Int32} {ztd : Int32} {ztv : Int32} {zcl : Nat → Int32} {zca : Nat → Int32} {zwa : Nat → Int32} {zpt : Nat → Int32} {zpf : Nat → Int32} {N : Nat} {X' : Nat → Nat → Int32} (hj : j < 13) (hX : HS j = X) {HS1 : Nat → Nat → Nat → Int32} (h1 : updH HS j X' = HS1) (hE : fX6_dropsTrusted N X = some X') : Mg l yX6_dropsTrusted cX6_dropsTrusted 3 none (rmk 1 21) (KX Z) (AX Z) [.ref (hA Z j 8)] (PX Z HS zkb zdr zky zpn zps ztz ztn zxz zxa zsg za0 za1 za2 za3 za4 zfr zcd zgo ztd ztv zcl zca zwa zpt zpf) (Qv (KX Z) (AX Z) (PX Z HS1 zkb zdr zky zpn zps ztz ztn zxz zxa zsg za0 za1 za2 za3 za4 zfr zcd zgo ztd ztv zcl zca zwa zpt zpf)) := by
  subst h1
  rw [← updH_eq hX, updH_upd]
  refine Mg.start (lv := [(0, .ref (hA Z j 8))]) (by decide) rfl (Nat.le_of_ble_eq_true rfl) rfl ?_
  intro p e s m below meth c F hr hlk C hP ls hl
  have hS : va_S (AX Z) s.heap s.heap [] := va_S.rf
  unfold fX6_dropsTrusted at hE
  refine lv_iconst (v := 0) F.1 F.2.1 dX6_dropsTrusted_0 (by decide) ?_
  refine lv_istore_n (lv' := [(1, .int 0), (0, .ref (hA Z j 8))]) F.1 F.2.1 dX6_dropsTrusted_1 rfl hl (by decide) rfl (fun ls hl => ?_)
  refine lv_iconst (v := 0) F.1 F.2.1 dX6_dropsTrusted_2 (by decide) ?_
  refine lv_istore_n (lv' := [(2, .int 0), (1, .int 0), (0, .ref (hA Z j 8))]) F.1 F.2.1 dX6_dropsTrusted_3 rfl hl (by decide) rfl (fun ls hl => ?_)
  exact qX6_dropsTrusted_4 F hr hlk C hj N X 0 0 hE _ _ hP hS ls (lv_sub hl [2, 1, 0] rfl)
set_option maxRecDepth 100000 in
set_option maxHeartbeats 4000000 in
theorem kX9_paints {l : Launch} {Z : ZC} {HS : Nat → Nat → Nat → Int32} {zkb : Int32} {zdr : Int32} {zky : Nat → Int32} {zpn : Int32} {zps : Int32} {ztz : Int32} {ztn : Nat → Int64} {zxz : Int32} {zxa : Int32} {zsg : Nat → Int32} {za0 : Int32} {za1 : Int32} {za2 : Int32} {za3 : Int32} {za4 : Int32} {zfr : Nat → Int32} {zcd : Int32} {zgo : Nat → Int32} {ztd : Int32} {ztv : Int32} {zcl : Nat → Int32} {zca : Nat → Int32} {zwa : Nat → Int32} {zpt : Nat → Int32} {zpf : Nat → Int32} {p1 : Int32} {p2 : Int32} {ztv' : Int32} {zcl' : Nat → Int32} (hE : fX9_paints ztv zcl p1 p2 = some (ztv', zcl')) : Mg l yX9_paints cX9_paints 3 none (rmk 0 0) (KX Z) (AX Z) [.ref (oA Z 13), .int p1, .int p2] (PX Z HS zkb zdr zky zpn zps ztz ztn zxz zxa zsg za0 za1 za2 za3 za4 zfr zcd zgo ztd ztv zcl zca zwa zpt zpf) (Qv (KX Z) (AX Z) (PX Z HS zkb zdr zky zpn zps ztz ztn zxz zxa zsg za0 za1 za2 za3 za4 zfr zcd zgo ztd ztv' zcl' zca zwa zpt zpf)) := by
  refine Mg.start (lv := [(0, .ref (oA Z 13)), (1, .int p1), (2, .int p2)]) (by decide) rfl (Nat.le_of_ble_eq_true rfl) rfl ?_
  intro p e s m below meth c F hr hlk C hP ls hl
  have hS : va_S (AX Z) s.heap s.heap [] := va_S.rf
  unfold fX9_paints at hE
  refine lv_aload_n F.1 F.2.1 dX9_paints_0 rfl (lv_at hl 0 rfl) ?_
  refine gX9_9 F C hP dX9_paints_1 ?_
  refine lv_iload_n F.1 F.2.1 dX9_paints_4 rfl (lv_at hl 1 rfl) ?_
  refine lv_iload_n F.1 F.2.1 dX9_paints_5 rfl (lv_at hl 2 rfl) ?_
  obtain ⟨hi, hE⟩ := grd_some hE
  obtain ⟨zcl_229, ezcl_229, hE⟩ := lt_some hE
  refine so14 F C hP hi hS ezcl_229.symm dX9_paints_6 (fun H locs hP hS => ?_)
  refine lv_aload_n F.1 F.2.1 dX9_paints_7 rfl (lv_at hl 0 rfl) ?_
  refine lv_dup F.1 F.2.1 dX9_paints_8 rfl ?_
  refine gX9_31 F C hP dX9_paints_9 ?_
  refine lv_iconst (v := 1) F.1 F.2.1 dX9_paints_12 (by decide) ?_
  refine lv_iadd F.1 F.2.1 dX9_paints_13 ?_
  obtain ⟨ztv_230, eztv_230, hE⟩ := lt_some hE
  refine pX9_31 F C hP hS eztv_230.symm dX9_paints_14 (fun H locs hP hS => ?_)
  have w0 := Option.some.inj hE
  obtain ⟨g0, w1⟩ := Prod.mk.inj w0
  subst g0 w1
  exact ret_v F hr hlk hP hS dX9_paints_17
set_option maxRecDepth 100000 in
set_option maxHeartbeats 4000000 in
theorem qX9_spreads_36 {p : Program} {l : Launch} {e : Env} {s : State} {m : MethodId} {args : Array Value} {below : List Frame} {meth : Method} {c : Code} {Z : ZC} {HS : Nat → Nat → Nat → Int32} {j : Nat} {zkb : Int32} {zdr : Int32} {zky : Nat → Int32} {zpn : Int32} {zps : Int32} {ztz : Int32} {ztn : Nat → Int64} {zxz : Int32} {zxa : Int32} {zsg : Nat → Int32} {za0 : Int32} {za1 : Int32} {za2 : Int32} {za3 : Int32} {za4 : Int32} {zfr : Nat → Int32} {zcd : Int32} {zgo : Nat → Int32} {ztd : Int32} {zca : Nat → Int32} {zpt : Nat → Int32} {zpf : Nat → Int32} {N : Nat} {p2 : Int32} {p3 : Int32} {p4 : Int32} {ztv' : Int32} {zcl' : Nat → Int32} {zwa' : Nat → Int32} {X' : Nat → Nat → Int32} (F : CallFix p m c cX9_spreads 9 s args bigW RX9) (hr : meth.sig.returnType = none) (hlk : meth.locks = false) (C : KX Z s) (hj : j < 13) {k19 : Int32 → (Nat → Int32) → (Nat → Int32) → (Nat → Nat → Int32) → Int32 → Int32 → Option (Int32 × (Nat → Int32) × (Nat → Int32) × (Nat → Nat → Int32))} (h19 : ∀ (ztv : Int32) (zcl : Nat → Int32) (zwa : Nat → Int32) (X : Nat → Nat → Int32) (x5 : Int32) (x6 : Int32), k19 ztv zcl zwa X x5 x6 = some (ztv', zcl', zwa', X') → ∀ (H : Heap) (locs : List Loc), PX Z (updH HS j X) zkb zdr zky zpn zps ztz ztn zxz zxa zsg za0 za1 za2 za3 za4 zfr zcd zgo ztd ztv zcl zca zwa zpt zpf H → va_S (AX Z) s.heap H locs → ∀ ls : Array Slot, lv_has ls 9 [(0, .ref (oA Z 13)), (1, .ref (hA Z j 0)), (3, .int p3), (4, .int p4), (5, .int x5), (6, .int x6)] → W p l e (rmk 1 22) s m args below meth c H locs 0 0 (MQ below (Qv (KX Z) (AX Z) (PX Z (updH HS j X') zkb zdr zky zpn zps ztz ztn zxz zxa zsg za0 za1 za2 za3 za4 zfr zcd zgo ztd ztv' zcl' zca zwa' zpt zpf)) args s 0 0 (AX Z)) (F0 m 19 ls [])) : ∀ n : Nat, ∀ (ztv : Int32) (zcl : Nat → Int32) (zwa : Nat → Int32) (X : Nat → Nat → Int32) (x5 : Int32) (x6 : Int32) (x7 : Int32), fX9_spreads_36 N p2 p3 p4 k19 n ztv zcl zwa X x5 x6 x7 = some (ztv', zcl', zwa', X') → ∀ (H : Heap) (locs : List Loc), PX Z (updH HS j X) zkb zdr zky zpn zps ztz ztn zxz zxa zsg za0 za1 za2 za3 za4 zfr zcd zgo ztd ztv zcl zca zwa zpt zpf H → va_S (AX Z) s.heap H locs → ∀ ls : Array Slot, lv_has ls 9 [(0, .ref (oA Z 13)), (1, .ref (hA Z j 0)), (3, .int p3), (4, .int p4), (5, .int x5), (6, .int x6), (7, .int x7)] → W p l e (rmk 1 22) s m args below meth c H locs 0 0 (MQ below (Qv (KX Z) (AX Z) (PX Z (updH HS j X') zkb zdr zky zpn zps ztz ztn zxz zxa zsg za0 za1 za2 za3 za4 zfr zcd zgo ztd ztv' zcl' zca zwa' zpt zpf)) args s 0 0 (AX Z)) (F0 m 36 ls []) := by
  intro n
  induction n with
  | zero => intro ztv zcl zwa X x5 x6 x7 hE; cases hE
  | succ n h36 =>
    intro ztv zcl zwa X x5 x6 x7 hE H locs hP hS ls hl
    have hE : fX9_spreads_36b N p2 p3 p4 k19 (fX9_spreads_36 N p2 p3 p4 k19 n) ztv zcl zwa X x5 x6 x7 = some (ztv', zcl', zwa', X') := hE
    refine lv_iload F.1 F.2.1 dX9_spreads_36 (lv_at hl 6 rfl) ?_
    refine lv_iconst (v := 4) F.1 F.2.1 dX9_spreads_38 (by decide) ?_
    refine lv_icmp_ge (tgt := 121) F.1 F.2.1 dX9_spreads_39 (by decide) (fun hc => ?_) (fun hc => ?_)
    · have hE := ifp hE hc
      refine lv_iinc (v := x6 + 1) (lv' := [(6, .int (x6 + 1)), (0, .ref (oA Z 13)), (1, .ref (hA Z j 0)), (3, .int p3), (4, .int p4), (5, .int x5), (7, .int x7)]) F.1 F.2.1 dX9_spreads_121 hl (k := 5) rfl rfl (by decide) rfl (fun ls hl => ?_)
      refine lv_goto (tgt := 19) F.1 F.2.1 dX9_spreads_124 (by decide) ?_
      exact h19 ztv zcl zwa X x5 (x6 + 1) hE _ _ hP hS ls (lv_sub hl [1, 2, 3, 4, 5, 0] rfl)
    · have hE := ifn hE hc
      refine lv_aload_n F.1 F.2.1 dX9_spreads_42 rfl (lv_at hl 1 rfl) ?_
      refine lv_aload_n F.1 F.2.1 dX9_spreads_43 rfl (lv_at hl 0 rfl) ?_
      refine gX9_18 F C hP dX9_spreads_44 ?_
      refine lv_iload F.1 F.2.1 dX9_spreads_47 (lv_at hl 5 rfl) ?_
      obtain ⟨hi, hE⟩ := grd_some hE
      refine ao16 F C hP hi dX9_spreads_49 ?_
      refine lv_iload F.1 F.2.1 dX9_spreads_50 (lv_at hl 6 rfl) ?_
      obtain ⟨r239, hc, hE⟩ := bnd1_some hE
      refine aft_i (run_N (rest := []) F (kX3_fieldAt hj (updH_at _ _ _) hc) (okX Z) C hS (C.2.2 _ _ mlX9_96 rfl) lkX9_96 ⟨Nat.le_of_ble_eq_true rfl, Nat.le_of_ble_eq_true rfl⟩ (rvh0 C hP hj) hP rfl hl.1 rfl (lv_room (Nat.le_of_ble_eq_true rfl)) dX9_spreads_52 ⟨Nat.zero_le _, Nat.zero_le _⟩) hS (fun H locs hP hS => ?_)
      refine lv_istore (lv' := [(8, .int r239), (0, .ref (oA Z 13)), (1, .ref (hA Z j 0)), (3, .int p3), (4, .int p4), (5, .int x5), (6, .int x6), (7, .int x7)]) F.1 F.2.1 dX9_spreads_55 hl (by decide) rfl (fun ls hl => ?_)
      refine lv_iload F.1 F.2.1 dX9_spreads_57 (lv_at hl 0 rfl) ?_
      refine lv_iconst (v := (-1)) F.1 F.2.1 dX9_spreads_59 (by decide) ?_
      refine lv_icmp_ne (tgt := 66) F.1 F.2.1 dX9_spreads_60 (by decide) (fun hc => ?_) (fun hc => ?_)
      · have hE := ifn hE hc
        refine lv_aload_n F.1 F.2.1 dX9_spreads_66 rfl (lv_at hl 2 rfl) ?_
        refine gX9_41 F C hP hj (updH_at _ _ _) dX9_spreads_67 ?_
        refine lv_iload F.1 F.2.1 dX9_spreads_70 (lv_at hl 0 rfl) ?_
        refine lv_dup2_11 F.1 F.2.1 dX9_spreads_72 rfl rfl ?_
        obtain ⟨hi, hE⟩ := grd_some hE
        refine ah4 F C hP hj (updH_at _ _ _) hi dX9_spreads_73 ?_
        refine lv_iload F.1 F.2.1 dX9_spreads_74 (lv_at hl 4 rfl) ?_
        refine lv_iadd F.1 F.2.1 dX9_spreads_76 ?_
        obtain ⟨hi, hE⟩ := grd_some hE
        obtain ⟨X_240, eX_240, hE⟩ := lt_some hE
        refine sh4 F C hP hj (updH_at _ _ _) hi hS (updH_let eX_240) dX9_spreads_77 (fun H locs hP hS => ?_)
        refine lv_aload_n F.1 F.2.1 dX9_spreads_78 rfl (lv_at hl 1 rfl) ?_
        refine gX9_9 F C hP dX9_spreads_79 ?_
        refine lv_iload F.1 F.2.1 dX9_spreads_82 (lv_at hl 0 rfl) ?_
        obtain ⟨hi, hE⟩ := grd_some hE
        refine ao14 F C hP hi dX9_spreads_84 ?_
        refine lv_iload_n F.1 F.2.1 dX9_spreads_85 rfl (lv_at hl 3 rfl) ?_
        refine lv_icmp_eq (tgt := 115) F.1 F.2.1 dX9_spreads_86 (by decide) (fun hc => ?_) (fun hc => ?_)
        · have hE := ifp hE hc
          refine lv_iinc (v := x7 + 1) (lv' := [(7, .int (x7 + 1)), (8, .int r239), (0, .ref (oA Z 13)), (1, .ref (hA Z j 0)), (3, .int p3), (4, .int p4), (5, .int x5), (6, .int x6)]) F.1 F.2.1 dX9_spreads_115 hl (k := 7) rfl rfl (by decide) rfl (fun ls hl => ?_)
          refine lv_goto (tgt := 36) F.1 F.2.1 dX9_spreads_118 (by decide) ?_
          exact h36 ztv zcl zwa X_240 x5 x6 (x7 + 1) hE _ _ hP hS ls (lv_sub hl [2, 3, 4, 5, 6, 7, 0] rfl)
        · have hE := ifn hE hc
          refine lv_iload F.1 F.2.1 dX9_spreads_89 (lv_at hl 5 rfl) ?_
          refine lv_bipush (v := 24) F.1 F.2.1 dX9_spreads_91 (by decide) ?_
          refine lv_icmp_ge (tgt := 115) F.1 F.2.1 dX9_spreads_93 (by decide) (fun hc => ?_) (fun hc => ?_)
          · have hE := ifp hE hc
            refine lv_iinc (v := x7 + 1) (lv' := [(7, .int (x7 + 1)), (8, .int r239), (0, .ref (oA Z 13)), (1, .ref (hA Z j 0)), (3, .int p3), (4, .int p4), (5, .int x5), (6, .int x6)]) F.1 F.2.1 dX9_spreads_115 hl (k := 7) rfl rfl (by decide) rfl (fun ls hl => ?_)
            refine lv_goto (tgt := 36) F.1 F.2.1 dX9_spreads_118 (by decide) ?_
            exact h36 ztv zcl zwa X_240 x5 x6 (x7 + 1) hE _ _ hP hS ls (lv_sub hl [2, 3, 4, 5, 6, 7, 0] rfl)
          · have hE := ifn hE hc
            refine lv_aload_n F.1 F.2.1 dX9_spreads_96 rfl (lv_at hl 1 rfl) ?_
            refine gX9_18 F C hP dX9_spreads_97 ?_
            refine lv_iload F.1 F.2.1 dX9_spreads_100 (lv_at hl 5 rfl) ?_
            refine lv_iload F.1 F.2.1 dX9_spreads_102 (lv_at hl 0 rfl) ?_
            obtain ⟨hi, hE⟩ := grd_some hE
            obtain ⟨zwa_241, ezwa_241, hE⟩ := lt_some hE
            refine so16 F C hP hi hS ezwa_241.symm dX9_spreads_104 (fun H locs hP hS => ?_)
            refine lv_iinc (v := x5 + 1) (lv' := [(5, .int (x5 + 1)), (8, .int r239), (0, .ref (oA Z 13)), (1, .ref (hA Z j 0)), (3, .int p3), (4, .int p4), (6, .int x6), (7, .int x7)]) F.1 F.2.1 dX9_spreads_105 hl (k := 5) rfl rfl (by decide) rfl (fun ls hl => ?_)
            refine lv_aload_n F.1 F.2.1 dX9_spreads_108 rfl (lv_at hl 2 rfl) ?_
            refine lv_iload F.1 F.2.1 dX9_spreads_109 (lv_at hl 1 rfl) ?_
            refine lv_iload_n F.1 F.2.1 dX9_spreads_111 rfl (lv_at hl 4 rfl) ?_
            obtain ⟨ztv_242, zcl_242, hc, hE⟩ := bnd2_some hE
            refine aft_v (run_V (rest := []) F (kX9_paints hc) (okX Z) C hS lkX9_92 ⟨Nat.le_of_ble_eq_true rfl, Nat.le_of_ble_eq_true rfl⟩ (rvo13 C hP) hP rfl hl.1 rfl (lv_room (Nat.le_of_ble_eq_true rfl)) dX9_spreads_112 ⟨Nat.zero_le _, Nat.zero_le _⟩) hS (fun H locs hP hS => ?_)
            refine lv_iinc (v := x7 + 1) (lv' := [(7, .int (x7 + 1)), (5, .int (x5 + 1)), (8, .int r239), (0, .ref (oA Z 13)), (1, .ref (hA Z j 0)), (3, .int p3), (4, .int p4), (6, .int x6)]) F.1 F.2.1 dX9_spreads_115 hl (k := 7) rfl rfl (by decide) rfl (fun ls hl => ?_)
            refine lv_goto (tgt := 36) F.1 F.2.1 dX9_spreads_118 (by decide) ?_
            exact h36 ztv_242 zcl_242 zwa_241 X_240 (x5 + 1) x6 (x7 + 1) hE _ _ hP hS ls (lv_sub hl [3, 4, 5, 6, 1, 7, 0] rfl)
      · have hE := ifp hE hc
        refine lv_goto (tgt := 115) F.1 F.2.1 dX9_spreads_63 (by decide) ?_
        refine lv_iinc (v := x7 + 1) (lv' := [(7, .int (x7 + 1)), (8, .int r239), (0, .ref (oA Z 13)), (1, .ref (hA Z j 0)), (3, .int p3), (4, .int p4), (5, .int x5), (6, .int x6)]) F.1 F.2.1 dX9_spreads_115 hl (k := 7) rfl rfl (by decide) rfl (fun ls hl => ?_)
        refine lv_goto (tgt := 36) F.1 F.2.1 dX9_spreads_118 (by decide) ?_
        exact h36 ztv zcl zwa X x5 x6 (x7 + 1) hE _ _ hP hS ls (lv_sub hl [2, 3, 4, 5, 6, 7, 0] rfl)
set_option maxRecDepth 100000 in
set_option maxHeartbeats 4000000 in
theorem qX9_spreads_19 {p : Program} {l : Launch} {e : Env} {s : State} {m : MethodId} {args : Array Value} {below : List Frame} {meth : Method} {c : Code} {Z : ZC} {HS : Nat → Nat → Nat → Int32} {j : Nat} {zkb : Int32} {zdr : Int32} {zky : Nat → Int32} {zpn : Int32} {zps : Int32} {ztz : Int32} {ztn : Nat → Int64} {zxz : Int32} {zxa : Int32} {zsg : Nat → Int32} {za0 : Int32} {za1 : Int32} {za2 : Int32} {za3 : Int32} {za4 : Int32} {zfr : Nat → Int32} {zcd : Int32} {zgo : Nat → Int32} {ztd : Int32} {zca : Nat → Int32} {zpt : Nat → Int32} {zpf : Nat → Int32} {N : Nat} {p2 : Int32} {p3 : Int32} {p4 : Int32} {ztv' : Int32} {zcl' : Nat → Int32} {zwa' : Nat → Int32} {X' : Nat → Nat → Int32} (F : CallFix p m c cX9_spreads 9 s args bigW RX9) (hr : meth.sig.returnType = none) (hlk : meth.locks = false) (C : KX Z s) (hj : j < 13) : ∀ n : Nat, ∀ (ztv : Int32) (zcl : Nat → Int32) (zwa : Nat → Int32) (X : Nat → Nat → Int32) (x5 : Int32) (x6 : Int32), fX9_spreads_19 N p2 p3 p4 n ztv zcl zwa X x5 x6 = some (ztv', zcl', zwa', X') → ∀ (H : Heap) (locs : List Loc), PX Z (updH HS j X) zkb zdr zky zpn zps ztz ztn zxz zxa zsg za0 za1 za2 za3 za4 zfr zcd zgo ztd ztv zcl zca zwa zpt zpf H → va_S (AX Z) s.heap H locs → ∀ ls : Array Slot, lv_has ls 9 [(0, .ref (oA Z 13)), (1, .ref (hA Z j 0)), (3, .int p3), (4, .int p4), (5, .int x5), (6, .int x6)] → W p l e (rmk 1 22) s m args below meth c H locs 0 0 (MQ below (Qv (KX Z) (AX Z) (PX Z (updH HS j X') zkb zdr zky zpn zps ztz ztn zxz zxa zsg za0 za1 za2 za3 za4 zfr zcd zgo ztd ztv' zcl' zca zwa' zpt zpf)) args s 0 0 (AX Z)) (F0 m 19 ls []) := by
  intro n
  induction n with
  | zero => intro ztv zcl zwa X x5 x6 hE; cases hE
  | succ n h19 =>
    intro ztv zcl zwa X x5 x6 hE H locs hP hS ls hl
    have hE : fX9_spreads_19b N p2 p3 p4 (fX9_spreads_19 N p2 p3 p4 n) ztv zcl zwa X x5 x6 = some (ztv', zcl', zwa', X') := hE
    refine lv_iload F.1 F.2.1 dX9_spreads_19 (lv_at hl 5 rfl) ?_
    refine lv_iload F.1 F.2.1 dX9_spreads_21 (lv_at hl 4 rfl) ?_
    refine lv_icmp_ge (tgt := 127) F.1 F.2.1 dX9_spreads_23 (by decide) (fun hc => ?_) (fun hc => ?_)
    · have hE := ifp hE hc
      have w0 := Option.some.inj hE
      obtain ⟨g0, w1⟩ := Prod.mk.inj w0
      obtain ⟨g1, w2⟩ := Prod.mk.inj w1
      obtain ⟨g2, w3⟩ := Prod.mk.inj w2
      subst g0 g1 g2 w3
      exact ret_v F hr hlk hP hS dX9_spreads_127
    · have hE := ifn hE hc
      refine lv_iload F.1 F.2.1 dX9_spreads_26 (lv_at hl 5 rfl) ?_
      refine lv_bipush (v := 24) F.1 F.2.1 dX9_spreads_28 (by decide) ?_
      refine lv_icmp_ge (tgt := 127) F.1 F.2.1 dX9_spreads_30 (by decide) (fun hc => ?_) (fun hc => ?_)
      · have hE := ifp hE hc
        have w0 := Option.some.inj hE
        obtain ⟨g0, w1⟩ := Prod.mk.inj w0
        obtain ⟨g1, w2⟩ := Prod.mk.inj w1
        obtain ⟨g2, w3⟩ := Prod.mk.inj w2
        subst g0 g1 g2 w3
        exact ret_v F hr hlk hP hS dX9_spreads_127
      · have hE := ifn hE hc
        refine lv_iconst (v := 0) F.1 F.2.1 dX9_spreads_33 (by decide) ?_
        refine lv_istore (lv' := [(7, .int 0), (0, .ref (oA Z 13)), (1, .ref (hA Z j 0)), (3, .int p3), (4, .int p4), (5, .int x5), (6, .int x6)]) F.1 F.2.1 dX9_spreads_34 hl (by decide) rfl (fun ls hl => ?_)
        exact qX9_spreads_36 F hr hlk C hj h19 N ztv zcl zwa X x5 x6 0 hE _ _ hP hS ls (lv_sub hl [1, 2, 3, 4, 5, 6, 0] rfl)
set_option maxRecDepth 100000 in
set_option maxHeartbeats 4000000 in
theorem kX9_spreads {l : Launch} {Z : ZC} {HS : Nat → Nat → Nat → Int32} {j : Nat} {X : Nat → Nat → Int32} {zkb : Int32} {zdr : Int32} {zky : Nat → Int32} {zpn : Int32} {zps : Int32} {ztz : Int32} {ztn : Nat → Int64} {zxz : Int32} {zxa : Int32} {zsg : Nat → Int32} {za0 : Int32} {za1 : Int32} {za2 : Int32} {za3 : Int32} {za4 : Int32} {zfr : Nat → Int32} {zcd : Int32} {zgo : Nat → Int32} {ztd : Int32} {ztv : Int32} {zcl : Nat → Int32} {zca : Nat → Int32} {zwa : Nat → Int32} {zpt : Nat → Int32} {zpf : Nat → Int32} {N : Nat} {p2 : Int32} {p3 : Int32} {p4 : Int32} {ztv' : Int32} {zcl' : Nat → Int32} {zwa' : Nat → Int32} {X' : Nat → Nat → Int32} (hj : j < 13) (hX : HS j = X) {HS1 : Nat → Nat → Nat → Int32} (h1 : updH HS j X' = HS1) (hE : fX9_spreads N ztv zcl zwa X p2 p3 p4 = some (ztv', zcl', zwa', X')) : Mg l yX9_spreads cX9_spreads 9 none (rmk 1 22) (KX Z) (AX Z) [.ref (oA Z 13), .ref (hA Z j 0), .int p2, .int p3, .int p4] (PX Z HS zkb zdr zky zpn zps ztz ztn zxz zxa zsg za0 za1 za2 za3 za4 zfr zcd zgo ztd ztv zcl zca zwa zpt zpf) (Qv (KX Z) (AX Z) (PX Z HS1 zkb zdr zky zpn zps ztz ztn zxz zxa zsg za0 za1 za2 za3 za4 zfr zcd zgo ztd ztv' zcl' zca zwa' zpt zpf)) := by
  subst h1
  rw [← updH_eq hX, updH_upd]
  refine Mg.start (lv := [(0, .ref (oA Z 13)), (1, .ref (hA Z j 0)), (2, .int p2), (3, .int p3), (4, .int p4)]) (by decide) rfl (Nat.le_of_ble_eq_true rfl) rfl ?_
  intro p e s m below meth c F hr hlk C hP ls hl
  have hS : va_S (AX Z) s.heap s.heap [] := va_S.rf
  unfold fX9_spreads at hE
  refine lv_iconst (v := 1) F.1 F.2.1 dX9_spreads_0 (by decide) ?_
  refine lv_istore (lv' := [(5, .int 1), (0, .ref (oA Z 13)), (1, .ref (hA Z j 0)), (2, .int p2), (3, .int p3), (4, .int p4)]) F.1 F.2.1 dX9_spreads_1 hl (by decide) rfl (fun ls hl => ?_)
  refine lv_aload_n F.1 F.2.1 dX9_spreads_3 rfl (lv_at hl 1 rfl) ?_
  refine gX9_18 F C hP dX9_spreads_4 ?_
  refine lv_iconst (v := 0) F.1 F.2.1 dX9_spreads_7 (by decide) ?_
  refine lv_iload_n F.1 F.2.1 dX9_spreads_8 rfl (lv_at hl 3 rfl) ?_
  obtain ⟨hi, hE⟩ := grd_some hE
  obtain ⟨zwa_237, ezwa_237, hE⟩ := lt_some hE
  refine so16 F C hP hi hS ezwa_237.symm dX9_spreads_9 (fun H locs hP hS => ?_)
  refine lv_aload_n F.1 F.2.1 dX9_spreads_10 rfl (lv_at hl 1 rfl) ?_
  refine lv_iload_n F.1 F.2.1 dX9_spreads_11 rfl (lv_at hl 3 rfl) ?_
  refine lv_iload_n F.1 F.2.1 dX9_spreads_12 rfl (lv_at hl 4 rfl) ?_
  obtain ⟨ztv_238, zcl_238, hc, hE⟩ := bnd2_some hE
  refine aft_v (run_V (rest := []) F (kX9_paints hc) (okX Z) C hS lkX9_92 ⟨Nat.le_of_ble_eq_true rfl, Nat.le_of_ble_eq_true rfl⟩ (rvo13 C hP) hP rfl hl.1 rfl (lv_room (Nat.le_of_ble_eq_true rfl)) dX9_spreads_13 ⟨Nat.zero_le _, Nat.zero_le _⟩) hS (fun H locs hP hS => ?_)
  refine lv_iconst (v := 0) F.1 F.2.1 dX9_spreads_16 (by decide) ?_
  refine lv_istore (lv' := [(6, .int 0), (5, .int 1), (0, .ref (oA Z 13)), (1, .ref (hA Z j 0)), (2, .int p2), (3, .int p3), (4, .int p4)]) F.1 F.2.1 dX9_spreads_17 hl (by decide) rfl (fun ls hl => ?_)
  exact qX9_spreads_19 F hr hlk C hj N ztv_238 zcl_238 zwa_237 X 1 0 hE _ _ hP hS ls (lv_sub hl [2, 3, 5, 6, 1, 0] rfl)
set_option maxRecDepth 100000 in
set_option maxHeartbeats 4000000 in
theorem kX9_takesAway {l : Launch} {Z : ZC} {HS : Nat → Nat → Nat → Int32} {j : Nat} {X : Nat → Nat → Int32} {zkb : Int32} {zdr : Int32} {zky : Nat → Int32} {zpn : Int32} {zps : Int32} {ztz : Int32} {ztn : Nat → Int64} {zxz : Int32} {zxa : Int32} {zsg : Nat → Int32} {za0 : Int32} {za1 : Int32} {za2 : Int32} {za3 : Int32} {za4 : Int32} {zfr : Nat → Int32} {zcd : Int32} {zgo : Nat → Int32} {ztd : Int32} {ztv : Int32} {zcl : Nat → Int32} {zca : Nat → Int32} {zwa : Nat → Int32} {zpt : Nat → Int32} {zpf : Nat → Int32} {N : Nat} {p2 : Int32} {ztv' : Int32} {zcl' : Nat → Int32} {zwa' : Nat → Int32} {X' : Nat → Nat → Int32} (hj : j < 13) (hX : HS j = X) {HS1 : Nat → Nat → Nat → Int32} (h1 : updH HS j X' = HS1) (hE : fX9_takesAway N ztv zcl zwa X p2 = some (ztv', zcl', zwa', X')) : Mg l yX9_takesAway cX9_takesAway 3 none (rmk 2 50) (KX Z) (AX Z) [.ref (oA Z 13), .ref (hA Z j 0), .int p2] (PX Z HS zkb zdr zky zpn zps ztz ztn zxz zxa zsg za0 za1 za2 za3 za4 zfr zcd zgo ztd ztv zcl zca zwa zpt zpf) (Qv (KX Z) (AX Z) (PX Z HS1 zkb zdr zky zpn zps ztz ztn zxz zxa zsg za0 za1 za2 za3 za4 zfr zcd zgo ztd ztv' zcl' zca zwa' zpt zpf)) := by
  subst h1
  rw [← updH_eq hX, updH_upd]
  refine Mg.start (lv := [(0, .ref (oA Z 13)), (1, .ref (hA Z j 0)), (2, .int p2)]) (by decide) rfl (Nat.le_of_ble_eq_true rfl) rfl ?_
  intro p e s m below meth c F hr hlk C hP ls hl
  have hS : va_S (AX Z) s.heap s.heap [] := va_S.rf
  unfold fX9_takesAway at hE
  refine lv_aload_n F.1 F.2.1 dX9_takesAway_0 rfl (lv_at hl 0 rfl) ?_
  refine gX9_9 F C hP dX9_takesAway_1 ?_
  refine lv_iload_n F.1 F.2.1 dX9_takesAway_4 rfl (lv_at hl 2 rfl) ?_
  obtain ⟨hi, hE⟩ := grd_some hE
  refine ao14 F C hP hi dX9_takesAway_5 ?_
  refine lv_iconst (v := 1) F.1 F.2.1 dX9_takesAway_6 (by decide) ?_
  refine lv_icmp_eq (tgt := 18) F.1 F.2.1 dX9_takesAway_7 (by decide) (fun hc => ?_) (fun hc => ?_)
  · have hE := ifp hE hc
    have w0 := Option.some.inj hE
    obtain ⟨g0, w1⟩ := Prod.mk.inj w0
    obtain ⟨g1, w2⟩ := Prod.mk.inj w1
    obtain ⟨g2, w3⟩ := Prod.mk.inj w2
    subst g0 g1 g2 w3
    exact ret_v F hr hlk hP hS dX9_takesAway_18
  · have hE := ifn hE hc
    refine lv_aload_n F.1 F.2.1 dX9_takesAway_10 rfl (lv_at hl 0 rfl) ?_
    refine lv_aload_n F.1 F.2.1 dX9_takesAway_11 rfl (lv_at hl 1 rfl) ?_
    refine lv_iload_n F.1 F.2.1 dX9_takesAway_12 rfl (lv_at hl 2 rfl) ?_
    refine lv_iconst (v := 1) F.1 F.2.1 dX9_takesAway_13 (by decide) ?_
    refine lv_iconst (v := (-1)) F.1 F.2.1 dX9_takesAway_14 (by decide) ?_
    obtain ⟨ztv_244, zcl_244, zwa_244, X_244, hc, hE⟩ := bnd4_some hE
    refine aft_v (run_V (rest := []) F (kX9_spreads hj (updH_at _ _ _) (updH_upd _ _ _ _) hc) (okX Z) C hS lkX9_88 ⟨Nat.le_of_ble_eq_true rfl, Nat.le_of_ble_eq_true rfl⟩ (rvo13 C hP) hP rfl hl.1 rfl (lv_room (Nat.le_of_ble_eq_true rfl)) dX9_takesAway_15 ⟨Nat.zero_le _, Nat.zero_le _⟩) hS (fun H locs hP hS => ?_)
    have w0 := Option.some.inj hE
    obtain ⟨g0, w1⟩ := Prod.mk.inj w0
    obtain ⟨g1, w2⟩ := Prod.mk.inj w1
    obtain ⟨g2, w3⟩ := Prod.mk.inj w2
    subst g0 g1 g2 w3
    exact ret_v F hr hlk hP hS dX9_takesAway_18
set_option maxRecDepth 100000 in
set_option maxHeartbeats 4000000 in
theorem kX9_looksAt {l : Launch} {Z : ZC} {HS : Nat → Nat → Nat → Int32} {j : Nat} {X : Nat → Nat → Int32} {zkb : Int32} {zdr : Int32} {zky : Nat → Int32} {zpn : Int32} {zps : Int32} {ztz : Int32} {ztn : Nat → Int64} {zxz : Int32} {zxa : Int32} {zsg : Nat → Int32} {za0 : Int32} {za1 : Int32} {za2 : Int32} {za3 : Int32} {za4 : Int32} {zfr : Nat → Int32} {zcd : Int32} {zgo : Nat → Int32} {ztd : Int32} {ztv : Int32} {zcl : Nat → Int32} {zca : Nat → Int32} {zwa : Nat → Int32} {zpt : Nat → Int32} {zpf : Nat → Int32} {N : Nat} {p2 : Int32} {ztd' : Int32} {ztv' : Int32} {zcl' : Nat → Int32} {zwa' : Nat → Int32} {zpt' : Nat → Int32} {zpf' : Nat → Int32} {X' : Nat → Nat → Int32} (hj : j < 13) (hX : HS j = X) {HS1 : Nat → Nat → Nat → Int32} (h1 : updH HS j X' = HS1) (hE : fX9_looksAt N ztd ztv zcl zwa zpt zpf X p2 = some (ztd', ztv', zcl', zwa', zpt', zpf', X')) : Mg l yX9_looksAt cX9_looksAt 3 none (rmk 2 50) (KX Z) (AX Z) [.ref (oA Z 13), .ref (hA Z j 0), .int p2] (PX Z HS zkb zdr zky zpn zps ztz ztn zxz zxa zsg za0 za1 za2 za3 za4 zfr zcd zgo ztd ztv zcl zca zwa zpt zpf) (Qv (KX Z) (AX Z) (PX Z HS1 zkb zdr zky zpn zps ztz ztn zxz zxa zsg za0 za1 za2 za3 za4 zfr zcd zgo ztd' ztv' zcl' zca zwa' zpt' zpf')) := by
  subst h1
  rw [← updH_eq hX, updH_upd]
  refine Mg.start (lv := [(0, .ref (oA Z 13)), (1, .ref (hA Z j 0)), (2, .int p2)]) (by decide) rfl (Nat.le_of_ble_eq_true rfl) rfl ?_
  intro p e s m below meth c F hr hlk C hP ls hl
  have hS : va_S (AX Z) s.heap s.heap [] := va_S.rf
  unfold fX9_looksAt at hE
  refine lv_iload_n F.1 F.2.1 dX9_looksAt_0 rfl (lv_at hl 2 rfl) ?_
  refine lv_iconst (v := (-1)) F.1 F.2.1 dX9_looksAt_1 (by decide) ?_
  refine lv_icmp_eq (tgt := 15) F.1 F.2.1 dX9_looksAt_2 (by decide) (fun hc => ?_) (fun hc => ?_)
  · have hE := ifp hE hc
    have w0 := Option.some.inj hE
    obtain ⟨g0, w1⟩ := Prod.mk.inj w0
    obtain ⟨g1, w2⟩ := Prod.mk.inj w1
    obtain ⟨g2, w3⟩ := Prod.mk.inj w2
    obtain ⟨g3, w4⟩ := Prod.mk.inj w3
    obtain ⟨g4, w5⟩ := Prod.mk.inj w4
    obtain ⟨g5, w6⟩ := Prod.mk.inj w5
    subst g0 g1 g2 g3 g4 g5 w6
    exact ret_v F hr hlk hP hS dX9_looksAt_15
  · have hE := ifn hE hc
    refine lv_aload_n F.1 F.2.1 dX9_looksAt_5 rfl (lv_at hl 0 rfl) ?_
    refine gX9_9 F C hP dX9_looksAt_6 ?_
    refine lv_iload_n F.1 F.2.1 dX9_looksAt_9 rfl (lv_at hl 2 rfl) ?_
    obtain ⟨hi, hE⟩ := grd_some hE
    refine ao14 F C hP hi dX9_looksAt_10 ?_
    refine lv_iconst (v := 1) F.1 F.2.1 dX9_looksAt_11 (by decide) ?_
    refine lv_icmp_eq (tgt := 16) F.1 F.2.1 dX9_looksAt_12 (by decide) (fun hc => ?_) (fun hc => ?_)
    · have hE := ifp hE hc
      refine lv_aload_n F.1 F.2.1 dX9_looksAt_16 rfl (lv_at hl 1 rfl) ?_
      refine gX9_41 F C hP hj (updH_at _ _ _) dX9_looksAt_17 ?_
      refine lv_iload_n F.1 F.2.1 dX9_looksAt_20 rfl (lv_at hl 2 rfl) ?_
      obtain ⟨hi, hE⟩ := grd_some hE
      refine ah4 F C hP hj (updH_at _ _ _) hi dX9_looksAt_21 ?_
      refine lv_if_le (tgt := 36) F.1 F.2.1 dX9_looksAt_22 (by decide) (fun hc => ?_) (fun hc => ?_)
      · have hE := ifp hE hc
        refine lv_aload_n F.1 F.2.1 dX9_looksAt_36 rfl (lv_at hl 0 rfl) ?_
        refine gX9_100 F C hP dX9_looksAt_37 ?_
        refine lv_bipush (v := 24) F.1 F.2.1 dX9_looksAt_40 (by decide) ?_
        refine lv_icmp_ge (tgt := 81) F.1 F.2.1 dX9_looksAt_42 (by decide) (fun hc => ?_) (fun hc => ?_)
        · have hE := ifp hE hc
          have w0 := Option.some.inj hE
          obtain ⟨g0, w1⟩ := Prod.mk.inj w0
          obtain ⟨g1, w2⟩ := Prod.mk.inj w1
          obtain ⟨g2, w3⟩ := Prod.mk.inj w2
          obtain ⟨g3, w4⟩ := Prod.mk.inj w3
          obtain ⟨g4, w5⟩ := Prod.mk.inj w4
          obtain ⟨g5, w6⟩ := Prod.mk.inj w5
          subst g0 g1 g2 g3 g4 g5 w6
          exact ret_v F hr hlk hP hS dX9_looksAt_81
        · have hE := ifn hE hc
          refine lv_aload_n F.1 F.2.1 dX9_looksAt_45 rfl (lv_at hl 0 rfl) ?_
          refine lv_iload_n F.1 F.2.1 dX9_looksAt_46 rfl (lv_at hl 2 rfl) ?_
          refine lv_iconst (v := 2) F.1 F.2.1 dX9_looksAt_47 (by decide) ?_
          obtain ⟨ztv_250, zcl_250, hc, hE⟩ := bnd2_some hE
          refine aft_v (run_V (rest := []) F (kX9_paints hc) (okX Z) C hS lkX9_92 ⟨Nat.le_of_ble_eq_true rfl, Nat.le_of_ble_eq_true rfl⟩ (rvo13 C hP) hP rfl hl.1 rfl (lv_room (Nat.le_of_ble_eq_true rfl)) dX9_looksAt_48 ⟨Nat.zero_le _, Nat.zero_le _⟩) hS (fun H locs hP hS => ?_)
          refine lv_aload_n F.1 F.2.1 dX9_looksAt_51 rfl (lv_at hl 0 rfl) ?_
          refine gX9_21 F C hP dX9_looksAt_52 ?_
          refine lv_aload_n F.1 F.2.1 dX9_looksAt_55 rfl (lv_at hl 0 rfl) ?_
          refine gX9_100 F C hP dX9_looksAt_56 ?_
          refine lv_iload_n F.1 F.2.1 dX9_looksAt_59 rfl (lv_at hl 2 rfl) ?_
          obtain ⟨hi, hE⟩ := grd_some hE
          obtain ⟨zpt_251, ezpt_251, hE⟩ := lt_some hE
          refine so17 F C hP hi hS ezpt_251.symm dX9_looksAt_60 (fun H locs hP hS => ?_)
          refine lv_aload_n F.1 F.2.1 dX9_looksAt_61 rfl (lv_at hl 0 rfl) ?_
          refine gX9_24 F C hP dX9_looksAt_62 ?_
          refine lv_aload_n F.1 F.2.1 dX9_looksAt_65 rfl (lv_at hl 0 rfl) ?_
          refine gX9_100 F C hP dX9_looksAt_66 ?_
          refine lv_iconst (v := 0) F.1 F.2.1 dX9_looksAt_69 (by decide) ?_
          obtain ⟨hi, hE⟩ := grd_some hE
          obtain ⟨zpf_252, ezpf_252, hE⟩ := lt_some hE
          refine so18 F C hP hi hS ezpf_252.symm dX9_looksAt_70 (fun H locs hP hS => ?_)
          refine lv_aload_n F.1 F.2.1 dX9_looksAt_71 rfl (lv_at hl 0 rfl) ?_
          refine lv_dup F.1 F.2.1 dX9_looksAt_72 rfl ?_
          refine gX9_100 F C hP dX9_looksAt_73 ?_
          refine lv_iconst (v := 1) F.1 F.2.1 dX9_looksAt_76 (by decide) ?_
          refine lv_iadd F.1 F.2.1 dX9_looksAt_77 ?_
          obtain ⟨ztd_253, eztd_253, hE⟩ := lt_some hE
          refine pX9_100 F C hP hS eztd_253.symm dX9_looksAt_78 (fun H locs hP hS => ?_)
          have w0 := Option.some.inj hE
          obtain ⟨g0, w1⟩ := Prod.mk.inj w0
          obtain ⟨g1, w2⟩ := Prod.mk.inj w1
          obtain ⟨g2, w3⟩ := Prod.mk.inj w2
          obtain ⟨g3, w4⟩ := Prod.mk.inj w3
          obtain ⟨g4, w5⟩ := Prod.mk.inj w4
          obtain ⟨g5, w6⟩ := Prod.mk.inj w5
          subst g0 g1 g2 g3 g4 g5 w6
          exact ret_v F hr hlk hP hS dX9_looksAt_81
      · have hE := ifn hE hc
        refine lv_aload_n F.1 F.2.1 dX9_looksAt_25 rfl (lv_at hl 0 rfl) ?_
        refine lv_aload_n F.1 F.2.1 dX9_looksAt_26 rfl (lv_at hl 1 rfl) ?_
        refine lv_iload_n F.1 F.2.1 dX9_looksAt_27 rfl (lv_at hl 2 rfl) ?_
        refine lv_iconst (v := 3) F.1 F.2.1 dX9_looksAt_28 (by decide) ?_
        refine lv_iconst (v := 1) F.1 F.2.1 dX9_looksAt_29 (by decide) ?_
        obtain ⟨ztv_254, zcl_254, zwa_254, X_254, hc, hE⟩ := bnd4_some hE
        refine aft_v (run_V (rest := []) F (kX9_spreads hj (updH_at _ _ _) (updH_upd _ _ _ _) hc) (okX Z) C hS lkX9_88 ⟨Nat.le_of_ble_eq_true rfl, Nat.le_of_ble_eq_true rfl⟩ (rvo13 C hP) hP rfl hl.1 rfl (lv_room (Nat.le_of_ble_eq_true rfl)) dX9_looksAt_30 ⟨Nat.zero_le _, Nat.zero_le _⟩) hS (fun H locs hP hS => ?_)
        refine lv_goto (tgt := 81) F.1 F.2.1 dX9_looksAt_33 (by decide) ?_
        have w0 := Option.some.inj hE
        obtain ⟨g0, w1⟩ := Prod.mk.inj w0
        obtain ⟨g1, w2⟩ := Prod.mk.inj w1
        obtain ⟨g2, w3⟩ := Prod.mk.inj w2
        obtain ⟨g3, w4⟩ := Prod.mk.inj w3
        obtain ⟨g4, w5⟩ := Prod.mk.inj w4
        obtain ⟨g5, w6⟩ := Prod.mk.inj w5
        subst g0 g1 g2 g3 g4 g5 w6
        exact ret_v F hr hlk hP hS dX9_looksAt_81
    · have hE := ifn hE hc
      have w0 := Option.some.inj hE
      obtain ⟨g0, w1⟩ := Prod.mk.inj w0
      obtain ⟨g1, w2⟩ := Prod.mk.inj w1
      obtain ⟨g2, w3⟩ := Prod.mk.inj w2
      obtain ⟨g3, w4⟩ := Prod.mk.inj w3
      obtain ⟨g4, w5⟩ := Prod.mk.inj w4
      obtain ⟨g5, w6⟩ := Prod.mk.inj w5
      subst g0 g1 g2 g3 g4 g5 w6
      exact ret_v F hr hlk hP hS dX9_looksAt_15
set_option maxRecDepth 100000 in
set_option maxHeartbeats 4000000 in
theorem qX9_looksThrough_13 {p : Program} {l : Launch} {e : Env} {s : State} {m : MethodId} {args : Array Value} {below : List Frame} {meth : Method} {c : Code} {Z : ZC} {HS : Nat → Nat → Nat → Int32} {j : Nat} {zkb : Int32} {zdr : Int32} {zky : Nat → Int32} {zpn : Int32} {zps : Int32} {ztz : Int32} {ztn : Nat → Int64} {zxz : Int32} {zxa : Int32} {zsg : Nat → Int32} {za0 : Int32} {za1 : Int32} {za2 : Int32} {za3 : Int32} {za4 : Int32} {zfr : Nat → Int32} {zcd : Int32} {zgo : Nat → Int32} {zca : Nat → Int32} {N : Nat} {p2 : Int32} {ztd' : Int32} {ztv' : Int32} {zcl' : Nat → Int32} {zwa' : Nat → Int32} {zpt' : Nat → Int32} {zpf' : Nat → Int32} {X' : Nat → Nat → Int32} (F : CallFix p m c cX9_looksThrough 6 s args bigW RX9) (hr : meth.sig.returnType = none) (hlk : meth.locks = false) (C : KX Z s) (hj : j < 13) : ∀ n : Nat, ∀ (ztd : Int32) (ztv : Int32) (zcl : Nat → Int32) (zwa : Nat → Int32) (zpt : Nat → Int32) (zpf : Nat → Int32) (X : Nat → Nat → Int32) (x3 : Int32), fX9_looksThrough_13 N p2 n ztd ztv zcl zwa zpt zpf X x3 = some (ztd', ztv', zcl', zwa', zpt', zpf', X') → ∀ (H : Heap) (locs : List Loc), PX Z (updH HS j X) zkb zdr zky zpn zps ztz ztn zxz zxa zsg za0 za1 za2 za3 za4 zfr zcd zgo ztd ztv zcl zca zwa zpt zpf H → va_S (AX Z) s.heap H locs → ∀ ls : Array Slot, lv_has ls 6 [(0, .ref (oA Z 13)), (1, .ref (hA Z j 0)), (3, .int x3)] → W p l e (rmk 3 72) s m args below meth c H locs 0 0 (MQ below (Qv (KX Z) (AX Z) (PX Z (updH HS j X') zkb zdr zky zpn zps ztz ztn zxz zxa zsg za0 za1 za2 za3 za4 zfr zcd zgo ztd' ztv' zcl' zca zwa' zpt' zpf')) args s 0 0 (AX Z)) (F0 m 13 ls []) := by
  intro n
  induction n with
  | zero => intro ztd ztv zcl zwa zpt zpf X x3 hE; cases hE
  | succ n h13 =>
    intro ztd ztv zcl zwa zpt zpf X x3 hE H locs hP hS ls hl
    have hE : fX9_looksThrough_13b N p2 (fX9_looksThrough_13 N p2 n) ztd ztv zcl zwa zpt zpf X x3 = some (ztd', ztv', zcl', zwa', zpt', zpf', X') := hE
    refine lv_iload_n F.1 F.2.1 dX9_looksThrough_13 rfl (lv_at hl 2 rfl) ?_
    refine lv_ldc (v := 100000) F.1 F.2.1 F.2.2.2.1 (F.2.2.2.2 _ (bw_t 573 (by decide +kernel) rfl)) dX9_looksThrough_14 ?_
    refine lv_icmp_ge (tgt := 105) F.1 F.2.1 dX9_looksThrough_16 (by decide) (fun hc => ?_) (fun hc => ?_)
    · have hE := ifp hE hc
      have w0 := Option.some.inj hE
      obtain ⟨g0, w1⟩ := Prod.mk.inj w0
      obtain ⟨g1, w2⟩ := Prod.mk.inj w1
      obtain ⟨g2, w3⟩ := Prod.mk.inj w2
      obtain ⟨g3, w4⟩ := Prod.mk.inj w3
      obtain ⟨g4, w5⟩ := Prod.mk.inj w4
      obtain ⟨g5, w6⟩ := Prod.mk.inj w5
      subst g0 g1 g2 g3 g4 g5 w6
      exact ret_v F hr hlk hP hS dX9_looksThrough_105
    · have hE := ifn hE hc
      refine lv_aload_n F.1 F.2.1 dX9_looksThrough_19 rfl (lv_at hl 0 rfl) ?_
      refine gX9_100 F C hP dX9_looksThrough_20 ?_
      refine lv_if_le (tgt := 105) F.1 F.2.1 dX9_looksThrough_23 (by decide) (fun hc => ?_) (fun hc => ?_)
      · have hE := ifp hE hc
        have w0 := Option.some.inj hE
        obtain ⟨g0, w1⟩ := Prod.mk.inj w0
        obtain ⟨g1, w2⟩ := Prod.mk.inj w1
        obtain ⟨g2, w3⟩ := Prod.mk.inj w2
        obtain ⟨g3, w4⟩ := Prod.mk.inj w3
        obtain ⟨g4, w5⟩ := Prod.mk.inj w4
        obtain ⟨g5, w6⟩ := Prod.mk.inj w5
        subst g0 g1 g2 g3 g4 g5 w6
        exact ret_v F hr hlk hP hS dX9_looksThrough_105
      · have hE := ifn hE hc
        refine lv_aload_n F.1 F.2.1 dX9_looksThrough_26 rfl (lv_at hl 0 rfl) ?_
        refine gX9_21 F C hP dX9_looksThrough_27 ?_
        refine lv_aload_n F.1 F.2.1 dX9_looksThrough_30 rfl (lv_at hl 0 rfl) ?_
        refine gX9_100 F C hP dX9_looksThrough_31 ?_
        refine lv_iconst (v := 1) F.1 F.2.1 dX9_looksThrough_34 (by decide) ?_
        refine lv_isub F.1 F.2.1 dX9_looksThrough_35 ?_
        obtain ⟨hi, hE⟩ := grd_some hE
        refine ao17 F C hP hi dX9_looksThrough_36 ?_
        obtain ⟨v_263, ev_263, hE⟩ := lt_some hE
        refine lv_seti ev_263 ?_
        refine lv_istore (lv' := [(4, .int v_263), (0, .ref (oA Z 13)), (1, .ref (hA Z j 0)), (3, .int x3)]) F.1 F.2.1 dX9_looksThrough_37 hl (by decide) rfl (fun ls hl => ?_)
        refine lv_aload_n F.1 F.2.1 dX9_looksThrough_39 rfl (lv_at hl 1 rfl) ?_
        refine gX9_24 F C hP dX9_looksThrough_40 ?_
        refine lv_aload_n F.1 F.2.1 dX9_looksThrough_43 rfl (lv_at hl 1 rfl) ?_
        refine gX9_100 F C hP dX9_looksThrough_44 ?_
        refine lv_iconst (v := 1) F.1 F.2.1 dX9_looksThrough_47 (by decide) ?_
        refine lv_isub F.1 F.2.1 dX9_looksThrough_48 ?_
        obtain ⟨hi, hE⟩ := grd_some hE
        refine ao18 F C hP hi dX9_looksThrough_49 ?_
        obtain ⟨v_264, ev_264, hE⟩ := lt_some hE
        refine lv_seti ev_264 ?_
        refine lv_istore (lv' := [(5, .int v_264), (4, .int v_263), (0, .ref (oA Z 13)), (1, .ref (hA Z j 0)), (3, .int x3)]) F.1 F.2.1 dX9_looksThrough_50 hl (by decide) rfl (fun ls hl => ?_)
        refine lv_iload F.1 F.2.1 dX9_looksThrough_52 (lv_at hl 0 rfl) ?_
        refine lv_iconst (v := 4) F.1 F.2.1 dX9_looksThrough_54 (by decide) ?_
        refine lv_icmp_ge (tgt := 89) F.1 F.2.1 dX9_looksThrough_55 (by decide) (fun hc => ?_) (fun hc => ?_)
        · have hE := ifp hE hc
          refine lv_aload_n F.1 F.2.1 dX9_looksThrough_89 rfl (lv_at hl 2 rfl) ?_
          refine lv_dup F.1 F.2.1 dX9_looksThrough_90 rfl ?_
          refine gX9_100 F C hP dX9_looksThrough_91 ?_
          refine lv_iconst (v := 1) F.1 F.2.1 dX9_looksThrough_94 (by decide) ?_
          refine lv_isub F.1 F.2.1 dX9_looksThrough_95 ?_
          obtain ⟨ztd_265, eztd_265, hE⟩ := lt_some hE
          refine pX9_100 F C hP hS eztd_265.symm dX9_looksThrough_96 (fun H locs hP hS => ?_)
          refine lv_iinc (v := x3 + 1) (lv' := [(3, .int (x3 + 1)), (5, .int v_264), (4, .int v_263), (0, .ref (oA Z 13)), (1, .ref (hA Z j 0))]) F.1 F.2.1 dX9_looksThrough_99 hl (k := 4) rfl rfl (by decide) rfl (fun ls hl => ?_)
          refine lv_goto (tgt := 13) F.1 F.2.1 dX9_looksThrough_102 (by decide) ?_
          exact h13 ztd_265 ztv zcl zwa zpt zpf X (x3 + 1) hE _ _ hP hS ls (lv_sub hl [3, 4, 0] rfl)
        · have hE := ifn hE hc
          refine lv_aload_n F.1 F.2.1 dX9_looksThrough_58 rfl (lv_at hl 2 rfl) ?_
          refine gX9_24 F C hP dX9_looksThrough_59 ?_
          refine lv_aload_n F.1 F.2.1 dX9_looksThrough_62 rfl (lv_at hl 2 rfl) ?_
          refine gX9_100 F C hP dX9_looksThrough_63 ?_
          refine lv_iconst (v := 1) F.1 F.2.1 dX9_looksThrough_66 (by decide) ?_
          refine lv_isub F.1 F.2.1 dX9_looksThrough_67 ?_
          refine lv_dup2_11 F.1 F.2.1 dX9_looksThrough_68 rfl rfl ?_
          obtain ⟨hi, hE⟩ := grd_some hE
          refine ao18 F C hP hi dX9_looksThrough_69 ?_
          refine lv_iconst (v := 1) F.1 F.2.1 dX9_looksThrough_70 (by decide) ?_
          refine lv_iadd F.1 F.2.1 dX9_looksThrough_71 ?_
          obtain ⟨hi, hE⟩ := grd_some hE
          obtain ⟨zpf_266, ezpf_266, hE⟩ := lt_some hE
          refine so18 F C hP hi hS ezpf_266.symm dX9_looksThrough_72 (fun H locs hP hS => ?_)
          refine lv_aload_n F.1 F.2.1 dX9_looksThrough_73 rfl (lv_at hl 2 rfl) ?_
          refine lv_aload_n F.1 F.2.1 dX9_looksThrough_74 rfl (lv_at hl 3 rfl) ?_
          refine lv_aload_n F.1 F.2.1 dX9_looksThrough_75 rfl (lv_at hl 3 rfl) ?_
          refine lv_iload F.1 F.2.1 dX9_looksThrough_76 (lv_at hl 1 rfl) ?_
          refine lv_iload F.1 F.2.1 dX9_looksThrough_78 (lv_at hl 0 rfl) ?_
          obtain ⟨r267, hc, hE⟩ := bnd1_some hE
          refine aft_i (run_N (rest := [.ref (hA Z j 0), .ref (oA Z 13)]) F (kX3_fieldAt hj (updH_at _ _ _) hc) (okX Z) C hS (C.2.2 _ _ mlX9_96 rfl) lkX9_96 ⟨Nat.le_of_ble_eq_true rfl, Nat.le_of_ble_eq_true rfl⟩ (rvh0 C hP hj) hP rfl hl.1 rfl (lv_room (Nat.le_of_ble_eq_true rfl)) dX9_looksThrough_80 ⟨Nat.zero_le _, Nat.zero_le _⟩) hS (fun H locs hP hS => ?_)
          obtain ⟨ztd_268, ztv_268, zcl_268, zwa_268, zpt_268, zpf_268, X_268, hc, hE⟩ := bnd7_some hE
          refine aft_v (run_V (rest := []) F (kX9_looksAt hj (updH_at _ _ _) (updH_upd _ _ _ _) hc) (okX Z) C hS lkX9_103 ⟨Nat.le_of_ble_eq_true rfl, Nat.le_of_ble_eq_true rfl⟩ (rvo13 C hP) hP rfl hl.1 rfl (lv_room (Nat.le_of_ble_eq_true rfl)) dX9_looksThrough_83 ⟨Nat.zero_le _, Nat.zero_le _⟩) hS (fun H locs hP hS => ?_)
          refine lv_goto (tgt := 99) F.1 F.2.1 dX9_looksThrough_86 (by decide) ?_
          refine lv_iinc (v := x3 + 1) (lv' := [(3, .int (x3 + 1)), (5, .int v_264), (4, .int v_263), (0, .ref (oA Z 13)), (1, .ref (hA Z j 0))]) F.1 F.2.1 dX9_looksThrough_99 hl (k := 4) rfl rfl (by decide) rfl (fun ls hl => ?_)
          refine lv_goto (tgt := 13) F.1 F.2.1 dX9_looksThrough_102 (by decide) ?_
          exact h13 ztd_268 ztv_268 zcl_268 zwa_268 zpt_268 zpf_268 X_268 (x3 + 1) hE _ _ hP hS ls (lv_sub hl [3, 4, 0] rfl)
set_option maxRecDepth 100000 in
set_option maxHeartbeats 4000000 in
theorem kX9_looksThrough {l : Launch} {Z : ZC} {HS : Nat → Nat → Nat → Int32} {j : Nat} {X : Nat → Nat → Int32} {zkb : Int32} {zdr : Int32} {zky : Nat → Int32} {zpn : Int32} {zps : Int32} {ztz : Int32} {ztn : Nat → Int64} {zxz : Int32} {zxa : Int32} {zsg : Nat → Int32} {za0 : Int32} {za1 : Int32} {za2 : Int32} {za3 : Int32} {za4 : Int32} {zfr : Nat → Int32} {zcd : Int32} {zgo : Nat → Int32} {ztd : Int32} {ztv : Int32} {zcl : Nat → Int32} {zca : Nat → Int32} {zwa : Nat → Int32} {zpt : Nat → Int32} {zpf : Nat → Int32} {N : Nat} {p2 : Int32} {ztd' : Int32} {ztv' : Int32} {zcl' : Nat → Int32} {zwa' : Nat → Int32} {zpt' : Nat → Int32} {zpf' : Nat → Int32} {X' : Nat → Nat → Int32} (hj : j < 13) (hX : HS j = X) {HS1 : Nat → Nat → Nat → Int32} (h1 : updH HS j X' = HS1) (hE : fX9_looksThrough N ztd ztv zcl zwa zpt zpf X p2 = some (ztd', ztv', zcl', zwa', zpt', zpf', X')) : Mg l yX9_looksThrough cX9_looksThrough 6 none (rmk 3 72) (KX Z) (AX Z) [.ref (oA Z 13), .ref (hA Z j 0), .int p2] (PX Z HS zkb zdr zky zpn zps ztz ztn zxz zxa zsg za0 za1 za2 za3 za4 zfr zcd zgo ztd ztv zcl zca zwa zpt zpf) (Qv (KX Z) (AX Z) (PX Z HS1 zkb zdr zky zpn zps ztz ztn zxz zxa zsg za0 za1 za2 za3 za4 zfr zcd zgo ztd' ztv' zcl' zca zwa' zpt' zpf')) := by
  subst h1
  rw [← updH_eq hX, updH_upd]
  refine Mg.start (lv := [(0, .ref (oA Z 13)), (1, .ref (hA Z j 0)), (2, .int p2)]) (by decide) rfl (Nat.le_of_ble_eq_true rfl) rfl ?_
  intro p e s m below meth c F hr hlk C hP ls hl
  have hS : va_S (AX Z) s.heap s.heap [] := va_S.rf
  unfold fX9_looksThrough at hE
  refine lv_aload_n F.1 F.2.1 dX9_looksThrough_0 rfl (lv_at hl 0 rfl) ?_
  refine lv_iconst (v := 0) F.1 F.2.1 dX9_looksThrough_1 (by decide) ?_
  refine pX9_100 F C hP hS rfl dX9_looksThrough_2 (fun H locs hP hS => ?_)
  refine lv_aload_n F.1 F.2.1 dX9_looksThrough_5 rfl (lv_at hl 0 rfl) ?_
  refine lv_aload_n F.1 F.2.1 dX9_looksThrough_6 rfl (lv_at hl 1 rfl) ?_
  refine lv_iload_n F.1 F.2.1 dX9_looksThrough_7 rfl (lv_at hl 2 rfl) ?_
  obtain ⟨ztd_262, ztv_262, zcl_262, zwa_262, zpt_262, zpf_262, X_262, hc, hE⟩ := bnd7_some hE
  refine aft_v (run_V (rest := []) F (kX9_looksAt hj (updH_at _ _ _) (updH_upd _ _ _ _) hc) (okX Z) C hS lkX9_103 ⟨Nat.le_of_ble_eq_true rfl, Nat.le_of_ble_eq_true rfl⟩ (rvo13 C hP) hP rfl hl.1 rfl (lv_room (Nat.le_of_ble_eq_true rfl)) dX9_looksThrough_8 ⟨Nat.zero_le _, Nat.zero_le _⟩) hS (fun H locs hP hS => ?_)
  refine lv_iconst (v := 0) F.1 F.2.1 dX9_looksThrough_11 (by decide) ?_
  refine lv_istore_n (lv' := [(3, .int 0), (0, .ref (oA Z 13)), (1, .ref (hA Z j 0)), (2, .int p2)]) F.1 F.2.1 dX9_looksThrough_12 rfl hl (by decide) rfl (fun ls hl => ?_)
  exact qX9_looksThrough_13 F hr hlk C hj N ztd_262 ztv_262 zcl_262 zwa_262 zpt_262 zpf_262 X_262 0 hE _ _ hP hS ls (lv_sub hl [1, 2, 0] rfl)
set_option maxRecDepth 100000 in
set_option maxHeartbeats 4000000 in
theorem kX6_clears {l : Launch} {Z : ZC} {HS : Nat → Nat → Nat → Int32} {j : Nat} {X : Nat → Nat → Int32} {zkb : Int32} {zdr : Int32} {zky : Nat → Int32} {zpn : Int32} {zps : Int32} {ztz : Int32} {ztn : Nat → Int64} {zxz : Int32} {zxa : Int32} {zsg : Nat → Int32} {za0 : Int32} {za1 : Int32} {za2 : Int32} {za3 : Int32} {za4 : Int32} {zfr : Nat → Int32} {zcd : Int32} {zgo : Nat → Int32} {ztd : Int32} {ztv : Int32} {zcl : Nat → Int32} {zca : Nat → Int32} {zwa : Nat → Int32} {zpt : Nat → Int32} {zpf : Nat → Int32} {X' : Nat → Nat → Int32} (hj : j < 13) (hX : HS j = X) {HS1 : Nat → Nat → Nat → Int32} (h1 : updH HS j X' = HS1) (hE : fX6_clears X = some X') : Mg l yX6_clears cX6_clears 1 none (rmk 0 0) (KX Z) (AX Z) [.ref (hA Z j 8)] (PX Z HS zkb zdr zky zpn zps ztz ztn zxz zxa zsg za0 za1 za2 za3 za4 zfr zcd zgo ztd ztv zcl zca zwa zpt zpf) (Qv (KX Z) (AX Z) (PX Z HS1 zkb zdr zky zpn zps ztz ztn zxz zxa zsg za0 za1 za2 za3 za4 zfr zcd zgo ztd ztv zcl zca zwa zpt zpf)) := by
  subst h1
  rw [← updH_eq hX, updH_upd]
  refine Mg.start (lv := [(0, .ref (hA Z j 8))]) (by decide) rfl (Nat.le_of_ble_eq_true rfl) rfl ?_
  intro p e s m below meth c F hr hlk C hP ls hl
  have hS : va_S (AX Z) s.heap s.heap [] := va_S.rf
  unfold fX6_clears at hE
  refine lv_aload_n F.1 F.2.1 dX6_clears_0 rfl (lv_at hl 0 rfl) ?_
  refine lv_iconst (v := 0) F.1 F.2.1 dX6_clears_1 (by decide) ?_
  obtain ⟨X_272, eX_272, hE⟩ := lt_some hE
  refine pX6_21 F C hP hj (updH_at _ _ _) hS (updH_let eX_272) dX6_clears_2 (fun H locs hP hS => ?_)
  refine lv_aload_n F.1 F.2.1 dX6_clears_5 rfl (lv_at hl 0 rfl) ?_
  refine lv_iconst (v := 0) F.1 F.2.1 dX6_clears_6 (by decide) ?_
  obtain ⟨X_273, eX_273, hE⟩ := lt_some hE
  refine pX6_25 F C hP hj (updH_at _ _ _) hS (updH_let eX_273) dX6_clears_7 (fun H locs hP hS => ?_)
  refine lv_aload_n F.1 F.2.1 dX6_clears_10 rfl (lv_at hl 0 rfl) ?_
  refine lv_iconst (v := 0) F.1 F.2.1 dX6_clears_11 (by decide) ?_
  obtain ⟨X_274, eX_274, hE⟩ := lt_some hE
  refine pX6_28 F C hP hj (updH_at _ _ _) hS (updH_let eX_274) dX6_clears_12 (fun H locs hP hS => ?_)
  obtain rfl := Option.some.inj hE
  exact ret_v F hr hlk hP hS dX6_clears_15
set_option maxRecDepth 100000 in
set_option maxHeartbeats 4000000 in
theorem qX9_hasWhiteEnd_2 {p : Program} {l : Launch} {e : Env} {s : State} {m : MethodId} {args : Array Value} {below : List Frame} {meth : Method} {c : Code} {Z : ZC} {HS : Nat → Nat → Nat → Int32} {j : Nat} {X : Nat → Nat → Int32} {zkb : Int32} {zdr : Int32} {zky : Nat → Int32} {zpn : Int32} {zps : Int32} {ztz : Int32} {ztn : Nat → Int64} {zxz : Int32} {zxa : Int32} {zsg : Nat → Int32} {za0 : Int32} {za1 : Int32} {za2 : Int32} {za3 : Int32} {za4 : Int32} {zfr : Nat → Int32} {zcd : Int32} {zgo : Nat → Int32} {ztd : Int32} {ztv : Int32} {zcl : Nat → Int32} {zca : Nat → Int32} {zwa : Nat → Int32} {zpt : Nat → Int32} {zpf : Nat → Int32} {N : Nat} {r' : Int32} (F : CallFix p m c cX9_hasWhiteEnd 3 s args bigW RX9) (hr : meth.sig.returnType = (some .boolean)) (hlk : meth.locks = false) (C : KX Z s) (hj : j < 13) : ∀ n : Nat, ∀ (x2 : Int32), fX9_hasWhiteEnd_2 N zcl X n x2 = some r' → ∀ (H : Heap) (locs : List Loc), PX Z (updH HS j X) zkb zdr zky zpn zps ztz ztn zxz zxa zsg za0 za1 za2 za3 za4 zfr zcd zgo ztd ztv zcl zca zwa zpt zpf H → va_S (AX Z) s.heap H locs → ∀ ls : Array Slot, lv_has ls 3 [(0, .ref (oA Z 13)), (1, .ref (hA Z j 0)), (2, .int x2)] → W p l e (rmk 2 42) s m args below meth c H locs 0 0 (MQ below (Qi (KX Z) (AX Z) (PX Z (updH HS j X) zkb zdr zky zpn zps ztz ztn zxz zxa zsg za0 za1 za2 za3 za4 zfr zcd zgo ztd ztv zcl zca zwa zpt zpf) r') args s 0 0 (AX Z)) (F0 m 2 ls []) := by
  intro n
  induction n with
  | zero => intro x2 hE; cases hE
  | succ n h2 =>
    intro x2 hE H locs hP hS ls hl
    have hE : fX9_hasWhiteEnd_2b N zcl X (fX9_hasWhiteEnd_2 N zcl X n) x2 = some r' := hE
    refine lv_iload_n F.1 F.2.1 dX9_hasWhiteEnd_2 rfl (lv_at hl 2 rfl) ?_
    refine lv_bipush (v := 24) F.1 F.2.1 dX9_hasWhiteEnd_3 (by decide) ?_
    refine lv_icmp_ge (tgt := 34) F.1 F.2.1 dX9_hasWhiteEnd_5 (by decide) (fun hc => ?_) (fun hc => ?_)
    · have hE := ifp hE hc
      refine lv_iconst (v := 0) F.1 F.2.1 dX9_hasWhiteEnd_34 (by decide) ?_
      obtain rfl := Option.some.inj hE
      exact ret_z F hr rfl hlk hP hS dX9_hasWhiteEnd_35
    · have hE := ifn hE hc
      refine lv_aload_n F.1 F.2.1 dX9_hasWhiteEnd_8 rfl (lv_at hl 0 rfl) ?_
      refine gX9_9 F C hP dX9_hasWhiteEnd_9 ?_
      refine lv_iload_n F.1 F.2.1 dX9_hasWhiteEnd_12 rfl (lv_at hl 2 rfl) ?_
      obtain ⟨hi, hE⟩ := grd_some hE
      refine ao14 F C hP hi dX9_hasWhiteEnd_13 ?_
      refine lv_iconst (v := 2) F.1 F.2.1 dX9_hasWhiteEnd_14 (by decide) ?_
      refine lv_icmp_ne (tgt := 28) F.1 F.2.1 dX9_hasWhiteEnd_15 (by decide) (fun hc => ?_) (fun hc => ?_)
      · have hE := ifn hE hc
        refine lv_iinc (v := x2 + 1) (lv' := [(2, .int (x2 + 1)), (0, .ref (oA Z 13)), (1, .ref (hA Z j 0))]) F.1 F.2.1 dX9_hasWhiteEnd_28 hl (k := 2) rfl rfl (by decide) rfl (fun ls hl => ?_)
        refine lv_goto (tgt := 2) F.1 F.2.1 dX9_hasWhiteEnd_31 (by decide) ?_
        exact h2 (x2 + 1) hE _ _ hP hS ls (lv_sub hl [1, 2, 0] rfl)
      · have hE := ifp hE hc
        refine lv_aload_n F.1 F.2.1 dX9_hasWhiteEnd_18 rfl (lv_at hl 1 rfl) ?_
        refine lv_iload_n F.1 F.2.1 dX9_hasWhiteEnd_19 rfl (lv_at hl 2 rfl) ?_
        obtain ⟨r276, hc, hE⟩ := bnd1_some hE
        refine aft_i (run_N (rest := []) F (kX3_hasEndToRun hj (updH_at _ _ _) hc) (okX Z) C hS (C.2.2 _ _ mlX9_107 rfl) lkX9_107 ⟨Nat.le_of_ble_eq_true rfl, Nat.le_of_ble_eq_true rfl⟩ (rvh0 C hP hj) hP rfl hl.1 rfl (lv_room (Nat.le_of_ble_eq_true rfl)) dX9_hasWhiteEnd_20 ⟨Nat.zero_le _, Nat.zero_le _⟩) hS (fun H locs hP hS => ?_)
        refine lv_if_eq (tgt := 28) F.1 F.2.1 dX9_hasWhiteEnd_23 (by decide) (fun hc => ?_) (fun hc => ?_)
        · have hE := ifp hE hc
          refine lv_iinc (v := x2 + 1) (lv' := [(2, .int (x2 + 1)), (0, .ref (oA Z 13)), (1, .ref (hA Z j 0))]) F.1 F.2.1 dX9_hasWhiteEnd_28 hl (k := 2) rfl rfl (by decide) rfl (fun ls hl => ?_)
          refine lv_goto (tgt := 2) F.1 F.2.1 dX9_hasWhiteEnd_31 (by decide) ?_
          exact h2 (x2 + 1) hE _ _ hP hS ls (lv_sub hl [1, 2, 0] rfl)
        · have hE := ifn hE hc
          refine lv_iconst (v := 1) F.1 F.2.1 dX9_hasWhiteEnd_26 (by decide) ?_
          obtain rfl := Option.some.inj hE
          exact ret_z F hr rfl hlk hP hS dX9_hasWhiteEnd_27
set_option maxRecDepth 100000 in
set_option maxHeartbeats 4000000 in
theorem kX9_hasWhiteEnd {l : Launch} {Z : ZC} {HS : Nat → Nat → Nat → Int32} {j : Nat} {X : Nat → Nat → Int32} {zkb : Int32} {zdr : Int32} {zky : Nat → Int32} {zpn : Int32} {zps : Int32} {ztz : Int32} {ztn : Nat → Int64} {zxz : Int32} {zxa : Int32} {zsg : Nat → Int32} {za0 : Int32} {za1 : Int32} {za2 : Int32} {za3 : Int32} {za4 : Int32} {zfr : Nat → Int32} {zcd : Int32} {zgo : Nat → Int32} {ztd : Int32} {ztv : Int32} {zcl : Nat → Int32} {zca : Nat → Int32} {zwa : Nat → Int32} {zpt : Nat → Int32} {zpf : Nat → Int32} {N : Nat} {r' : Int32} (hj : j < 13) (hX : HS j = X) (hE : fX9_hasWhiteEnd N zcl X = some r') : Mg l yX9_hasWhiteEnd cX9_hasWhiteEnd 3 (some .boolean) (rmk 2 42) (KX Z) (AX Z) [.ref (oA Z 13), .ref (hA Z j 0)] (PX Z HS zkb zdr zky zpn zps ztz ztn zxz zxa zsg za0 za1 za2 za3 za4 zfr zcd zgo ztd ztv zcl zca zwa zpt zpf) (Qi (KX Z) (AX Z) (PX Z HS zkb zdr zky zpn zps ztz ztn zxz zxa zsg za0 za1 za2 za3 za4 zfr zcd zgo ztd ztv zcl zca zwa zpt zpf) r') := by
  rw [← updH_eq hX]
  refine Mg.start (lv := [(0, .ref (oA Z 13)), (1, .ref (hA Z j 0))]) (by decide) rfl (Nat.le_of_ble_eq_true rfl) rfl ?_
  intro p e s m below meth c F hr hlk C hP ls hl
  have hS : va_S (AX Z) s.heap s.heap [] := va_S.rf
  unfold fX9_hasWhiteEnd at hE
  refine lv_iconst (v := 0) F.1 F.2.1 dX9_hasWhiteEnd_0 (by decide) ?_
  refine lv_istore_n (lv' := [(2, .int 0), (0, .ref (oA Z 13)), (1, .ref (hA Z j 0))]) F.1 F.2.1 dX9_hasWhiteEnd_1 rfl hl (by decide) rfl (fun ls hl => ?_)
  exact qX9_hasWhiteEnd_2 F hr hlk C hj N 0 hE _ _ hP hS ls (lv_sub hl [1, 2, 0] rfl)
set_option maxRecDepth 100000 in
set_option maxHeartbeats 4000000 in
theorem qX9_runsEnds_66 {p : Program} {l : Launch} {e : Env} {s : State} {m : MethodId} {args : Array Value} {below : List Frame} {meth : Method} {c : Code} {Z : ZC} {HS : Nat → Nat → Nat → Int32} {j : Nat} {zkb : Int32} {zdr : Int32} {zky : Nat → Int32} {zpn : Int32} {zps : Int32} {ztz : Int32} {ztn : Nat → Int64} {zxz : Int32} {zxa : Int32} {zsg : Nat → Int32} {za0 : Int32} {za1 : Int32} {za2 : Int32} {za3 : Int32} {za4 : Int32} {zfr : Nat → Int32} {ztd : Int32} {ztv : Int32} {zcl : Nat → Int32} {zca : Nat → Int32} {zwa : Nat → Int32} {zpt : Nat → Int32} {zpf : Nat → Int32} {N : Nat} {zcd' : Int32} {zgo' : Nat → Int32} {X' : Nat → Nat → Int32} (F : CallFix p m c cX9_runsEnds 3 s args bigW RX9) (hr : meth.sig.returnType = none) (hlk : meth.locks = false) (C : KX Z s) (hj : j < 13) : ∀ n : Nat, ∀ (zcd : Int32) (zgo : Nat → Int32) (X : Nat → Nat → Int32) (x2 : Int32), fX9_runsEnds_66 N zcl zca n zcd zgo X x2 = some (zcd', zgo', X') → ∀ (H : Heap) (locs : List Loc), PX Z (updH HS j X) zkb zdr zky zpn zps ztz ztn zxz zxa zsg za0 za1 za2 za3 za4 zfr zcd zgo ztd ztv zcl zca zwa zpt zpf H → va_S (AX Z) s.heap H locs → ∀ ls : Array Slot, lv_has ls 3 [(0, .ref (oA Z 13)), (1, .ref (hA Z j 0)), (2, .int x2)] → W p l e (rmk 4 94) s m args below meth c H locs 0 0 (MQ below (Qv (KX Z) (AX Z) (PX Z (updH HS j X') zkb zdr zky zpn zps ztz ztn zxz zxa zsg za0 za1 za2 za3 za4 zfr zcd' zgo' ztd ztv zcl zca zwa zpt zpf)) args s 0 0 (AX Z)) (F0 m 66 ls []) := by
  intro n
  induction n with
  | zero => intro zcd zgo X x2 hE; cases hE
  | succ n h66 =>
    intro zcd zgo X x2 hE H locs hP hS ls hl
    have hE : fX9_runsEnds_66b N zcl zca (fX9_runsEnds_66 N zcl zca n) zcd zgo X x2 = some (zcd', zgo', X') := hE
    refine lv_iload_n F.1 F.2.1 dX9_runsEnds_66 rfl (lv_at hl 2 rfl) ?_
    refine lv_bipush (v := 24) F.1 F.2.1 dX9_runsEnds_67 (by decide) ?_
    refine lv_icmp_ge (tgt := 127) F.1 F.2.1 dX9_runsEnds_69 (by decide) (fun hc => ?_) (fun hc => ?_)
    · have hE := ifp hE hc
      have w0 := Option.some.inj hE
      obtain ⟨g0, w1⟩ := Prod.mk.inj w0
      obtain ⟨g1, w2⟩ := Prod.mk.inj w1
      subst g0 g1 w2
      exact ret_v F hr hlk hP hS dX9_runsEnds_127
    · have hE := ifn hE hc
      refine lv_aload_n F.1 F.2.1 dX9_runsEnds_72 rfl (lv_at hl 0 rfl) ?_
      refine gX9_9 F C hP dX9_runsEnds_73 ?_
      refine lv_iload_n F.1 F.2.1 dX9_runsEnds_76 rfl (lv_at hl 2 rfl) ?_
      obtain ⟨hi, hE⟩ := grd_some hE
      refine ao14 F C hP hi dX9_runsEnds_77 ?_
      refine lv_iconst (v := 2) F.1 F.2.1 dX9_runsEnds_78 (by decide) ?_
      refine lv_icmp_ne (tgt := 121) F.1 F.2.1 dX9_runsEnds_79 (by decide) (fun hc => ?_) (fun hc => ?_)
      · have hE := ifn hE hc
        refine lv_iinc (v := x2 + 1) (lv' := [(2, .int (x2 + 1)), (0, .ref (oA Z 13)), (1, .ref (hA Z j 0))]) F.1 F.2.1 dX9_runsEnds_121 hl (k := 2) rfl rfl (by decide) rfl (fun ls hl => ?_)
        refine lv_goto (tgt := 66) F.1 F.2.1 dX9_runsEnds_124 (by decide) ?_
        exact h66 zcd zgo X (x2 + 1) hE _ _ hP hS ls (lv_sub hl [1, 2, 0] rfl)
      · have hE := ifp hE hc
        refine lv_aload_n F.1 F.2.1 dX9_runsEnds_82 rfl (lv_at hl 1 rfl) ?_
        refine lv_iload_n F.1 F.2.1 dX9_runsEnds_83 rfl (lv_at hl 2 rfl) ?_
        obtain ⟨r288, hc, hE⟩ := bnd1_some hE
        refine aft_i (run_N (rest := []) F (kX3_has hj (updH_at _ _ _) hc) (okX Z) C hS (C.2.2 _ _ mlX9_136 rfl) lkX9_136 ⟨Nat.le_of_ble_eq_true rfl, Nat.le_of_ble_eq_true rfl⟩ (rvh0 C hP hj) hP rfl hl.1 rfl (lv_room (Nat.le_of_ble_eq_true rfl)) dX9_runsEnds_84 ⟨Nat.zero_le _, Nat.zero_le _⟩) hS (fun H locs hP hS => ?_)
        refine lv_if_eq (tgt := 121) F.1 F.2.1 dX9_runsEnds_87 (by decide) (fun hc => ?_) (fun hc => ?_)
        · have hE := ifp hE hc
          refine lv_iinc (v := x2 + 1) (lv' := [(2, .int (x2 + 1)), (0, .ref (oA Z 13)), (1, .ref (hA Z j 0))]) F.1 F.2.1 dX9_runsEnds_121 hl (k := 2) rfl rfl (by decide) rfl (fun ls hl => ?_)
          refine lv_goto (tgt := 66) F.1 F.2.1 dX9_runsEnds_124 (by decide) ?_
          exact h66 zcd zgo X (x2 + 1) hE _ _ hP hS ls (lv_sub hl [1, 2, 0] rfl)
        · have hE := ifn hE hc
          refine lv_aload_n F.1 F.2.1 dX9_runsEnds_90 rfl (lv_at hl 1 rfl) ?_
          refine gX9_139 F C hP hj (updH_at _ _ _) dX9_runsEnds_91 ?_
          refine lv_iload_n F.1 F.2.1 dX9_runsEnds_94 rfl (lv_at hl 2 rfl) ?_
          obtain ⟨hi, hE⟩ := grd_some hE
          refine ah1 F C hP hj (updH_at _ _ _) hi dX9_runsEnds_95 ?_
          refine lv_if_le (tgt := 121) F.1 F.2.1 dX9_runsEnds_96 (by decide) (fun hc => ?_) (fun hc => ?_)
          · have hE := ifp hE hc
            refine lv_iinc (v := x2 + 1) (lv' := [(2, .int (x2 + 1)), (0, .ref (oA Z 13)), (1, .ref (hA Z j 0))]) F.1 F.2.1 dX9_runsEnds_121 hl (k := 2) rfl rfl (by decide) rfl (fun ls hl => ?_)
            refine lv_goto (tgt := 66) F.1 F.2.1 dX9_runsEnds_124 (by decide) ?_
            exact h66 zcd zgo X (x2 + 1) hE _ _ hP hS ls (lv_sub hl [1, 2, 0] rfl)
          · have hE := ifn hE hc
            refine lv_aload_n F.1 F.2.1 dX9_runsEnds_99 rfl (lv_at hl 1 rfl) ?_
            refine gX9_52 F C hP hj (updH_at _ _ _) dX9_runsEnds_100 ?_
            refine gX9_142 F C hP hj (updH_at _ _ _) dX9_runsEnds_103 ?_
            refine lv_iload_n F.1 F.2.1 dX9_runsEnds_106 rfl (lv_at hl 2 rfl) ?_
            obtain ⟨r289, hc, hE⟩ := bnd1_some hE
            refine aft_i (run_SN (rest := []) F (kX11_bit hc) (okX Z) C hS (C.2.2 _ _ mlX9_145 rfl) lkX9_145 ⟨Nat.le_of_ble_eq_true rfl, Nat.le_of_ble_eq_true rfl⟩ hP rfl hl.1 rfl (lv_room (Nat.le_of_ble_eq_true rfl)) dX9_runsEnds_107 ⟨Nat.zero_le _, Nat.zero_le _⟩) hS (fun H locs hP hS => ?_)
            refine lv_if_ne (tgt := 121) F.1 F.2.1 dX9_runsEnds_110 (by decide) (fun hc => ?_) (fun hc => ?_)
            · have hE := ifn hE hc
              refine lv_iinc (v := x2 + 1) (lv' := [(2, .int (x2 + 1)), (0, .ref (oA Z 13)), (1, .ref (hA Z j 0))]) F.1 F.2.1 dX9_runsEnds_121 hl (k := 2) rfl rfl (by decide) rfl (fun ls hl => ?_)
              refine lv_goto (tgt := 66) F.1 F.2.1 dX9_runsEnds_124 (by decide) ?_
              exact h66 zcd zgo X (x2 + 1) hE _ _ hP hS ls (lv_sub hl [1, 2, 0] rfl)
            · have hE := ifp hE hc
              refine lv_aload_n F.1 F.2.1 dX9_runsEnds_113 rfl (lv_at hl 1 rfl) ?_
              refine gX9_52 F C hP hj (updH_at _ _ _) dX9_runsEnds_114 ?_
              refine lv_iload_n F.1 F.2.1 dX9_runsEnds_117 rfl (lv_at hl 2 rfl) ?_
              obtain ⟨X_290, hc, hE⟩ := bnd1_some hE
              refine aft_v (run_N (rest := []) F (kX6_means hj (updH_at _ _ _) (updH_upd _ _ _ _) hc) (okX Z) C hS (C.2.2 _ _ mlX9_148 rfl) lkX9_148 ⟨Nat.le_of_ble_eq_true rfl, Nat.le_of_ble_eq_true rfl⟩ (rvh8 C hP hj) hP rfl hl.1 rfl (lv_room (Nat.le_of_ble_eq_true rfl)) dX9_runsEnds_118 ⟨Nat.zero_le _, Nat.zero_le _⟩) hS (fun H locs hP hS => ?_)
              refine lv_iinc (v := x2 + 1) (lv' := [(2, .int (x2 + 1)), (0, .ref (oA Z 13)), (1, .ref (hA Z j 0))]) F.1 F.2.1 dX9_runsEnds_121 hl (k := 2) rfl rfl (by decide) rfl (fun ls hl => ?_)
              refine lv_goto (tgt := 66) F.1 F.2.1 dX9_runsEnds_124 (by decide) ?_
              exact h66 zcd zgo X_290 (x2 + 1) hE _ _ hP hS ls (lv_sub hl [1, 2, 0] rfl)
set_option maxRecDepth 100000 in
set_option maxHeartbeats 4000000 in
theorem qX9_runsEnds_17 {p : Program} {l : Launch} {e : Env} {s : State} {m : MethodId} {args : Array Value} {below : List Frame} {meth : Method} {c : Code} {Z : ZC} {HS : Nat → Nat → Nat → Int32} {j : Nat} {zkb : Int32} {zdr : Int32} {zky : Nat → Int32} {zpn : Int32} {zps : Int32} {ztz : Int32} {ztn : Nat → Int64} {zxz : Int32} {zxa : Int32} {zsg : Nat → Int32} {za0 : Int32} {za1 : Int32} {za2 : Int32} {za3 : Int32} {za4 : Int32} {zfr : Nat → Int32} {ztd : Int32} {ztv : Int32} {zcl : Nat → Int32} {zca : Nat → Int32} {zwa : Nat → Int32} {zpt : Nat → Int32} {zpf : Nat → Int32} {N : Nat} {zcd' : Int32} {zgo' : Nat → Int32} {X' : Nat → Nat → Int32} (F : CallFix p m c cX9_runsEnds 3 s args bigW RX9) (hr : meth.sig.returnType = none) (hlk : meth.locks = false) (C : KX Z s) (hj : j < 13) : ∀ n : Nat, ∀ (zcd : Int32) (zgo : Nat → Int32) (X : Nat → Nat → Int32) (x2 : Int32), fX9_runsEnds_17 N zcl zca n zcd zgo X x2 = some (zcd', zgo', X') → ∀ (H : Heap) (locs : List Loc), PX Z (updH HS j X) zkb zdr zky zpn zps ztz ztn zxz zxa zsg za0 za1 za2 za3 za4 zfr zcd zgo ztd ztv zcl zca zwa zpt zpf H → va_S (AX Z) s.heap H locs → ∀ ls : Array Slot, lv_has ls 3 [(0, .ref (oA Z 13)), (1, .ref (hA Z j 0)), (2, .int x2)] → W p l e (rmk 4 94) s m args below meth c H locs 0 0 (MQ below (Qv (KX Z) (AX Z) (PX Z (updH HS j X') zkb zdr zky zpn zps ztz ztn zxz zxa zsg za0 za1 za2 za3 za4 zfr zcd' zgo' ztd ztv zcl zca zwa zpt zpf)) args s 0 0 (AX Z)) (F0 m 17 ls []) := by
  intro n
  induction n with
  | zero => intro zcd zgo X x2 hE; cases hE
  | succ n h17 =>
    intro zcd zgo X x2 hE H locs hP hS ls hl
    have hE : fX9_runsEnds_17b N zcl zca (fX9_runsEnds_17 N zcl zca n) zcd zgo X x2 = some (zcd', zgo', X') := hE
    refine lv_iload_n F.1 F.2.1 dX9_runsEnds_17 rfl (lv_at hl 2 rfl) ?_
    refine lv_bipush (v := 24) F.1 F.2.1 dX9_runsEnds_18 (by decide) ?_
    refine lv_icmp_ge (tgt := 64) F.1 F.2.1 dX9_runsEnds_20 (by decide) (fun hc => ?_) (fun hc => ?_)
    · have hE := ifp hE hc
      refine lv_iconst (v := 0) F.1 F.2.1 dX9_runsEnds_64 (by decide) ?_
      refine lv_istore_n (lv' := [(2, .int 0), (0, .ref (oA Z 13)), (1, .ref (hA Z j 0))]) F.1 F.2.1 dX9_runsEnds_65 rfl hl (by decide) rfl (fun ls hl => ?_)
      exact qX9_runsEnds_66 F hr hlk C hj N zcd zgo X 0 hE _ _ hP hS ls (lv_sub hl [1, 2, 0] rfl)
    · have hE := ifn hE hc
      refine lv_aload_n F.1 F.2.1 dX9_runsEnds_23 rfl (lv_at hl 0 rfl) ?_
      refine gX9_9 F C hP dX9_runsEnds_24 ?_
      refine lv_iload_n F.1 F.2.1 dX9_runsEnds_27 rfl (lv_at hl 2 rfl) ?_
      obtain ⟨hi, hE⟩ := grd_some hE
      refine ao14 F C hP hi dX9_runsEnds_28 ?_
      refine lv_iconst (v := 2) F.1 F.2.1 dX9_runsEnds_29 (by decide) ?_
      refine lv_icmp_ne (tgt := 58) F.1 F.2.1 dX9_runsEnds_30 (by decide) (fun hc => ?_) (fun hc => ?_)
      · have hE := ifn hE hc
        refine lv_iinc (v := x2 + 1) (lv' := [(2, .int (x2 + 1)), (0, .ref (oA Z 13)), (1, .ref (hA Z j 0))]) F.1 F.2.1 dX9_runsEnds_58 hl (k := 2) rfl rfl (by decide) rfl (fun ls hl => ?_)
        refine lv_goto (tgt := 17) F.1 F.2.1 dX9_runsEnds_61 (by decide) ?_
        exact h17 zcd zgo X (x2 + 1) hE _ _ hP hS ls (lv_sub hl [1, 2, 0] rfl)
      · have hE := ifp hE hc
        refine lv_aload_n F.1 F.2.1 dX9_runsEnds_33 rfl (lv_at hl 1 rfl) ?_
        refine lv_iload_n F.1 F.2.1 dX9_runsEnds_34 rfl (lv_at hl 2 rfl) ?_
        obtain ⟨r285, hc, hE⟩ := bnd1_some hE
        refine aft_i (run_N (rest := []) F (kX3_hasEndToRun hj (updH_at _ _ _) hc) (okX Z) C hS (C.2.2 _ _ mlX9_107 rfl) lkX9_107 ⟨Nat.le_of_ble_eq_true rfl, Nat.le_of_ble_eq_true rfl⟩ (rvh0 C hP hj) hP rfl hl.1 rfl (lv_room (Nat.le_of_ble_eq_true rfl)) dX9_runsEnds_35 ⟨Nat.zero_le _, Nat.zero_le _⟩) hS (fun H locs hP hS => ?_)
        refine lv_if_eq (tgt := 58) F.1 F.2.1 dX9_runsEnds_38 (by decide) (fun hc => ?_) (fun hc => ?_)
        · have hE := ifp hE hc
          refine lv_iinc (v := x2 + 1) (lv' := [(2, .int (x2 + 1)), (0, .ref (oA Z 13)), (1, .ref (hA Z j 0))]) F.1 F.2.1 dX9_runsEnds_58 hl (k := 2) rfl rfl (by decide) rfl (fun ls hl => ?_)
          refine lv_goto (tgt := 17) F.1 F.2.1 dX9_runsEnds_61 (by decide) ?_
          exact h17 zcd zgo X (x2 + 1) hE _ _ hP hS ls (lv_sub hl [1, 2, 0] rfl)
        · have hE := ifn hE hc
          refine lv_aload_n F.1 F.2.1 dX9_runsEnds_41 rfl (lv_at hl 0 rfl) ?_
          refine gX9_27 F C hP dX9_runsEnds_42 ?_
          refine lv_aload_n F.1 F.2.1 dX9_runsEnds_45 rfl (lv_at hl 1 rfl) ?_
          refine lv_aload_n F.1 F.2.1 dX9_runsEnds_46 rfl (lv_at hl 0 rfl) ?_
          refine gX9_27 F C hP dX9_runsEnds_47 ?_
          refine lv_aload_n F.1 F.2.1 dX9_runsEnds_50 rfl (lv_at hl 1 rfl) ?_
          refine lv_iload_n F.1 F.2.1 dX9_runsEnds_51 rfl (lv_at hl 2 rfl) ?_
          obtain ⟨r286, X_286, hc, hE⟩ := bnd2_some hE
          refine aft_i (run_N (rest := [.ref (hA Z j 0), .ref (oA Z 11)]) F (kX2_runsEnd hj (updH_at _ _ _) (updH_upd _ _ _ _) hc) (okX Z) C hS (C.2.2 _ _ mlX9_127 rfl) lkX9_127 ⟨Nat.le_of_ble_eq_true rfl, Nat.le_of_ble_eq_true rfl⟩ (rvo11 C hP) hP rfl hl.1 rfl (lv_room (Nat.le_of_ble_eq_true rfl)) dX9_runsEnds_52 ⟨Nat.zero_le _, Nat.zero_le _⟩) hS (fun H locs hP hS => ?_)
          obtain ⟨zcd_287, zgo_287, X_287, hc, hE⟩ := bnd3_some hE
          refine aft_v (run_N (rest := []) F (kX2_countsDown hj (updH_at _ _ _) (updH_upd _ _ _ _) hc) (okX Z) C hS (C.2.2 _ _ mlX9_133 rfl) lkX9_133 ⟨Nat.le_of_ble_eq_true rfl, Nat.le_of_ble_eq_true rfl⟩ (rvo11 C hP) hP rfl hl.1 rfl (lv_room (Nat.le_of_ble_eq_true rfl)) dX9_runsEnds_55 ⟨Nat.zero_le _, Nat.zero_le _⟩) hS (fun H locs hP hS => ?_)
          refine lv_iinc (v := x2 + 1) (lv' := [(2, .int (x2 + 1)), (0, .ref (oA Z 13)), (1, .ref (hA Z j 0))]) F.1 F.2.1 dX9_runsEnds_58 hl (k := 2) rfl rfl (by decide) rfl (fun ls hl => ?_)
          refine lv_goto (tgt := 17) F.1 F.2.1 dX9_runsEnds_61 (by decide) ?_
          exact h17 zcd_287 zgo_287 X_287 (x2 + 1) hE _ _ hP hS ls (lv_sub hl [1, 2, 0] rfl)
set_option maxRecDepth 100000 in
set_option maxHeartbeats 4000000 in
theorem kX9_runsEnds {l : Launch} {Z : ZC} {HS : Nat → Nat → Nat → Int32} {j : Nat} {X : Nat → Nat → Int32} {zkb : Int32} {zdr : Int32} {zky : Nat → Int32} {zpn : Int32} {zps : Int32} {ztz : Int32} {ztn : Nat → Int64} {zxz : Int32} {zxa : Int32} {zsg : Nat → Int32} {za0 : Int32} {za1 : Int32} {za2 : Int32} {za3 : Int32} {za4 : Int32} {zfr : Nat → Int32} {zcd : Int32} {zgo : Nat → Int32} {ztd : Int32} {ztv : Int32} {zcl : Nat → Int32} {zca : Nat → Int32} {zwa : Nat → Int32} {zpt : Nat → Int32} {zpf : Nat → Int32} {N : Nat} {zcd' : Int32} {zgo' : Nat → Int32} {X' : Nat → Nat → Int32} (hj : j < 13) (hX : HS j = X) {HS1 : Nat → Nat → Nat → Int32} (h1 : updH HS j X' = HS1) (hE : fX9_runsEnds N zcd zgo zcl zca X = some (zcd', zgo', X')) : Mg l yX9_runsEnds cX9_runsEnds 3 none (rmk 4 94) (KX Z) (AX Z) [.ref (oA Z 13), .ref (hA Z j 0)] (PX Z HS zkb zdr zky zpn zps ztz ztn zxz zxa zsg za0 za1 za2 za3 za4 zfr zcd zgo ztd ztv zcl zca zwa zpt zpf) (Qv (KX Z) (AX Z) (PX Z HS1 zkb zdr zky zpn zps ztz ztn zxz zxa zsg za0 za1 za2 za3 za4 zfr zcd' zgo' ztd ztv zcl zca zwa zpt zpf)) := by
  subst h1
  rw [← updH_eq hX, updH_upd]
  refine Mg.start (lv := [(0, .ref (oA Z 13)), (1, .ref (hA Z j 0))]) (by decide) rfl (Nat.le_of_ble_eq_true rfl) rfl ?_
  intro p e s m below meth c F hr hlk C hP ls hl
  have hS : va_S (AX Z) s.heap s.heap [] := va_S.rf
  unfold fX9_runsEnds at hE
  refine lv_aload_n F.1 F.2.1 dX9_runsEnds_0 rfl (lv_at hl 0 rfl) ?_
  refine gX9_15 F C hP dX9_runsEnds_1 ?_
  refine lv_iconst (v := 0) F.1 F.2.1 dX9_runsEnds_4 (by decide) ?_
  refine lv_aload_n F.1 F.2.1 dX9_runsEnds_5 rfl (lv_at hl 1 rfl) ?_
  refine gX9_41 F C hP hj (updH_at _ _ _) dX9_runsEnds_6 ?_
  refine lv_iconst (v := 0) F.1 F.2.1 dX9_runsEnds_9 (by decide) ?_
  refine lv_bipush (v := 24) F.1 F.2.1 dX9_runsEnds_10 (by decide) ?_
  obtain ⟨X_284, eX_284, hE⟩ := lt_some hE
  refine cpoh15_4 F C hP hj (updH_at _ _ _) hS (updH_let eX_284) (F.2.2.2.2 _ (bw_t 547 (by decide +kernel) rfl)) hl.1 (Nat.le_of_ble_eq_true rfl) (Nat.le_of_ble_eq_true rfl) dX9_runsEnds_12 (fun H locs hP hS => ?_)
  refine lv_iconst (v := 0) F.1 F.2.1 dX9_runsEnds_15 (by decide) ?_
  refine lv_istore_n (lv' := [(2, .int 0), (0, .ref (oA Z 13)), (1, .ref (hA Z j 0))]) F.1 F.2.1 dX9_runsEnds_16 rfl hl (by decide) rfl (fun ls hl => ?_)
  exact qX9_runsEnds_17 F hr hlk C hj N zcd zgo X_284 0 hE _ _ hP hS ls (lv_sub hl [1, 2, 0] rfl)
set_option maxRecDepth 100000 in
set_option maxHeartbeats 4000000 in
theorem qX9_frees_2 {p : Program} {l : Launch} {e : Env} {s : State} {m : MethodId} {args : Array Value} {below : List Frame} {meth : Method} {c : Code} {Z : ZC} {HS : Nat → Nat → Nat → Int32} {j : Nat} {zkb : Int32} {zdr : Int32} {zky : Nat → Int32} {zpn : Int32} {zps : Int32} {ztz : Int32} {ztn : Nat → Int64} {zxz : Int32} {zxa : Int32} {zsg : Nat → Int32} {za0 : Int32} {za1 : Int32} {za2 : Int32} {za3 : Int32} {za4 : Int32} {zfr : Nat → Int32} {zcd : Int32} {zgo : Nat → Int32} {ztd : Int32} {ztv : Int32} {zcl : Nat → Int32} {zca : Nat → Int32} {zwa : Nat → Int32} {zpt : Nat → Int32} {zpf : Nat → Int32} {N : Nat} {X' : Nat → Nat → Int32} (F : CallFix p m c cX9_frees 3 s args bigW RX9) (hr : meth.sig.returnType = none) (hlk : meth.locks = false) (C : KX Z s) (hj : j < 13) : ∀ n : Nat, ∀ (X : Nat → Nat → Int32) (x2 : Int32), fX9_frees_2 N zcl n X x2 = some X' → ∀ (H : Heap) (locs : List Loc), PX Z (updH HS j X) zkb zdr zky zpn zps ztz ztn zxz zxa zsg za0 za1 za2 za3 za4 zfr zcd zgo ztd ztv zcl zca zwa zpt zpf H → va_S (AX Z) s.heap H locs → ∀ ls : Array Slot, lv_has ls 3 [(0, .ref (oA Z 13)), (1, .ref (hA Z j 0)), (2, .int x2)] → W p l e (rmk 2 45) s m args below meth c H locs 0 0 (MQ below (Qv (KX Z) (AX Z) (PX Z (updH HS j X') zkb zdr zky zpn zps ztz ztn zxz zxa zsg za0 za1 za2 za3 za4 zfr zcd zgo ztd ztv zcl zca zwa zpt zpf)) args s 0 0 (AX Z)) (F0 m 2 ls []) := by
  intro n
  induction n with
  | zero => intro X x2 hE; cases hE
  | succ n h2 =>
    intro X x2 hE H locs hP hS ls hl
    have hE : fX9_frees_2b N zcl (fX9_frees_2 N zcl n) X x2 = some X' := hE
    refine lv_iload_n F.1 F.2.1 dX9_frees_2 rfl (lv_at hl 2 rfl) ?_
    refine lv_bipush (v := 24) F.1 F.2.1 dX9_frees_3 (by decide) ?_
    refine lv_icmp_ge (tgt := 43) F.1 F.2.1 dX9_frees_5 (by decide) (fun hc => ?_) (fun hc => ?_)
    · have hE := ifp hE hc
      obtain rfl := Option.some.inj hE
      exact ret_v F hr hlk hP hS dX9_frees_43
    · have hE := ifn hE hc
      refine lv_aload_n F.1 F.2.1 dX9_frees_8 rfl (lv_at hl 0 rfl) ?_
      refine gX9_9 F C hP dX9_frees_9 ?_
      refine lv_iload_n F.1 F.2.1 dX9_frees_12 rfl (lv_at hl 2 rfl) ?_
      obtain ⟨hi, hE⟩ := grd_some hE
      refine ao14 F C hP hi dX9_frees_13 ?_
      refine lv_iconst (v := 2) F.1 F.2.1 dX9_frees_14 (by decide) ?_
      refine lv_icmp_ne (tgt := 37) F.1 F.2.1 dX9_frees_15 (by decide) (fun hc => ?_) (fun hc => ?_)
      · have hE := ifn hE hc
        refine lv_iinc (v := x2 + 1) (lv' := [(2, .int (x2 + 1)), (0, .ref (oA Z 13)), (1, .ref (hA Z j 0))]) F.1 F.2.1 dX9_frees_37 hl (k := 2) rfl rfl (by decide) rfl (fun ls hl => ?_)
        refine lv_goto (tgt := 2) F.1 F.2.1 dX9_frees_40 (by decide) ?_
        exact h2 X (x2 + 1) hE _ _ hP hS ls (lv_sub hl [1, 2, 0] rfl)
      · have hE := ifp hE hc
        refine lv_aload_n F.1 F.2.1 dX9_frees_18 rfl (lv_at hl 1 rfl) ?_
        refine gX9_111 F C hP hj (updH_at _ _ _) dX9_frees_19 ?_
        refine lv_iconst (v := 2) F.1 F.2.1 dX9_frees_22 (by decide) ?_
        refine lv_iload_n F.1 F.2.1 dX9_frees_23 rfl (lv_at hl 2 rfl) ?_
        obtain ⟨X_294, hc, hE⟩ := bnd1_some hE
        refine aft_v (run_N (rest := []) F (kX4_adds hj (updH_at _ _ _) (updH_upd _ _ _ _) hc) (okX Z) C hS (C.2.2 _ _ mlX9_115 rfl) lkX9_115 ⟨Nat.le_of_ble_eq_true rfl, Nat.le_of_ble_eq_true rfl⟩ (rvh10 C hP hj) hP rfl hl.1 rfl (lv_room (Nat.le_of_ble_eq_true rfl)) dX9_frees_24 ⟨Nat.zero_le _, Nat.zero_le _⟩) hS (fun H locs hP hS => ?_)
        refine lv_aload_n F.1 F.2.1 dX9_frees_27 rfl (lv_at hl 1 rfl) ?_
        refine lv_iload_n F.1 F.2.1 dX9_frees_28 rfl (lv_at hl 2 rfl) ?_
        obtain ⟨X_295, hc, hE⟩ := bnd1_some hE
        refine aft_v (run_N (rest := []) F (kX3_empties hj (updH_at _ _ _) (updH_upd _ _ _ _) hc) (okX Z) C hS (C.2.2 _ _ mlX9_120 rfl) lkX9_120 ⟨Nat.le_of_ble_eq_true rfl, Nat.le_of_ble_eq_true rfl⟩ (rvh0 C hP hj) hP rfl hl.1 rfl (lv_room (Nat.le_of_ble_eq_true rfl)) dX9_frees_29 ⟨Nat.zero_le _, Nat.zero_le _⟩) hS (fun H locs hP hS => ?_)
        refine lv_aload_n F.1 F.2.1 dX9_frees_32 rfl (lv_at hl 1 rfl) ?_
        refine lv_iload_n F.1 F.2.1 dX9_frees_33 rfl (lv_at hl 2 rfl) ?_
        obtain ⟨X_296, hc, hE⟩ := bnd1_some hE
        refine aft_v (run_N (rest := []) F (kX3_loses hj (updH_at _ _ _) (updH_upd _ _ _ _) hc) (okX Z) C hS (C.2.2 _ _ mlX9_124 rfl) lkX9_124 ⟨Nat.le_of_ble_eq_true rfl, Nat.le_of_ble_eq_true rfl⟩ (rvh0 C hP hj) hP rfl hl.1 rfl (lv_room (Nat.le_of_ble_eq_true rfl)) dX9_frees_34 ⟨Nat.zero_le _, Nat.zero_le _⟩) hS (fun H locs hP hS => ?_)
        refine lv_iinc (v := x2 + 1) (lv' := [(2, .int (x2 + 1)), (0, .ref (oA Z 13)), (1, .ref (hA Z j 0))]) F.1 F.2.1 dX9_frees_37 hl (k := 2) rfl rfl (by decide) rfl (fun ls hl => ?_)
        refine lv_goto (tgt := 2) F.1 F.2.1 dX9_frees_40 (by decide) ?_
        exact h2 X_296 (x2 + 1) hE _ _ hP hS ls (lv_sub hl [1, 2, 0] rfl)
set_option maxRecDepth 100000 in
set_option maxHeartbeats 4000000 in
theorem kX9_frees {l : Launch} {Z : ZC} {HS : Nat → Nat → Nat → Int32} {j : Nat} {X : Nat → Nat → Int32} {zkb : Int32} {zdr : Int32} {zky : Nat → Int32} {zpn : Int32} {zps : Int32} {ztz : Int32} {ztn : Nat → Int64} {zxz : Int32} {zxa : Int32} {zsg : Nat → Int32} {za0 : Int32} {za1 : Int32} {za2 : Int32} {za3 : Int32} {za4 : Int32} {zfr : Nat → Int32} {zcd : Int32} {zgo : Nat → Int32} {ztd : Int32} {ztv : Int32} {zcl : Nat → Int32} {zca : Nat → Int32} {zwa : Nat → Int32} {zpt : Nat → Int32} {zpf : Nat → Int32} {N : Nat} {X' : Nat → Nat → Int32} (hj : j < 13) (hX : HS j = X) {HS1 : Nat → Nat → Nat → Int32} (h1 : updH HS j X' = HS1) (hE : fX9_frees N zcl X = some X') : Mg l yX9_frees cX9_frees 3 none (rmk 2 45) (KX Z) (AX Z) [.ref (oA Z 13), .ref (hA Z j 0)] (PX Z HS zkb zdr zky zpn zps ztz ztn zxz zxa zsg za0 za1 za2 za3 za4 zfr zcd zgo ztd ztv zcl zca zwa zpt zpf) (Qv (KX Z) (AX Z) (PX Z HS1 zkb zdr zky zpn zps ztz ztn zxz zxa zsg za0 za1 za2 za3 za4 zfr zcd zgo ztd ztv zcl zca zwa zpt zpf)) := by
  subst h1
  rw [← updH_eq hX, updH_upd]
  refine Mg.start (lv := [(0, .ref (oA Z 13)), (1, .ref (hA Z j 0))]) (by decide) rfl (Nat.le_of_ble_eq_true rfl) rfl ?_
  intro p e s m below meth c F hr hlk C hP ls hl
  have hS : va_S (AX Z) s.heap s.heap [] := va_S.rf
  unfold fX9_frees at hE
  refine lv_iconst (v := 0) F.1 F.2.1 dX9_frees_0 (by decide) ?_
  refine lv_istore_n (lv' := [(2, .int 0), (0, .ref (oA Z 13)), (1, .ref (hA Z j 0))]) F.1 F.2.1 dX9_frees_1 rfl hl (by decide) rfl (fun ls hl => ?_)
  exact qX9_frees_2 F hr hlk C hj N X 0 hE _ _ hP hS ls (lv_sub hl [1, 2, 0] rfl)
set_option maxRecDepth 100000 in
set_option maxHeartbeats 4000000 in
theorem qX9_tries_101 {p : Program} {l : Launch} {e : Env} {s : State} {m : MethodId} {args : Array Value} {below : List Frame} {meth : Method} {c : Code} {Z : ZC} {HS : Nat → Nat → Nat → Int32} {j : Nat} {zkb : Int32} {zdr : Int32} {zky : Nat → Int32} {zpn : Int32} {zps : Int32} {ztz : Int32} {ztn : Nat → Int64} {zxz : Int32} {zxa : Int32} {zsg : Nat → Int32} {za0 : Int32} {za1 : Int32} {za2 : Int32} {za3 : Int32} {za4 : Int32} {zfr : Nat → Int32} {N : Nat} {zcd' : Int32} {zgo' : Nat → Int32} {ztd' : Int32} {ztv' : Int32} {zcl' : Nat → Int32} {zca' : Nat → Int32} {zwa' : Nat → Int32} {zpt' : Nat → Int32} {zpf' : Nat → Int32} {X' : Nat → Nat → Int32} (F : CallFix p m c cX9_tries 3 s args bigW RX9) (hr : meth.sig.returnType = none) (hlk : meth.locks = false) (C : KX Z s) (hj : j < 13) : ∀ (zcd : Int32) (zgo : Nat → Int32) (ztd : Int32) (ztv : Int32) (zcl : Nat → Int32) (zca : Nat → Int32) (zwa : Nat → Int32) (zpt : Nat → Int32) (zpf : Nat → Int32) (X : Nat → Nat → Int32), fX9_tries_101 N zcd zgo ztd ztv zcl zca zwa zpt zpf X = some (zcd', zgo', ztd', ztv', zcl', zca', zwa', zpt', zpf', X') → ∀ (H : Heap) (locs : List Loc), PX Z (updH HS j X) zkb zdr zky zpn zps ztz ztn zxz zxa zsg za0 za1 za2 za3 za4 zfr zcd zgo ztd ztv zcl zca zwa zpt zpf H → va_S (AX Z) s.heap H locs → ∀ ls : Array Slot, lv_has ls 3 [(0, .ref (oA Z 13)), (1, .ref (hA Z j 0))] → W p l e (rmk 5 116) s m args below meth c H locs 0 0 (MQ below (Qv (KX Z) (AX Z) (PX Z (updH HS j X') zkb zdr zky zpn zps ztz ztn zxz zxa zsg za0 za1 za2 za3 za4 zfr zcd' zgo' ztd' ztv' zcl' zca' zwa' zpt' zpf')) args s 0 0 (AX Z)) (F0 m 101 ls []) := by
  intro zcd zgo ztd ztv zcl zca zwa zpt zpf X hE H locs hP hS ls hl
  unfold fX9_tries_101 at hE
  refine lv_aload_n F.1 F.2.1 dX9_tries_101 rfl (lv_at hl 1 rfl) ?_
  refine gX9_52 F C hP hj (updH_at _ _ _) dX9_tries_102 ?_
  obtain ⟨X_309, hc, hE⟩ := bnd1_some hE
  refine aft_v (run_N (rest := []) F (kX6_clears hj (updH_at _ _ _) (updH_upd _ _ _ _) hc) (okX Z) C hS (C.2.2 _ _ mlX9_74 rfl) lkX9_74 ⟨Nat.le_of_ble_eq_true rfl, Nat.le_of_ble_eq_true rfl⟩ (rvh8 C hP hj) hP rfl hl.1 rfl (lv_room (Nat.le_of_ble_eq_true rfl)) dX9_tries_105 ⟨Nat.zero_le _, Nat.zero_le _⟩) hS (fun H locs hP hS => ?_)
  refine lv_aload_n F.1 F.2.1 dX9_tries_108 rfl (lv_at hl 0 rfl) ?_
  refine lv_aload_n F.1 F.2.1 dX9_tries_109 rfl (lv_at hl 1 rfl) ?_
  obtain ⟨r310, hc, hE⟩ := bnd1_some hE
  refine aft_i (run_V (rest := []) F (kX9_hasWhiteEnd hj (updH_at _ _ _) hc) (okX Z) C hS lkX9_77 ⟨Nat.le_of_ble_eq_true rfl, Nat.le_of_ble_eq_true rfl⟩ (rvo13 C hP) hP rfl hl.1 rfl (lv_room (Nat.le_of_ble_eq_true rfl)) dX9_tries_110 ⟨Nat.zero_le _, Nat.zero_le _⟩) hS (fun H locs hP hS => ?_)
  refine lv_if_eq (tgt := 124) F.1 F.2.1 dX9_tries_113 (by decide) (fun hc => ?_) (fun hc => ?_)
  · have hE := ifp hE hc
    refine lv_aload_n F.1 F.2.1 dX9_tries_124 rfl (lv_at hl 0 rfl) ?_
    refine lv_aload_n F.1 F.2.1 dX9_tries_125 rfl (lv_at hl 1 rfl) ?_
    obtain ⟨X_311, hc, hE⟩ := bnd1_some hE
    refine aft_v (run_V (rest := []) F (kX9_frees hj (updH_at _ _ _) (updH_upd _ _ _ _) hc) (okX Z) C hS lkX9_85 ⟨Nat.le_of_ble_eq_true rfl, Nat.le_of_ble_eq_true rfl⟩ (rvo13 C hP) hP rfl hl.1 rfl (lv_room (Nat.le_of_ble_eq_true rfl)) dX9_tries_126 ⟨Nat.zero_le _, Nat.zero_le _⟩) hS (fun H locs hP hS => ?_)
    have w0 := Option.some.inj hE
    obtain ⟨g0, w1⟩ := Prod.mk.inj w0
    obtain ⟨g1, w2⟩ := Prod.mk.inj w1
    obtain ⟨g2, w3⟩ := Prod.mk.inj w2
    obtain ⟨g3, w4⟩ := Prod.mk.inj w3
    obtain ⟨g4, w5⟩ := Prod.mk.inj w4
    obtain ⟨g5, w6⟩ := Prod.mk.inj w5
    obtain ⟨g6, w7⟩ := Prod.mk.inj w6
    obtain ⟨g7, w8⟩ := Prod.mk.inj w7
    obtain ⟨g8, w9⟩ := Prod.mk.inj w8
    subst g0 g1 g2 g3 g4 g5 g6 g7 g8 w9
    exact ret_v F hr hlk hP hS dX9_tries_129
  · have hE := ifn hE hc
    refine lv_aload_n F.1 F.2.1 dX9_tries_116 rfl (lv_at hl 0 rfl) ?_
    refine lv_aload_n F.1 F.2.1 dX9_tries_117 rfl (lv_at hl 1 rfl) ?_
    obtain ⟨zcd_312, zgo_312, X_312, hc, hE⟩ := bnd3_some hE
    refine aft_v (run_V (rest := []) F (kX9_runsEnds hj (updH_at _ _ _) (updH_upd _ _ _ _) hc) (okX Z) C hS lkX9_81 ⟨Nat.le_of_ble_eq_true rfl, Nat.le_of_ble_eq_true rfl⟩ (rvo13 C hP) hP rfl hl.1 rfl (lv_room (Nat.le_of_ble_eq_true rfl)) dX9_tries_118 ⟨Nat.zero_le _, Nat.zero_le _⟩) hS (fun H locs hP hS => ?_)
    refine lv_goto (tgt := 129) F.1 F.2.1 dX9_tries_121 (by decide) ?_
    have w0 := Option.some.inj hE
    obtain ⟨g0, w1⟩ := Prod.mk.inj w0
    obtain ⟨g1, w2⟩ := Prod.mk.inj w1
    obtain ⟨g2, w3⟩ := Prod.mk.inj w2
    obtain ⟨g3, w4⟩ := Prod.mk.inj w3
    obtain ⟨g4, w5⟩ := Prod.mk.inj w4
    obtain ⟨g5, w6⟩ := Prod.mk.inj w5
    obtain ⟨g6, w7⟩ := Prod.mk.inj w6
    obtain ⟨g7, w8⟩ := Prod.mk.inj w7
    obtain ⟨g8, w9⟩ := Prod.mk.inj w8
    subst g0 g1 g2 g3 g4 g5 g6 g7 g8 w9
    exact ret_v F hr hlk hP hS dX9_tries_129
set_option maxRecDepth 100000 in
set_option maxHeartbeats 4000000 in
theorem qX9_tries_70 {p : Program} {l : Launch} {e : Env} {s : State} {m : MethodId} {args : Array Value} {below : List Frame} {meth : Method} {c : Code} {Z : ZC} {HS : Nat → Nat → Nat → Int32} {j : Nat} {zkb : Int32} {zdr : Int32} {zky : Nat → Int32} {zpn : Int32} {zps : Int32} {ztz : Int32} {ztn : Nat → Int64} {zxz : Int32} {zxa : Int32} {zsg : Nat → Int32} {za0 : Int32} {za1 : Int32} {za2 : Int32} {za3 : Int32} {za4 : Int32} {zfr : Nat → Int32} {N : Nat} {zcd' : Int32} {zgo' : Nat → Int32} {ztd' : Int32} {ztv' : Int32} {zcl' : Nat → Int32} {zca' : Nat → Int32} {zwa' : Nat → Int32} {zpt' : Nat → Int32} {zpf' : Nat → Int32} {X' : Nat → Nat → Int32} (F : CallFix p m c cX9_tries 3 s args bigW RX9) (hr : meth.sig.returnType = none) (hlk : meth.locks = false) (C : KX Z s) (hj : j < 13) : ∀ n : Nat, ∀ (zcd : Int32) (zgo : Nat → Int32) (ztd : Int32) (ztv : Int32) (zcl : Nat → Int32) (zca : Nat → Int32) (zwa : Nat → Int32) (zpt : Nat → Int32) (zpf : Nat → Int32) (X : Nat → Nat → Int32) (x2 : Int32), fX9_tries_70 N n zcd zgo ztd ztv zcl zca zwa zpt zpf X x2 = some (zcd', zgo', ztd', ztv', zcl', zca', zwa', zpt', zpf', X') → ∀ (H : Heap) (locs : List Loc), PX Z (updH HS j X) zkb zdr zky zpn zps ztz ztn zxz zxa zsg za0 za1 za2 za3 za4 zfr zcd zgo ztd ztv zcl zca zwa zpt zpf H → va_S (AX Z) s.heap H locs → ∀ ls : Array Slot, lv_has ls 3 [(0, .ref (oA Z 13)), (1, .ref (hA Z j 0)), (2, .int x2)] → W p l e (rmk 5 116) s m args below meth c H locs 0 0 (MQ below (Qv (KX Z) (AX Z) (PX Z (updH HS j X') zkb zdr zky zpn zps ztz ztn zxz zxa zsg za0 za1 za2 za3 za4 zfr zcd' zgo' ztd' ztv' zcl' zca' zwa' zpt' zpf')) args s 0 0 (AX Z)) (F0 m 70 ls []) := by
  intro n
  induction n with
  | zero => intro zcd zgo ztd ztv zcl zca zwa zpt zpf X x2 hE; cases hE
  | succ n h70 =>
    intro zcd zgo ztd ztv zcl zca zwa zpt zpf X x2 hE H locs hP hS ls hl
    have hE : fX9_tries_70b N (fX9_tries_70 N n) zcd zgo ztd ztv zcl zca zwa zpt zpf X x2 = some (zcd', zgo', ztd', ztv', zcl', zca', zwa', zpt', zpf', X') := hE
    refine lv_iload_n F.1 F.2.1 dX9_tries_70 rfl (lv_at hl 2 rfl) ?_
    refine lv_aload_n F.1 F.2.1 dX9_tries_71 rfl (lv_at hl 1 rfl) ?_
    refine gX9_52 F C hP hj (updH_at _ _ _) dX9_tries_72 ?_
    refine gX9_61 F C hP hj (updH_at _ _ _) dX9_tries_75 ?_
    refine lv_icmp_ge (tgt := 101) F.1 F.2.1 dX9_tries_78 (by decide) (fun hc => ?_) (fun hc => ?_)
    · have hE := ifp hE hc
      exact qX9_tries_101 F hr hlk C hj zcd zgo ztd ztv zcl zca zwa zpt zpf X hE _ _ hP hS ls (lv_sub hl [0, 1] rfl)
    · have hE := ifn hE hc
      refine lv_aload_n F.1 F.2.1 dX9_tries_81 rfl (lv_at hl 0 rfl) ?_
      refine lv_aload_n F.1 F.2.1 dX9_tries_82 rfl (lv_at hl 1 rfl) ?_
      refine lv_aload_n F.1 F.2.1 dX9_tries_83 rfl (lv_at hl 1 rfl) ?_
      refine gX9_52 F C hP hj (updH_at _ _ _) dX9_tries_84 ?_
      refine gX9_64 F C hP hj (updH_at _ _ _) dX9_tries_87 ?_
      refine lv_iload_n F.1 F.2.1 dX9_tries_90 rfl (lv_at hl 2 rfl) ?_
      obtain ⟨hi, hE⟩ := grd_some hE
      refine ah9 F C hP hj (updH_at _ _ _) hi dX9_tries_91 ?_
      obtain ⟨ztd_308, ztv_308, zcl_308, zwa_308, zpt_308, zpf_308, X_308, hc, hE⟩ := bnd7_some hE
      refine aft_v (run_V (rest := []) F (kX9_looksThrough hj (updH_at _ _ _) (updH_upd _ _ _ _) hc) (okX Z) C hS lkX9_71 ⟨Nat.le_of_ble_eq_true rfl, Nat.le_of_ble_eq_true rfl⟩ (rvo13 C hP) hP rfl hl.1 rfl (lv_room (Nat.le_of_ble_eq_true rfl)) dX9_tries_92 ⟨Nat.zero_le _, Nat.zero_le _⟩) hS (fun H locs hP hS => ?_)
      refine lv_iinc (v := x2 + 1) (lv' := [(2, .int (x2 + 1)), (0, .ref (oA Z 13)), (1, .ref (hA Z j 0))]) F.1 F.2.1 dX9_tries_95 hl (k := 2) rfl rfl (by decide) rfl (fun ls hl => ?_)
      refine lv_goto (tgt := 70) F.1 F.2.1 dX9_tries_98 (by decide) ?_
      exact h70 zcd zgo ztd_308 ztv_308 zcl_308 zca zwa_308 zpt_308 zpf_308 X_308 (x2 + 1) hE _ _ hP hS ls (lv_sub hl [1, 2, 0] rfl)
set_option maxRecDepth 100000 in
set_option maxHeartbeats 4000000 in
theorem qX9_tries_37 {p : Program} {l : Launch} {e : Env} {s : State} {m : MethodId} {args : Array Value} {below : List Frame} {meth : Method} {c : Code} {Z : ZC} {HS : Nat → Nat → Nat → Int32} {j : Nat} {zkb : Int32} {zdr : Int32} {zky : Nat → Int32} {zpn : Int32} {zps : Int32} {ztz : Int32} {ztn : Nat → Int64} {zxz : Int32} {zxa : Int32} {zsg : Nat → Int32} {za0 : Int32} {za1 : Int32} {za2 : Int32} {za3 : Int32} {za4 : Int32} {zfr : Nat → Int32} {N : Nat} {zcd' : Int32} {zgo' : Nat → Int32} {ztd' : Int32} {ztv' : Int32} {zcl' : Nat → Int32} {zca' : Nat → Int32} {zwa' : Nat → Int32} {zpt' : Nat → Int32} {zpf' : Nat → Int32} {X' : Nat → Nat → Int32} (F : CallFix p m c cX9_tries 3 s args bigW RX9) (hr : meth.sig.returnType = none) (hlk : meth.locks = false) (C : KX Z s) (hj : j < 13) : ∀ n : Nat, ∀ (zcd : Int32) (zgo : Nat → Int32) (ztd : Int32) (ztv : Int32) (zcl : Nat → Int32) (zca : Nat → Int32) (zwa : Nat → Int32) (zpt : Nat → Int32) (zpf : Nat → Int32) (X : Nat → Nat → Int32) (x2 : Int32), fX9_tries_37 N n zcd zgo ztd ztv zcl zca zwa zpt zpf X x2 = some (zcd', zgo', ztd', ztv', zcl', zca', zwa', zpt', zpf', X') → ∀ (H : Heap) (locs : List Loc), PX Z (updH HS j X) zkb zdr zky zpn zps ztz ztn zxz zxa zsg za0 za1 za2 za3 za4 zfr zcd zgo ztd ztv zcl zca zwa zpt zpf H → va_S (AX Z) s.heap H locs → ∀ ls : Array Slot, lv_has ls 3 [(0, .ref (oA Z 13)), (1, .ref (hA Z j 0)), (2, .int x2)] → W p l e (rmk 5 116) s m args below meth c H locs 0 0 (MQ below (Qv (KX Z) (AX Z) (PX Z (updH HS j X') zkb zdr zky zpn zps ztz ztn zxz zxa zsg za0 za1 za2 za3 za4 zfr zcd' zgo' ztd' ztv' zcl' zca' zwa' zpt' zpf')) args s 0 0 (AX Z)) (F0 m 37 ls []) := by
  intro n
  induction n with
  | zero => intro zcd zgo ztd ztv zcl zca zwa zpt zpf X x2 hE; cases hE
  | succ n h37 =>
    intro zcd zgo ztd ztv zcl zca zwa zpt zpf X x2 hE H locs hP hS ls hl
    have hE : fX9_tries_37b N (fX9_tries_37 N n) zcd zgo ztd ztv zcl zca zwa zpt zpf X x2 = some (zcd', zgo', ztd', ztv', zcl', zca', zwa', zpt', zpf', X') := hE
    refine lv_iload_n F.1 F.2.1 dX9_tries_37 rfl (lv_at hl 2 rfl) ?_
    refine lv_aload_n F.1 F.2.1 dX9_tries_38 rfl (lv_at hl 1 rfl) ?_
    refine gX9_52 F C hP hj (updH_at _ _ _) dX9_tries_39 ?_
    refine gX9_61 F C hP hj (updH_at _ _ _) dX9_tries_42 ?_
    refine lv_icmp_ge (tgt := 68) F.1 F.2.1 dX9_tries_45 (by decide) (fun hc => ?_) (fun hc => ?_)
    · have hE := ifp hE hc
      refine lv_iconst (v := 0) F.1 F.2.1 dX9_tries_68 (by decide) ?_
      refine lv_istore_n (lv' := [(2, .int 0), (0, .ref (oA Z 13)), (1, .ref (hA Z j 0))]) F.1 F.2.1 dX9_tries_69 rfl hl (by decide) rfl (fun ls hl => ?_)
      exact qX9_tries_70 F hr hlk C hj N zcd zgo ztd ztv zcl zca zwa zpt zpf X 0 hE _ _ hP hS ls (lv_sub hl [1, 2, 0] rfl)
    · have hE := ifn hE hc
      refine lv_aload_n F.1 F.2.1 dX9_tries_48 rfl (lv_at hl 0 rfl) ?_
      refine lv_aload_n F.1 F.2.1 dX9_tries_49 rfl (lv_at hl 1 rfl) ?_
      refine lv_aload_n F.1 F.2.1 dX9_tries_50 rfl (lv_at hl 1 rfl) ?_
      refine gX9_52 F C hP hj (updH_at _ _ _) dX9_tries_51 ?_
      refine gX9_64 F C hP hj (updH_at _ _ _) dX9_tries_54 ?_
      refine lv_iload_n F.1 F.2.1 dX9_tries_57 rfl (lv_at hl 2 rfl) ?_
      obtain ⟨hi, hE⟩ := grd_some hE
      refine ah9 F C hP hj (updH_at _ _ _) hi dX9_tries_58 ?_
      obtain ⟨ztv_307, zcl_307, zwa_307, X_307, hc, hE⟩ := bnd4_some hE
      refine aft_v (run_V (rest := []) F (kX9_takesAway hj (updH_at _ _ _) (updH_upd _ _ _ _) hc) (okX Z) C hS lkX9_67 ⟨Nat.le_of_ble_eq_true rfl, Nat.le_of_ble_eq_true rfl⟩ (rvo13 C hP) hP rfl hl.1 rfl (lv_room (Nat.le_of_ble_eq_true rfl)) dX9_tries_59 ⟨Nat.zero_le _, Nat.zero_le _⟩) hS (fun H locs hP hS => ?_)
      refine lv_iinc (v := x2 + 1) (lv' := [(2, .int (x2 + 1)), (0, .ref (oA Z 13)), (1, .ref (hA Z j 0))]) F.1 F.2.1 dX9_tries_62 hl (k := 2) rfl rfl (by decide) rfl (fun ls hl => ?_)
      refine lv_goto (tgt := 37) F.1 F.2.1 dX9_tries_65 (by decide) ?_
      exact h37 zcd zgo ztd ztv_307 zcl_307 zca zwa_307 zpt zpf X_307 (x2 + 1) hE _ _ hP hS ls (lv_sub hl [1, 2, 0] rfl)
set_option maxRecDepth 100000 in
set_option maxHeartbeats 4000000 in
theorem kX9_tries {l : Launch} {Z : ZC} {HS : Nat → Nat → Nat → Int32} {j : Nat} {X : Nat → Nat → Int32} {zkb : Int32} {zdr : Int32} {zky : Nat → Int32} {zpn : Int32} {zps : Int32} {ztz : Int32} {ztn : Nat → Int64} {zxz : Int32} {zxa : Int32} {zsg : Nat → Int32} {za0 : Int32} {za1 : Int32} {za2 : Int32} {za3 : Int32} {za4 : Int32} {zfr : Nat → Int32} {zcd : Int32} {zgo : Nat → Int32} {ztd : Int32} {ztv : Int32} {zcl : Nat → Int32} {zca : Nat → Int32} {zwa : Nat → Int32} {zpt : Nat → Int32} {zpf : Nat → Int32} {N : Nat} {zcd' : Int32} {zgo' : Nat → Int32} {ztd' : Int32} {ztv' : Int32} {zcl' : Nat → Int32} {zca' : Nat → Int32} {zwa' : Nat → Int32} {zpt' : Nat → Int32} {zpf' : Nat → Int32} {X' : Nat → Nat → Int32} (hj : j < 13) (hX : HS j = X) {HS1 : Nat → Nat → Nat → Int32} (h1 : updH HS j X' = HS1) (hE : fX9_tries N zcd zgo ztd ztv zcl zca zwa zpt zpf X = some (zcd', zgo', ztd', ztv', zcl', zca', zwa', zpt', zpf', X')) : Mg l yX9_tries cX9_tries 3 none (rmk 5 116) (KX Z) (AX Z) [.ref (oA Z 13), .ref (hA Z j 0)] (PX Z HS zkb zdr zky zpn zps ztz ztn zxz zxa zsg za0 za1 za2 za3 za4 zfr zcd zgo ztd ztv zcl zca zwa zpt zpf) (Qv (KX Z) (AX Z) (PX Z HS1 zkb zdr zky zpn zps ztz ztn zxz zxa zsg za0 za1 za2 za3 za4 zfr zcd' zgo' ztd' ztv' zcl' zca' zwa' zpt' zpf')) := by
  subst h1
  rw [← updH_eq hX, updH_upd]
  refine Mg.start (lv := [(0, .ref (oA Z 13)), (1, .ref (hA Z j 0))]) (by decide) rfl (Nat.le_of_ble_eq_true rfl) rfl ?_
  intro p e s m below meth c F hr hlk C hP ls hl
  have hS : va_S (AX Z) s.heap s.heap [] := va_S.rf
  unfold fX9_tries at hE
  refine lv_aload_n F.1 F.2.1 dX9_tries_0 rfl (lv_at hl 0 rfl) ?_
  refine lv_iconst (v := 0) F.1 F.2.1 dX9_tries_1 (by decide) ?_
  refine pX9_31 F C hP hS rfl dX9_tries_2 (fun H locs hP hS => ?_)
  refine lv_aload_n F.1 F.2.1 dX9_tries_5 rfl (lv_at hl 0 rfl) ?_
  refine gX9_9 F C hP dX9_tries_6 ?_
  refine lv_iconst (v := 0) F.1 F.2.1 dX9_tries_9 (by decide) ?_
  obtain ⟨zcl_305, hc, hE⟩ := bnd1_some hE
  refine aft_v (run_S (rest := []) F (kJ7_fill_53178_cl hc) (okX Z) C hS lkX9_35 ⟨Nat.le_of_ble_eq_true rfl, Nat.le_of_ble_eq_true rfl⟩ hP rfl hl.1 rfl (lv_room (Nat.le_of_ble_eq_true rfl)) dX9_tries_10 ⟨Nat.zero_le _, Nat.zero_le _⟩) hS (fun H locs hP hS => ?_)
  refine lv_aload_n F.1 F.2.1 dX9_tries_13 rfl (lv_at hl 1 rfl) ?_
  refine gX9_41 F C hP hj (updH_at _ _ _) dX9_tries_14 ?_
  refine lv_iconst (v := 0) F.1 F.2.1 dX9_tries_17 (by decide) ?_
  refine lv_aload_n F.1 F.2.1 dX9_tries_18 rfl (lv_at hl 0 rfl) ?_
  refine gX9_15 F C hP dX9_tries_19 ?_
  refine lv_iconst (v := 0) F.1 F.2.1 dX9_tries_22 (by decide) ?_
  refine lv_bipush (v := 24) F.1 F.2.1 dX9_tries_23 (by decide) ?_
  refine cpho4_15 F C hP hj (updH_at _ _ _) hS (F.2.2.2.2 _ (bw_t 547 (by decide +kernel) rfl)) hl.1 (Nat.le_of_ble_eq_true rfl) (Nat.le_of_ble_eq_true rfl) dX9_tries_25 (fun H locs hP hS => ?_)
  refine lv_aload_n F.1 F.2.1 dX9_tries_28 rfl (lv_at hl 1 rfl) ?_
  refine gX9_52 F C hP hj (updH_at _ _ _) dX9_tries_29 ?_
  obtain ⟨X_306, hc, hE⟩ := bnd1_some hE
  refine aft_v (run_N (rest := []) F (kX6_dropsTrusted hj (updH_at _ _ _) (updH_upd _ _ _ _) hc) (okX Z) C hS (C.2.2 _ _ mlX9_56 rfl) lkX9_56 ⟨Nat.le_of_ble_eq_true rfl, Nat.le_of_ble_eq_true rfl⟩ (rvh8 C hP hj) hP rfl hl.1 rfl (lv_room (Nat.le_of_ble_eq_true rfl)) dX9_tries_32 ⟨Nat.zero_le _, Nat.zero_le _⟩) hS (fun H locs hP hS => ?_)
  refine lv_iconst (v := 0) F.1 F.2.1 dX9_tries_35 (by decide) ?_
  refine lv_istore_n (lv' := [(2, .int 0), (0, .ref (oA Z 13)), (1, .ref (hA Z j 0))]) F.1 F.2.1 dX9_tries_36 rfl hl (by decide) rfl (fun ls hl => ?_)
  exact qX9_tries_37 F hr hlk C hj N zcd zgo ztd 0 zcl_305 (X 4) zwa zpt zpf X_306 0 hE _ _ hP hS ls (lv_sub hl [1, 2, 0] rfl)
set_option maxRecDepth 100000 in
set_option maxHeartbeats 4000000 in
theorem qX1_does_263 {p : Program} {l : Launch} {e : Env} {s : State} {m : MethodId} {args : Array Value} {below : List Frame} {meth : Method} {c : Code} {Z : ZC} {HS : Nat → Nat → Nat → Int32} {j : Nat} {zkb : Int32} {zdr : Int32} {zky : Nat → Int32} {zpn : Int32} {zps : Int32} {ztz : Int32} {ztn : Nat → Int64} {zxz : Int32} {zxa : Int32} {zsg : Nat → Int32} {za0 : Int32} {za1 : Int32} {za2 : Int32} {za3 : Int32} {za4 : Int32} {zfr : Nat → Int32} {N : Nat} {r' : Int32} {zcd' : Int32} {zgo' : Nat → Int32} {ztd' : Int32} {ztv' : Int32} {zcl' : Nat → Int32} {zca' : Nat → Int32} {zwa' : Nat → Int32} {zpt' : Nat → Int32} {zpf' : Nat → Int32} {X' : Nat → Nat → Int32} (F : CallFix p m c cX1_does 6 s args bigW RX1) (hr : meth.sig.returnType = (some .int)) (hlk : meth.locks = false) (C : KX Z s) (hj : j < 13) : ∀ (zcd : Int32) (zgo : Nat → Int32) (ztd : Int32) (ztv : Int32) (zcl : Nat → Int32) (zca : Nat → Int32) (zwa : Nat → Int32) (zpt : Nat → Int32) (zpf : Nat → Int32) (X : Nat → Nat → Int32) (x4 : Int32), fX1_does_263 N za0 za1 za2 za3 za4 zcd zgo ztd ztv zcl zca zwa zpt zpf X x4 = some (r', zcd', zgo', ztd', ztv', zcl', zca', zwa', zpt', zpf', X') → ∀ (H : Heap) (locs : List Loc), PX Z (updH HS j X) zkb zdr zky zpn zps ztz ztn zxz zxa zsg za0 za1 za2 za3 za4 zfr zcd zgo ztd ztv zcl zca zwa zpt zpf H → va_S (AX Z) s.heap H locs → ∀ ls : Array Slot, lv_has ls 6 [(1, .ref (hA Z j 0)), (4, .int x4)] → W p l e (rmk 6 142) s m args below meth c H locs 0 0 (MQ below (Qi (KX Z) (AX Z) (PX Z (updH HS j X') zkb zdr zky zpn zps ztz ztn zxz zxa zsg za0 za1 za2 za3 za4 zfr zcd' zgo' ztd' ztv' zcl' zca' zwa' zpt' zpf') r') args s 0 0 (AX Z)) (F0 m 263 ls []) := by
  intro zcd zgo ztd ztv zcl zca zwa zpt zpf X x4 hE H locs hP hS ls hl
  unfold fX1_does_263 at hE
  refine lv_aload_n F.1 F.2.1 dX1_does_263 rfl (lv_at hl 0 rfl) ?_
  refine gX1_27 F C hP hj (updH_at _ _ _) dX1_does_264 ?_
  refine gX1_33 F C hP hj (updH_at _ _ _) dX1_does_267 ?_
  refine lv_iload F.1 F.2.1 dX1_does_270 (lv_at hl 1 rfl) ?_
  refine lv_isub F.1 F.2.1 dX1_does_272 ?_
  have w0 := Option.some.inj hE
  obtain ⟨g0, w1⟩ := Prod.mk.inj w0
  obtain ⟨g1, w2⟩ := Prod.mk.inj w1
  obtain ⟨g2, w3⟩ := Prod.mk.inj w2
  obtain ⟨g3, w4⟩ := Prod.mk.inj w3
  obtain ⟨g4, w5⟩ := Prod.mk.inj w4
  obtain ⟨g5, w6⟩ := Prod.mk.inj w5
  obtain ⟨g6, w7⟩ := Prod.mk.inj w6
  obtain ⟨g7, w8⟩ := Prod.mk.inj w7
  obtain ⟨g8, w9⟩ := Prod.mk.inj w8
  obtain ⟨g9, w10⟩ := Prod.mk.inj w9
  subst g0 g1 g2 g3 g4 g5 g6 g7 g8 g9 w10
  exact ret_i F hr hlk hP hS dX1_does_273
set_option maxRecDepth 100000 in
set_option maxHeartbeats 4000000 in
theorem qX1_does_223 {p : Program} {l : Launch} {e : Env} {s : State} {m : MethodId} {args : Array Value} {below : List Frame} {meth : Method} {c : Code} {Z : ZC} {HS : Nat → Nat → Nat → Int32} {j : Nat} {zkb : Int32} {zdr : Int32} {zky : Nat → Int32} {zpn : Int32} {zps : Int32} {ztz : Int32} {ztn : Nat → Int64} {zxz : Int32} {zxa : Int32} {zsg : Nat → Int32} {za0 : Int32} {za1 : Int32} {za2 : Int32} {za3 : Int32} {za4 : Int32} {zfr : Nat → Int32} {N : Nat} {r' : Int32} {zcd' : Int32} {zgo' : Nat → Int32} {ztd' : Int32} {ztv' : Int32} {zcl' : Nat → Int32} {zca' : Nat → Int32} {zwa' : Nat → Int32} {zpt' : Nat → Int32} {zpf' : Nat → Int32} {X' : Nat → Nat → Int32} (F : CallFix p m c cX1_does 6 s args bigW RX1) (hr : meth.sig.returnType = (some .int)) (hlk : meth.locks = false) (C : KX Z s) (hj : j < 13) : ∀ (zcd : Int32) (zgo : Nat → Int32) (ztd : Int32) (ztv : Int32) (zcl : Nat → Int32) (zca : Nat → Int32) (zwa : Nat → Int32) (zpt : Nat → Int32) (zpf : Nat → Int32) (X : Nat → Nat → Int32) (x4 : Int32), fX1_does_223 N za0 za1 za2 za3 za4 zcd zgo ztd ztv zcl zca zwa zpt zpf X x4 = some (r', zcd', zgo', ztd', ztv', zcl', zca', zwa', zpt', zpf', X') → ∀ (H : Heap) (locs : List Loc), PX Z (updH HS j X) zkb zdr zky zpn zps ztz ztn zxz zxa zsg za0 za1 za2 za3 za4 zfr zcd zgo ztd ztv zcl zca zwa zpt zpf H → va_S (AX Z) s.heap H locs → ∀ ls : Array Slot, lv_has ls 6 [(0, .ref (oA Z 19)), (1, .ref (hA Z j 0)), (2, .ref (oA Z 8)), (4, .int x4)] → W p l e (rmk 6 142) s m args below meth c H locs 0 0 (MQ below (Qi (KX Z) (AX Z) (PX Z (updH HS j X') zkb zdr zky zpn zps ztz ztn zxz zxa zsg za0 za1 za2 za3 za4 zfr zcd' zgo' ztd' ztv' zcl' zca' zwa' zpt' zpf') r') args s 0 0 (AX Z)) (F0 m 223 ls []) := by
  intro zcd zgo ztd ztv zcl zca zwa zpt zpf X x4 hE H locs hP hS ls hl
  unfold fX1_does_223 at hE
  refine lv_aload_n F.1 F.2.1 dX1_does_223 rfl (lv_at hl 2 rfl) ?_
  refine gX1_39 F C hP dX1_does_224 ?_
  refine lv_bipush (v := 119) F.1 F.2.1 dX1_does_227 (by decide) ?_
  refine lv_icmp_eq (tgt := 263) F.1 F.2.1 dX1_does_229 (by decide) (fun hc => ?_) (fun hc => ?_)
  · have hE := ifp hE hc
    exact qX1_does_263 F hr hlk C hj zcd zgo ztd ztv zcl zca zwa zpt zpf X x4 hE _ _ hP hS ls (lv_sub hl [1, 3] rfl)
  · have hE := ifn hE hc
    refine lv_aload_n F.1 F.2.1 dX1_does_232 rfl (lv_at hl 2 rfl) ?_
    refine gX1_39 F C hP dX1_does_233 ?_
    refine lv_bipush (v := 116) F.1 F.2.1 dX1_does_236 (by decide) ?_
    refine lv_icmp_eq (tgt := 263) F.1 F.2.1 dX1_does_238 (by decide) (fun hc => ?_) (fun hc => ?_)
    · have hE := ifp hE hc
      exact qX1_does_263 F hr hlk C hj zcd zgo ztd ztv zcl zca zwa zpt zpf X x4 hE _ _ hP hS ls (lv_sub hl [1, 3] rfl)
    · have hE := ifn hE hc
      refine lv_aload_n F.1 F.2.1 dX1_does_241 rfl (lv_at hl 1 rfl) ?_
      refine gX1_84 F C hP hj (updH_at _ _ _) dX1_does_242 ?_
      refine gX1_88 F C hP hj (updH_at _ _ _) dX1_does_245 ?_
      refine lv_aload_n F.1 F.2.1 dX1_does_248 rfl (lv_at hl 1 rfl) ?_
      refine gX1_93 F C hP hj (updH_at _ _ _) dX1_does_249 ?_
      refine lv_icmp_lt (tgt := 263) F.1 F.2.1 dX1_does_252 (by decide) (fun hc => ?_) (fun hc => ?_)
      · have hE := ifp hE hc
        exact qX1_does_263 F hr hlk C hj zcd zgo ztd ztv zcl zca zwa zpt zpf X x4 hE _ _ hP hS ls (lv_sub hl [1, 3] rfl)
      · have hE := ifn hE hc
        refine lv_aload_n F.1 F.2.1 dX1_does_255 rfl (lv_at hl 0 rfl) ?_
        refine gX1_15 F C hP dX1_does_256 ?_
        refine lv_aload_n F.1 F.2.1 dX1_does_259 rfl (lv_at hl 1 rfl) ?_
        obtain ⟨zcd_331, zgo_331, ztd_331, ztv_331, zcl_331, zca_331, zwa_331, zpt_331, zpf_331, X_331, hc, hE⟩ := bnd10_some hE
        refine aft_v (run_N (rest := []) F (kX9_tries hj (updH_at _ _ _) (updH_upd _ _ _ _) hc) (okX Z) C hS (C.2.2 _ _ mlX1_78 rfl) lkX1_78 ⟨Nat.le_of_ble_eq_true rfl, Nat.le_of_ble_eq_true rfl⟩ (rvo13 C hP) hP rfl hl.1 rfl (lv_room (Nat.le_of_ble_eq_true rfl)) dX1_does_260 ⟨Nat.zero_le _, Nat.zero_le _⟩) hS (fun H locs hP hS => ?_)
        exact qX1_does_263 F hr hlk C hj zcd_331 zgo_331 ztd_331 ztv_331 zcl_331 zca_331 zwa_331 zpt_331 zpf_331 X_331 x4 hE _ _ hP hS ls (lv_sub hl [1, 3] rfl)
set_option maxRecDepth 100000 in
set_option maxHeartbeats 4000000 in
theorem qX1_does_215 {p : Program} {l : Launch} {e : Env} {s : State} {m : MethodId} {args : Array Value} {below : List Frame} {meth : Method} {c : Code} {Z : ZC} {HS : Nat → Nat → Nat → Int32} {j : Nat} {zkb : Int32} {zdr : Int32} {zky : Nat → Int32} {zpn : Int32} {zps : Int32} {ztz : Int32} {ztn : Nat → Int64} {zxz : Int32} {zxa : Int32} {zsg : Nat → Int32} {za0 : Int32} {za1 : Int32} {za2 : Int32} {za3 : Int32} {za4 : Int32} {zfr : Nat → Int32} {N : Nat} {r' : Int32} {zcd' : Int32} {zgo' : Nat → Int32} {ztd' : Int32} {ztv' : Int32} {zcl' : Nat → Int32} {zca' : Nat → Int32} {zwa' : Nat → Int32} {zpt' : Nat → Int32} {zpf' : Nat → Int32} {X' : Nat → Nat → Int32} (F : CallFix p m c cX1_does 6 s args bigW RX1) (hr : meth.sig.returnType = (some .int)) (hlk : meth.locks = false) (C : KX Z s) (hj : j < 13) : ∀ (zcd : Int32) (zgo : Nat → Int32) (ztd : Int32) (ztv : Int32) (zcl : Nat → Int32) (zca : Nat → Int32) (zwa : Nat → Int32) (zpt : Nat → Int32) (zpf : Nat → Int32) (X : Nat → Nat → Int32) (x4 : Int32), fX1_does_215 N za0 za1 za2 za3 za4 zcd zgo ztd ztv zcl zca zwa zpt zpf X x4 = some (r', zcd', zgo', ztd', ztv', zcl', zca', zwa', zpt', zpf', X') → ∀ (H : Heap) (locs : List Loc), PX Z (updH HS j X) zkb zdr zky zpn zps ztz ztn zxz zxa zsg za0 za1 za2 za3 za4 zfr zcd zgo ztd ztv zcl zca zwa zpt zpf H → va_S (AX Z) s.heap H locs → ∀ ls : Array Slot, lv_has ls 6 [(0, .ref (oA Z 19)), (1, .ref (hA Z j 0)), (2, .ref (oA Z 8)), (4, .int x4)] → W p l e (rmk 6 142) s m args below meth c H locs 0 0 (MQ below (Qi (KX Z) (AX Z) (PX Z (updH HS j X') zkb zdr zky zpn zps ztz ztn zxz zxa zsg za0 za1 za2 za3 za4 zfr zcd' zgo' ztd' ztv' zcl' zca' zwa' zpt' zpf') r') args s 0 0 (AX Z)) (F0 m 215 ls []) := by
  intro zcd zgo ztd ztv zcl zca zwa zpt zpf X x4 hE H locs hP hS ls hl
  unfold fX1_does_215 at hE
  refine lv_aload_n F.1 F.2.1 dX1_does_215 rfl (lv_at hl 0 rfl) ?_
  refine gX1_15 F C hP dX1_does_216 ?_
  refine lv_aload_n F.1 F.2.1 dX1_does_219 rfl (lv_at hl 1 rfl) ?_
  obtain ⟨zcd_332, zgo_332, ztd_332, ztv_332, zcl_332, zca_332, zwa_332, zpt_332, zpf_332, X_332, hc, hE⟩ := bnd10_some hE
  refine aft_v (run_N (rest := []) F (kX9_tries hj (updH_at _ _ _) (updH_upd _ _ _ _) hc) (okX Z) C hS (C.2.2 _ _ mlX1_78 rfl) lkX1_78 ⟨Nat.le_of_ble_eq_true rfl, Nat.le_of_ble_eq_true rfl⟩ (rvo13 C hP) hP rfl hl.1 rfl (lv_room (Nat.le_of_ble_eq_true rfl)) dX1_does_220 ⟨Nat.zero_le _, Nat.zero_le _⟩) hS (fun H locs hP hS => ?_)
  exact qX1_does_223 F hr hlk C hj zcd_332 zgo_332 ztd_332 ztv_332 zcl_332 zca_332 zwa_332 zpt_332 zpf_332 X_332 x4 hE _ _ hP hS ls (lv_sub hl [0, 1, 2, 3] rfl)
set_option maxRecDepth 100000 in
set_option maxHeartbeats 4000000 in
theorem kX1_does {l : Launch} {Z : ZC} {HS : Nat → Nat → Nat → Int32} {j : Nat} {X : Nat → Nat → Int32} {zkb : Int32} {zdr : Int32} {zky : Nat → Int32} {zpn : Int32} {zps : Int32} {ztz : Int32} {ztn : Nat → Int64} {zxz : Int32} {zxa : Int32} {zsg : Nat → Int32} {za0 : Int32} {za1 : Int32} {za2 : Int32} {za3 : Int32} {za4 : Int32} {zfr : Nat → Int32} {zcd : Int32} {zgo : Nat → Int32} {ztd : Int32} {ztv : Int32} {zcl : Nat → Int32} {zca : Nat → Int32} {zwa : Nat → Int32} {zpt : Nat → Int32} {zpf : Nat → Int32} {N : Nat} {r' : Int32} {zcd' : Int32} {zgo' : Nat → Int32} {ztd' : Int32} {ztv' : Int32} {zcl' : Nat → Int32} {zca' : Nat → Int32} {zwa' : Nat → Int32} {zpt' : Nat → Int32} {zpf' : Nat → Int32} {X' : Nat → Nat → Int32} (hj : j < 13) (hX : HS j = X) {HS1 : Nat → Nat → Nat → Int32} (h1 : updH HS j X' = HS1) (hE : fX1_does N za0 za1 za2 za3 za4 zcd zgo ztd ztv zcl zca zwa zpt zpf X = some (r', zcd', zgo', ztd', ztv', zcl', zca', zwa', zpt', zpf', X')) : Mg l yX1_does cX1_does 6 (some .int) (rmk 6 142) (KX Z) (AX Z) [.ref (oA Z 19), .ref (hA Z j 0), .ref (oA Z 8)] (PX Z HS zkb zdr zky zpn zps ztz ztn zxz zxa zsg za0 za1 za2 za3 za4 zfr zcd zgo ztd ztv zcl zca zwa zpt zpf) (Qi (KX Z) (AX Z) (PX Z HS1 zkb zdr zky zpn zps ztz ztn zxz zxa zsg za0 za1 za2 za3 za4 zfr zcd' zgo' ztd' ztv' zcl' zca' zwa' zpt' zpf') r') := by
  subst h1
  rw [← updH_eq hX, updH_upd]
  refine Mg.start (lv := [(0, .ref (oA Z 19)), (1, .ref (hA Z j 0)), (2, .ref (oA Z 8))]) (by decide) rfl (Nat.le_of_ble_eq_true rfl) rfl ?_
  intro p e s m below meth c F hr hlk C hP ls hl
  have hS : va_S (AX Z) s.heap s.heap [] := va_S.rf
  unfold fX1_does at hE
  refine lv_aload_n F.1 F.2.1 dX1_does_0 rfl (lv_at hl 0 rfl) ?_
  refine lv_aload_n F.1 F.2.1 dX1_does_1 rfl (lv_at hl 1 rfl) ?_
  refine lv_aload_n F.1 F.2.1 dX1_does_2 rfl (lv_at hl 2 rfl) ?_
  obtain ⟨r323, hc, hE⟩ := bnd1_some hE
  refine aft_i (run_V (rest := []) F (kX1_refuses hj (updH_at _ _ _) hc) (okX Z) C hS lkX1_23 ⟨Nat.le_of_ble_eq_true rfl, Nat.le_of_ble_eq_true rfl⟩ (rvo19 C hP) hP rfl hl.1 rfl (lv_room (Nat.le_of_ble_eq_true rfl)) dX1_does_3 ⟨Nat.zero_le _, Nat.zero_le _⟩) hS (fun H locs hP hS => ?_)
  refine lv_istore_n (lv' := [(3, .int r323), (0, .ref (oA Z 19)), (1, .ref (hA Z j 0)), (2, .ref (oA Z 8))]) F.1 F.2.1 dX1_does_6 rfl hl (by decide) rfl (fun ls hl => ?_)
  refine lv_iload_n F.1 F.2.1 dX1_does_7 rfl (lv_at hl 0 rfl) ?_
  refine lv_if_ge (tgt := 13) F.1 F.2.1 dX1_does_8 (by decide) (fun hc => ?_) (fun hc => ?_)
  · have hE := ifp hE hc
    refine lv_aload_n F.1 F.2.1 dX1_does_13 rfl (lv_at hl 2 rfl) ?_
    refine gX1_27 F C hP hj (updH_at _ _ _) dX1_does_14 ?_
    refine gX1_33 F C hP hj (updH_at _ _ _) dX1_does_17 ?_
    refine lv_istore (lv' := [(4, .int (X 10 3)), (3, .int r323), (0, .ref (oA Z 19)), (1, .ref (hA Z j 0)), (2, .ref (oA Z 8))]) F.1 F.2.1 dX1_does_20 hl (by decide) rfl (fun ls hl => ?_)
    refine lv_aload_n F.1 F.2.1 dX1_does_22 rfl (lv_at hl 4 rfl) ?_
    refine gX1_39 F C hP dX1_does_23 ?_
    by_cases hc0 : za0 = 107
    · have hE := ifp hE hc0
      refine lv_tableIn (tgt := 191) (off := 165) F.1 F.2.1 dX1_does_26 (by rw [hc0]; decide) (by rw [hc0]; decide) (by rw [hc0]; rfl) (by decide) ?_
      refine lv_aload_n F.1 F.2.1 dX1_does_191 rfl (lv_at hl 2 rfl) ?_
      refine gX1_9 F C hP dX1_does_192 ?_
      refine lv_aload_n F.1 F.2.1 dX1_does_195 rfl (lv_at hl 3 rfl) ?_
      refine lv_aload_n F.1 F.2.1 dX1_does_196 rfl (lv_at hl 4 rfl) ?_
      refine gX1_51 F C hP dX1_does_197 ?_
      refine lv_aload_n F.1 F.2.1 dX1_does_200 rfl (lv_at hl 3 rfl) ?_
      refine gX1_74 F C hP hj (updH_at _ _ _) dX1_does_201 ?_
      refine lv_aload_n F.1 F.2.1 dX1_does_204 rfl (lv_at hl 4 rfl) ?_
      refine gX1_48 F C hP dX1_does_205 ?_
      obtain ⟨hi, hE⟩ := grd_some hE
      refine ah7 F C hP hj (updH_at _ _ _) hi dX1_does_208 ?_
      obtain ⟨zcd_324, zgo_324, X_324, hc, hE⟩ := bnd3_some hE
      refine aft_v (run_N (rest := []) F (kX2_laysRoot hj (updH_at _ _ _) (updH_upd _ _ _ _) hc) (okX Z) C hS (C.2.2 _ _ mlX1_64 rfl) lkX1_64 ⟨Nat.le_of_ble_eq_true rfl, Nat.le_of_ble_eq_true rfl⟩ (rvo11 C hP) hP rfl hl.1 rfl (lv_room (Nat.le_of_ble_eq_true rfl)) dX1_does_209 ⟨Nat.zero_le _, Nat.zero_le _⟩) hS (fun H locs hP hS => ?_)
      refine lv_goto (tgt := 223) F.1 F.2.1 dX1_does_212 (by decide) ?_
      exact qX1_does_223 F hr hlk C hj zcd_324 zgo_324 ztd ztv zcl zca zwa zpt zpf X_324 (X 10 3) hE _ _ hP hS ls (lv_sub hl [2, 3, 4, 0] rfl)
    have hE := ifn hE hc0
    by_cases hc1 : za0 = 108
    · skip
      refine lv_tableIn (tgt := 215) (off := 189) F.1 F.2.1 dX1_does_26 (by rw [hc1]; decide) (by rw [hc1]; decide) (by rw [hc1]; rfl) (by decide) ?_
      have hE := ifn hE (by rw [hc1]; decide)
      have hE := ifn hE (by rw [hc1]; decide)
      have hE := ifn hE (by rw [hc1]; decide)
      have hE := ifn hE (by rw [hc1]; decide)
      exact qX1_does_215 F hr hlk C hj zcd zgo ztd ztv zcl zca zwa zpt zpf X (X 10 3) hE _ _ hP hS ls (lv_sub hl [2, 3, 4, 0] rfl)
    by_cases hc2 : za0 = 109
    · skip
      refine lv_tableIn (tgt := 215) (off := 189) F.1 F.2.1 dX1_does_26 (by rw [hc2]; decide) (by rw [hc2]; decide) (by rw [hc2]; rfl) (by decide) ?_
      have hE := ifn hE (by rw [hc2]; decide)
      have hE := ifn hE (by rw [hc2]; decide)
      have hE := ifn hE (by rw [hc2]; decide)
      have hE := ifn hE (by rw [hc2]; decide)
      exact qX1_does_215 F hr hlk C hj zcd zgo ztd ztv zcl zca zwa zpt zpf X (X 10 3) hE _ _ hP hS ls (lv_sub hl [2, 3, 4, 0] rfl)
    by_cases hc3 : za0 = 110
    · have hE := ifp hE hc3
      refine lv_tableIn (tgt := 92) (off := 66) F.1 F.2.1 dX1_does_26 (by rw [hc3]; decide) (by rw [hc3]; decide) (by rw [hc3]; rfl) (by decide) ?_
      refine lv_aload_n F.1 F.2.1 dX1_does_92 rfl (lv_at hl 3 rfl) ?_
      obtain ⟨r325, hc, hE⟩ := bnd1_some hE
      refine aft_i (run_N (rest := []) F (kX3_leastFree hj (updH_at _ _ _) hc) (okX Z) C hS (C.2.2 _ _ mlX1_44 rfl) lkX1_44 ⟨Nat.le_of_ble_eq_true rfl, Nat.le_of_ble_eq_true rfl⟩ (rvh0 C hP hj) hP rfl hl.1 rfl (lv_room (Nat.le_of_ble_eq_true rfl)) dX1_does_93 ⟨Nat.zero_le _, Nat.zero_le _⟩) hS (fun H locs hP hS => ?_)
      refine lv_istore (lv' := [(5, .int r325), (4, .int (X 10 3)), (3, .int r323), (0, .ref (oA Z 19)), (1, .ref (hA Z j 0)), (2, .ref (oA Z 8))]) F.1 F.2.1 dX1_does_96 hl (by decide) rfl (fun ls hl => ?_)
      refine lv_aload_n F.1 F.2.1 dX1_does_98 rfl (lv_at hl 4 rfl) ?_
      refine lv_iload F.1 F.2.1 dX1_does_99 (lv_at hl 0 rfl) ?_
      refine lv_aload_n F.1 F.2.1 dX1_does_101 rfl (lv_at hl 5 rfl) ?_
      refine gX1_48 F C hP dX1_does_102 ?_
      refine lv_aload_n F.1 F.2.1 dX1_does_105 rfl (lv_at hl 5 rfl) ?_
      refine gX1_51 F C hP dX1_does_106 ?_
      refine lv_aload_n F.1 F.2.1 dX1_does_109 rfl (lv_at hl 5 rfl) ?_
      refine gX1_54 F C hP dX1_does_110 ?_
      obtain ⟨X_326, hc, hE⟩ := bnd1_some hE
      refine aft_v (run_N (rest := []) F (kX3_adds hj (updH_at _ _ _) (updH_upd _ _ _ _) hc) (okX Z) C hS (C.2.2 _ _ mlX1_57 rfl) lkX1_57 ⟨Nat.le_of_ble_eq_true rfl, Nat.le_of_ble_eq_true rfl⟩ (rvh0 C hP hj) hP rfl hl.1 rfl (lv_room (Nat.le_of_ble_eq_true rfl)) dX1_does_113 ⟨Nat.zero_le _, Nat.zero_le _⟩) hS (fun H locs hP hS => ?_)
      refine lv_aload_n F.1 F.2.1 dX1_does_116 rfl (lv_at hl 3 rfl) ?_
      refine gX1_9 F C hP dX1_does_117 ?_
      refine lv_aload_n F.1 F.2.1 dX1_does_120 rfl (lv_at hl 4 rfl) ?_
      refine lv_aload_n F.1 F.2.1 dX1_does_121 rfl (lv_at hl 5 rfl) ?_
      refine gX1_61 F C hP dX1_does_122 ?_
      refine lv_iload F.1 F.2.1 dX1_does_125 (lv_at hl 0 rfl) ?_
      obtain ⟨zcd_327, zgo_327, X_327, hc, hE⟩ := bnd3_some hE
      refine aft_v (run_N (rest := []) F (kX2_laysRoot hj (updH_at _ _ _) (updH_upd _ _ _ _) hc) (okX Z) C hS (C.2.2 _ _ mlX1_64 rfl) lkX1_64 ⟨Nat.le_of_ble_eq_true rfl, Nat.le_of_ble_eq_true rfl⟩ (rvo11 C hP) hP rfl hl.1 rfl (lv_room (Nat.le_of_ble_eq_true rfl)) dX1_does_127 ⟨Nat.zero_le _, Nat.zero_le _⟩) hS (fun H locs hP hS => ?_)
      refine lv_goto (tgt := 223) F.1 F.2.1 dX1_does_130 (by decide) ?_
      exact qX1_does_223 F hr hlk C hj zcd_327 zgo_327 ztd ztv zcl zca zwa zpt zpf X_327 (X 10 3) hE _ _ hP hS ls (lv_sub hl [3, 4, 5, 1] rfl)
    have hE := ifn hE hc3
    by_cases hc4 : za0 = 111
    · skip
      refine lv_tableIn (tgt := 215) (off := 189) F.1 F.2.1 dX1_does_26 (by rw [hc4]; decide) (by rw [hc4]; decide) (by rw [hc4]; rfl) (by decide) ?_
      have hE := ifn hE (by rw [hc4]; decide)
      have hE := ifn hE (by rw [hc4]; decide)
      have hE := ifn hE (by rw [hc4]; decide)
      exact qX1_does_215 F hr hlk C hj zcd zgo ztd ztv zcl zca zwa zpt zpf X (X 10 3) hE _ _ hP hS ls (lv_sub hl [2, 3, 4, 0] rfl)
    by_cases hc5 : za0 = 112
    · skip
      refine lv_tableIn (tgt := 215) (off := 189) F.1 F.2.1 dX1_does_26 (by rw [hc5]; decide) (by rw [hc5]; decide) (by rw [hc5]; rfl) (by decide) ?_
      have hE := ifn hE (by rw [hc5]; decide)
      have hE := ifn hE (by rw [hc5]; decide)
      have hE := ifn hE (by rw [hc5]; decide)
      exact qX1_does_215 F hr hlk C hj zcd zgo ztd ztv zcl zca zwa zpt zpf X (X 10 3) hE _ _ hP hS ls (lv_sub hl [2, 3, 4, 0] rfl)
    by_cases hc6 : za0 = 113
    · skip
      refine lv_tableIn (tgt := 215) (off := 189) F.1 F.2.1 dX1_does_26 (by rw [hc6]; decide) (by rw [hc6]; decide) (by rw [hc6]; rfl) (by decide) ?_
      have hE := ifn hE (by rw [hc6]; decide)
      have hE := ifn hE (by rw [hc6]; decide)
      have hE := ifn hE (by rw [hc6]; decide)
      exact qX1_does_215 F hr hlk C hj zcd zgo ztd ztv zcl zca zwa zpt zpf X (X 10 3) hE _ _ hP hS ls (lv_sub hl [2, 3, 4, 0] rfl)
    by_cases hc7 : za0 = 114
    · have hE := ifp hE hc7
      refine lv_tableIn (tgt := 156) (off := 130) F.1 F.2.1 dX1_does_26 (by rw [hc7]; decide) (by rw [hc7]; decide) (by rw [hc7]; rfl) (by decide) ?_
      refine lv_aload_n F.1 F.2.1 dX1_does_156 rfl (lv_at hl 2 rfl) ?_
      refine gX1_9 F C hP dX1_does_157 ?_
      refine lv_aload_n F.1 F.2.1 dX1_does_160 rfl (lv_at hl 3 rfl) ?_
      refine lv_aload_n F.1 F.2.1 dX1_does_161 rfl (lv_at hl 4 rfl) ?_
      refine gX1_48 F C hP dX1_does_162 ?_
      refine lv_aload_n F.1 F.2.1 dX1_does_165 rfl (lv_at hl 4 rfl) ?_
      refine gX1_51 F C hP dX1_does_166 ?_
      obtain ⟨zcd_328, zgo_328, X_328, hc, hE⟩ := bnd3_some hE
      refine aft_v (run_N (rest := []) F (kX2_laysRoot hj (updH_at _ _ _) (updH_upd _ _ _ _) hc) (okX Z) C hS (C.2.2 _ _ mlX1_64 rfl) lkX1_64 ⟨Nat.le_of_ble_eq_true rfl, Nat.le_of_ble_eq_true rfl⟩ (rvo11 C hP) hP rfl hl.1 rfl (lv_room (Nat.le_of_ble_eq_true rfl)) dX1_does_169 ⟨Nat.zero_le _, Nat.zero_le _⟩) hS (fun H locs hP hS => ?_)
      refine lv_goto (tgt := 223) F.1 F.2.1 dX1_does_172 (by decide) ?_
      exact qX1_does_223 F hr hlk C hj zcd_328 zgo_328 ztd ztv zcl zca zwa zpt zpf X_328 (X 10 3) hE _ _ hP hS ls (lv_sub hl [2, 3, 4, 0] rfl)
    have hE := ifn hE hc7
    by_cases hc8 : za0 = 115
    · have hE := ifp hE hc8
      refine lv_tableIn (tgt := 133) (off := 107) F.1 F.2.1 dX1_does_26 (by rw [hc8]; decide) (by rw [hc8]; decide) (by rw [hc8]; rfl) (by decide) ?_
      refine lv_aload_n F.1 F.2.1 dX1_does_133 rfl (lv_at hl 2 rfl) ?_
      refine gX1_9 F C hP dX1_does_134 ?_
      refine lv_aload_n F.1 F.2.1 dX1_does_137 rfl (lv_at hl 3 rfl) ?_
      refine lv_aload_n F.1 F.2.1 dX1_does_138 rfl (lv_at hl 4 rfl) ?_
      refine gX1_48 F C hP dX1_does_139 ?_
      refine lv_aload_n F.1 F.2.1 dX1_does_142 rfl (lv_at hl 4 rfl) ?_
      refine gX1_51 F C hP dX1_does_143 ?_
      refine lv_aload_n F.1 F.2.1 dX1_does_146 rfl (lv_at hl 4 rfl) ?_
      refine gX1_54 F C hP dX1_does_147 ?_
      obtain ⟨zcd_329, zgo_329, X_329, hc, hE⟩ := bnd3_some hE
      refine aft_v (run_N (rest := []) F (kX2_laysField hj (updH_at _ _ _) (updH_upd _ _ _ _) hc) (okX Z) C hS (C.2.2 _ _ mlX1_70 rfl) lkX1_70 ⟨Nat.le_of_ble_eq_true rfl, Nat.le_of_ble_eq_true rfl⟩ (rvo11 C hP) hP rfl hl.1 rfl (lv_room (Nat.le_of_ble_eq_true rfl)) dX1_does_150 ⟨Nat.zero_le _, Nat.zero_le _⟩) hS (fun H locs hP hS => ?_)
      refine lv_goto (tgt := 223) F.1 F.2.1 dX1_does_153 (by decide) ?_
      exact qX1_does_223 F hr hlk C hj zcd_329 zgo_329 ztd ztv zcl zca zwa zpt zpf X_329 (X 10 3) hE _ _ hP hS ls (lv_sub hl [2, 3, 4, 0] rfl)
    have hE := ifn hE hc8
    by_cases hc9 : za0 = 116
    · skip
      refine lv_tableIn (tgt := 215) (off := 189) F.1 F.2.1 dX1_does_26 (by rw [hc9]; decide) (by rw [hc9]; decide) (by rw [hc9]; rfl) (by decide) ?_
      have hE := ifn hE (by rw [hc9]; decide)
      exact qX1_does_215 F hr hlk C hj zcd zgo ztd ztv zcl zca zwa zpt zpf X (X 10 3) hE _ _ hP hS ls (lv_sub hl [2, 3, 4, 0] rfl)
    by_cases hc10 : za0 = 117
    · skip
      refine lv_tableIn (tgt := 215) (off := 189) F.1 F.2.1 dX1_does_26 (by rw [hc10]; decide) (by rw [hc10]; decide) (by rw [hc10]; rfl) (by decide) ?_
      have hE := ifn hE (by rw [hc10]; decide)
      exact qX1_does_215 F hr hlk C hj zcd zgo ztd ztv zcl zca zwa zpt zpf X (X 10 3) hE _ _ hP hS ls (lv_sub hl [2, 3, 4, 0] rfl)
    by_cases hc11 : za0 = 118
    · skip
      refine lv_tableIn (tgt := 215) (off := 189) F.1 F.2.1 dX1_does_26 (by rw [hc11]; decide) (by rw [hc11]; decide) (by rw [hc11]; rfl) (by decide) ?_
      have hE := ifn hE (by rw [hc11]; decide)
      exact qX1_does_215 F hr hlk C hj zcd zgo ztd ztv zcl zca zwa zpt zpf X (X 10 3) hE _ _ hP hS ls (lv_sub hl [2, 3, 4, 0] rfl)
    by_cases hc12 : za0 = 119
    · have hE := ifp hE hc12
      refine lv_tableIn (tgt := 175) (off := 149) F.1 F.2.1 dX1_does_26 (by rw [hc12]; decide) (by rw [hc12]; decide) (by rw [hc12]; rfl) (by decide) ?_
      refine lv_aload_n F.1 F.2.1 dX1_does_175 rfl (lv_at hl 3 rfl) ?_
      refine gX1_74 F C hP hj (updH_at _ _ _) dX1_does_176 ?_
      refine lv_aload_n F.1 F.2.1 dX1_does_179 rfl (lv_at hl 4 rfl) ?_
      refine gX1_48 F C hP dX1_does_180 ?_
      refine lv_aload_n F.1 F.2.1 dX1_does_183 rfl (lv_at hl 4 rfl) ?_
      refine gX1_51 F C hP dX1_does_184 ?_
      obtain ⟨hi, hE⟩ := grd_some hE
      obtain ⟨X_330, eX_330, hE⟩ := lt_some hE
      refine sh7 F C hP hj (updH_at _ _ _) hi hS (updH_let eX_330) dX1_does_187 (fun H locs hP hS => ?_)
      refine lv_goto (tgt := 223) F.1 F.2.1 dX1_does_188 (by decide) ?_
      exact qX1_does_223 F hr hlk C hj zcd zgo ztd ztv zcl zca zwa zpt zpf X_330 (X 10 3) hE _ _ hP hS ls (lv_sub hl [2, 3, 4, 0] rfl)
    have hE := ifn hE hc12
    refine lv_tableOut (tgt := 215) F.1 F.2.1 dX1_does_26 (by have g0 : ¬ (za0).toInt = 107 := sw_ne hc0; have g1 : ¬ (za0).toInt = 108 := sw_ne hc1; have g2 : ¬ (za0).toInt = 109 := sw_ne hc2; have g3 : ¬ (za0).toInt = 110 := sw_ne hc3; have g4 : ¬ (za0).toInt = 111 := sw_ne hc4; have g5 : ¬ (za0).toInt = 112 := sw_ne hc5; have g6 : ¬ (za0).toInt = 113 := sw_ne hc6; have g7 : ¬ (za0).toInt = 114 := sw_ne hc7; have g8 : ¬ (za0).toInt = 115 := sw_ne hc8; have g9 : ¬ (za0).toInt = 116 := sw_ne hc9; have g10 : ¬ (za0).toInt = 117 := sw_ne hc10; have g11 : ¬ (za0).toInt = 118 := sw_ne hc11; have g12 : ¬ (za0).toInt = 119 := sw_ne hc12; omega) (by decide) ?_
    exact qX1_does_215 F hr hlk C hj zcd zgo ztd ztv zcl zca zwa zpt zpf X (X 10 3) hE _ _ hP hS ls (lv_sub hl [2, 3, 4, 0] rfl)
  · have hE := ifn hE hc
    refine lv_iload_n F.1 F.2.1 dX1_does_11 rfl (lv_at hl 0 rfl) ?_
    have w0 := Option.some.inj hE
    obtain ⟨g0, w1⟩ := Prod.mk.inj w0
    obtain ⟨g1, w2⟩ := Prod.mk.inj w1
    obtain ⟨g2, w3⟩ := Prod.mk.inj w2
    obtain ⟨g3, w4⟩ := Prod.mk.inj w3
    obtain ⟨g4, w5⟩ := Prod.mk.inj w4
    obtain ⟨g5, w6⟩ := Prod.mk.inj w5
    obtain ⟨g6, w7⟩ := Prod.mk.inj w6
    obtain ⟨g7, w8⟩ := Prod.mk.inj w7
    obtain ⟨g8, w9⟩ := Prod.mk.inj w8
    obtain ⟨g9, w10⟩ := Prod.mk.inj w9
    subst g0 g1 g2 g3 g4 g5 g6 g7 g8 g9 w10
    exact ret_i F hr hlk hP hS dX1_does_12
set_option maxRecDepth 100000 in
set_option maxHeartbeats 4000000 in
theorem kX8_clears {l : Launch} {Z : ZC} {HS : Nat → Nat → Nat → Int32} {zkb : Int32} {zdr : Int32} {zky : Nat → Int32} {zpn : Int32} {zps : Int32} {ztz : Int32} {ztn : Nat → Int64} {zxz : Int32} {zxa : Int32} {zsg : Nat → Int32} {za0 : Int32} {za1 : Int32} {za2 : Int32} {za3 : Int32} {za4 : Int32} {zfr : Nat → Int32} {zcd : Int32} {zgo : Nat → Int32} {ztd : Int32} {ztv : Int32} {zcl : Nat → Int32} {zca : Nat → Int32} {zwa : Nat → Int32} {zpt : Nat → Int32} {zpf : Nat → Int32} {ztz' : Int32} (hE : fX8_clears ztz = some ztz') : Mg l yX8_clears cX8_clears 1 none (rmk 0 0) (KX Z) (AX Z) [.ref (oA Z 4)] (PX Z HS zkb zdr zky zpn zps ztz ztn zxz zxa zsg za0 za1 za2 za3 za4 zfr zcd zgo ztd ztv zcl zca zwa zpt zpf) (Qv (KX Z) (AX Z) (PX Z HS zkb zdr zky zpn zps ztz' ztn zxz zxa zsg za0 za1 za2 za3 za4 zfr zcd zgo ztd ztv zcl zca zwa zpt zpf)) := by
  refine Mg.start (lv := [(0, .ref (oA Z 4))]) (by decide) rfl (Nat.le_of_ble_eq_true rfl) rfl ?_
  intro p e s m below meth c F hr hlk C hP ls hl
  have hS : va_S (AX Z) s.heap s.heap [] := va_S.rf
  unfold fX8_clears at hE
  refine lv_aload_n F.1 F.2.1 dX8_clears_0 rfl (lv_at hl 0 rfl) ?_
  refine lv_iconst (v := 0) F.1 F.2.1 dX8_clears_1 (by decide) ?_
  refine pX8_15 F C hP hS rfl dX8_clears_2 (fun H locs hP hS => ?_)
  obtain rfl := Option.some.inj hE
  exact ret_v F hr hlk hP hS dX8_clears_5
set_option maxRecDepth 100000 in
set_option maxHeartbeats 4000000 in
theorem kX8_adds {l : Launch} {Z : ZC} {HS : Nat → Nat → Nat → Int32} {zkb : Int32} {zdr : Int32} {zky : Nat → Int32} {zpn : Int32} {zps : Int32} {ztz : Int32} {ztn : Nat → Int64} {zxz : Int32} {zxa : Int32} {zsg : Nat → Int32} {za0 : Int32} {za1 : Int32} {za2 : Int32} {za3 : Int32} {za4 : Int32} {zfr : Nat → Int32} {zcd : Int32} {zgo : Nat → Int32} {ztd : Int32} {ztv : Int32} {zcl : Nat → Int32} {zca : Nat → Int32} {zwa : Nat → Int32} {zpt : Nat → Int32} {zpf : Nat → Int32} {p1 : Int64} {ztz' : Int32} {ztn' : Nat → Int64} (hE : fX8_adds ztz ztn p1 = some (ztz', ztn')) : Mg l yX8_adds cX8_adds 3 none (rmk 0 0) (KX Z) (AX Z) [.ref (oA Z 4), .long p1] (PX Z HS zkb zdr zky zpn zps ztz ztn zxz zxa zsg za0 za1 za2 za3 za4 zfr zcd zgo ztd ztv zcl zca zwa zpt zpf) (Qv (KX Z) (AX Z) (PX Z HS zkb zdr zky zpn zps ztz' ztn' zxz zxa zsg za0 za1 za2 za3 za4 zfr zcd zgo ztd ztv zcl zca zwa zpt zpf)) := by
  refine Mg.start (lv := [(0, .ref (oA Z 4)), (1, .long p1)]) (by decide) rfl (Nat.le_of_ble_eq_true rfl) rfl ?_
  intro p e s m below meth c F hr hlk C hP ls hl
  have hS : va_S (AX Z) s.heap s.heap [] := va_S.rf
  unfold fX8_adds at hE
  refine lv_aload_n F.1 F.2.1 dX8_adds_0 rfl (lv_at hl 0 rfl) ?_
  refine gX8_15 F C hP dX8_adds_1 ?_
  refine lv_bipush (v := 24) F.1 F.2.1 dX8_adds_4 (by decide) ?_
  refine lv_icmp_ge (tgt := 29) F.1 F.2.1 dX8_adds_6 (by decide) (fun hc => ?_) (fun hc => ?_)
  · have hE := ifp hE hc
    have w0 := Option.some.inj hE
    obtain ⟨g0, w1⟩ := Prod.mk.inj w0
    subst g0 w1
    exact ret_v F hr hlk hP hS dX8_adds_29
  · have hE := ifn hE hc
    refine lv_aload_n F.1 F.2.1 dX8_adds_9 rfl (lv_at hl 0 rfl) ?_
    refine gX8_9 F C hP dX8_adds_10 ?_
    refine lv_aload_n F.1 F.2.1 dX8_adds_13 rfl (lv_at hl 0 rfl) ?_
    refine gX8_15 F C hP dX8_adds_14 ?_
    refine lv_lload_n F.1 F.2.1 dX8_adds_17 rfl (lv_at hl 1 rfl) ?_
    obtain ⟨hi, hE⟩ := grd_some hE
    obtain ⟨ztn_337, eztn_337, hE⟩ := lt_some hE
    refine so5 F C hP hi hS eztn_337.symm dX8_adds_18 (fun H locs hP hS => ?_)
    refine lv_aload_n F.1 F.2.1 dX8_adds_19 rfl (lv_at hl 0 rfl) ?_
    refine lv_dup F.1 F.2.1 dX8_adds_20 rfl ?_
    refine gX8_15 F C hP dX8_adds_21 ?_
    refine lv_iconst (v := 1) F.1 F.2.1 dX8_adds_24 (by decide) ?_
    refine lv_iadd F.1 F.2.1 dX8_adds_25 ?_
    obtain ⟨ztz_338, eztz_338, hE⟩ := lt_some hE
    refine pX8_15 F C hP hS eztz_338.symm dX8_adds_26 (fun H locs hP hS => ?_)
    have w0 := Option.some.inj hE
    obtain ⟨g0, w1⟩ := Prod.mk.inj w0
    subst g0 w1
    exact ret_v F hr hlk hP hS dX8_adds_29
set_option maxRecDepth 100000 in
set_option maxHeartbeats 4000000 in
theorem kX8_tells {l : Launch} {Z : ZC} {HS : Nat → Nat → Nat → Int32} {zkb : Int32} {zdr : Int32} {zky : Nat → Int32} {zpn : Int32} {zps : Int32} {ztz : Int32} {ztn : Nat → Int64} {zxz : Int32} {zxa : Int32} {zsg : Nat → Int32} {za0 : Int32} {za1 : Int32} {za2 : Int32} {za3 : Int32} {za4 : Int32} {zfr : Nat → Int32} {zcd : Int32} {zgo : Nat → Int32} {ztd : Int32} {ztv : Int32} {zcl : Nat → Int32} {zca : Nat → Int32} {zwa : Nat → Int32} {zpt : Nat → Int32} {zpf : Nat → Int32} {p1 : Int64} {ztz' : Int32} {ztn' : Nat → Int64} (hE : fX8_tells ztz ztn p1 = some (ztz', ztn')) : Mg l yX8_tells cX8_tells 3 none (rmk 1 22) (KX Z) (AX Z) [.ref (oA Z 4), .long p1] (PX Z HS zkb zdr zky zpn zps ztz ztn zxz zxa zsg za0 za1 za2 za3 za4 zfr zcd zgo ztd ztv zcl zca zwa zpt zpf) (Qv (KX Z) (AX Z) (PX Z HS zkb zdr zky zpn zps ztz' ztn' zxz zxa zsg za0 za1 za2 za3 za4 zfr zcd zgo ztd ztv zcl zca zwa zpt zpf)) := by
  refine Mg.start (lv := [(0, .ref (oA Z 4)), (1, .long p1)]) (by decide) rfl (Nat.le_of_ble_eq_true rfl) rfl ?_
  intro p e s m below meth c F hr hlk C hP ls hl
  have hS : va_S (AX Z) s.heap s.heap [] := va_S.rf
  unfold fX8_tells at hE
  refine lv_aload_n F.1 F.2.1 dX8_tells_0 rfl (lv_at hl 0 rfl) ?_
  obtain ⟨ztz_341, hc, hE⟩ := bnd1_some hE
  refine aft_v (run_V (rest := []) F (kX8_clears hc) (okX Z) C hS lkX8_19 ⟨Nat.le_of_ble_eq_true rfl, Nat.le_of_ble_eq_true rfl⟩ (rvo4 C hP) hP rfl hl.1 rfl (lv_room (Nat.le_of_ble_eq_true rfl)) dX8_tells_1 ⟨Nat.zero_le _, Nat.zero_le _⟩) hS (fun H locs hP hS => ?_)
  refine lv_aload_n F.1 F.2.1 dX8_tells_4 rfl (lv_at hl 0 rfl) ?_
  refine lv_lload_n F.1 F.2.1 dX8_tells_5 rfl (lv_at hl 1 rfl) ?_
  obtain ⟨ztz_342, ztn_342, hc, hE⟩ := bnd2_some hE
  refine aft_v (run_V (rest := []) F (kX8_adds hc) (okX Z) C hS lkX8_22 ⟨Nat.le_of_ble_eq_true rfl, Nat.le_of_ble_eq_true rfl⟩ (rvo4 C hP) hP rfl hl.1 rfl (lv_room (Nat.le_of_ble_eq_true rfl)) dX8_tells_6 ⟨Nat.zero_le _, Nat.zero_le _⟩) hS (fun H locs hP hS => ?_)
  have w0 := Option.some.inj hE
  obtain ⟨g0, w1⟩ := Prod.mk.inj w0
  subst g0 w1
  exact ret_v F hr hlk hP hS dX8_tells_9
set_option maxRecDepth 100000 in
set_option maxHeartbeats 4000000 in
theorem kX3_objects {l : Launch} {Z : ZC} {HS : Nat → Nat → Nat → Int32} {j : Nat} {X : Nat → Nat → Int32} {zkb : Int32} {zdr : Int32} {zky : Nat → Int32} {zpn : Int32} {zps : Int32} {ztz : Int32} {ztn : Nat → Int64} {zxz : Int32} {zxa : Int32} {zsg : Nat → Int32} {za0 : Int32} {za1 : Int32} {za2 : Int32} {za3 : Int32} {za4 : Int32} {zfr : Nat → Int32} {zcd : Int32} {zgo : Nat → Int32} {ztd : Int32} {ztv : Int32} {zcl : Nat → Int32} {zca : Nat → Int32} {zwa : Nat → Int32} {zpt : Nat → Int32} {zpf : Nat → Int32} {r' : Int32} (hj : j < 13) (hX : HS j = X) (hE : fX3_objects X = some r') : Mg l yX3_objects cX3_objects 1 (some .int) (rmk 1 20) (KX Z) (AX Z) [.ref (hA Z j 0)] (PX Z HS zkb zdr zky zpn zps ztz ztn zxz zxa zsg za0 za1 za2 za3 za4 zfr zcd zgo ztd ztv zcl zca zwa zpt zpf) (Qi (KX Z) (AX Z) (PX Z HS zkb zdr zky zpn zps ztz ztn zxz zxa zsg za0 za1 za2 za3 za4 zfr zcd zgo ztd ztv zcl zca zwa zpt zpf) r') := by
  rw [← updH_eq hX]
  refine Mg.start (lv := [(0, .ref (hA Z j 0))]) (by decide) rfl (Nat.le_of_ble_eq_true rfl) rfl ?_
  intro p e s m below meth c F hr hlk C hP ls hl
  have hS : va_S (AX Z) s.heap s.heap [] := va_S.rf
  unfold fX3_objects at hE
  refine lv_aload_n F.1 F.2.1 dX3_objects_0 rfl (lv_at hl 0 rfl) ?_
  refine gX3_57 F C hP hj (updH_at _ _ _) dX3_objects_1 ?_
  obtain ⟨r358, hc, hE⟩ := bnd1_some hE
  refine aft_i (run_S (rest := []) F (kJ6_bitCount_0f7a4 hc) (okX Z) C hS lkX3_80 ⟨Nat.le_of_ble_eq_true rfl, Nat.le_of_ble_eq_true rfl⟩ hP rfl hl.1 rfl (lv_room (Nat.le_of_ble_eq_true rfl)) dX3_objects_4 ⟨Nat.zero_le _, Nat.zero_le _⟩) hS (fun H locs hP hS => ?_)
  obtain rfl := Option.some.inj hE
  exact ret_i F hr hlk hP hS dX3_objects_7
set_option maxRecDepth 100000 in
set_option maxHeartbeats 4000000 in
theorem kX8_tells_ {l : Launch} {Z : ZC} {HS : Nat → Nat → Nat → Int32} {zkb : Int32} {zdr : Int32} {zky : Nat → Int32} {zpn : Int32} {zps : Int32} {ztz : Int32} {ztn : Nat → Int64} {zxz : Int32} {zxa : Int32} {zsg : Nat → Int32} {za0 : Int32} {za1 : Int32} {za2 : Int32} {za3 : Int32} {za4 : Int32} {zfr : Nat → Int32} {zcd : Int32} {zgo : Nat → Int32} {ztd : Int32} {ztv : Int32} {zcl : Nat → Int32} {zca : Nat → Int32} {zwa : Nat → Int32} {zpt : Nat → Int32} {zpf : Nat → Int32} {p1 : Int64} {p3 : Int64} {ztz' : Int32} {ztn' : Nat → Int64} (hE : fX8_tells_ ztz ztn p1 p3 = some (ztz', ztn')) : Mg l yX8_tells_ cX8_tells_ 5 none (rmk 2 44) (KX Z) (AX Z) [.ref (oA Z 4), .long p1, .long p3] (PX Z HS zkb zdr zky zpn zps ztz ztn zxz zxa zsg za0 za1 za2 za3 za4 zfr zcd zgo ztd ztv zcl zca zwa zpt zpf) (Qv (KX Z) (AX Z) (PX Z HS zkb zdr zky zpn zps ztz' ztn' zxz zxa zsg za0 za1 za2 za3 za4 zfr zcd zgo ztd ztv zcl zca zwa zpt zpf)) := by
  refine Mg.start (lv := [(0, .ref (oA Z 4)), (1, .long p1), (3, .long p3)]) (by decide) rfl (Nat.le_of_ble_eq_true rfl) rfl ?_
  intro p e s m below meth c F hr hlk C hP ls hl
  have hS : va_S (AX Z) s.heap s.heap [] := va_S.rf
  unfold fX8_tells_ at hE
  refine lv_aload_n F.1 F.2.1 dX8_tells__0 rfl (lv_at hl 0 rfl) ?_
  refine lv_lload_n F.1 F.2.1 dX8_tells__1 rfl (lv_at hl 1 rfl) ?_
  obtain ⟨ztz_361, ztn_361, hc, hE⟩ := bnd2_some hE
  refine aft_v (run_V (rest := []) F (kX8_tells hc) (okX Z) C hS lkX8_26 ⟨Nat.le_of_ble_eq_true rfl, Nat.le_of_ble_eq_true rfl⟩ (rvo4 C hP) hP rfl hl.1 rfl (lv_room (Nat.le_of_ble_eq_true rfl)) dX8_tells__2 ⟨Nat.zero_le _, Nat.zero_le _⟩) hS (fun H locs hP hS => ?_)
  refine lv_aload_n F.1 F.2.1 dX8_tells__5 rfl (lv_at hl 0 rfl) ?_
  refine lv_lload_n F.1 F.2.1 dX8_tells__6 rfl (lv_at hl 2 rfl) ?_
  obtain ⟨ztz_362, ztn_362, hc, hE⟩ := bnd2_some hE
  refine aft_v (run_V (rest := []) F (kX8_adds hc) (okX Z) C hS lkX8_22 ⟨Nat.le_of_ble_eq_true rfl, Nat.le_of_ble_eq_true rfl⟩ (rvo4 C hP) hP rfl hl.1 rfl (lv_room (Nat.le_of_ble_eq_true rfl)) dX8_tells__7 ⟨Nat.zero_le _, Nat.zero_le _⟩) hS (fun H locs hP hS => ?_)
  have w0 := Option.some.inj hE
  obtain ⟨g0, w1⟩ := Prod.mk.inj w0
  subst g0 w1
  exact ret_v F hr hlk hP hS dX8_tells__10
set_option maxRecDepth 100000 in
set_option maxHeartbeats 4000000 in
theorem kX3_weakAt {l : Launch} {Z : ZC} {HS : Nat → Nat → Nat → Int32} {j : Nat} {X : Nat → Nat → Int32} {zkb : Int32} {zdr : Int32} {zky : Nat → Int32} {zpn : Int32} {zps : Int32} {ztz : Int32} {ztn : Nat → Int64} {zxz : Int32} {zxa : Int32} {zsg : Nat → Int32} {za0 : Int32} {za1 : Int32} {za2 : Int32} {za3 : Int32} {za4 : Int32} {zfr : Nat → Int32} {zcd : Int32} {zgo : Nat → Int32} {ztd : Int32} {ztv : Int32} {zcl : Nat → Int32} {zca : Nat → Int32} {zwa : Nat → Int32} {zpt : Nat → Int32} {zpf : Nat → Int32} {p1 : Int32} {r' : Int32} (hj : j < 13) (hX : HS j = X) (hE : fX3_weakAt X p1 = some r') : Mg l yX3_weakAt cX3_weakAt 2 (some .int) (rmk 0 0) (KX Z) (AX Z) [.ref (hA Z j 0), .int p1] (PX Z HS zkb zdr zky zpn zps ztz ztn zxz zxa zsg za0 za1 za2 za3 za4 zfr zcd zgo ztd ztv zcl zca zwa zpt zpf) (Qi (KX Z) (AX Z) (PX Z HS zkb zdr zky zpn zps ztz ztn zxz zxa zsg za0 za1 za2 za3 za4 zfr zcd zgo ztd ztv zcl zca zwa zpt zpf) r') := by
  rw [← updH_eq hX]
  refine Mg.start (lv := [(0, .ref (hA Z j 0)), (1, .int p1)]) (by decide) rfl (Nat.le_of_ble_eq_true rfl) rfl ?_
  intro p e s m below meth c F hr hlk C hP ls hl
  have hS : va_S (AX Z) s.heap s.heap [] := va_S.rf
  unfold fX3_weakAt at hE
  refine lv_iload_n F.1 F.2.1 dX3_weakAt_0 rfl (lv_at hl 1 rfl) ?_
  refine lv_if_lt (tgt := 18) F.1 F.2.1 dX3_weakAt_1 (by decide) (fun hc => ?_) (fun hc => ?_)
  · have hE := ifp hE hc
    refine lv_iconst (v := (-1)) F.1 F.2.1 dX3_weakAt_18 (by decide) ?_
    obtain rfl := Option.some.inj hE
    exact ret_i F hr hlk hP hS dX3_weakAt_19
  · have hE := ifn hE hc
    refine lv_iload_n F.1 F.2.1 dX3_weakAt_4 rfl (lv_at hl 1 rfl) ?_
    refine lv_iconst (v := 4) F.1 F.2.1 dX3_weakAt_5 (by decide) ?_
    refine lv_icmp_ge (tgt := 18) F.1 F.2.1 dX3_weakAt_6 (by decide) (fun hc => ?_) (fun hc => ?_)
    · have hE := ifp hE hc
      refine lv_iconst (v := (-1)) F.1 F.2.1 dX3_weakAt_18 (by decide) ?_
      obtain rfl := Option.some.inj hE
      exact ret_i F hr hlk hP hS dX3_weakAt_19
    · have hE := ifn hE hc
      refine lv_aload_n F.1 F.2.1 dX3_weakAt_9 rfl (lv_at hl 0 rfl) ?_
      refine gX3_34 F C hP hj (updH_at _ _ _) dX3_weakAt_10 ?_
      refine lv_iload_n F.1 F.2.1 dX3_weakAt_13 rfl (lv_at hl 1 rfl) ?_
      obtain ⟨hi, hE⟩ := grd_some hE
      refine ah7 F C hP hj (updH_at _ _ _) hi dX3_weakAt_14 ?_
      refine lv_goto (tgt := 19) F.1 F.2.1 dX3_weakAt_15 (by decide) ?_
      obtain rfl := Option.some.inj hE
      exact ret_i F hr hlk hP hS dX3_weakAt_19
set_option maxRecDepth 100000 in
set_option maxHeartbeats 4000000 in
theorem kX4_freed {l : Launch} {Z : ZC} {HS : Nat → Nat → Nat → Int32} {j : Nat} {X : Nat → Nat → Int32} {zkb : Int32} {zdr : Int32} {zky : Nat → Int32} {zpn : Int32} {zps : Int32} {ztz : Int32} {ztn : Nat → Int64} {zxz : Int32} {zxa : Int32} {zsg : Nat → Int32} {za0 : Int32} {za1 : Int32} {za2 : Int32} {za3 : Int32} {za4 : Int32} {zfr : Nat → Int32} {zcd : Int32} {zgo : Nat → Int32} {ztd : Int32} {ztv : Int32} {zcl : Nat → Int32} {zca : Nat → Int32} {zwa : Nat → Int32} {zpt : Nat → Int32} {zpf : Nat → Int32} {r' : Int32} (hj : j < 13) (hX : HS j = X) (hE : fX4_freed X = some r') : Mg l yX4_freed cX4_freed 1 (some .int) (rmk 0 0) (KX Z) (AX Z) [.ref (hA Z j 10)] (PX Z HS zkb zdr zky zpn zps ztz ztn zxz zxa zsg za0 za1 za2 za3 za4 zfr zcd zgo ztd ztv zcl zca zwa zpt zpf) (Qi (KX Z) (AX Z) (PX Z HS zkb zdr zky zpn zps ztz ztn zxz zxa zsg za0 za1 za2 za3 za4 zfr zcd zgo ztd ztv zcl zca zwa zpt zpf) r') := by
  rw [← updH_eq hX]
  refine Mg.start (lv := [(0, .ref (hA Z j 10))]) (by decide) rfl (Nat.le_of_ble_eq_true rfl) rfl ?_
  intro p e s m below meth c F hr hlk C hP ls hl
  have hS : va_S (AX Z) s.heap s.heap [] := va_S.rf
  unfold fX4_freed at hE
  refine lv_aload_n F.1 F.2.1 dX4_freed_0 rfl (lv_at hl 0 rfl) ?_
  refine gX4_18 F C hP hj (updH_at _ _ _) dX4_freed_1 ?_
  refine lv_iconst (v := 1) F.1 F.2.1 dX4_freed_4 (by decide) ?_
  obtain ⟨hi, hE⟩ := grd_some hE
  refine ah13 F C hP hj (updH_at _ _ _) hi dX4_freed_5 ?_
  refine lv_aload_n F.1 F.2.1 dX4_freed_6 rfl (lv_at hl 0 rfl) ?_
  refine gX4_18 F C hP hj (updH_at _ _ _) dX4_freed_7 ?_
  refine lv_iconst (v := 2) F.1 F.2.1 dX4_freed_10 (by decide) ?_
  obtain ⟨hi, hE⟩ := grd_some hE
  refine ah13 F C hP hj (updH_at _ _ _) hi dX4_freed_11 ?_
  refine lv_iadd F.1 F.2.1 dX4_freed_12 ?_
  obtain rfl := Option.some.inj hE
  exact ret_i F hr hlk hP hS dX4_freed_13
set_option maxRecDepth 100000 in
set_option maxHeartbeats 4000000 in
theorem qX3_weightOf_4 {p : Program} {l : Launch} {e : Env} {s : State} {m : MethodId} {args : Array Value} {below : List Frame} {meth : Method} {c : Code} {Z : ZC} {HS : Nat → Nat → Nat → Int32} {j : Nat} {X : Nat → Nat → Int32} {zkb : Int32} {zdr : Int32} {zky : Nat → Int32} {zpn : Int32} {zps : Int32} {ztz : Int32} {ztn : Nat → Int64} {zxz : Int32} {zxa : Int32} {zsg : Nat → Int32} {za0 : Int32} {za1 : Int32} {za2 : Int32} {za3 : Int32} {za4 : Int32} {zfr : Nat → Int32} {zcd : Int32} {zgo : Nat → Int32} {ztd : Int32} {ztv : Int32} {zcl : Nat → Int32} {zca : Nat → Int32} {zwa : Nat → Int32} {zpt : Nat → Int32} {zpf : Nat → Int32} {N : Nat} {p1 : Int32} {r' : Int32} (F : CallFix p m c cX3_weightOf 4 s args bigW RX3) (hr : meth.sig.returnType = (some .int)) (hlk : meth.locks = false) (C : KX Z s) (hj : j < 13) : ∀ n : Nat, ∀ (x2 : Int32) (x3 : Int32), fX3_weightOf_4 N X p1 n x2 x3 = some r' → ∀ (H : Heap) (locs : List Loc), PX Z (updH HS j X) zkb zdr zky zpn zps ztz ztn zxz zxa zsg za0 za1 za2 za3 za4 zfr zcd zgo ztd ztv zcl zca zwa zpt zpf H → va_S (AX Z) s.heap H locs → ∀ ls : Array Slot, lv_has ls 4 [(0, .ref (hA Z j 0)), (1, .int p1), (2, .int x2), (3, .int x3)] → W p l e (rmk 1 21) s m args below meth c H locs 0 0 (MQ below (Qi (KX Z) (AX Z) (PX Z (updH HS j X) zkb zdr zky zpn zps ztz ztn zxz zxa zsg za0 za1 za2 za3 za4 zfr zcd zgo ztd ztv zcl zca zwa zpt zpf) r') args s 0 0 (AX Z)) (F0 m 4 ls []) := by
  intro n
  induction n with
  | zero => intro x2 x3 hE; cases hE
  | succ n h4 =>
    intro x2 x3 hE H locs hP hS ls hl
    have hE : fX3_weightOf_4b N X p1 (fX3_weightOf_4 N X p1 n) x2 x3 = some r' := hE
    refine lv_iload_n F.1 F.2.1 dX3_weightOf_4 rfl (lv_at hl 3 rfl) ?_
    refine lv_bipush (v := 24) F.1 F.2.1 dX3_weightOf_5 (by decide) ?_
    refine lv_icmp_ge (tgt := 31) F.1 F.2.1 dX3_weightOf_7 (by decide) (fun hc => ?_) (fun hc => ?_)
    · have hE := ifp hE hc
      refine lv_iload_n F.1 F.2.1 dX3_weightOf_31 rfl (lv_at hl 2 rfl) ?_
      obtain rfl := Option.some.inj hE
      exact ret_i F hr hlk hP hS dX3_weightOf_32
    · have hE := ifn hE hc
      refine lv_iload_n F.1 F.2.1 dX3_weightOf_10 rfl (lv_at hl 2 rfl) ?_
      refine lv_iload_n F.1 F.2.1 dX3_weightOf_11 rfl (lv_at hl 1 rfl) ?_
      refine lv_iload_n F.1 F.2.1 dX3_weightOf_12 rfl (lv_at hl 3 rfl) ?_
      obtain ⟨r437, hc, hE⟩ := bnd1_some hE
      refine aft_i (run_SN (rest := [.int x2]) F (kX11_bit hc) (okX Z) C hS (C.2.2 _ _ mlX3_86 rfl) lkX3_86 ⟨Nat.le_of_ble_eq_true rfl, Nat.le_of_ble_eq_true rfl⟩ hP rfl hl.1 rfl (lv_room (Nat.le_of_ble_eq_true rfl)) dX3_weightOf_13 ⟨Nat.zero_le _, Nat.zero_le _⟩) hS (fun H locs hP hS => ?_)
      refine lv_aload_n F.1 F.2.1 dX3_weightOf_16 rfl (lv_at hl 0 rfl) ?_
      refine gX3_19 F C hP hj (updH_at _ _ _) dX3_weightOf_17 ?_
      refine lv_iload_n F.1 F.2.1 dX3_weightOf_20 rfl (lv_at hl 3 rfl) ?_
      obtain ⟨hi, hE⟩ := grd_some hE
      refine ah2 F C hP hj (updH_at _ _ _) hi dX3_weightOf_21 ?_
      refine lv_imul F.1 F.2.1 dX3_weightOf_22 ?_
      refine lv_iadd F.1 F.2.1 dX3_weightOf_23 ?_
      obtain ⟨v_438, ev_438, hE⟩ := lt_some hE
      refine lv_seti ev_438 ?_
      refine lv_istore_n (lv' := [(2, .int v_438), (0, .ref (hA Z j 0)), (1, .int p1), (3, .int x3)]) F.1 F.2.1 dX3_weightOf_24 rfl hl (by decide) rfl (fun ls hl => ?_)
      refine lv_iinc (v := x3 + 1) (lv' := [(3, .int (x3 + 1)), (2, .int v_438), (0, .ref (hA Z j 0)), (1, .int p1)]) F.1 F.2.1 dX3_weightOf_25 hl (k := 3) rfl rfl (by decide) rfl (fun ls hl => ?_)
      refine lv_goto (tgt := 4) F.1 F.2.1 dX3_weightOf_28 (by decide) ?_
      exact h4 v_438 (x3 + 1) hE _ _ hP hS ls (lv_sub hl [2, 3, 1, 0] rfl)
set_option maxRecDepth 100000 in
set_option maxHeartbeats 4000000 in
theorem kX3_weightOf {l : Launch} {Z : ZC} {HS : Nat → Nat → Nat → Int32} {j : Nat} {X : Nat → Nat → Int32} {zkb : Int32} {zdr : Int32} {zky : Nat → Int32} {zpn : Int32} {zps : Int32} {ztz : Int32} {ztn : Nat → Int64} {zxz : Int32} {zxa : Int32} {zsg : Nat → Int32} {za0 : Int32} {za1 : Int32} {za2 : Int32} {za3 : Int32} {za4 : Int32} {zfr : Nat → Int32} {zcd : Int32} {zgo : Nat → Int32} {ztd : Int32} {ztv : Int32} {zcl : Nat → Int32} {zca : Nat → Int32} {zwa : Nat → Int32} {zpt : Nat → Int32} {zpf : Nat → Int32} {N : Nat} {p1 : Int32} {r' : Int32} (hj : j < 13) (hX : HS j = X) (hE : fX3_weightOf N X p1 = some r') : Mg l yX3_weightOf cX3_weightOf 4 (some .int) (rmk 1 21) (KX Z) (AX Z) [.ref (hA Z j 0), .int p1] (PX Z HS zkb zdr zky zpn zps ztz ztn zxz zxa zsg za0 za1 za2 za3 za4 zfr zcd zgo ztd ztv zcl zca zwa zpt zpf) (Qi (KX Z) (AX Z) (PX Z HS zkb zdr zky zpn zps ztz ztn zxz zxa zsg za0 za1 za2 za3 za4 zfr zcd zgo ztd ztv zcl zca zwa zpt zpf) r') := by
  rw [← updH_eq hX]
  refine Mg.start (lv := [(0, .ref (hA Z j 0)), (1, .int p1)]) (by decide) rfl (Nat.le_of_ble_eq_true rfl) rfl ?_
  intro p e s m below meth c F hr hlk C hP ls hl
  have hS : va_S (AX Z) s.heap s.heap [] := va_S.rf
  unfold fX3_weightOf at hE
  refine lv_iconst (v := 0) F.1 F.2.1 dX3_weightOf_0 (by decide) ?_
  refine lv_istore_n (lv' := [(2, .int 0), (0, .ref (hA Z j 0)), (1, .int p1)]) F.1 F.2.1 dX3_weightOf_1 rfl hl (by decide) rfl (fun ls hl => ?_)
  refine lv_iconst (v := 0) F.1 F.2.1 dX3_weightOf_2 (by decide) ?_
  refine lv_istore_n (lv' := [(3, .int 0), (2, .int 0), (0, .ref (hA Z j 0)), (1, .int p1)]) F.1 F.2.1 dX3_weightOf_3 rfl hl (by decide) rfl (fun ls hl => ?_)
  exact qX3_weightOf_4 F hr hlk C hj N 0 0 hE _ _ hP hS ls (lv_sub hl [2, 3, 1, 0] rfl)
set_option maxRecDepth 100000 in
set_option maxHeartbeats 4000000 in
theorem qX10_measures_39 {p : Program} {l : Launch} {e : Env} {s : State} {m : MethodId} {args : Array Value} {below : List Frame} {meth : Method} {c : Code} {Z : ZC} {HS : Nat → Nat → Nat → Int32} {j : Nat} {X : Nat → Nat → Int32} {zkb : Int32} {zdr : Int32} {zky : Nat → Int32} {zpn : Int32} {zps : Int32} {ztz : Int32} {ztn : Nat → Int64} {zxz : Int32} {zxa : Int32} {zsg : Nat → Int32} {za0 : Int32} {za1 : Int32} {za2 : Int32} {za3 : Int32} {za4 : Int32} {zcd : Int32} {zgo : Nat → Int32} {ztd : Int32} {ztv : Int32} {zcl : Nat → Int32} {zca : Nat → Int32} {zwa : Nat → Int32} {zpt : Nat → Int32} {zpf : Nat → Int32} {N : Nat} {p2 : Int32} {zfr' : Nat → Int32} (F : CallFix p m c cX10_measures 7 s args bigW RX10) (hr : meth.sig.returnType = none) (hlk : meth.locks = false) (C : KX Z s) (hj : j < 13) {k22 : (Nat → Int32) → Int32 → Int32 → Option ((Nat → Int32))} (h22 : ∀ (zfr : Nat → Int32) (x3 : Int32) (x4 : Int32), k22 zfr x3 x4 = some zfr' → ∀ (H : Heap) (locs : List Loc), PX Z (updH HS j X) zkb zdr zky zpn zps ztz ztn zxz zxa zsg za0 za1 za2 za3 za4 zfr zcd zgo ztd ztv zcl zca zwa zpt zpf H → va_S (AX Z) s.heap H locs → ∀ ls : Array Slot, lv_has ls 7 [(0, .ref (oA Z 9)), (1, .ref (hA Z j 0)), (3, .int x3), (4, .int x4)] → W p l e (rmk 2 46) s m args below meth c H locs 0 0 (MQ below (Qv (KX Z) (AX Z) (PX Z (updH HS j X) zkb zdr zky zpn zps ztz ztn zxz zxa zsg za0 za1 za2 za3 za4 zfr' zcd zgo ztd ztv zcl zca zwa zpt zpf)) args s 0 0 (AX Z)) (F0 m 22 ls [])) : ∀ n : Nat, ∀ (zfr : Nat → Int32) (x3 : Int32) (x4 : Int32) (x5 : Int32) (x6 : Int32), fX10_measures_39 N X p2 k22 n zfr x3 x4 x5 x6 = some zfr' → ∀ (H : Heap) (locs : List Loc), PX Z (updH HS j X) zkb zdr zky zpn zps ztz ztn zxz zxa zsg za0 za1 za2 za3 za4 zfr zcd zgo ztd ztv zcl zca zwa zpt zpf H → va_S (AX Z) s.heap H locs → ∀ ls : Array Slot, lv_has ls 7 [(0, .ref (oA Z 9)), (1, .ref (hA Z j 0)), (3, .int x3), (4, .int x4), (5, .int x5), (6, .int x6)] → W p l e (rmk 2 46) s m args below meth c H locs 0 0 (MQ below (Qv (KX Z) (AX Z) (PX Z (updH HS j X) zkb zdr zky zpn zps ztz ztn zxz zxa zsg za0 za1 za2 za3 za4 zfr' zcd zgo ztd ztv zcl zca zwa zpt zpf)) args s 0 0 (AX Z)) (F0 m 39 ls []) := by
  intro n
  induction n with
  | zero => intro zfr x3 x4 x5 x6 hE; cases hE
  | succ n h39 =>
    intro zfr x3 x4 x5 x6 hE H locs hP hS ls hl
    have hE : fX10_measures_39b N X p2 k22 (fX10_measures_39 N X p2 k22 n) zfr x3 x4 x5 x6 = some zfr' := hE
    refine lv_iload F.1 F.2.1 dX10_measures_39 (lv_at hl 5 rfl) ?_
    refine lv_bipush (v := 24) F.1 F.2.1 dX10_measures_41 (by decide) ?_
    refine lv_icmp_ge (tgt := 92) F.1 F.2.1 dX10_measures_43 (by decide) (fun hc => ?_) (fun hc => ?_)
    · have hE := ifp hE hc
      refine lv_iload F.1 F.2.1 dX10_measures_92 (lv_at hl 4 rfl) ?_
      refine lv_istore_n (lv' := [(3, .int x5), (0, .ref (oA Z 9)), (1, .ref (hA Z j 0)), (4, .int x4), (5, .int x5), (6, .int x6)]) F.1 F.2.1 dX10_measures_94 rfl hl (by decide) rfl (fun ls hl => ?_)
      refine lv_iinc (v := x4 + 1) (lv' := [(4, .int (x4 + 1)), (3, .int x5), (0, .ref (oA Z 9)), (1, .ref (hA Z j 0)), (5, .int x5), (6, .int x6)]) F.1 F.2.1 dX10_measures_95 hl (k := 3) rfl rfl (by decide) rfl (fun ls hl => ?_)
      refine lv_goto (tgt := 22) F.1 F.2.1 dX10_measures_98 (by decide) ?_
      exact h22 zfr x5 (x4 + 1) hE _ _ hP hS ls (lv_sub hl [2, 3, 1, 0] rfl)
    · have hE := ifn hE hc
      refine lv_aload_n F.1 F.2.1 dX10_measures_46 rfl (lv_at hl 0 rfl) ?_
      refine gX10_9 F C hP dX10_measures_47 ?_
      refine lv_iload F.1 F.2.1 dX10_measures_50 (lv_at hl 5 rfl) ?_
      obtain ⟨hi, hE⟩ := grd_some hE
      refine ao10 F C hP hi dX10_measures_52 ?_
      refine lv_iconst (v := (-1)) F.1 F.2.1 dX10_measures_53 (by decide) ?_
      refine lv_icmp_ne (tgt := 86) F.1 F.2.1 dX10_measures_54 (by decide) (fun hc => ?_) (fun hc => ?_)
      · have hE := ifn hE hc
        refine lv_iinc (v := x6 + 1) (lv' := [(6, .int (x6 + 1)), (0, .ref (oA Z 9)), (1, .ref (hA Z j 0)), (3, .int x3), (4, .int x4), (5, .int x5)]) F.1 F.2.1 dX10_measures_86 hl (k := 5) rfl rfl (by decide) rfl (fun ls hl => ?_)
        refine lv_goto (tgt := 39) F.1 F.2.1 dX10_measures_89 (by decide) ?_
        exact h39 zfr x3 x4 x5 (x6 + 1) hE _ _ hP hS ls (lv_sub hl [1, 2, 3, 4, 5, 0] rfl)
      · have hE := ifp hE hc
        refine lv_aload_n F.1 F.2.1 dX10_measures_57 rfl (lv_at hl 1 rfl) ?_
        refine lv_iload F.1 F.2.1 dX10_measures_58 (lv_at hl 5 rfl) ?_
        obtain ⟨r471, hc, hE⟩ := bnd1_some hE
        refine aft_i (run_N (rest := []) F (kX3_fieldBits hj (updH_at _ _ _) hc) (okX Z) C hS (C.2.2 _ _ mlX10_34 rfl) lkX10_34 ⟨Nat.le_of_ble_eq_true rfl, Nat.le_of_ble_eq_true rfl⟩ (rvh0 C hP hj) hP rfl hl.1 rfl (lv_room (Nat.le_of_ble_eq_true rfl)) dX10_measures_60 ⟨Nat.zero_le _, Nat.zero_le _⟩) hS (fun H locs hP hS => ?_)
        refine lv_iload_n F.1 F.2.1 dX10_measures_63 rfl (lv_at hl 2 rfl) ?_
        refine lv_iand F.1 F.2.1 dX10_measures_64 ?_
        refine lv_if_eq (tgt := 86) F.1 F.2.1 dX10_measures_65 (by decide) (fun hc => ?_) (fun hc => ?_)
        · have hE := ifp hE hc
          refine lv_iinc (v := x6 + 1) (lv' := [(6, .int (x6 + 1)), (0, .ref (oA Z 9)), (1, .ref (hA Z j 0)), (3, .int x3), (4, .int x4), (5, .int x5)]) F.1 F.2.1 dX10_measures_86 hl (k := 5) rfl rfl (by decide) rfl (fun ls hl => ?_)
          refine lv_goto (tgt := 39) F.1 F.2.1 dX10_measures_89 (by decide) ?_
          exact h39 zfr x3 x4 x5 (x6 + 1) hE _ _ hP hS ls (lv_sub hl [1, 2, 3, 4, 5, 0] rfl)
        · have hE := ifn hE hc
          refine lv_aload_n F.1 F.2.1 dX10_measures_68 rfl (lv_at hl 0 rfl) ?_
          refine gX10_9 F C hP dX10_measures_69 ?_
          refine lv_iload F.1 F.2.1 dX10_measures_72 (lv_at hl 5 rfl) ?_
          refine lv_iload F.1 F.2.1 dX10_measures_74 (lv_at hl 3 rfl) ?_
          obtain ⟨hi, hE⟩ := grd_some hE
          obtain ⟨zfr_472, ezfr_472, hE⟩ := lt_some hE
          refine so10 F C hP hi hS ezfr_472.symm dX10_measures_76 (fun H locs hP hS => ?_)
          refine lv_iload F.1 F.2.1 dX10_measures_77 (lv_at hl 4 rfl) ?_
          refine lv_iconst (v := 1) F.1 F.2.1 dX10_measures_79 (by decide) ?_
          refine lv_iload F.1 F.2.1 dX10_measures_80 (lv_at hl 5 rfl) ?_
          refine rj_ishl F.1 F.2.1 dX10_measures_82 ?_
          refine lv_ior F.1 F.2.1 dX10_measures_83 ?_
          refine lv_istore (lv' := [(5, .int (x5 ||| (jshl 1 x6))), (0, .ref (oA Z 9)), (1, .ref (hA Z j 0)), (3, .int x3), (4, .int x4), (6, .int x6)]) F.1 F.2.1 dX10_measures_84 hl (by decide) rfl (fun ls hl => ?_)
          refine lv_iinc (v := x6 + 1) (lv' := [(6, .int (x6 + 1)), (5, .int (x5 ||| (jshl 1 x6))), (0, .ref (oA Z 9)), (1, .ref (hA Z j 0)), (3, .int x3), (4, .int x4)]) F.1 F.2.1 dX10_measures_86 hl (k := 5) rfl rfl (by decide) rfl (fun ls hl => ?_)
          refine lv_goto (tgt := 39) F.1 F.2.1 dX10_measures_89 (by decide) ?_
          exact h39 zfr_472 x3 x4 (x5 ||| (jshl 1 x6)) (x6 + 1) hE _ _ hP hS ls (lv_sub hl [2, 3, 4, 5, 1, 0] rfl)
set_option maxRecDepth 100000 in
set_option maxHeartbeats 4000000 in
theorem qX10_measures_22 {p : Program} {l : Launch} {e : Env} {s : State} {m : MethodId} {args : Array Value} {below : List Frame} {meth : Method} {c : Code} {Z : ZC} {HS : Nat → Nat → Nat → Int32} {j : Nat} {X : Nat → Nat → Int32} {zkb : Int32} {zdr : Int32} {zky : Nat → Int32} {zpn : Int32} {zps : Int32} {ztz : Int32} {ztn : Nat → Int64} {zxz : Int32} {zxa : Int32} {zsg : Nat → Int32} {za0 : Int32} {za1 : Int32} {za2 : Int32} {za3 : Int32} {za4 : Int32} {zcd : Int32} {zgo : Nat → Int32} {ztd : Int32} {ztv : Int32} {zcl : Nat → Int32} {zca : Nat → Int32} {zwa : Nat → Int32} {zpt : Nat → Int32} {zpf : Nat → Int32} {N : Nat} {p2 : Int32} {zfr' : Nat → Int32} (F : CallFix p m c cX10_measures 7 s args bigW RX10) (hr : meth.sig.returnType = none) (hlk : meth.locks = false) (C : KX Z s) (hj : j < 13) : ∀ n : Nat, ∀ (zfr : Nat → Int32) (x3 : Int32) (x4 : Int32), fX10_measures_22 N X p2 n zfr x3 x4 = some zfr' → ∀ (H : Heap) (locs : List Loc), PX Z (updH HS j X) zkb zdr zky zpn zps ztz ztn zxz zxa zsg za0 za1 za2 za3 za4 zfr zcd zgo ztd ztv zcl zca zwa zpt zpf H → va_S (AX Z) s.heap H locs → ∀ ls : Array Slot, lv_has ls 7 [(0, .ref (oA Z 9)), (1, .ref (hA Z j 0)), (3, .int x3), (4, .int x4)] → W p l e (rmk 2 46) s m args below meth c H locs 0 0 (MQ below (Qv (KX Z) (AX Z) (PX Z (updH HS j X) zkb zdr zky zpn zps ztz ztn zxz zxa zsg za0 za1 za2 za3 za4 zfr' zcd zgo ztd ztv zcl zca zwa zpt zpf)) args s 0 0 (AX Z)) (F0 m 22 ls []) := by
  intro n
  induction n with
  | zero => intro zfr x3 x4 hE; cases hE
  | succ n h22 =>
    intro zfr x3 x4 hE H locs hP hS ls hl
    have hE : fX10_measures_22b N X p2 (fX10_measures_22 N X p2 n) zfr x3 x4 = some zfr' := hE
    refine lv_iload F.1 F.2.1 dX10_measures_22 (lv_at hl 3 rfl) ?_
    refine lv_bipush (v := 24) F.1 F.2.1 dX10_measures_24 (by decide) ?_
    refine lv_icmp_ge (tgt := 101) F.1 F.2.1 dX10_measures_26 (by decide) (fun hc => ?_) (fun hc => ?_)
    · have hE := ifp hE hc
      obtain rfl := Option.some.inj hE
      exact ret_v F hr hlk hP hS dX10_measures_101
    · have hE := ifn hE hc
      refine lv_iload_n F.1 F.2.1 dX10_measures_29 rfl (lv_at hl 2 rfl) ?_
      refine lv_if_eq (tgt := 101) F.1 F.2.1 dX10_measures_30 (by decide) (fun hc => ?_) (fun hc => ?_)
      · have hE := ifp hE hc
        obtain rfl := Option.some.inj hE
        exact ret_v F hr hlk hP hS dX10_measures_101
      · have hE := ifn hE hc
        refine lv_iconst (v := 0) F.1 F.2.1 dX10_measures_33 (by decide) ?_
        refine lv_istore (lv' := [(5, .int 0), (0, .ref (oA Z 9)), (1, .ref (hA Z j 0)), (3, .int x3), (4, .int x4)]) F.1 F.2.1 dX10_measures_34 hl (by decide) rfl (fun ls hl => ?_)
        refine lv_iconst (v := 0) F.1 F.2.1 dX10_measures_36 (by decide) ?_
        refine lv_istore (lv' := [(6, .int 0), (5, .int 0), (0, .ref (oA Z 9)), (1, .ref (hA Z j 0)), (3, .int x3), (4, .int x4)]) F.1 F.2.1 dX10_measures_37 hl (by decide) rfl (fun ls hl => ?_)
        exact qX10_measures_39 F hr hlk C hj h22 N zfr x3 x4 0 0 hE _ _ hP hS ls (lv_sub hl [2, 3, 4, 5, 1, 0] rfl)
set_option maxRecDepth 100000 in
set_option maxHeartbeats 4000000 in
theorem kX10_measures {l : Launch} {Z : ZC} {HS : Nat → Nat → Nat → Int32} {j : Nat} {X : Nat → Nat → Int32} {zkb : Int32} {zdr : Int32} {zky : Nat → Int32} {zpn : Int32} {zps : Int32} {ztz : Int32} {ztn : Nat → Int64} {zxz : Int32} {zxa : Int32} {zsg : Nat → Int32} {za0 : Int32} {za1 : Int32} {za2 : Int32} {za3 : Int32} {za4 : Int32} {zfr : Nat → Int32} {zcd : Int32} {zgo : Nat → Int32} {ztd : Int32} {ztv : Int32} {zcl : Nat → Int32} {zca : Nat → Int32} {zwa : Nat → Int32} {zpt : Nat → Int32} {zpf : Nat → Int32} {N : Nat} {p2 : Int32} {zfr' : Nat → Int32} (hj : j < 13) (hX : HS j = X) (hE : fX10_measures N zfr X p2 = some zfr') : Mg l yX10_measures cX10_measures 7 none (rmk 2 46) (KX Z) (AX Z) [.ref (oA Z 9), .ref (hA Z j 0), .int p2] (PX Z HS zkb zdr zky zpn zps ztz ztn zxz zxa zsg za0 za1 za2 za3 za4 zfr zcd zgo ztd ztv zcl zca zwa zpt zpf) (Qv (KX Z) (AX Z) (PX Z HS zkb zdr zky zpn zps ztz ztn zxz zxa zsg za0 za1 za2 za3 za4 zfr' zcd zgo ztd ztv zcl zca zwa zpt zpf)) := by
  rw [← updH_eq hX]
  refine Mg.start (lv := [(0, .ref (oA Z 9)), (1, .ref (hA Z j 0)), (2, .int p2)]) (by decide) rfl (Nat.le_of_ble_eq_true rfl) rfl ?_
  intro p e s m below meth c F hr hlk C hP ls hl
  have hS : va_S (AX Z) s.heap s.heap [] := va_S.rf
  unfold fX10_measures at hE
  refine lv_aload_n F.1 F.2.1 dX10_measures_0 rfl (lv_at hl 0 rfl) ?_
  refine gX10_9 F C hP dX10_measures_1 ?_
  refine lv_iconst (v := (-1)) F.1 F.2.1 dX10_measures_4 (by decide) ?_
  obtain ⟨zfr_469, hc, hE⟩ := bnd1_some hE
  refine aft_v (run_S (rest := []) F (kJ7_fill_53178_fr hc) (okX Z) C hS lkX10_37 ⟨Nat.le_of_ble_eq_true rfl, Nat.le_of_ble_eq_true rfl⟩ hP rfl hl.1 rfl (lv_room (Nat.le_of_ble_eq_true rfl)) dX10_measures_5 ⟨Nat.zero_le _, Nat.zero_le _⟩) hS (fun H locs hP hS => ?_)
  refine lv_aload_n F.1 F.2.1 dX10_measures_8 rfl (lv_at hl 0 rfl) ?_
  refine gX10_9 F C hP dX10_measures_9 ?_
  refine lv_iload_n F.1 F.2.1 dX10_measures_12 rfl (lv_at hl 2 rfl) ?_
  refine lv_iconst (v := 0) F.1 F.2.1 dX10_measures_13 (by decide) ?_
  obtain ⟨hi, hE⟩ := grd_some hE
  obtain ⟨zfr_470, ezfr_470, hE⟩ := lt_some hE
  refine so10 F C hP hi hS ezfr_470.symm dX10_measures_14 (fun H locs hP hS => ?_)
  refine lv_iconst (v := 1) F.1 F.2.1 dX10_measures_15 (by decide) ?_
  refine lv_iload_n F.1 F.2.1 dX10_measures_16 rfl (lv_at hl 2 rfl) ?_
  refine rj_ishl F.1 F.2.1 dX10_measures_17 ?_
  refine lv_istore_n (lv' := [(3, .int (jshl 1 p2)), (0, .ref (oA Z 9)), (1, .ref (hA Z j 0)), (2, .int p2)]) F.1 F.2.1 dX10_measures_18 rfl hl (by decide) rfl (fun ls hl => ?_)
  refine lv_iconst (v := 1) F.1 F.2.1 dX10_measures_19 (by decide) ?_
  refine lv_istore (lv' := [(4, .int 1), (3, .int (jshl 1 p2)), (0, .ref (oA Z 9)), (1, .ref (hA Z j 0)), (2, .int p2)]) F.1 F.2.1 dX10_measures_20 hl (by decide) rfl (fun ls hl => ?_)
  exact qX10_measures_22 F hr hlk C hj N zfr_470 (jshl 1 p2) 1 hE _ _ hP hS ls (lv_sub hl [2, 3, 1, 0] rfl)
set_option maxRecDepth 100000 in
set_option maxHeartbeats 4000000 in
theorem qX10_nearest_4 {p : Program} {l : Launch} {e : Env} {s : State} {m : MethodId} {args : Array Value} {below : List Frame} {meth : Method} {c : Code} {Z : ZC} {HS : Nat → Nat → Nat → Int32} {zkb : Int32} {zdr : Int32} {zky : Nat → Int32} {zpn : Int32} {zps : Int32} {ztz : Int32} {ztn : Nat → Int64} {zxz : Int32} {zxa : Int32} {zsg : Nat → Int32} {za0 : Int32} {za1 : Int32} {za2 : Int32} {za3 : Int32} {za4 : Int32} {zfr : Nat → Int32} {zcd : Int32} {zgo : Nat → Int32} {ztd : Int32} {ztv : Int32} {zcl : Nat → Int32} {zca : Nat → Int32} {zwa : Nat → Int32} {zpt : Nat → Int32} {zpf : Nat → Int32} {N : Nat} {p1 : Int32} {r' : Int32} (F : CallFix p m c cX10_nearest 4 s args bigW RX10) (hr : meth.sig.returnType = (some .int)) (hlk : meth.locks = false) (C : KX Z s) : ∀ n : Nat, ∀ (x2 : Int32) (x3 : Int32), fX10_nearest_4 N zfr p1 n x2 x3 = some r' → ∀ (H : Heap) (locs : List Loc), PX Z HS zkb zdr zky zpn zps ztz ztn zxz zxa zsg za0 za1 za2 za3 za4 zfr zcd zgo ztd ztv zcl zca zwa zpt zpf H → va_S (AX Z) s.heap H locs → ∀ ls : Array Slot, lv_has ls 4 [(0, .ref (oA Z 9)), (1, .int p1), (2, .int x2), (3, .int x3)] → W p l e (rmk 1 21) s m args below meth c H locs 0 0 (MQ below (Qi (KX Z) (AX Z) (PX Z HS zkb zdr zky zpn zps ztz ztn zxz zxa zsg za0 za1 za2 za3 za4 zfr zcd zgo ztd ztv zcl zca zwa zpt zpf) r') args s 0 0 (AX Z)) (F0 m 4 ls []) := by
  intro n
  induction n with
  | zero => intro x2 x3 hE; cases hE
  | succ n h4 =>
    intro x2 x3 hE H locs hP hS ls hl
    have hE : fX10_nearest_4b N zfr p1 (fX10_nearest_4 N zfr p1 n) x2 x3 = some r' := hE
    refine lv_iload_n F.1 F.2.1 dX10_nearest_4 rfl (lv_at hl 3 rfl) ?_
    refine lv_bipush (v := 24) F.1 F.2.1 dX10_nearest_5 (by decide) ?_
    refine lv_icmp_ge (tgt := 57) F.1 F.2.1 dX10_nearest_7 (by decide) (fun hc => ?_) (fun hc => ?_)
    · have hE := ifp hE hc
      refine lv_iload_n F.1 F.2.1 dX10_nearest_57 rfl (lv_at hl 2 rfl) ?_
      obtain rfl := Option.some.inj hE
      exact ret_i F hr hlk hP hS dX10_nearest_58
    · have hE := ifn hE hc
      refine lv_iload_n F.1 F.2.1 dX10_nearest_10 rfl (lv_at hl 1 rfl) ?_
      refine lv_iload_n F.1 F.2.1 dX10_nearest_11 rfl (lv_at hl 3 rfl) ?_
      obtain ⟨r474, hc, hE⟩ := bnd1_some hE
      refine aft_i (run_SN (rest := []) F (kX11_bit hc) (okX Z) C hS (C.2.2 _ _ mlX10_43 rfl) lkX10_43 ⟨Nat.le_of_ble_eq_true rfl, Nat.le_of_ble_eq_true rfl⟩ hP rfl hl.1 rfl (lv_room (Nat.le_of_ble_eq_true rfl)) dX10_nearest_12 ⟨Nat.zero_le _, Nat.zero_le _⟩) hS (fun H locs hP hS => ?_)
      refine lv_iconst (v := 1) F.1 F.2.1 dX10_nearest_15 (by decide) ?_
      refine lv_icmp_ne (tgt := 51) F.1 F.2.1 dX10_nearest_16 (by decide) (fun hc => ?_) (fun hc => ?_)
      · have hE := ifn hE hc
        refine lv_iinc (v := x3 + 1) (lv' := [(3, .int (x3 + 1)), (0, .ref (oA Z 9)), (1, .int p1), (2, .int x2)]) F.1 F.2.1 dX10_nearest_51 hl (k := 3) rfl rfl (by decide) rfl (fun ls hl => ?_)
        refine lv_goto (tgt := 4) F.1 F.2.1 dX10_nearest_54 (by decide) ?_
        exact h4 x2 (x3 + 1) hE _ _ hP hS ls (lv_sub hl [1, 2, 3, 0] rfl)
      · have hE := ifp hE hc
        refine lv_aload_n F.1 F.2.1 dX10_nearest_19 rfl (lv_at hl 0 rfl) ?_
        refine gX10_9 F C hP dX10_nearest_20 ?_
        refine lv_iload_n F.1 F.2.1 dX10_nearest_23 rfl (lv_at hl 3 rfl) ?_
        obtain ⟨hi, hE⟩ := grd_some hE
        refine ao10 F C hP hi dX10_nearest_24 ?_
        refine lv_iconst (v := (-1)) F.1 F.2.1 dX10_nearest_25 (by decide) ?_
        refine lv_icmp_eq (tgt := 51) F.1 F.2.1 dX10_nearest_26 (by decide) (fun hc => ?_) (fun hc => ?_)
        · have hE := ifp hE hc
          refine lv_iinc (v := x3 + 1) (lv' := [(3, .int (x3 + 1)), (0, .ref (oA Z 9)), (1, .int p1), (2, .int x2)]) F.1 F.2.1 dX10_nearest_51 hl (k := 3) rfl rfl (by decide) rfl (fun ls hl => ?_)
          refine lv_goto (tgt := 4) F.1 F.2.1 dX10_nearest_54 (by decide) ?_
          exact h4 x2 (x3 + 1) hE _ _ hP hS ls (lv_sub hl [1, 2, 3, 0] rfl)
        · have hE := ifn hE hc
          refine lv_iload_n F.1 F.2.1 dX10_nearest_29 rfl (lv_at hl 2 rfl) ?_
          refine lv_iconst (v := (-1)) F.1 F.2.1 dX10_nearest_30 (by decide) ?_
          refine lv_icmp_eq (tgt := 49) F.1 F.2.1 dX10_nearest_31 (by decide) (fun hc => ?_) (fun hc => ?_)
          · have hE := ifp hE hc
            refine lv_iload_n F.1 F.2.1 dX10_nearest_49 rfl (lv_at hl 3 rfl) ?_
            refine lv_istore_n (lv' := [(2, .int x3), (0, .ref (oA Z 9)), (1, .int p1), (3, .int x3)]) F.1 F.2.1 dX10_nearest_50 rfl hl (by decide) rfl (fun ls hl => ?_)
            refine lv_iinc (v := x3 + 1) (lv' := [(3, .int (x3 + 1)), (2, .int x3), (0, .ref (oA Z 9)), (1, .int p1)]) F.1 F.2.1 dX10_nearest_51 hl (k := 3) rfl rfl (by decide) rfl (fun ls hl => ?_)
            refine lv_goto (tgt := 4) F.1 F.2.1 dX10_nearest_54 (by decide) ?_
            exact h4 x3 (x3 + 1) hE _ _ hP hS ls (lv_sub hl [2, 3, 1, 0] rfl)
          · have hE := ifn hE hc
            refine lv_aload_n F.1 F.2.1 dX10_nearest_34 rfl (lv_at hl 0 rfl) ?_
            refine gX10_9 F C hP dX10_nearest_35 ?_
            refine lv_iload_n F.1 F.2.1 dX10_nearest_38 rfl (lv_at hl 3 rfl) ?_
            obtain ⟨hi, hE⟩ := grd_some hE
            refine ao10 F C hP hi dX10_nearest_39 ?_
            refine lv_aload_n F.1 F.2.1 dX10_nearest_40 rfl (lv_at hl 0 rfl) ?_
            refine gX10_9 F C hP dX10_nearest_41 ?_
            refine lv_iload_n F.1 F.2.1 dX10_nearest_44 rfl (lv_at hl 2 rfl) ?_
            obtain ⟨hi, hE⟩ := grd_some hE
            refine ao10 F C hP hi dX10_nearest_45 ?_
            refine lv_icmp_ge (tgt := 51) F.1 F.2.1 dX10_nearest_46 (by decide) (fun hc => ?_) (fun hc => ?_)
            · have hE := ifp hE hc
              refine lv_iinc (v := x3 + 1) (lv' := [(3, .int (x3 + 1)), (0, .ref (oA Z 9)), (1, .int p1), (2, .int x2)]) F.1 F.2.1 dX10_nearest_51 hl (k := 3) rfl rfl (by decide) rfl (fun ls hl => ?_)
              refine lv_goto (tgt := 4) F.1 F.2.1 dX10_nearest_54 (by decide) ?_
              exact h4 x2 (x3 + 1) hE _ _ hP hS ls (lv_sub hl [1, 2, 3, 0] rfl)
            · have hE := ifn hE hc
              refine lv_iload_n F.1 F.2.1 dX10_nearest_49 rfl (lv_at hl 3 rfl) ?_
              refine lv_istore_n (lv' := [(2, .int x3), (0, .ref (oA Z 9)), (1, .int p1), (3, .int x3)]) F.1 F.2.1 dX10_nearest_50 rfl hl (by decide) rfl (fun ls hl => ?_)
              refine lv_iinc (v := x3 + 1) (lv' := [(3, .int (x3 + 1)), (2, .int x3), (0, .ref (oA Z 9)), (1, .int p1)]) F.1 F.2.1 dX10_nearest_51 hl (k := 3) rfl rfl (by decide) rfl (fun ls hl => ?_)
              refine lv_goto (tgt := 4) F.1 F.2.1 dX10_nearest_54 (by decide) ?_
              exact h4 x3 (x3 + 1) hE _ _ hP hS ls (lv_sub hl [2, 3, 1, 0] rfl)
set_option maxRecDepth 100000 in
set_option maxHeartbeats 4000000 in
theorem kX10_nearest {l : Launch} {Z : ZC} {HS : Nat → Nat → Nat → Int32} {zkb : Int32} {zdr : Int32} {zky : Nat → Int32} {zpn : Int32} {zps : Int32} {ztz : Int32} {ztn : Nat → Int64} {zxz : Int32} {zxa : Int32} {zsg : Nat → Int32} {za0 : Int32} {za1 : Int32} {za2 : Int32} {za3 : Int32} {za4 : Int32} {zfr : Nat → Int32} {zcd : Int32} {zgo : Nat → Int32} {ztd : Int32} {ztv : Int32} {zcl : Nat → Int32} {zca : Nat → Int32} {zwa : Nat → Int32} {zpt : Nat → Int32} {zpf : Nat → Int32} {N : Nat} {p1 : Int32} {r' : Int32} (hE : fX10_nearest N zfr p1 = some r') : Mg l yX10_nearest cX10_nearest 4 (some .int) (rmk 1 21) (KX Z) (AX Z) [.ref (oA Z 9), .int p1] (PX Z HS zkb zdr zky zpn zps ztz ztn zxz zxa zsg za0 za1 za2 za3 za4 zfr zcd zgo ztd ztv zcl zca zwa zpt zpf) (Qi (KX Z) (AX Z) (PX Z HS zkb zdr zky zpn zps ztz ztn zxz zxa zsg za0 za1 za2 za3 za4 zfr zcd zgo ztd ztv zcl zca zwa zpt zpf) r') := by
  refine Mg.start (lv := [(0, .ref (oA Z 9)), (1, .int p1)]) (by decide) rfl (Nat.le_of_ble_eq_true rfl) rfl ?_
  intro p e s m below meth c F hr hlk C hP ls hl
  have hS : va_S (AX Z) s.heap s.heap [] := va_S.rf
  unfold fX10_nearest at hE
  refine lv_iconst (v := (-1)) F.1 F.2.1 dX10_nearest_0 (by decide) ?_
  refine lv_istore_n (lv' := [(2, .int (-1)), (0, .ref (oA Z 9)), (1, .int p1)]) F.1 F.2.1 dX10_nearest_1 rfl hl (by decide) rfl (fun ls hl => ?_)
  refine lv_iconst (v := 0) F.1 F.2.1 dX10_nearest_2 (by decide) ?_
  refine lv_istore_n (lv' := [(3, .int 0), (2, .int (-1)), (0, .ref (oA Z 9)), (1, .int p1)]) F.1 F.2.1 dX10_nearest_3 rfl hl (by decide) rfl (fun ls hl => ?_)
  exact qX10_nearest_4 F hr hlk C N (-1) 0 hE _ _ hP hS ls (lv_sub hl [2, 3, 1, 0] rfl)
set_option maxRecDepth 100000 in
set_option maxHeartbeats 4000000 in
theorem kX10_hanging {l : Launch} {Z : ZC} {HS : Nat → Nat → Nat → Int32} {j : Nat} {X : Nat → Nat → Int32} {zkb : Int32} {zdr : Int32} {zky : Nat → Int32} {zpn : Int32} {zps : Int32} {ztz : Int32} {ztn : Nat → Int64} {zxz : Int32} {zxa : Int32} {zsg : Nat → Int32} {za0 : Int32} {za1 : Int32} {za2 : Int32} {za3 : Int32} {za4 : Int32} {zfr : Nat → Int32} {zcd : Int32} {zgo : Nat → Int32} {ztd : Int32} {ztv : Int32} {zcl : Nat → Int32} {zca : Nat → Int32} {zwa : Nat → Int32} {zpt : Nat → Int32} {zpf : Nat → Int32} {N : Nat} {p2 : Int32} {r' : Int32} (hj : j < 13) (hX : HS j = X) (hE : fX10_hanging N X p2 = some r') : Mg l yX10_hanging cX10_hanging 4 (some .int) (rmk 4 95) (KX Z) (AX Z) [.ref (oA Z 9), .ref (hA Z j 0), .int p2] (PX Z HS zkb zdr zky zpn zps ztz ztn zxz zxa zsg za0 za1 za2 za3 za4 zfr zcd zgo ztd ztv zcl zca zwa zpt zpf) (Qi (KX Z) (AX Z) (PX Z HS zkb zdr zky zpn zps ztz ztn zxz zxa zsg za0 za1 za2 za3 za4 zfr zcd zgo ztd ztv zcl zca zwa zpt zpf) r') := by
  rw [← updH_eq hX]
  refine Mg.start (lv := [(0, .ref (oA Z 9)), (1, .ref (hA Z j 0)), (2, .int p2)]) (by decide) rfl (Nat.le_of_ble_eq_true rfl) rfl ?_
  intro p e s m below meth c F hr hlk C hP ls hl
  have hS : va_S (AX Z) s.heap s.heap [] := va_S.rf
  unfold fX10_hanging at hE
  refine lv_iconst (v := 1) F.1 F.2.1 dX10_hanging_0 (by decide) ?_
  refine lv_iload_n F.1 F.2.1 dX10_hanging_1 rfl (lv_at hl 2 rfl) ?_
  refine rj_ishl F.1 F.2.1 dX10_hanging_2 ?_
  refine lv_istore_n (lv' := [(3, .int (jshl 1 p2)), (0, .ref (oA Z 9)), (1, .ref (hA Z j 0)), (2, .int p2)]) F.1 F.2.1 dX10_hanging_3 rfl hl (by decide) rfl (fun ls hl => ?_)
  refine lv_aload_n F.1 F.2.1 dX10_hanging_4 rfl (lv_at hl 1 rfl) ?_
  refine lv_aload_n F.1 F.2.1 dX10_hanging_5 rfl (lv_at hl 2 rfl) ?_
  obtain ⟨r530, hc, hE⟩ := bnd1_some hE
  refine aft_i (run_V (rest := []) F (kX10_reached hj (updH_at _ _ _) hc) (okX Z) C hS lkX10_25 ⟨Nat.le_of_ble_eq_true rfl, Nat.le_of_ble_eq_true rfl⟩ (rvo9 C hP) hP rfl hl.1 rfl (lv_room (Nat.le_of_ble_eq_true rfl)) dX10_hanging_6 ⟨Nat.zero_le _, Nat.zero_le _⟩) hS (fun H locs hP hS => ?_)
  refine lv_aload_n F.1 F.2.1 dX10_hanging_9 rfl (lv_at hl 1 rfl) ?_
  refine lv_aload_n F.1 F.2.1 dX10_hanging_10 rfl (lv_at hl 2 rfl) ?_
  refine lv_aload_n F.1 F.2.1 dX10_hanging_11 rfl (lv_at hl 2 rfl) ?_
  refine lv_iconst (v := 0) F.1 F.2.1 dX10_hanging_12 (by decide) ?_
  obtain ⟨r531, hc, hE⟩ := bnd1_some hE
  refine aft_i (run_N (rest := [.ref (hA Z j 0), .ref (oA Z 9), .int r530]) F (kX3_rootBits hj (updH_at _ _ _) hc) (okX Z) C hS (C.2.2 _ _ mlX10_15 rfl) lkX10_15 ⟨Nat.le_of_ble_eq_true rfl, Nat.le_of_ble_eq_true rfl⟩ (rvh0 C hP hj) hP rfl hl.1 rfl (lv_room (Nat.le_of_ble_eq_true rfl)) dX10_hanging_13 ⟨Nat.zero_le _, Nat.zero_le _⟩) hS (fun H locs hP hS => ?_)
  refine lv_iload_n F.1 F.2.1 dX10_hanging_16 rfl (lv_at hl 0 rfl) ?_
  obtain ⟨r532, hc, hE⟩ := bnd1_some hE
  refine aft_i (run_V (rest := [.int r530]) F (kX10_spreads hj (updH_at _ _ _) hc) (okX Z) C hS lkX10_21 ⟨Nat.le_of_ble_eq_true rfl, Nat.le_of_ble_eq_true rfl⟩ (rvo9 C hP) hP rfl hl.1 rfl (lv_room (Nat.le_of_ble_eq_true rfl)) dX10_hanging_17 ⟨Nat.zero_le _, Nat.zero_le _⟩) hS (fun H locs hP hS => ?_)
  refine lv_iconst (v := (-1)) F.1 F.2.1 dX10_hanging_20 (by decide) ?_
  refine lv_ixor F.1 F.2.1 dX10_hanging_21 ?_
  refine lv_iand F.1 F.2.1 dX10_hanging_22 ?_
  obtain rfl := Option.some.inj hE
  exact ret_i F hr hlk hP hS dX10_hanging_23
set_option maxRecDepth 100000 in
set_option maxHeartbeats 4000000 in
theorem kX8_tells__ {l : Launch} {Z : ZC} {HS : Nat → Nat → Nat → Int32} {zkb : Int32} {zdr : Int32} {zky : Nat → Int32} {zpn : Int32} {zps : Int32} {ztz : Int32} {ztn : Nat → Int64} {zxz : Int32} {zxa : Int32} {zsg : Nat → Int32} {za0 : Int32} {za1 : Int32} {za2 : Int32} {za3 : Int32} {za4 : Int32} {zfr : Nat → Int32} {zcd : Int32} {zgo : Nat → Int32} {ztd : Int32} {ztv : Int32} {zcl : Nat → Int32} {zca : Nat → Int32} {zwa : Nat → Int32} {zpt : Nat → Int32} {zpf : Nat → Int32} {p1 : Int64} {p3 : Int64} {p5 : Int64} {ztz' : Int32} {ztn' : Nat → Int64} (hE : fX8_tells__ ztz ztn p1 p3 p5 = some (ztz', ztn')) : Mg l yX8_tells__ cX8_tells__ 7 none (rmk 3 68) (KX Z) (AX Z) [.ref (oA Z 4), .long p1, .long p3, .long p5] (PX Z HS zkb zdr zky zpn zps ztz ztn zxz zxa zsg za0 za1 za2 za3 za4 zfr zcd zgo ztd ztv zcl zca zwa zpt zpf) (Qv (KX Z) (AX Z) (PX Z HS zkb zdr zky zpn zps ztz' ztn' zxz zxa zsg za0 za1 za2 za3 za4 zfr zcd zgo ztd ztv zcl zca zwa zpt zpf)) := by
  refine Mg.start (lv := [(0, .ref (oA Z 4)), (1, .long p1), (3, .long p3), (5, .long p5)]) (by decide) rfl (Nat.le_of_ble_eq_true rfl) rfl ?_
  intro p e s m below meth c F hr hlk C hP ls hl
  have hS : va_S (AX Z) s.heap s.heap [] := va_S.rf
  unfold fX8_tells__ at hE
  refine lv_aload_n F.1 F.2.1 dX8_tells___0 rfl (lv_at hl 0 rfl) ?_
  refine lv_lload_n F.1 F.2.1 dX8_tells___1 rfl (lv_at hl 1 rfl) ?_
  refine lv_lload_n F.1 F.2.1 dX8_tells___2 rfl (lv_at hl 2 rfl) ?_
  obtain ⟨ztz_573, ztn_573, hc, hE⟩ := bnd2_some hE
  refine aft_v (run_V (rest := []) F (kX8_tells_ hc) (okX Z) C hS lkX8_29 ⟨Nat.le_of_ble_eq_true rfl, Nat.le_of_ble_eq_true rfl⟩ (rvo4 C hP) hP rfl hl.1 rfl (lv_room (Nat.le_of_ble_eq_true rfl)) dX8_tells___3 ⟨Nat.zero_le _, Nat.zero_le _⟩) hS (fun H locs hP hS => ?_)
  refine lv_aload_n F.1 F.2.1 dX8_tells___6 rfl (lv_at hl 0 rfl) ?_
  refine lv_lload F.1 F.2.1 dX8_tells___7 (lv_at hl 3 rfl) ?_
  obtain ⟨ztz_574, ztn_574, hc, hE⟩ := bnd2_some hE
  refine aft_v (run_V (rest := []) F (kX8_adds hc) (okX Z) C hS lkX8_22 ⟨Nat.le_of_ble_eq_true rfl, Nat.le_of_ble_eq_true rfl⟩ (rvo4 C hP) hP rfl hl.1 rfl (lv_room (Nat.le_of_ble_eq_true rfl)) dX8_tells___9 ⟨Nat.zero_le _, Nat.zero_le _⟩) hS (fun H locs hP hS => ?_)
  have w0 := Option.some.inj hE
  obtain ⟨g0, w1⟩ := Prod.mk.inj w0
  subst g0 w1
  exact ret_v F hr hlk hP hS dX8_tells___12
set_option maxRecDepth 100000 in
set_option maxHeartbeats 4000000 in
theorem kX7_digitsOf {l : Launch} {Z : ZC} {HS : Nat → Nat → Nat → Int32} {zkb : Int32} {zdr : Int32} {zky : Nat → Int32} {zpn : Int32} {zps : Int32} {ztz : Int32} {ztn : Nat → Int64} {zxz : Int32} {zxa : Int32} {zsg : Nat → Int32} {za0 : Int32} {za1 : Int32} {za2 : Int32} {za3 : Int32} {za4 : Int32} {zfr : Nat → Int32} {zcd : Int32} {zgo : Nat → Int32} {ztd : Int32} {ztv : Int32} {zcl : Nat → Int32} {zca : Nat → Int32} {zwa : Nat → Int32} {zpt : Nat → Int32} {zpf : Nat → Int32} {p0 : Int32} {r' : Int32} (hE : fX7_digitsOf p0 = some r') : Mg l yX7_digitsOf cX7_digitsOf 1 (some .int) (rmk 0 0) (KX Z) (AX Z) [.int p0] (PX Z HS zkb zdr zky zpn zps ztz ztn zxz zxa zsg za0 za1 za2 za3 za4 zfr zcd zgo ztd ztv zcl zca zwa zpt zpf) (Qi (KX Z) (AX Z) (PX Z HS zkb zdr zky zpn zps ztz ztn zxz zxa zsg za0 za1 za2 za3 za4 zfr zcd zgo ztd ztv zcl zca zwa zpt zpf) r') := by
  refine Mg.start (lv := [(0, .int p0)]) (by decide) rfl (Nat.le_of_ble_eq_true rfl) rfl ?_
  intro p e s m below meth c F hr hlk C hP ls hl
  have hS : va_S (AX Z) s.heap s.heap [] := va_S.rf
  unfold fX7_digitsOf at hE
  refine lv_iload_n F.1 F.2.1 dX7_digitsOf_0 rfl (lv_at hl 0 rfl) ?_
  by_cases hc0 : p0 = 107
  · have hE := ifp hE hc0
    refine lv_tableIn (tgt := 76) (off := 75) F.1 F.2.1 dX7_digitsOf_1 (by rw [hc0]; decide) (by rw [hc0]; decide) (by rw [hc0]; rfl) (by decide) ?_
    refine lv_iconst (v := 2) F.1 F.2.1 dX7_digitsOf_76 (by decide) ?_
    obtain rfl := Option.some.inj hE
    exact ret_i F hr hlk hP hS dX7_digitsOf_77
  have hE := ifn hE hc0
  by_cases hc1 : p0 = 108
  · skip
    refine lv_tableIn (tgt := 80) (off := 79) F.1 F.2.1 dX7_digitsOf_1 (by rw [hc1]; decide) (by rw [hc1]; decide) (by rw [hc1]; rfl) (by decide) ?_
    have hE := ifn hE (by rw [hc1]; decide)
    have hE := ifn hE (by rw [hc1]; decide)
    have hE := ifn hE (by rw [hc1]; decide)
    have hE := ifn hE (by rw [hc1]; decide)
    have hE := ifn hE (by rw [hc1]; decide)
    refine lv_iconst (v := (-1)) F.1 F.2.1 dX7_digitsOf_80 (by decide) ?_
    obtain rfl := Option.some.inj hE
    exact ret_i F hr hlk hP hS dX7_digitsOf_81
  by_cases hc2 : p0 = 109
  · skip
    refine lv_tableIn (tgt := 80) (off := 79) F.1 F.2.1 dX7_digitsOf_1 (by rw [hc2]; decide) (by rw [hc2]; decide) (by rw [hc2]; rfl) (by decide) ?_
    have hE := ifn hE (by rw [hc2]; decide)
    have hE := ifn hE (by rw [hc2]; decide)
    have hE := ifn hE (by rw [hc2]; decide)
    have hE := ifn hE (by rw [hc2]; decide)
    have hE := ifn hE (by rw [hc2]; decide)
    refine lv_iconst (v := (-1)) F.1 F.2.1 dX7_digitsOf_80 (by decide) ?_
    obtain rfl := Option.some.inj hE
    exact ret_i F hr hlk hP hS dX7_digitsOf_81
  by_cases hc3 : p0 = 110
  · have hE := ifp hE hc3
    refine lv_tableIn (tgt := 68) (off := 67) F.1 F.2.1 dX7_digitsOf_1 (by rw [hc3]; decide) (by rw [hc3]; decide) (by rw [hc3]; rfl) (by decide) ?_
    refine lv_iconst (v := 4) F.1 F.2.1 dX7_digitsOf_68 (by decide) ?_
    obtain rfl := Option.some.inj hE
    exact ret_i F hr hlk hP hS dX7_digitsOf_69
  have hE := ifn hE hc3
  by_cases hc4 : p0 = 111
  · skip
    refine lv_tableIn (tgt := 80) (off := 79) F.1 F.2.1 dX7_digitsOf_1 (by rw [hc4]; decide) (by rw [hc4]; decide) (by rw [hc4]; rfl) (by decide) ?_
    have hE := ifn hE (by rw [hc4]; decide)
    have hE := ifn hE (by rw [hc4]; decide)
    have hE := ifn hE (by rw [hc4]; decide)
    have hE := ifn hE (by rw [hc4]; decide)
    refine lv_iconst (v := (-1)) F.1 F.2.1 dX7_digitsOf_80 (by decide) ?_
    obtain rfl := Option.some.inj hE
    exact ret_i F hr hlk hP hS dX7_digitsOf_81
  by_cases hc5 : p0 = 112
  · skip
    refine lv_tableIn (tgt := 80) (off := 79) F.1 F.2.1 dX7_digitsOf_1 (by rw [hc5]; decide) (by rw [hc5]; decide) (by rw [hc5]; rfl) (by decide) ?_
    have hE := ifn hE (by rw [hc5]; decide)
    have hE := ifn hE (by rw [hc5]; decide)
    have hE := ifn hE (by rw [hc5]; decide)
    have hE := ifn hE (by rw [hc5]; decide)
    refine lv_iconst (v := (-1)) F.1 F.2.1 dX7_digitsOf_80 (by decide) ?_
    obtain rfl := Option.some.inj hE
    exact ret_i F hr hlk hP hS dX7_digitsOf_81
  by_cases hc6 : p0 = 113
  · skip
    refine lv_tableIn (tgt := 80) (off := 79) F.1 F.2.1 dX7_digitsOf_1 (by rw [hc6]; decide) (by rw [hc6]; decide) (by rw [hc6]; rfl) (by decide) ?_
    have hE := ifn hE (by rw [hc6]; decide)
    have hE := ifn hE (by rw [hc6]; decide)
    have hE := ifn hE (by rw [hc6]; decide)
    have hE := ifn hE (by rw [hc6]; decide)
    refine lv_iconst (v := (-1)) F.1 F.2.1 dX7_digitsOf_80 (by decide) ?_
    obtain rfl := Option.some.inj hE
    exact ret_i F hr hlk hP hS dX7_digitsOf_81
  by_cases hc7 : p0 = 114
  · have hE := ifp hE hc7
    refine lv_tableIn (tgt := 72) (off := 71) F.1 F.2.1 dX7_digitsOf_1 (by rw [hc7]; decide) (by rw [hc7]; decide) (by rw [hc7]; rfl) (by decide) ?_
    refine lv_iconst (v := 3) F.1 F.2.1 dX7_digitsOf_72 (by decide) ?_
    obtain rfl := Option.some.inj hE
    exact ret_i F hr hlk hP hS dX7_digitsOf_73
  have hE := ifn hE hc7
  by_cases hc8 : p0 = 115
  · have hE := ifp hE hc8
    refine lv_tableIn (tgt := 70) (off := 69) F.1 F.2.1 dX7_digitsOf_1 (by rw [hc8]; decide) (by rw [hc8]; decide) (by rw [hc8]; rfl) (by decide) ?_
    refine lv_iconst (v := 5) F.1 F.2.1 dX7_digitsOf_70 (by decide) ?_
    obtain rfl := Option.some.inj hE
    exact ret_i F hr hlk hP hS dX7_digitsOf_71
  have hE := ifn hE hc8
  by_cases hc9 : p0 = 116
  · have hE := ifp hE hc9
    refine lv_tableIn (tgt := 78) (off := 77) F.1 F.2.1 dX7_digitsOf_1 (by rw [hc9]; decide) (by rw [hc9]; decide) (by rw [hc9]; rfl) (by decide) ?_
    refine lv_iconst (v := 0) F.1 F.2.1 dX7_digitsOf_78 (by decide) ?_
    obtain rfl := Option.some.inj hE
    exact ret_i F hr hlk hP hS dX7_digitsOf_79
  have hE := ifn hE hc9
  by_cases hc10 : p0 = 117
  · skip
    refine lv_tableIn (tgt := 80) (off := 79) F.1 F.2.1 dX7_digitsOf_1 (by rw [hc10]; decide) (by rw [hc10]; decide) (by rw [hc10]; rfl) (by decide) ?_
    have hE := ifn hE (by rw [hc10]; decide)
    refine lv_iconst (v := (-1)) F.1 F.2.1 dX7_digitsOf_80 (by decide) ?_
    obtain rfl := Option.some.inj hE
    exact ret_i F hr hlk hP hS dX7_digitsOf_81
  by_cases hc11 : p0 = 118
  · skip
    refine lv_tableIn (tgt := 80) (off := 79) F.1 F.2.1 dX7_digitsOf_1 (by rw [hc11]; decide) (by rw [hc11]; decide) (by rw [hc11]; rfl) (by decide) ?_
    have hE := ifn hE (by rw [hc11]; decide)
    refine lv_iconst (v := (-1)) F.1 F.2.1 dX7_digitsOf_80 (by decide) ?_
    obtain rfl := Option.some.inj hE
    exact ret_i F hr hlk hP hS dX7_digitsOf_81
  by_cases hc12 : p0 = 119
  · have hE := ifp hE hc12
    refine lv_tableIn (tgt := 74) (off := 73) F.1 F.2.1 dX7_digitsOf_1 (by rw [hc12]; decide) (by rw [hc12]; decide) (by rw [hc12]; rfl) (by decide) ?_
    refine lv_iconst (v := 3) F.1 F.2.1 dX7_digitsOf_74 (by decide) ?_
    obtain rfl := Option.some.inj hE
    exact ret_i F hr hlk hP hS dX7_digitsOf_75
  have hE := ifn hE hc12
  refine lv_tableOut (tgt := 80) F.1 F.2.1 dX7_digitsOf_1 (by have g0 : ¬ (p0).toInt = 107 := sw_ne hc0; have g1 : ¬ (p0).toInt = 108 := sw_ne hc1; have g2 : ¬ (p0).toInt = 109 := sw_ne hc2; have g3 : ¬ (p0).toInt = 110 := sw_ne hc3; have g4 : ¬ (p0).toInt = 111 := sw_ne hc4; have g5 : ¬ (p0).toInt = 112 := sw_ne hc5; have g6 : ¬ (p0).toInt = 113 := sw_ne hc6; have g7 : ¬ (p0).toInt = 114 := sw_ne hc7; have g8 : ¬ (p0).toInt = 115 := sw_ne hc8; have g9 : ¬ (p0).toInt = 116 := sw_ne hc9; have g10 : ¬ (p0).toInt = 117 := sw_ne hc10; have g11 : ¬ (p0).toInt = 118 := sw_ne hc11; have g12 : ¬ (p0).toInt = 119 := sw_ne hc12; omega) (by decide) ?_
  refine lv_iconst (v := (-1)) F.1 F.2.1 dX7_digitsOf_80 (by decide) ?_
  obtain rfl := Option.some.inj hE
  exact ret_i F hr hlk hP hS dX7_digitsOf_81
set_option maxRecDepth 100000 in
set_option maxHeartbeats 4000000 in
theorem qX7_fault_69 {p : Program} {l : Launch} {e : Env} {s : State} {m : MethodId} {args : Array Value} {below : List Frame} {meth : Method} {c : Code} {Z : ZC} {HS : Nat → Nat → Nat → Int32} {zkb : Int32} {zdr : Int32} {zky : Nat → Int32} {zpn : Int32} {zps : Int32} {ztz : Int32} {ztn : Nat → Int64} {zxz : Int32} {zxa : Int32} {zsg : Nat → Int32} {za0 : Int32} {za1 : Int32} {za2 : Int32} {za3 : Int32} {za4 : Int32} {zfr : Nat → Int32} {zcd : Int32} {zgo : Nat → Int32} {ztd : Int32} {ztv : Int32} {zcl : Nat → Int32} {zca : Nat → Int32} {zwa : Nat → Int32} {zpt : Nat → Int32} {zpf : Nat → Int32} {N : Nat} {r' : Int32} (F : CallFix p m c cX7_fault 3 s args bigW RX7) (hr : meth.sig.returnType = (some .int)) (hlk : meth.locks = false) (C : KX Z s) : ∀ (x1 : Int32), fX7_fault_69 N zxz zsg x1 = some r' → ∀ (H : Heap) (locs : List Loc), PX Z HS zkb zdr zky zpn zps ztz ztn zxz zxa zsg za0 za1 za2 za3 za4 zfr zcd zgo ztd ztv zcl zca zwa zpt zpf H → va_S (AX Z) s.heap H locs → ∀ ls : Array Slot, lv_has ls 3 [(0, .ref (oA Z 6)), (1, .int x1)] → W p l e (rmk 1 20) s m args below meth c H locs 0 0 (MQ below (Qi (KX Z) (AX Z) (PX Z HS zkb zdr zky zpn zps ztz ztn zxz zxa zsg za0 za1 za2 za3 za4 zfr zcd zgo ztd ztv zcl zca zwa zpt zpf) r') args s 0 0 (AX Z)) (F0 m 69 ls []) := by
  intro x1 hE H locs hP hS ls hl
  unfold fX7_fault_69 at hE
  refine lv_iload_n F.1 F.2.1 dX7_fault_69 rfl (lv_at hl 1 rfl) ?_
  refine lv_if_le (tgt := 80) F.1 F.2.1 dX7_fault_70 (by decide) (fun hc => ?_) (fun hc => ?_)
  · have hE := ifp hE hc
    refine lv_iconst (v := (-1)) F.1 F.2.1 dX7_fault_80 (by decide) ?_
    obtain rfl := Option.some.inj hE
    exact ret_i F hr hlk hP hS dX7_fault_81
  · have hE := ifn hE hc
    refine lv_aload_n F.1 F.2.1 dX7_fault_73 rfl (lv_at hl 0 rfl) ?_
    refine gX7_15 F C hP dX7_fault_74 ?_
    refine lv_goto (tgt := 81) F.1 F.2.1 dX7_fault_77 (by decide) ?_
    obtain rfl := Option.some.inj hE
    exact ret_i F hr hlk hP hS dX7_fault_81
set_option maxRecDepth 100000 in
set_option maxHeartbeats 4000000 in
theorem qX7_fault_4 {p : Program} {l : Launch} {e : Env} {s : State} {m : MethodId} {args : Array Value} {below : List Frame} {meth : Method} {c : Code} {Z : ZC} {HS : Nat → Nat → Nat → Int32} {zkb : Int32} {zdr : Int32} {zky : Nat → Int32} {zpn : Int32} {zps : Int32} {ztz : Int32} {ztn : Nat → Int64} {zxz : Int32} {zxa : Int32} {zsg : Nat → Int32} {za0 : Int32} {za1 : Int32} {za2 : Int32} {za3 : Int32} {za4 : Int32} {zfr : Nat → Int32} {zcd : Int32} {zgo : Nat → Int32} {ztd : Int32} {ztv : Int32} {zcl : Nat → Int32} {zca : Nat → Int32} {zwa : Nat → Int32} {zpt : Nat → Int32} {zpf : Nat → Int32} {N : Nat} {r' : Int32} (F : CallFix p m c cX7_fault 3 s args bigW RX7) (hr : meth.sig.returnType = (some .int)) (hlk : meth.locks = false) (C : KX Z s) : ∀ n : Nat, ∀ (x1 : Int32) (x2 : Int32), fX7_fault_4 N zxz zsg n x1 x2 = some r' → ∀ (H : Heap) (locs : List Loc), PX Z HS zkb zdr zky zpn zps ztz ztn zxz zxa zsg za0 za1 za2 za3 za4 zfr zcd zgo ztd ztv zcl zca zwa zpt zpf H → va_S (AX Z) s.heap H locs → ∀ ls : Array Slot, lv_has ls 3 [(0, .ref (oA Z 6)), (1, .int x1), (2, .int x2)] → W p l e (rmk 1 20) s m args below meth c H locs 0 0 (MQ below (Qi (KX Z) (AX Z) (PX Z HS zkb zdr zky zpn zps ztz ztn zxz zxa zsg za0 za1 za2 za3 za4 zfr zcd zgo ztd ztv zcl zca zwa zpt zpf) r') args s 0 0 (AX Z)) (F0 m 4 ls []) := by
  intro n
  induction n with
  | zero => intro x1 x2 hE; cases hE
  | succ n h4 =>
    intro x1 x2 hE H locs hP hS ls hl
    have hE : fX7_fault_4b N zxz zsg (fX7_fault_4 N zxz zsg n) x1 x2 = some r' := hE
    refine lv_iload_n F.1 F.2.1 dX7_fault_4 rfl (lv_at hl 2 rfl) ?_
    refine lv_aload_n F.1 F.2.1 dX7_fault_5 rfl (lv_at hl 0 rfl) ?_
    refine gX7_15 F C hP dX7_fault_6 ?_
    refine lv_icmp_ge (tgt := 69) F.1 F.2.1 dX7_fault_9 (by decide) (fun hc => ?_) (fun hc => ?_)
    · have hE := ifp hE hc
      exact qX7_fault_69 F hr hlk C x1 hE _ _ hP hS ls (lv_sub hl [0, 1] rfl)
    · have hE := ifn hE hc
      refine lv_iload_n F.1 F.2.1 dX7_fault_12 rfl (lv_at hl 1 rfl) ?_
      refine lv_if_le (tgt := 46) F.1 F.2.1 dX7_fault_13 (by decide) (fun hc => ?_) (fun hc => ?_)
      · have hE := ifp hE hc
        refine lv_aload_n F.1 F.2.1 dX7_fault_46 rfl (lv_at hl 0 rfl) ?_
        refine gX7_9 F C hP dX7_fault_47 ?_
        refine lv_iload_n F.1 F.2.1 dX7_fault_50 rfl (lv_at hl 2 rfl) ?_
        obtain ⟨hi, hE⟩ := grd_some hE
        refine ao7 F C hP hi dX7_fault_51 ?_
        obtain ⟨r630, hc, hE⟩ := bnd1_some hE
        refine aft_i (run_S (rest := []) F (kX7_digitsOf hc) (okX Z) C hS lkX7_19 ⟨Nat.le_of_ble_eq_true rfl, Nat.le_of_ble_eq_true rfl⟩ hP rfl hl.1 rfl (lv_room (Nat.le_of_ble_eq_true rfl)) dX7_fault_52 ⟨Nat.zero_le _, Nat.zero_le _⟩) hS (fun H locs hP hS => ?_)
        refine lv_istore_n (lv' := [(1, .int r630), (0, .ref (oA Z 6)), (2, .int x2)]) F.1 F.2.1 dX7_fault_55 rfl hl (by decide) rfl (fun ls hl => ?_)
        refine lv_iload_n F.1 F.2.1 dX7_fault_56 rfl (lv_at hl 0 rfl) ?_
        refine lv_iconst (v := (-1)) F.1 F.2.1 dX7_fault_57 (by decide) ?_
        refine lv_icmp_ne (tgt := 63) F.1 F.2.1 dX7_fault_58 (by decide) (fun hc => ?_) (fun hc => ?_)
        · have hE := ifn hE hc
          refine lv_iinc (v := x2 + 1) (lv' := [(2, .int (x2 + 1)), (1, .int r630), (0, .ref (oA Z 6))]) F.1 F.2.1 dX7_fault_63 hl (k := 2) rfl rfl (by decide) rfl (fun ls hl => ?_)
          refine lv_goto (tgt := 4) F.1 F.2.1 dX7_fault_66 (by decide) ?_
          exact h4 r630 (x2 + 1) hE _ _ hP hS ls (lv_sub hl [2, 1, 0] rfl)
        · have hE := ifp hE hc
          refine lv_iload_n F.1 F.2.1 dX7_fault_61 rfl (lv_at hl 2 rfl) ?_
          obtain rfl := Option.some.inj hE
          exact ret_i F hr hlk hP hS dX7_fault_62
      · have hE := ifn hE hc
        refine lv_aload_n F.1 F.2.1 dX7_fault_16 rfl (lv_at hl 0 rfl) ?_
        refine gX7_9 F C hP dX7_fault_17 ?_
        refine lv_iload_n F.1 F.2.1 dX7_fault_20 rfl (lv_at hl 2 rfl) ?_
        obtain ⟨hi, hE⟩ := grd_some hE
        refine ao7 F C hP hi dX7_fault_21 ?_
        refine lv_bipush (v := 48) F.1 F.2.1 dX7_fault_22 (by decide) ?_
        refine lv_icmp_lt (tgt := 38) F.1 F.2.1 dX7_fault_24 (by decide) (fun hc => ?_) (fun hc => ?_)
        · have hE := ifp hE hc
          refine lv_iload_n F.1 F.2.1 dX7_fault_38 rfl (lv_at hl 2 rfl) ?_
          obtain rfl := Option.some.inj hE
          exact ret_i F hr hlk hP hS dX7_fault_39
        · have hE := ifn hE hc
          refine lv_aload_n F.1 F.2.1 dX7_fault_27 rfl (lv_at hl 0 rfl) ?_
          refine gX7_9 F C hP dX7_fault_28 ?_
          refine lv_iload_n F.1 F.2.1 dX7_fault_31 rfl (lv_at hl 2 rfl) ?_
          obtain ⟨hi, hE⟩ := grd_some hE
          refine ao7 F C hP hi dX7_fault_32 ?_
          refine lv_bipush (v := 57) F.1 F.2.1 dX7_fault_33 (by decide) ?_
          refine lv_icmp_le (tgt := 40) F.1 F.2.1 dX7_fault_35 (by decide) (fun hc => ?_) (fun hc => ?_)
          · have hE := ifp hE hc
            refine lv_iinc (v := x1 + (-1)) (lv' := [(1, .int (x1 + (-1))), (0, .ref (oA Z 6)), (2, .int x2)]) F.1 F.2.1 dX7_fault_40 hl (k := 1) rfl rfl (by decide) rfl (fun ls hl => ?_)
            refine lv_goto (tgt := 63) F.1 F.2.1 dX7_fault_43 (by decide) ?_
            refine lv_iinc (v := x2 + 1) (lv' := [(2, .int (x2 + 1)), (1, .int (x1 + (-1))), (0, .ref (oA Z 6))]) F.1 F.2.1 dX7_fault_63 hl (k := 2) rfl rfl (by decide) rfl (fun ls hl => ?_)
            refine lv_goto (tgt := 4) F.1 F.2.1 dX7_fault_66 (by decide) ?_
            exact h4 (x1 + (-1)) (x2 + 1) hE _ _ hP hS ls (lv_sub hl [2, 1, 0] rfl)
          · have hE := ifn hE hc
            refine lv_iload_n F.1 F.2.1 dX7_fault_38 rfl (lv_at hl 2 rfl) ?_
            obtain rfl := Option.some.inj hE
            exact ret_i F hr hlk hP hS dX7_fault_39
set_option maxRecDepth 100000 in
set_option maxHeartbeats 4000000 in
theorem kX7_fault {l : Launch} {Z : ZC} {HS : Nat → Nat → Nat → Int32} {zkb : Int32} {zdr : Int32} {zky : Nat → Int32} {zpn : Int32} {zps : Int32} {ztz : Int32} {ztn : Nat → Int64} {zxz : Int32} {zxa : Int32} {zsg : Nat → Int32} {za0 : Int32} {za1 : Int32} {za2 : Int32} {za3 : Int32} {za4 : Int32} {zfr : Nat → Int32} {zcd : Int32} {zgo : Nat → Int32} {ztd : Int32} {ztv : Int32} {zcl : Nat → Int32} {zca : Nat → Int32} {zwa : Nat → Int32} {zpt : Nat → Int32} {zpf : Nat → Int32} {N : Nat} {r' : Int32} (hE : fX7_fault N zxz zsg = some r') : Mg l yX7_fault cX7_fault 3 (some .int) (rmk 1 20) (KX Z) (AX Z) [.ref (oA Z 6)] (PX Z HS zkb zdr zky zpn zps ztz ztn zxz zxa zsg za0 za1 za2 za3 za4 zfr zcd zgo ztd ztv zcl zca zwa zpt zpf) (Qi (KX Z) (AX Z) (PX Z HS zkb zdr zky zpn zps ztz ztn zxz zxa zsg za0 za1 za2 za3 za4 zfr zcd zgo ztd ztv zcl zca zwa zpt zpf) r') := by
  refine Mg.start (lv := [(0, .ref (oA Z 6))]) (by decide) rfl (Nat.le_of_ble_eq_true rfl) rfl ?_
  intro p e s m below meth c F hr hlk C hP ls hl
  have hS : va_S (AX Z) s.heap s.heap [] := va_S.rf
  unfold fX7_fault at hE
  refine lv_iconst (v := 0) F.1 F.2.1 dX7_fault_0 (by decide) ?_
  refine lv_istore_n (lv' := [(1, .int 0), (0, .ref (oA Z 6))]) F.1 F.2.1 dX7_fault_1 rfl hl (by decide) rfl (fun ls hl => ?_)
  refine lv_iconst (v := 0) F.1 F.2.1 dX7_fault_2 (by decide) ?_
  refine lv_istore_n (lv' := [(2, .int 0), (1, .int 0), (0, .ref (oA Z 6))]) F.1 F.2.1 dX7_fault_3 rfl hl (by decide) rfl (fun ls hl => ?_)
  exact qX7_fault_4 F hr hlk C N 0 0 hE _ _ hP hS ls (lv_sub hl [2, 1, 0] rfl)
set_option maxRecDepth 100000 in
set_option maxHeartbeats 4000000 in
theorem kX7_starts {l : Launch} {Z : ZC} {HS : Nat → Nat → Nat → Int32} {zkb : Int32} {zdr : Int32} {zky : Nat → Int32} {zpn : Int32} {zps : Int32} {ztz : Int32} {ztn : Nat → Int64} {zxz : Int32} {zxa : Int32} {zsg : Nat → Int32} {za0 : Int32} {za1 : Int32} {za2 : Int32} {za3 : Int32} {za4 : Int32} {zfr : Nat → Int32} {zcd : Int32} {zgo : Nat → Int32} {ztd : Int32} {ztv : Int32} {zcl : Nat → Int32} {zca : Nat → Int32} {zwa : Nat → Int32} {zpt : Nat → Int32} {zpf : Nat → Int32} {zxa' : Int32} (hE : fX7_starts zxa = some zxa') : Mg l yX7_starts cX7_starts 1 none (rmk 0 0) (KX Z) (AX Z) [.ref (oA Z 6)] (PX Z HS zkb zdr zky zpn zps ztz ztn zxz zxa zsg za0 za1 za2 za3 za4 zfr zcd zgo ztd ztv zcl zca zwa zpt zpf) (Qv (KX Z) (AX Z) (PX Z HS zkb zdr zky zpn zps ztz ztn zxz zxa' zsg za0 za1 za2 za3 za4 zfr zcd zgo ztd ztv zcl zca zwa zpt zpf)) := by
  refine Mg.start (lv := [(0, .ref (oA Z 6))]) (by decide) rfl (Nat.le_of_ble_eq_true rfl) rfl ?_
  intro p e s m below meth c F hr hlk C hP ls hl
  have hS : va_S (AX Z) s.heap s.heap [] := va_S.rf
  unfold fX7_starts at hE
  refine lv_aload_n F.1 F.2.1 dX7_starts_0 rfl (lv_at hl 0 rfl) ?_
  refine lv_iconst (v := 0) F.1 F.2.1 dX7_starts_1 (by decide) ?_
  refine pX7_23 F C hP hS rfl dX7_starts_2 (fun H locs hP hS => ?_)
  obtain rfl := Option.some.inj hE
  exact ret_v F hr hlk hP hS dX7_starts_5
set_option maxRecDepth 100000 in
set_option maxHeartbeats 4000000 in
theorem kX7_goesOn {l : Launch} {Z : ZC} {HS : Nat → Nat → Nat → Int32} {zkb : Int32} {zdr : Int32} {zky : Nat → Int32} {zpn : Int32} {zps : Int32} {ztz : Int32} {ztn : Nat → Int64} {zxz : Int32} {zxa : Int32} {zsg : Nat → Int32} {za0 : Int32} {za1 : Int32} {za2 : Int32} {za3 : Int32} {za4 : Int32} {zfr : Nat → Int32} {zcd : Int32} {zgo : Nat → Int32} {ztd : Int32} {ztv : Int32} {zcl : Nat → Int32} {zca : Nat → Int32} {zwa : Nat → Int32} {zpt : Nat → Int32} {zpf : Nat → Int32} {r' : Int32} (hE : fX7_goesOn zxz zxa = some r') : Mg l yX7_goesOn cX7_goesOn 1 (some .boolean) (rmk 0 0) (KX Z) (AX Z) [.ref (oA Z 6)] (PX Z HS zkb zdr zky zpn zps ztz ztn zxz zxa zsg za0 za1 za2 za3 za4 zfr zcd zgo ztd ztv zcl zca zwa zpt zpf) (Qi (KX Z) (AX Z) (PX Z HS zkb zdr zky zpn zps ztz ztn zxz zxa zsg za0 za1 za2 za3 za4 zfr zcd zgo ztd ztv zcl zca zwa zpt zpf) r') := by
  refine Mg.start (lv := [(0, .ref (oA Z 6))]) (by decide) rfl (Nat.le_of_ble_eq_true rfl) rfl ?_
  intro p e s m below meth c F hr hlk C hP ls hl
  have hS : va_S (AX Z) s.heap s.heap [] := va_S.rf
  unfold fX7_goesOn at hE
  refine lv_aload_n F.1 F.2.1 dX7_goesOn_0 rfl (lv_at hl 0 rfl) ?_
  refine gX7_23 F C hP dX7_goesOn_1 ?_
  refine lv_aload_n F.1 F.2.1 dX7_goesOn_4 rfl (lv_at hl 0 rfl) ?_
  refine gX7_15 F C hP dX7_goesOn_5 ?_
  refine lv_icmp_ge (tgt := 15) F.1 F.2.1 dX7_goesOn_8 (by decide) (fun hc => ?_) (fun hc => ?_)
  · have hE := ifp hE hc
    refine lv_iconst (v := 0) F.1 F.2.1 dX7_goesOn_15 (by decide) ?_
    obtain rfl := Option.some.inj hE
    exact ret_z F hr rfl hlk hP hS dX7_goesOn_16
  · have hE := ifn hE hc
    refine lv_iconst (v := 1) F.1 F.2.1 dX7_goesOn_11 (by decide) ?_
    refine lv_goto (tgt := 16) F.1 F.2.1 dX7_goesOn_12 (by decide) ?_
    obtain rfl := Option.some.inj hE
    exact ret_z F hr rfl hlk hP hS dX7_goesOn_16
set_option maxRecDepth 100000 in
set_option maxHeartbeats 4000000 in
theorem kX7_next {l : Launch} {Z : ZC} {HS : Nat → Nat → Nat → Int32} {zkb : Int32} {zdr : Int32} {zky : Nat → Int32} {zpn : Int32} {zps : Int32} {ztz : Int32} {ztn : Nat → Int64} {zxz : Int32} {zxa : Int32} {zsg : Nat → Int32} {za0 : Int32} {za1 : Int32} {za2 : Int32} {za3 : Int32} {za4 : Int32} {zfr : Nat → Int32} {zcd : Int32} {zgo : Nat → Int32} {ztd : Int32} {ztv : Int32} {zcl : Nat → Int32} {zca : Nat → Int32} {zwa : Nat → Int32} {zpt : Nat → Int32} {zpf : Nat → Int32} {r' : Int32} {zxa' : Int32} (hE : fX7_next zxz zxa zsg = some (r', zxa')) : Mg l yX7_next cX7_next 1 (some .int) (rmk 0 0) (KX Z) (AX Z) [.ref (oA Z 6)] (PX Z HS zkb zdr zky zpn zps ztz ztn zxz zxa zsg za0 za1 za2 za3 za4 zfr zcd zgo ztd ztv zcl zca zwa zpt zpf) (Qi (KX Z) (AX Z) (PX Z HS zkb zdr zky zpn zps ztz ztn zxz zxa' zsg za0 za1 za2 za3 za4 zfr zcd zgo ztd ztv zcl zca zwa zpt zpf) r') := by
  refine Mg.start (lv := [(0, .ref (oA Z 6))]) (by decide) rfl (Nat.le_of_ble_eq_true rfl) rfl ?_
  intro p e s m below meth c F hr hlk C hP ls hl
  have hS : va_S (AX Z) s.heap s.heap [] := va_S.rf
  unfold fX7_next at hE
  refine lv_aload_n F.1 F.2.1 dX7_next_0 rfl (lv_at hl 0 rfl) ?_
  refine gX7_23 F C hP dX7_next_1 ?_
  refine lv_aload_n F.1 F.2.1 dX7_next_4 rfl (lv_at hl 0 rfl) ?_
  refine gX7_15 F C hP dX7_next_5 ?_
  refine lv_icmp_lt (tgt := 13) F.1 F.2.1 dX7_next_8 (by decide) (fun hc => ?_) (fun hc => ?_)
  · have hE := ifp hE hc
    refine lv_aload_n F.1 F.2.1 dX7_next_13 rfl (lv_at hl 0 rfl) ?_
    refine lv_dup F.1 F.2.1 dX7_next_14 rfl ?_
    refine gX7_23 F C hP dX7_next_15 ?_
    refine lv_iconst (v := 1) F.1 F.2.1 dX7_next_18 (by decide) ?_
    refine lv_iadd F.1 F.2.1 dX7_next_19 ?_
    obtain ⟨zxa_632, ezxa_632, hE⟩ := lt_some hE
    refine pX7_23 F C hP hS ezxa_632.symm dX7_next_20 (fun H locs hP hS => ?_)
    refine lv_aload_n F.1 F.2.1 dX7_next_23 rfl (lv_at hl 0 rfl) ?_
    refine gX7_9 F C hP dX7_next_24 ?_
    refine lv_aload_n F.1 F.2.1 dX7_next_27 rfl (lv_at hl 0 rfl) ?_
    refine gX7_23 F C hP dX7_next_28 ?_
    refine lv_iconst (v := 1) F.1 F.2.1 dX7_next_31 (by decide) ?_
    refine lv_isub F.1 F.2.1 dX7_next_32 ?_
    obtain ⟨hi, hE⟩ := grd_some hE
    refine ao7 F C hP hi dX7_next_33 ?_
    have w0 := Option.some.inj hE
    obtain ⟨g0, w1⟩ := Prod.mk.inj w0
    subst g0 w1
    exact ret_i F hr hlk hP hS dX7_next_34
  · have hE := ifn hE hc
    refine lv_iconst (v := (-1)) F.1 F.2.1 dX7_next_11 (by decide) ?_
    have w0 := Option.some.inj hE
    obtain ⟨g0, w1⟩ := Prod.mk.inj w0
    subst g0 w1
    exact ret_i F hr hlk hP hS dX7_next_12
set_option maxRecDepth 100000 in
set_option maxHeartbeats 4000000 in
theorem kX7_digit {l : Launch} {Z : ZC} {HS : Nat → Nat → Nat → Int32} {zkb : Int32} {zdr : Int32} {zky : Nat → Int32} {zpn : Int32} {zps : Int32} {ztz : Int32} {ztn : Nat → Int64} {zxz : Int32} {zxa : Int32} {zsg : Nat → Int32} {za0 : Int32} {za1 : Int32} {za2 : Int32} {za3 : Int32} {za4 : Int32} {zfr : Nat → Int32} {zcd : Int32} {zgo : Nat → Int32} {ztd : Int32} {ztv : Int32} {zcl : Nat → Int32} {zca : Nat → Int32} {zwa : Nat → Int32} {zpt : Nat → Int32} {zpf : Nat → Int32} {r' : Int32} {zxa' : Int32} (hE : fX7_digit zxz zxa zsg = some (r', zxa')) : Mg l yX7_digit cX7_digit 1 (some .int) (rmk 1 20) (KX Z) (AX Z) [.ref (oA Z 6)] (PX Z HS zkb zdr zky zpn zps ztz ztn zxz zxa zsg za0 za1 za2 za3 za4 zfr zcd zgo ztd ztv zcl zca zwa zpt zpf) (Qi (KX Z) (AX Z) (PX Z HS zkb zdr zky zpn zps ztz ztn zxz zxa' zsg za0 za1 za2 za3 za4 zfr zcd zgo ztd ztv zcl zca zwa zpt zpf) r') := by
  refine Mg.start (lv := [(0, .ref (oA Z 6))]) (by decide) rfl (Nat.le_of_ble_eq_true rfl) rfl ?_
  intro p e s m below meth c F hr hlk C hP ls hl
  have hS : va_S (AX Z) s.heap s.heap [] := va_S.rf
  unfold fX7_digit at hE
  refine lv_aload_n F.1 F.2.1 dX7_digit_0 rfl (lv_at hl 0 rfl) ?_
  obtain ⟨r634, zxa_634, hc, hE⟩ := bnd2_some hE
  refine aft_i (run_V (rest := []) F (kX7_next hc) (okX Z) C hS lkX7_26 ⟨Nat.le_of_ble_eq_true rfl, Nat.le_of_ble_eq_true rfl⟩ (rvo6 C hP) hP rfl hl.1 rfl (lv_room (Nat.le_of_ble_eq_true rfl)) dX7_digit_1 ⟨Nat.zero_le _, Nat.zero_le _⟩) hS (fun H locs hP hS => ?_)
  refine lv_bipush (v := 48) F.1 F.2.1 dX7_digit_4 (by decide) ?_
  refine lv_isub F.1 F.2.1 dX7_digit_6 ?_
  have w0 := Option.some.inj hE
  obtain ⟨g0, w1⟩ := Prod.mk.inj w0
  subst g0 w1
  exact ret_i F hr hlk hP hS dX7_digit_7
set_option maxRecDepth 100000 in
set_option maxHeartbeats 4000000 in
theorem kX7_twoDigits {l : Launch} {Z : ZC} {HS : Nat → Nat → Nat → Int32} {zkb : Int32} {zdr : Int32} {zky : Nat → Int32} {zpn : Int32} {zps : Int32} {ztz : Int32} {ztn : Nat → Int64} {zxz : Int32} {zxa : Int32} {zsg : Nat → Int32} {za0 : Int32} {za1 : Int32} {za2 : Int32} {za3 : Int32} {za4 : Int32} {zfr : Nat → Int32} {zcd : Int32} {zgo : Nat → Int32} {ztd : Int32} {ztv : Int32} {zcl : Nat → Int32} {zca : Nat → Int32} {zwa : Nat → Int32} {zpt : Nat → Int32} {zpf : Nat → Int32} {r' : Int32} {zxa' : Int32} (hE : fX7_twoDigits zxz zxa zsg = some (r', zxa')) : Mg l yX7_twoDigits cX7_twoDigits 2 (some .int) (rmk 2 40) (KX Z) (AX Z) [.ref (oA Z 6)] (PX Z HS zkb zdr zky zpn zps ztz ztn zxz zxa zsg za0 za1 za2 za3 za4 zfr zcd zgo ztd ztv zcl zca zwa zpt zpf) (Qi (KX Z) (AX Z) (PX Z HS zkb zdr zky zpn zps ztz ztn zxz zxa' zsg za0 za1 za2 za3 za4 zfr zcd zgo ztd ztv zcl zca zwa zpt zpf) r') := by
  refine Mg.start (lv := [(0, .ref (oA Z 6))]) (by decide) rfl (Nat.le_of_ble_eq_true rfl) rfl ?_
  intro p e s m below meth c F hr hlk C hP ls hl
  have hS : va_S (AX Z) s.heap s.heap [] := va_S.rf
  unfold fX7_twoDigits at hE
  refine lv_aload_n F.1 F.2.1 dX7_twoDigits_0 rfl (lv_at hl 0 rfl) ?_
  obtain ⟨r637, zxa_637, hc, hE⟩ := bnd2_some hE
  refine aft_i (run_V (rest := []) F (kX7_digit hc) (okX Z) C hS lkX7_30 ⟨Nat.le_of_ble_eq_true rfl, Nat.le_of_ble_eq_true rfl⟩ (rvo6 C hP) hP rfl hl.1 rfl (lv_room (Nat.le_of_ble_eq_true rfl)) dX7_twoDigits_1 ⟨Nat.zero_le _, Nat.zero_le _⟩) hS (fun H locs hP hS => ?_)
  refine lv_istore_n (lv' := [(1, .int r637), (0, .ref (oA Z 6))]) F.1 F.2.1 dX7_twoDigits_4 rfl hl (by decide) rfl (fun ls hl => ?_)
  refine lv_iload_n F.1 F.2.1 dX7_twoDigits_5 rfl (lv_at hl 0 rfl) ?_
  refine lv_bipush (v := 10) F.1 F.2.1 dX7_twoDigits_6 (by decide) ?_
  refine lv_imul F.1 F.2.1 dX7_twoDigits_8 ?_
  refine lv_aload_n F.1 F.2.1 dX7_twoDigits_9 rfl (lv_at hl 1 rfl) ?_
  obtain ⟨r638, zxa_638, hc, hE⟩ := bnd2_some hE
  refine aft_i (run_V (rest := [.int (r637 * 10)]) F (kX7_digit hc) (okX Z) C hS lkX7_30 ⟨Nat.le_of_ble_eq_true rfl, Nat.le_of_ble_eq_true rfl⟩ (rvo6 C hP) hP rfl hl.1 rfl (lv_room (Nat.le_of_ble_eq_true rfl)) dX7_twoDigits_10 ⟨Nat.zero_le _, Nat.zero_le _⟩) hS (fun H locs hP hS => ?_)
  refine lv_iadd F.1 F.2.1 dX7_twoDigits_13 ?_
  have w0 := Option.some.inj hE
  obtain ⟨g0, w1⟩ := Prod.mk.inj w0
  subst g0 w1
  exact ret_i F hr hlk hP hS dX7_twoDigits_14
set_option maxRecDepth 100000 in
set_option maxHeartbeats 4000000 in
theorem kX7_target {l : Launch} {Z : ZC} {HS : Nat → Nat → Nat → Int32} {zkb : Int32} {zdr : Int32} {zky : Nat → Int32} {zpn : Int32} {zps : Int32} {ztz : Int32} {ztn : Nat → Int64} {zxz : Int32} {zxa : Int32} {zsg : Nat → Int32} {za0 : Int32} {za1 : Int32} {za2 : Int32} {za3 : Int32} {za4 : Int32} {zfr : Nat → Int32} {zcd : Int32} {zgo : Nat → Int32} {ztd : Int32} {ztv : Int32} {zcl : Nat → Int32} {zca : Nat → Int32} {zwa : Nat → Int32} {zpt : Nat → Int32} {zpf : Nat → Int32} {r' : Int32} {zxa' : Int32} (hE : fX7_target zxz zxa zsg = some (r', zxa')) : Mg l yX7_target cX7_target 2 (some .int) (rmk 3 61) (KX Z) (AX Z) [.ref (oA Z 6)] (PX Z HS zkb zdr zky zpn zps ztz ztn zxz zxa zsg za0 za1 za2 za3 za4 zfr zcd zgo ztd ztv zcl zca zwa zpt zpf) (Qi (KX Z) (AX Z) (PX Z HS zkb zdr zky zpn zps ztz ztn zxz zxa' zsg za0 za1 za2 za3 za4 zfr zcd zgo ztd ztv zcl zca zwa zpt zpf) r') := by
  refine Mg.start (lv := [(0, .ref (oA Z 6))]) (by decide) rfl (Nat.le_of_ble_eq_true rfl) rfl ?_
  intro p e s m below meth c F hr hlk C hP ls hl
  have hS : va_S (AX Z) s.heap s.heap [] := va_S.rf
  unfold fX7_target at hE
  refine lv_aload_n F.1 F.2.1 dX7_target_0 rfl (lv_at hl 0 rfl) ?_
  obtain ⟨r640, zxa_640, hc, hE⟩ := bnd2_some hE
  refine aft_i (run_V (rest := []) F (kX7_twoDigits hc) (okX Z) C hS lkX7_39 ⟨Nat.le_of_ble_eq_true rfl, Nat.le_of_ble_eq_true rfl⟩ (rvo6 C hP) hP rfl hl.1 rfl (lv_room (Nat.le_of_ble_eq_true rfl)) dX7_target_1 ⟨Nat.zero_le _, Nat.zero_le _⟩) hS (fun H locs hP hS => ?_)
  refine lv_istore_n (lv' := [(1, .int r640), (0, .ref (oA Z 6))]) F.1 F.2.1 dX7_target_4 rfl hl (by decide) rfl (fun ls hl => ?_)
  refine lv_iload_n F.1 F.2.1 dX7_target_5 rfl (lv_at hl 0 rfl) ?_
  refine lv_bipush (v := 99) F.1 F.2.1 dX7_target_6 (by decide) ?_
  refine lv_icmp_ne (tgt := 15) F.1 F.2.1 dX7_target_8 (by decide) (fun hc => ?_) (fun hc => ?_)
  · have hE := ifn hE hc
    refine lv_iload_n F.1 F.2.1 dX7_target_15 rfl (lv_at hl 0 rfl) ?_
    have w0 := Option.some.inj hE
    obtain ⟨g0, w1⟩ := Prod.mk.inj w0
    subst g0 w1
    exact ret_i F hr hlk hP hS dX7_target_16
  · have hE := ifp hE hc
    refine lv_iconst (v := (-1)) F.1 F.2.1 dX7_target_11 (by decide) ?_
    refine lv_goto (tgt := 16) F.1 F.2.1 dX7_target_12 (by decide) ?_
    have w0 := Option.some.inj hE
    obtain ⟨g0, w1⟩ := Prod.mk.inj w0
    subst g0 w1
    exact ret_i F hr hlk hP hS dX7_target_16
set_option maxRecDepth 100000 in
set_option maxHeartbeats 4000000 in
theorem qX7_reads_153 {p : Program} {l : Launch} {e : Env} {s : State} {m : MethodId} {args : Array Value} {below : List Frame} {meth : Method} {c : Code} {Z : ZC} {HS : Nat → Nat → Nat → Int32} {zkb : Int32} {zdr : Int32} {zky : Nat → Int32} {zpn : Int32} {zps : Int32} {ztz : Int32} {ztn : Nat → Int64} {zxz : Int32} {zsg : Nat → Int32} {zfr : Nat → Int32} {zcd : Int32} {zgo : Nat → Int32} {ztd : Int32} {ztv : Int32} {zcl : Nat → Int32} {zca : Nat → Int32} {zwa : Nat → Int32} {zpt : Nat → Int32} {zpf : Nat → Int32} {zxa' : Int32} {za0' : Int32} {za1' : Int32} {za2' : Int32} {za3' : Int32} {za4' : Int32} (F : CallFix p m c cX7_reads 3 s args bigW RX7) (hr : meth.sig.returnType = none) (hlk : meth.locks = false) (C : KX Z s) : ∀ (zxa : Int32) (za0 : Int32) (za1 : Int32) (za2 : Int32) (za3 : Int32) (za4 : Int32) (x2 : Int32), fX7_reads_153 zxz zsg zxa za0 za1 za2 za3 za4 x2 = some (zxa', za0', za1', za2', za3', za4') → ∀ (H : Heap) (locs : List Loc), PX Z HS zkb zdr zky zpn zps ztz ztn zxz zxa zsg za0 za1 za2 za3 za4 zfr zcd zgo ztd ztv zcl zca zwa zpt zpf H → va_S (AX Z) s.heap H locs → ∀ ls : Array Slot, lv_has ls 3 [(1, .ref (oA Z 8)), (2, .int x2)] → W p l e (rmk 4 82) s m args below meth c H locs 0 0 (MQ below (Qv (KX Z) (AX Z) (PX Z HS zkb zdr zky zpn zps ztz ztn zxz zxa' zsg za0' za1' za2' za3' za4' zfr zcd zgo ztd ztv zcl zca zwa zpt zpf)) args s 0 0 (AX Z)) (F0 m 153 ls []) := by
  intro zxa za0 za1 za2 za3 za4 x2 hE H locs hP hS ls hl
  unfold fX7_reads_153 at hE
  refine lv_aload_n F.1 F.2.1 dX7_reads_153 rfl (lv_at hl 0 rfl) ?_
  refine lv_iload_n F.1 F.2.1 dX7_reads_154 rfl (lv_at hl 1 rfl) ?_
  refine lv_iconst (v := 0) F.1 F.2.1 dX7_reads_155 (by decide) ?_
  refine lv_iconst (v := 0) F.1 F.2.1 dX7_reads_156 (by decide) ?_
  refine lv_iconst (v := 0) F.1 F.2.1 dX7_reads_157 (by decide) ?_
  refine lv_iconst (v := 0) F.1 F.2.1 dX7_reads_158 (by decide) ?_
  obtain ⟨za0_671, za1_671, za2_671, za3_671, za4_671, hc, hE⟩ := bnd5_some hE
  refine aft_v (run_N (rest := []) F (kX0_becomes hc) (okX Z) C hS (C.2.2 _ _ mlX7_33 rfl) lkX7_33 ⟨Nat.le_of_ble_eq_true rfl, Nat.le_of_ble_eq_true rfl⟩ (rvo8 C hP) hP rfl hl.1 rfl (lv_room (Nat.le_of_ble_eq_true rfl)) dX7_reads_159 ⟨Nat.zero_le _, Nat.zero_le _⟩) hS (fun H locs hP hS => ?_)
  have w0 := Option.some.inj hE
  obtain ⟨g0, w1⟩ := Prod.mk.inj w0
  obtain ⟨g1, w2⟩ := Prod.mk.inj w1
  obtain ⟨g2, w3⟩ := Prod.mk.inj w2
  obtain ⟨g3, w4⟩ := Prod.mk.inj w3
  obtain ⟨g4, w5⟩ := Prod.mk.inj w4
  subst g0 g1 g2 g3 g4 w5
  exact ret_v F hr hlk hP hS dX7_reads_162
set_option maxRecDepth 100000 in
set_option maxHeartbeats 4000000 in
theorem qX7_reads_117 {p : Program} {l : Launch} {e : Env} {s : State} {m : MethodId} {args : Array Value} {below : List Frame} {meth : Method} {c : Code} {Z : ZC} {HS : Nat → Nat → Nat → Int32} {zkb : Int32} {zdr : Int32} {zky : Nat → Int32} {zpn : Int32} {zps : Int32} {ztz : Int32} {ztn : Nat → Int64} {zxz : Int32} {zsg : Nat → Int32} {zfr : Nat → Int32} {zcd : Int32} {zgo : Nat → Int32} {ztd : Int32} {ztv : Int32} {zcl : Nat → Int32} {zca : Nat → Int32} {zwa : Nat → Int32} {zpt : Nat → Int32} {zpf : Nat → Int32} {zxa' : Int32} {za0' : Int32} {za1' : Int32} {za2' : Int32} {za3' : Int32} {za4' : Int32} (F : CallFix p m c cX7_reads 3 s args bigW RX7) (hr : meth.sig.returnType = none) (hlk : meth.locks = false) (C : KX Z s) : ∀ (zxa : Int32) (za0 : Int32) (za1 : Int32) (za2 : Int32) (za3 : Int32) (za4 : Int32) (x2 : Int32), fX7_reads_117 zxz zsg zxa za0 za1 za2 za3 za4 x2 = some (zxa', za0', za1', za2', za3', za4') → ∀ (H : Heap) (locs : List Loc), PX Z HS zkb zdr zky zpn zps ztz ztn zxz zxa zsg za0 za1 za2 za3 za4 zfr zcd zgo ztd ztv zcl zca zwa zpt zpf H → va_S (AX Z) s.heap H locs → ∀ ls : Array Slot, lv_has ls 3 [(0, .ref (oA Z 6)), (1, .ref (oA Z 8)), (2, .int x2)] → W p l e (rmk 4 82) s m args below meth c H locs 0 0 (MQ below (Qv (KX Z) (AX Z) (PX Z HS zkb zdr zky zpn zps ztz ztn zxz zxa' zsg za0' za1' za2' za3' za4' zfr zcd zgo ztd ztv zcl zca zwa zpt zpf)) args s 0 0 (AX Z)) (F0 m 117 ls []) := by
  intro zxa za0 za1 za2 za3 za4 x2 hE H locs hP hS ls hl
  unfold fX7_reads_117 at hE
  refine lv_aload_n F.1 F.2.1 dX7_reads_117 rfl (lv_at hl 1 rfl) ?_
  refine lv_iload_n F.1 F.2.1 dX7_reads_118 rfl (lv_at hl 2 rfl) ?_
  refine lv_aload_n F.1 F.2.1 dX7_reads_119 rfl (lv_at hl 0 rfl) ?_
  obtain ⟨r672, zxa_672, hc, hE⟩ := bnd2_some hE
  refine aft_i (run_V (rest := [.int x2, .ref (oA Z 8)]) F (kX7_digit hc) (okX Z) C hS lkX7_30 ⟨Nat.le_of_ble_eq_true rfl, Nat.le_of_ble_eq_true rfl⟩ (rvo6 C hP) hP rfl hl.1 rfl (lv_room (Nat.le_of_ble_eq_true rfl)) dX7_reads_120 ⟨Nat.zero_le _, Nat.zero_le _⟩) hS (fun H locs hP hS => ?_)
  refine lv_aload_n F.1 F.2.1 dX7_reads_123 rfl (lv_at hl 0 rfl) ?_
  obtain ⟨r673, zxa_673, hc, hE⟩ := bnd2_some hE
  refine aft_i (run_V (rest := [.int r672, .int x2, .ref (oA Z 8)]) F (kX7_target hc) (okX Z) C hS lkX7_42 ⟨Nat.le_of_ble_eq_true rfl, Nat.le_of_ble_eq_true rfl⟩ (rvo6 C hP) hP rfl hl.1 rfl (lv_room (Nat.le_of_ble_eq_true rfl)) dX7_reads_124 ⟨Nat.zero_le _, Nat.zero_le _⟩) hS (fun H locs hP hS => ?_)
  refine lv_iconst (v := 0) F.1 F.2.1 dX7_reads_127 (by decide) ?_
  refine lv_iconst (v := 0) F.1 F.2.1 dX7_reads_128 (by decide) ?_
  obtain ⟨za0_674, za1_674, za2_674, za3_674, za4_674, hc, hE⟩ := bnd5_some hE
  refine aft_v (run_N (rest := []) F (kX0_becomes hc) (okX Z) C hS (C.2.2 _ _ mlX7_33 rfl) lkX7_33 ⟨Nat.le_of_ble_eq_true rfl, Nat.le_of_ble_eq_true rfl⟩ (rvo8 C hP) hP rfl hl.1 rfl (lv_room (Nat.le_of_ble_eq_true rfl)) dX7_reads_129 ⟨Nat.zero_le _, Nat.zero_le _⟩) hS (fun H locs hP hS => ?_)
  refine lv_goto (tgt := 162) F.1 F.2.1 dX7_reads_132 (by decide) ?_
  have w0 := Option.some.inj hE
  obtain ⟨g0, w1⟩ := Prod.mk.inj w0
  obtain ⟨g1, w2⟩ := Prod.mk.inj w1
  obtain ⟨g2, w3⟩ := Prod.mk.inj w2
  obtain ⟨g3, w4⟩ := Prod.mk.inj w3
  obtain ⟨g4, w5⟩ := Prod.mk.inj w4
  subst g0 g1 g2 g3 g4 w5
  exact ret_v F hr hlk hP hS dX7_reads_162
set_option maxRecDepth 100000 in
set_option maxHeartbeats 4000000 in
theorem kX7_reads {l : Launch} {Z : ZC} {HS : Nat → Nat → Nat → Int32} {zkb : Int32} {zdr : Int32} {zky : Nat → Int32} {zpn : Int32} {zps : Int32} {ztz : Int32} {ztn : Nat → Int64} {zxz : Int32} {zxa : Int32} {zsg : Nat → Int32} {za0 : Int32} {za1 : Int32} {za2 : Int32} {za3 : Int32} {za4 : Int32} {zfr : Nat → Int32} {zcd : Int32} {zgo : Nat → Int32} {ztd : Int32} {ztv : Int32} {zcl : Nat → Int32} {zca : Nat → Int32} {zwa : Nat → Int32} {zpt : Nat → Int32} {zpf : Nat → Int32} {zxa' : Int32} {za0' : Int32} {za1' : Int32} {za2' : Int32} {za3' : Int32} {za4' : Int32} (hE : fX7_reads zxz zxa zsg za0 za1 za2 za3 za4 = some (zxa', za0', za1', za2', za3', za4')) : Mg l yX7_reads cX7_reads 3 none (rmk 4 82) (KX Z) (AX Z) [.ref (oA Z 6), .ref (oA Z 8)] (PX Z HS zkb zdr zky zpn zps ztz ztn zxz zxa zsg za0 za1 za2 za3 za4 zfr zcd zgo ztd ztv zcl zca zwa zpt zpf) (Qv (KX Z) (AX Z) (PX Z HS zkb zdr zky zpn zps ztz ztn zxz zxa' zsg za0' za1' za2' za3' za4' zfr zcd zgo ztd ztv zcl zca zwa zpt zpf)) := by
  refine Mg.start (lv := [(0, .ref (oA Z 6)), (1, .ref (oA Z 8))]) (by decide) rfl (Nat.le_of_ble_eq_true rfl) rfl ?_
  intro p e s m below meth c F hr hlk C hP ls hl
  have hS : va_S (AX Z) s.heap s.heap [] := va_S.rf
  unfold fX7_reads at hE
  refine lv_aload_n F.1 F.2.1 dX7_reads_0 rfl (lv_at hl 0 rfl) ?_
  obtain ⟨r658, zxa_658, hc, hE⟩ := bnd2_some hE
  refine aft_i (run_V (rest := []) F (kX7_next hc) (okX Z) C hS lkX7_26 ⟨Nat.le_of_ble_eq_true rfl, Nat.le_of_ble_eq_true rfl⟩ (rvo6 C hP) hP rfl hl.1 rfl (lv_room (Nat.le_of_ble_eq_true rfl)) dX7_reads_1 ⟨Nat.zero_le _, Nat.zero_le _⟩) hS (fun H locs hP hS => ?_)
  refine lv_istore_n (lv' := [(2, .int r658), (0, .ref (oA Z 6)), (1, .ref (oA Z 8))]) F.1 F.2.1 dX7_reads_4 rfl hl (by decide) rfl (fun ls hl => ?_)
  refine lv_iload_n F.1 F.2.1 dX7_reads_5 rfl (lv_at hl 0 rfl) ?_
  by_cases hc0 : r658 = 107
  · have hE := ifp hE hc0
    refine lv_tableIn (tgt := 135) (off := 129) F.1 F.2.1 dX7_reads_6 (by rw [hc0]; decide) (by rw [hc0]; decide) (by rw [hc0]; rfl) (by decide) ?_
    refine lv_aload_n F.1 F.2.1 dX7_reads_135 rfl (lv_at hl 2 rfl) ?_
    refine lv_iload_n F.1 F.2.1 dX7_reads_136 rfl (lv_at hl 0 rfl) ?_
    refine lv_aload_n F.1 F.2.1 dX7_reads_137 rfl (lv_at hl 1 rfl) ?_
    obtain ⟨r659, zxa_659, hc, hE⟩ := bnd2_some hE
    refine aft_i (run_V (rest := [.int r658, .ref (oA Z 8)]) F (kX7_digit hc) (okX Z) C hS lkX7_30 ⟨Nat.le_of_ble_eq_true rfl, Nat.le_of_ble_eq_true rfl⟩ (rvo6 C hP) hP rfl hl.1 rfl (lv_room (Nat.le_of_ble_eq_true rfl)) dX7_reads_138 ⟨Nat.zero_le _, Nat.zero_le _⟩) hS (fun H locs hP hS => ?_)
    refine lv_aload_n F.1 F.2.1 dX7_reads_141 rfl (lv_at hl 1 rfl) ?_
    obtain ⟨r660, zxa_660, hc, hE⟩ := bnd2_some hE
    refine aft_i (run_V (rest := [.int r659, .int r658, .ref (oA Z 8)]) F (kX7_digit hc) (okX Z) C hS lkX7_30 ⟨Nat.le_of_ble_eq_true rfl, Nat.le_of_ble_eq_true rfl⟩ (rvo6 C hP) hP rfl hl.1 rfl (lv_room (Nat.le_of_ble_eq_true rfl)) dX7_reads_142 ⟨Nat.zero_le _, Nat.zero_le _⟩) hS (fun H locs hP hS => ?_)
    refine lv_iconst (v := 0) F.1 F.2.1 dX7_reads_145 (by decide) ?_
    refine lv_iconst (v := 0) F.1 F.2.1 dX7_reads_146 (by decide) ?_
    obtain ⟨za0_661, za1_661, za2_661, za3_661, za4_661, hc, hE⟩ := bnd5_some hE
    refine aft_v (run_N (rest := []) F (kX0_becomes hc) (okX Z) C hS (C.2.2 _ _ mlX7_33 rfl) lkX7_33 ⟨Nat.le_of_ble_eq_true rfl, Nat.le_of_ble_eq_true rfl⟩ (rvo8 C hP) hP rfl hl.1 rfl (lv_room (Nat.le_of_ble_eq_true rfl)) dX7_reads_147 ⟨Nat.zero_le _, Nat.zero_le _⟩) hS (fun H locs hP hS => ?_)
    refine lv_goto (tgt := 162) F.1 F.2.1 dX7_reads_150 (by decide) ?_
    have w0 := Option.some.inj hE
    obtain ⟨g0, w1⟩ := Prod.mk.inj w0
    obtain ⟨g1, w2⟩ := Prod.mk.inj w1
    obtain ⟨g2, w3⟩ := Prod.mk.inj w2
    obtain ⟨g3, w4⟩ := Prod.mk.inj w3
    obtain ⟨g4, w5⟩ := Prod.mk.inj w4
    subst g0 g1 g2 g3 g4 w5
    exact ret_v F hr hlk hP hS dX7_reads_162
  have hE := ifn hE hc0
  by_cases hc1 : r658 = 108
  · skip
    refine lv_tableIn (tgt := 153) (off := 147) F.1 F.2.1 dX7_reads_6 (by rw [hc1]; decide) (by rw [hc1]; decide) (by rw [hc1]; rfl) (by decide) ?_
    have hE := ifn hE (by rw [hc1]; decide)
    have hE := ifn hE (by rw [hc1]; decide)
    have hE := ifn hE (by rw [hc1]; decide)
    have hE := ifn hE (by rw [hc1]; decide)
    exact qX7_reads_153 F hr hlk C zxa_658 za0 za1 za2 za3 za4 r658 hE _ _ hP hS ls (lv_sub hl [2, 0] rfl)
  by_cases hc2 : r658 = 109
  · skip
    refine lv_tableIn (tgt := 153) (off := 147) F.1 F.2.1 dX7_reads_6 (by rw [hc2]; decide) (by rw [hc2]; decide) (by rw [hc2]; rfl) (by decide) ?_
    have hE := ifn hE (by rw [hc2]; decide)
    have hE := ifn hE (by rw [hc2]; decide)
    have hE := ifn hE (by rw [hc2]; decide)
    have hE := ifn hE (by rw [hc2]; decide)
    exact qX7_reads_153 F hr hlk C zxa_658 za0 za1 za2 za3 za4 r658 hE _ _ hP hS ls (lv_sub hl [2, 0] rfl)
  by_cases hc3 : r658 = 110
  · have hE := ifp hE hc3
    refine lv_tableIn (tgt := 72) (off := 66) F.1 F.2.1 dX7_reads_6 (by rw [hc3]; decide) (by rw [hc3]; decide) (by rw [hc3]; rfl) (by decide) ?_
    refine lv_aload_n F.1 F.2.1 dX7_reads_72 rfl (lv_at hl 2 rfl) ?_
    refine lv_iload_n F.1 F.2.1 dX7_reads_73 rfl (lv_at hl 0 rfl) ?_
    refine lv_aload_n F.1 F.2.1 dX7_reads_74 rfl (lv_at hl 1 rfl) ?_
    obtain ⟨r662, zxa_662, hc, hE⟩ := bnd2_some hE
    refine aft_i (run_V (rest := [.int r658, .ref (oA Z 8)]) F (kX7_digit hc) (okX Z) C hS lkX7_30 ⟨Nat.le_of_ble_eq_true rfl, Nat.le_of_ble_eq_true rfl⟩ (rvo6 C hP) hP rfl hl.1 rfl (lv_room (Nat.le_of_ble_eq_true rfl)) dX7_reads_75 ⟨Nat.zero_le _, Nat.zero_le _⟩) hS (fun H locs hP hS => ?_)
    refine lv_aload_n F.1 F.2.1 dX7_reads_78 rfl (lv_at hl 1 rfl) ?_
    obtain ⟨r663, zxa_663, hc, hE⟩ := bnd2_some hE
    refine aft_i (run_V (rest := [.int r662, .int r658, .ref (oA Z 8)]) F (kX7_digit hc) (okX Z) C hS lkX7_30 ⟨Nat.le_of_ble_eq_true rfl, Nat.le_of_ble_eq_true rfl⟩ (rvo6 C hP) hP rfl hl.1 rfl (lv_room (Nat.le_of_ble_eq_true rfl)) dX7_reads_79 ⟨Nat.zero_le _, Nat.zero_le _⟩) hS (fun H locs hP hS => ?_)
    refine lv_aload_n F.1 F.2.1 dX7_reads_82 rfl (lv_at hl 1 rfl) ?_
    obtain ⟨r664, zxa_664, hc, hE⟩ := bnd2_some hE
    refine aft_i (run_V (rest := [.int r663, .int r662, .int r658, .ref (oA Z 8)]) F (kX7_digit hc) (okX Z) C hS lkX7_30 ⟨Nat.le_of_ble_eq_true rfl, Nat.le_of_ble_eq_true rfl⟩ (rvo6 C hP) hP rfl hl.1 rfl (lv_room (Nat.le_of_ble_eq_true rfl)) dX7_reads_83 ⟨Nat.zero_le _, Nat.zero_le _⟩) hS (fun H locs hP hS => ?_)
    refine lv_aload_n F.1 F.2.1 dX7_reads_86 rfl (lv_at hl 1 rfl) ?_
    obtain ⟨r665, zxa_665, hc, hE⟩ := bnd2_some hE
    refine aft_i (run_V (rest := [.int r664, .int r663, .int r662, .int r658, .ref (oA Z 8)]) F (kX7_digit hc) (okX Z) C hS lkX7_30 ⟨Nat.le_of_ble_eq_true rfl, Nat.le_of_ble_eq_true rfl⟩ (rvo6 C hP) hP rfl hl.1 rfl (lv_room (Nat.le_of_ble_eq_true rfl)) dX7_reads_87 ⟨Nat.zero_le _, Nat.zero_le _⟩) hS (fun H locs hP hS => ?_)
    obtain ⟨za0_666, za1_666, za2_666, za3_666, za4_666, hc, hE⟩ := bnd5_some hE
    refine aft_v (run_N (rest := []) F (kX0_becomes hc) (okX Z) C hS (C.2.2 _ _ mlX7_33 rfl) lkX7_33 ⟨Nat.le_of_ble_eq_true rfl, Nat.le_of_ble_eq_true rfl⟩ (rvo8 C hP) hP rfl hl.1 rfl (lv_room (Nat.le_of_ble_eq_true rfl)) dX7_reads_90 ⟨Nat.zero_le _, Nat.zero_le _⟩) hS (fun H locs hP hS => ?_)
    refine lv_goto (tgt := 162) F.1 F.2.1 dX7_reads_93 (by decide) ?_
    have w0 := Option.some.inj hE
    obtain ⟨g0, w1⟩ := Prod.mk.inj w0
    obtain ⟨g1, w2⟩ := Prod.mk.inj w1
    obtain ⟨g2, w3⟩ := Prod.mk.inj w2
    obtain ⟨g3, w4⟩ := Prod.mk.inj w3
    obtain ⟨g4, w5⟩ := Prod.mk.inj w4
    subst g0 g1 g2 g3 g4 w5
    exact ret_v F hr hlk hP hS dX7_reads_162
  have hE := ifn hE hc3
  by_cases hc4 : r658 = 111
  · skip
    refine lv_tableIn (tgt := 153) (off := 147) F.1 F.2.1 dX7_reads_6 (by rw [hc4]; decide) (by rw [hc4]; decide) (by rw [hc4]; rfl) (by decide) ?_
    have hE := ifn hE (by rw [hc4]; decide)
    have hE := ifn hE (by rw [hc4]; decide)
    have hE := ifn hE (by rw [hc4]; decide)
    exact qX7_reads_153 F hr hlk C zxa_658 za0 za1 za2 za3 za4 r658 hE _ _ hP hS ls (lv_sub hl [2, 0] rfl)
  by_cases hc5 : r658 = 112
  · skip
    refine lv_tableIn (tgt := 153) (off := 147) F.1 F.2.1 dX7_reads_6 (by rw [hc5]; decide) (by rw [hc5]; decide) (by rw [hc5]; rfl) (by decide) ?_
    have hE := ifn hE (by rw [hc5]; decide)
    have hE := ifn hE (by rw [hc5]; decide)
    have hE := ifn hE (by rw [hc5]; decide)
    exact qX7_reads_153 F hr hlk C zxa_658 za0 za1 za2 za3 za4 r658 hE _ _ hP hS ls (lv_sub hl [2, 0] rfl)
  by_cases hc6 : r658 = 113
  · skip
    refine lv_tableIn (tgt := 153) (off := 147) F.1 F.2.1 dX7_reads_6 (by rw [hc6]; decide) (by rw [hc6]; decide) (by rw [hc6]; rfl) (by decide) ?_
    have hE := ifn hE (by rw [hc6]; decide)
    have hE := ifn hE (by rw [hc6]; decide)
    have hE := ifn hE (by rw [hc6]; decide)
    exact qX7_reads_153 F hr hlk C zxa_658 za0 za1 za2 za3 za4 r658 hE _ _ hP hS ls (lv_sub hl [2, 0] rfl)
  by_cases hc7 : r658 = 114
  · have hE := ifp hE hc7
    refine lv_tableIn (tgt := 117) (off := 111) F.1 F.2.1 dX7_reads_6 (by rw [hc7]; decide) (by rw [hc7]; decide) (by rw [hc7]; rfl) (by decide) ?_
    exact qX7_reads_117 F hr hlk C zxa_658 za0 za1 za2 za3 za4 r658 hE _ _ hP hS ls (lv_sub hl [1, 2, 0] rfl)
  have hE := ifn hE hc7
  by_cases hc8 : r658 = 115
  · have hE := ifp hE hc8
    refine lv_tableIn (tgt := 96) (off := 90) F.1 F.2.1 dX7_reads_6 (by rw [hc8]; decide) (by rw [hc8]; decide) (by rw [hc8]; rfl) (by decide) ?_
    refine lv_aload_n F.1 F.2.1 dX7_reads_96 rfl (lv_at hl 2 rfl) ?_
    refine lv_iload_n F.1 F.2.1 dX7_reads_97 rfl (lv_at hl 0 rfl) ?_
    refine lv_aload_n F.1 F.2.1 dX7_reads_98 rfl (lv_at hl 1 rfl) ?_
    obtain ⟨r667, zxa_667, hc, hE⟩ := bnd2_some hE
    refine aft_i (run_V (rest := [.int r658, .ref (oA Z 8)]) F (kX7_twoDigits hc) (okX Z) C hS lkX7_39 ⟨Nat.le_of_ble_eq_true rfl, Nat.le_of_ble_eq_true rfl⟩ (rvo6 C hP) hP rfl hl.1 rfl (lv_room (Nat.le_of_ble_eq_true rfl)) dX7_reads_99 ⟨Nat.zero_le _, Nat.zero_le _⟩) hS (fun H locs hP hS => ?_)
    refine lv_aload_n F.1 F.2.1 dX7_reads_102 rfl (lv_at hl 1 rfl) ?_
    obtain ⟨r668, zxa_668, hc, hE⟩ := bnd2_some hE
    refine aft_i (run_V (rest := [.int r667, .int r658, .ref (oA Z 8)]) F (kX7_digit hc) (okX Z) C hS lkX7_30 ⟨Nat.le_of_ble_eq_true rfl, Nat.le_of_ble_eq_true rfl⟩ (rvo6 C hP) hP rfl hl.1 rfl (lv_room (Nat.le_of_ble_eq_true rfl)) dX7_reads_103 ⟨Nat.zero_le _, Nat.zero_le _⟩) hS (fun H locs hP hS => ?_)
    refine lv_aload_n F.1 F.2.1 dX7_reads_106 rfl (lv_at hl 1 rfl) ?_
    obtain ⟨r669, zxa_669, hc, hE⟩ := bnd2_some hE
    refine aft_i (run_V (rest := [.int r668, .int r667, .int r658, .ref (oA Z 8)]) F (kX7_target hc) (okX Z) C hS lkX7_42 ⟨Nat.le_of_ble_eq_true rfl, Nat.le_of_ble_eq_true rfl⟩ (rvo6 C hP) hP rfl hl.1 rfl (lv_room (Nat.le_of_ble_eq_true rfl)) dX7_reads_107 ⟨Nat.zero_le _, Nat.zero_le _⟩) hS (fun H locs hP hS => ?_)
    refine lv_iconst (v := 0) F.1 F.2.1 dX7_reads_110 (by decide) ?_
    obtain ⟨za0_670, za1_670, za2_670, za3_670, za4_670, hc, hE⟩ := bnd5_some hE
    refine aft_v (run_N (rest := []) F (kX0_becomes hc) (okX Z) C hS (C.2.2 _ _ mlX7_33 rfl) lkX7_33 ⟨Nat.le_of_ble_eq_true rfl, Nat.le_of_ble_eq_true rfl⟩ (rvo8 C hP) hP rfl hl.1 rfl (lv_room (Nat.le_of_ble_eq_true rfl)) dX7_reads_111 ⟨Nat.zero_le _, Nat.zero_le _⟩) hS (fun H locs hP hS => ?_)
    refine lv_goto (tgt := 162) F.1 F.2.1 dX7_reads_114 (by decide) ?_
    have w0 := Option.some.inj hE
    obtain ⟨g0, w1⟩ := Prod.mk.inj w0
    obtain ⟨g1, w2⟩ := Prod.mk.inj w1
    obtain ⟨g2, w3⟩ := Prod.mk.inj w2
    obtain ⟨g3, w4⟩ := Prod.mk.inj w3
    obtain ⟨g4, w5⟩ := Prod.mk.inj w4
    subst g0 g1 g2 g3 g4 w5
    exact ret_v F hr hlk hP hS dX7_reads_162
  have hE := ifn hE hc8
  by_cases hc9 : r658 = 116
  · skip
    refine lv_tableIn (tgt := 153) (off := 147) F.1 F.2.1 dX7_reads_6 (by rw [hc9]; decide) (by rw [hc9]; decide) (by rw [hc9]; rfl) (by decide) ?_
    have hE := ifn hE (by rw [hc9]; decide)
    exact qX7_reads_153 F hr hlk C zxa_658 za0 za1 za2 za3 za4 r658 hE _ _ hP hS ls (lv_sub hl [2, 0] rfl)
  by_cases hc10 : r658 = 117
  · skip
    refine lv_tableIn (tgt := 153) (off := 147) F.1 F.2.1 dX7_reads_6 (by rw [hc10]; decide) (by rw [hc10]; decide) (by rw [hc10]; rfl) (by decide) ?_
    have hE := ifn hE (by rw [hc10]; decide)
    exact qX7_reads_153 F hr hlk C zxa_658 za0 za1 za2 za3 za4 r658 hE _ _ hP hS ls (lv_sub hl [2, 0] rfl)
  by_cases hc11 : r658 = 118
  · skip
    refine lv_tableIn (tgt := 153) (off := 147) F.1 F.2.1 dX7_reads_6 (by rw [hc11]; decide) (by rw [hc11]; decide) (by rw [hc11]; rfl) (by decide) ?_
    have hE := ifn hE (by rw [hc11]; decide)
    exact qX7_reads_153 F hr hlk C zxa_658 za0 za1 za2 za3 za4 r658 hE _ _ hP hS ls (lv_sub hl [2, 0] rfl)
  by_cases hc12 : r658 = 119
  · have hE := ifp hE hc12
    refine lv_tableIn (tgt := 117) (off := 111) F.1 F.2.1 dX7_reads_6 (by rw [hc12]; decide) (by rw [hc12]; decide) (by rw [hc12]; rfl) (by decide) ?_
    exact qX7_reads_117 F hr hlk C zxa_658 za0 za1 za2 za3 za4 r658 hE _ _ hP hS ls (lv_sub hl [1, 2, 0] rfl)
  have hE := ifn hE hc12
  refine lv_tableOut (tgt := 153) F.1 F.2.1 dX7_reads_6 (by have g0 : ¬ (r658).toInt = 107 := sw_ne hc0; have g1 : ¬ (r658).toInt = 108 := sw_ne hc1; have g2 : ¬ (r658).toInt = 109 := sw_ne hc2; have g3 : ¬ (r658).toInt = 110 := sw_ne hc3; have g4 : ¬ (r658).toInt = 111 := sw_ne hc4; have g5 : ¬ (r658).toInt = 112 := sw_ne hc5; have g6 : ¬ (r658).toInt = 113 := sw_ne hc6; have g7 : ¬ (r658).toInt = 114 := sw_ne hc7; have g8 : ¬ (r658).toInt = 115 := sw_ne hc8; have g9 : ¬ (r658).toInt = 116 := sw_ne hc9; have g10 : ¬ (r658).toInt = 117 := sw_ne hc10; have g11 : ¬ (r658).toInt = 118 := sw_ne hc11; have g12 : ¬ (r658).toInt = 119 := sw_ne hc12; omega) (by decide) ?_
  exact qX7_reads_153 F hr hlk C zxa_658 za0 za1 za2 za3 za4 r658 hE _ _ hP hS ls (lv_sub hl [2, 0] rfl)
set_option maxRecDepth 100000 in
set_option maxHeartbeats 4000000 in
theorem qX3_countsTogether_4 {p : Program} {l : Launch} {e : Env} {s : State} {m : MethodId} {args : Array Value} {below : List Frame} {meth : Method} {c : Code} {Z : ZC} {HS : Nat → Nat → Nat → Int32} {j : Nat} {X : Nat → Nat → Int32} {zkb : Int32} {zdr : Int32} {zky : Nat → Int32} {zpn : Int32} {zps : Int32} {ztz : Int32} {ztn : Nat → Int64} {zxz : Int32} {zxa : Int32} {zsg : Nat → Int32} {za0 : Int32} {za1 : Int32} {za2 : Int32} {za3 : Int32} {za4 : Int32} {zfr : Nat → Int32} {zcd : Int32} {zgo : Nat → Int32} {ztd : Int32} {ztv : Int32} {zcl : Nat → Int32} {zca : Nat → Int32} {zwa : Nat → Int32} {zpt : Nat → Int32} {zpf : Nat → Int32} {N : Nat} {r' : Int32} (F : CallFix p m c cX3_countsTogether 3 s args bigW RX3) (hr : meth.sig.returnType = (some .int)) (hlk : meth.locks = false) (C : KX Z s) (hj : j < 13) : ∀ n : Nat, ∀ (x1 : Int32) (x2 : Int32), fX3_countsTogether_4 N X n x1 x2 = some r' → ∀ (H : Heap) (locs : List Loc), PX Z (updH HS j X) zkb zdr zky zpn zps ztz ztn zxz zxa zsg za0 za1 za2 za3 za4 zfr zcd zgo ztd ztv zcl zca zwa zpt zpf H → va_S (AX Z) s.heap H locs → ∀ ls : Array Slot, lv_has ls 3 [(0, .ref (hA Z j 0)), (1, .int x1), (2, .int x2)] → W p l e (rmk 1 21) s m args below meth c H locs 0 0 (MQ below (Qi (KX Z) (AX Z) (PX Z (updH HS j X) zkb zdr zky zpn zps ztz ztn zxz zxa zsg za0 za1 za2 za3 za4 zfr zcd zgo ztd ztv zcl zca zwa zpt zpf) r') args s 0 0 (AX Z)) (F0 m 4 ls []) := by
  intro n
  induction n with
  | zero => intro x1 x2 hE; cases hE
  | succ n h4 =>
    intro x1 x2 hE H locs hP hS ls hl
    have hE : fX3_countsTogether_4b N X (fX3_countsTogether_4 N X n) x1 x2 = some r' := hE
    refine lv_iload_n F.1 F.2.1 dX3_countsTogether_4 rfl (lv_at hl 2 rfl) ?_
    refine lv_bipush (v := 24) F.1 F.2.1 dX3_countsTogether_5 (by decide) ?_
    refine lv_icmp_ge (tgt := 34) F.1 F.2.1 dX3_countsTogether_7 (by decide) (fun hc => ?_) (fun hc => ?_)
    · have hE := ifp hE hc
      refine lv_iload_n F.1 F.2.1 dX3_countsTogether_34 rfl (lv_at hl 1 rfl) ?_
      obtain rfl := Option.some.inj hE
      exact ret_i F hr hlk hP hS dX3_countsTogether_35
    · have hE := ifn hE hc
      refine lv_iload_n F.1 F.2.1 dX3_countsTogether_10 rfl (lv_at hl 1 rfl) ?_
      refine lv_aload_n F.1 F.2.1 dX3_countsTogether_11 rfl (lv_at hl 0 rfl) ?_
      refine gX3_57 F C hP hj (updH_at _ _ _) dX3_countsTogether_12 ?_
      refine lv_iload_n F.1 F.2.1 dX3_countsTogether_15 rfl (lv_at hl 2 rfl) ?_
      obtain ⟨r749, hc, hE⟩ := bnd1_some hE
      refine aft_i (run_SN (rest := [.int x1]) F (kX11_bit hc) (okX Z) C hS (C.2.2 _ _ mlX3_86 rfl) lkX3_86 ⟨Nat.le_of_ble_eq_true rfl, Nat.le_of_ble_eq_true rfl⟩ hP rfl hl.1 rfl (lv_room (Nat.le_of_ble_eq_true rfl)) dX3_countsTogether_16 ⟨Nat.zero_le _, Nat.zero_le _⟩) hS (fun H locs hP hS => ?_)
      refine lv_aload_n F.1 F.2.1 dX3_countsTogether_19 rfl (lv_at hl 0 rfl) ?_
      refine gX3_25 F C hP hj (updH_at _ _ _) dX3_countsTogether_20 ?_
      refine lv_iload_n F.1 F.2.1 dX3_countsTogether_23 rfl (lv_at hl 2 rfl) ?_
      obtain ⟨hi, hE⟩ := grd_some hE
      refine ah4 F C hP hj (updH_at _ _ _) hi dX3_countsTogether_24 ?_
      refine lv_imul F.1 F.2.1 dX3_countsTogether_25 ?_
      refine lv_iadd F.1 F.2.1 dX3_countsTogether_26 ?_
      obtain ⟨v_750, ev_750, hE⟩ := lt_some hE
      refine lv_seti ev_750 ?_
      refine lv_istore_n (lv' := [(1, .int v_750), (0, .ref (hA Z j 0)), (2, .int x2)]) F.1 F.2.1 dX3_countsTogether_27 rfl hl (by decide) rfl (fun ls hl => ?_)
      refine lv_iinc (v := x2 + 1) (lv' := [(2, .int (x2 + 1)), (1, .int v_750), (0, .ref (hA Z j 0))]) F.1 F.2.1 dX3_countsTogether_28 hl (k := 2) rfl rfl (by decide) rfl (fun ls hl => ?_)
      refine lv_goto (tgt := 4) F.1 F.2.1 dX3_countsTogether_31 (by decide) ?_
      exact h4 v_750 (x2 + 1) hE _ _ hP hS ls (lv_sub hl [2, 1, 0] rfl)
set_option maxRecDepth 100000 in
set_option maxHeartbeats 4000000 in
theorem kX3_countsTogether {l : Launch} {Z : ZC} {HS : Nat → Nat → Nat → Int32} {j : Nat} {X : Nat → Nat → Int32} {zkb : Int32} {zdr : Int32} {zky : Nat → Int32} {zpn : Int32} {zps : Int32} {ztz : Int32} {ztn : Nat → Int64} {zxz : Int32} {zxa : Int32} {zsg : Nat → Int32} {za0 : Int32} {za1 : Int32} {za2 : Int32} {za3 : Int32} {za4 : Int32} {zfr : Nat → Int32} {zcd : Int32} {zgo : Nat → Int32} {ztd : Int32} {ztv : Int32} {zcl : Nat → Int32} {zca : Nat → Int32} {zwa : Nat → Int32} {zpt : Nat → Int32} {zpf : Nat → Int32} {N : Nat} {r' : Int32} (hj : j < 13) (hX : HS j = X) (hE : fX3_countsTogether N X = some r') : Mg l yX3_countsTogether cX3_countsTogether 3 (some .int) (rmk 1 21) (KX Z) (AX Z) [.ref (hA Z j 0)] (PX Z HS zkb zdr zky zpn zps ztz ztn zxz zxa zsg za0 za1 za2 za3 za4 zfr zcd zgo ztd ztv zcl zca zwa zpt zpf) (Qi (KX Z) (AX Z) (PX Z HS zkb zdr zky zpn zps ztz ztn zxz zxa zsg za0 za1 za2 za3 za4 zfr zcd zgo ztd ztv zcl zca zwa zpt zpf) r') := by
  rw [← updH_eq hX]
  refine Mg.start (lv := [(0, .ref (hA Z j 0))]) (by decide) rfl (Nat.le_of_ble_eq_true rfl) rfl ?_
  intro p e s m below meth c F hr hlk C hP ls hl
  have hS : va_S (AX Z) s.heap s.heap [] := va_S.rf
  unfold fX3_countsTogether at hE
  refine lv_iconst (v := 0) F.1 F.2.1 dX3_countsTogether_0 (by decide) ?_
  refine lv_istore_n (lv' := [(1, .int 0), (0, .ref (hA Z j 0))]) F.1 F.2.1 dX3_countsTogether_1 rfl hl (by decide) rfl (fun ls hl => ?_)
  refine lv_iconst (v := 0) F.1 F.2.1 dX3_countsTogether_2 (by decide) ?_
  refine lv_istore_n (lv' := [(2, .int 0), (1, .int 0), (0, .ref (hA Z j 0))]) F.1 F.2.1 dX3_countsTogether_3 rfl hl (by decide) rfl (fun ls hl => ?_)
  exact qX3_countsTogether_4 F hr hlk C hj N 0 0 hE _ _ hP hS ls (lv_sub hl [2, 1, 0] rfl)
set_option maxRecDepth 100000 in
set_option maxHeartbeats 4000000 in
theorem kX3_rootAt {l : Launch} {Z : ZC} {HS : Nat → Nat → Nat → Int32} {j : Nat} {X : Nat → Nat → Int32} {zkb : Int32} {zdr : Int32} {zky : Nat → Int32} {zpn : Int32} {zps : Int32} {ztz : Int32} {ztn : Nat → Int64} {zxz : Int32} {zxa : Int32} {zsg : Nat → Int32} {za0 : Int32} {za1 : Int32} {za2 : Int32} {za3 : Int32} {za4 : Int32} {zfr : Nat → Int32} {zcd : Int32} {zgo : Nat → Int32} {ztd : Int32} {ztv : Int32} {zcl : Nat → Int32} {zca : Nat → Int32} {zwa : Nat → Int32} {zpt : Nat → Int32} {zpf : Nat → Int32} {p1 : Int32} {r' : Int32} (hj : j < 13) (hX : HS j = X) (hE : fX3_rootAt X p1 = some r') : Mg l yX3_rootAt cX3_rootAt 2 (some .int) (rmk 0 0) (KX Z) (AX Z) [.ref (hA Z j 0), .int p1] (PX Z HS zkb zdr zky zpn zps ztz ztn zxz zxa zsg za0 za1 za2 za3 za4 zfr zcd zgo ztd ztv zcl zca zwa zpt zpf) (Qi (KX Z) (AX Z) (PX Z HS zkb zdr zky zpn zps ztz ztn zxz zxa zsg za0 za1 za2 za3 za4 zfr zcd zgo ztd ztv zcl zca zwa zpt zpf) r') := by
  rw [← updH_eq hX]
  refine Mg.start (lv := [(0, .ref (hA Z j 0)), (1, .int p1)]) (by decide) rfl (Nat.le_of_ble_eq_true rfl) rfl ?_
  intro p e s m below meth c F hr hlk C hP ls hl
  have hS : va_S (AX Z) s.heap s.heap [] := va_S.rf
  unfold fX3_rootAt at hE
  refine lv_iload_n F.1 F.2.1 dX3_rootAt_0 rfl (lv_at hl 1 rfl) ?_
  refine lv_if_lt (tgt := 19) F.1 F.2.1 dX3_rootAt_1 (by decide) (fun hc => ?_) (fun hc => ?_)
  · have hE := ifp hE hc
    refine lv_iconst (v := (-1)) F.1 F.2.1 dX3_rootAt_19 (by decide) ?_
    obtain rfl := Option.some.inj hE
    exact ret_i F hr hlk hP hS dX3_rootAt_20
  · have hE := ifn hE hc
    refine lv_iload_n F.1 F.2.1 dX3_rootAt_4 rfl (lv_at hl 1 rfl) ?_
    refine lv_bipush (v := 6) F.1 F.2.1 dX3_rootAt_5 (by decide) ?_
    refine lv_icmp_ge (tgt := 19) F.1 F.2.1 dX3_rootAt_7 (by decide) (fun hc => ?_) (fun hc => ?_)
    · have hE := ifp hE hc
      refine lv_iconst (v := (-1)) F.1 F.2.1 dX3_rootAt_19 (by decide) ?_
      obtain rfl := Option.some.inj hE
      exact ret_i F hr hlk hP hS dX3_rootAt_20
    · have hE := ifn hE hc
      refine lv_aload_n F.1 F.2.1 dX3_rootAt_10 rfl (lv_at hl 0 rfl) ?_
      refine gX3_31 F C hP hj (updH_at _ _ _) dX3_rootAt_11 ?_
      refine lv_iload_n F.1 F.2.1 dX3_rootAt_14 rfl (lv_at hl 1 rfl) ?_
      obtain ⟨hi, hE⟩ := grd_some hE
      refine ah6 F C hP hj (updH_at _ _ _) hi dX3_rootAt_15 ?_
      refine lv_goto (tgt := 20) F.1 F.2.1 dX3_rootAt_16 (by decide) ?_
      obtain rfl := Option.some.inj hE
      exact ret_i F hr hlk hP hS dX3_rootAt_20
set_option maxRecDepth 100000 in
set_option maxHeartbeats 4000000 in
theorem kX4_has {l : Launch} {Z : ZC} {HS : Nat → Nat → Nat → Int32} {j : Nat} {X : Nat → Nat → Int32} {zkb : Int32} {zdr : Int32} {zky : Nat → Int32} {zpn : Int32} {zps : Int32} {ztz : Int32} {ztn : Nat → Int64} {zxz : Int32} {zxa : Int32} {zsg : Nat → Int32} {za0 : Int32} {za1 : Int32} {za2 : Int32} {za3 : Int32} {za4 : Int32} {zfr : Nat → Int32} {zcd : Int32} {zgo : Nat → Int32} {ztd : Int32} {ztv : Int32} {zcl : Nat → Int32} {zca : Nat → Int32} {zwa : Nat → Int32} {zpt : Nat → Int32} {zpf : Nat → Int32} {p1 : Int32} {r' : Int32} (hj : j < 13) (hX : HS j = X) (hE : fX4_has X p1 = some r') : Mg l yX4_has cX4_has 2 (some .boolean) (rmk 0 0) (KX Z) (AX Z) [.ref (hA Z j 10), .int p1] (PX Z HS zkb zdr zky zpn zps ztz ztn zxz zxa zsg za0 za1 za2 za3 za4 zfr zcd zgo ztd ztv zcl zca zwa zpt zpf) (Qi (KX Z) (AX Z) (PX Z HS zkb zdr zky zpn zps ztz ztn zxz zxa zsg za0 za1 za2 za3 za4 zfr zcd zgo ztd ztv zcl zca zwa zpt zpf) r') := by
  rw [← updH_eq hX]
  refine Mg.start (lv := [(0, .ref (hA Z j 10)), (1, .int p1)]) (by decide) rfl (Nat.le_of_ble_eq_true rfl) rfl ?_
  intro p e s m below meth c F hr hlk C hP ls hl
  have hS : va_S (AX Z) s.heap s.heap [] := va_S.rf
  unfold fX4_has at hE
  refine lv_iload_n F.1 F.2.1 dX4_has_0 rfl (lv_at hl 1 rfl) ?_
  refine lv_if_lt (tgt := 27) F.1 F.2.1 dX4_has_1 (by decide) (fun hc => ?_) (fun hc => ?_)
  · have hE := ifp hE hc
    refine lv_iconst (v := 0) F.1 F.2.1 dX4_has_27 (by decide) ?_
    obtain rfl := Option.some.inj hE
    exact ret_z F hr rfl hlk hP hS dX4_has_28
  · have hE := ifn hE hc
    refine lv_iload_n F.1 F.2.1 dX4_has_4 rfl (lv_at hl 1 rfl) ?_
    refine lv_aload_n F.1 F.2.1 dX4_has_5 rfl (lv_at hl 0 rfl) ?_
    refine gX4_27 F C hP hj (updH_at _ _ _) dX4_has_6 ?_
    refine lv_icmp_ge (tgt := 27) F.1 F.2.1 dX4_has_9 (by decide) (fun hc => ?_) (fun hc => ?_)
    · have hE := ifp hE hc
      refine lv_iconst (v := 0) F.1 F.2.1 dX4_has_27 (by decide) ?_
      obtain rfl := Option.some.inj hE
      exact ret_z F hr rfl hlk hP hS dX4_has_28
    · have hE := ifn hE hc
      refine lv_iload_n F.1 F.2.1 dX4_has_12 rfl (lv_at hl 1 rfl) ?_
      refine lv_aload_n F.1 F.2.1 dX4_has_13 rfl (lv_at hl 0 rfl) ?_
      refine gX4_27 F C hP hj (updH_at _ _ _) dX4_has_14 ?_
      refine lv_bipush (v := 60) F.1 F.2.1 dX4_has_17 (by decide) ?_
      refine lv_isub F.1 F.2.1 dX4_has_19 ?_
      refine lv_icmp_lt (tgt := 27) F.1 F.2.1 dX4_has_20 (by decide) (fun hc => ?_) (fun hc => ?_)
      · have hE := ifp hE hc
        refine lv_iconst (v := 0) F.1 F.2.1 dX4_has_27 (by decide) ?_
        obtain rfl := Option.some.inj hE
        exact ret_z F hr rfl hlk hP hS dX4_has_28
      · have hE := ifn hE hc
        refine lv_iconst (v := 1) F.1 F.2.1 dX4_has_23 (by decide) ?_
        refine lv_goto (tgt := 28) F.1 F.2.1 dX4_has_24 (by decide) ?_
        obtain rfl := Option.some.inj hE
        exact ret_z F hr rfl hlk hP hS dX4_has_28
set_option maxRecDepth 100000 in
set_option maxHeartbeats 4000000 in
theorem kX4_kindAt {l : Launch} {Z : ZC} {HS : Nat → Nat → Nat → Int32} {j : Nat} {X : Nat → Nat → Int32} {zkb : Int32} {zdr : Int32} {zky : Nat → Int32} {zpn : Int32} {zps : Int32} {ztz : Int32} {ztn : Nat → Int64} {zxz : Int32} {zxa : Int32} {zsg : Nat → Int32} {za0 : Int32} {za1 : Int32} {za2 : Int32} {za3 : Int32} {za4 : Int32} {zfr : Nat → Int32} {zcd : Int32} {zgo : Nat → Int32} {ztd : Int32} {ztv : Int32} {zcl : Nat → Int32} {zca : Nat → Int32} {zwa : Nat → Int32} {zpt : Nat → Int32} {zpf : Nat → Int32} {p1 : Int32} {r' : Int32} (hj : j < 13) (hX : HS j = X) (hE : fX4_kindAt X p1 = some r') : Mg l yX4_kindAt cX4_kindAt 2 (some .int) (rmk 1 21) (KX Z) (AX Z) [.ref (hA Z j 10), .int p1] (PX Z HS zkb zdr zky zpn zps ztz ztn zxz zxa zsg za0 za1 za2 za3 za4 zfr zcd zgo ztd ztv zcl zca zwa zpt zpf) (Qi (KX Z) (AX Z) (PX Z HS zkb zdr zky zpn zps ztz ztn zxz zxa zsg za0 za1 za2 za3 za4 zfr zcd zgo ztd ztv zcl zca zwa zpt zpf) r') := by
  rw [← updH_eq hX]
  refine Mg.start (lv := [(0, .ref (hA Z j 10)), (1, .int p1)]) (by decide) rfl (Nat.le_of_ble_eq_true rfl) rfl ?_
  intro p e s m below meth c F hr hlk C hP ls hl
  have hS : va_S (AX Z) s.heap s.heap [] := va_S.rf
  unfold fX4_kindAt at hE
  refine lv_aload_n F.1 F.2.1 dX4_kindAt_0 rfl (lv_at hl 0 rfl) ?_
  refine lv_iload_n F.1 F.2.1 dX4_kindAt_1 rfl (lv_at hl 1 rfl) ?_
  obtain ⟨r756, hc, hE⟩ := bnd1_some hE
  refine aft_i (run_V (rest := []) F (kX4_has hj (updH_at _ _ _) hc) (okX Z) C hS lkX4_31 ⟨Nat.le_of_ble_eq_true rfl, Nat.le_of_ble_eq_true rfl⟩ (rvh10 C hP hj) hP rfl hl.1 rfl (lv_room (Nat.le_of_ble_eq_true rfl)) dX4_kindAt_2 ⟨Nat.zero_le _, Nat.zero_le _⟩) hS (fun H locs hP hS => ?_)
  refine lv_if_eq (tgt := 20) F.1 F.2.1 dX4_kindAt_5 (by decide) (fun hc => ?_) (fun hc => ?_)
  · have hE := ifp hE hc
    refine lv_iconst (v := (-1)) F.1 F.2.1 dX4_kindAt_20 (by decide) ?_
    obtain rfl := Option.some.inj hE
    exact ret_i F hr hlk hP hS dX4_kindAt_21
  · have hE := ifn hE hc
    refine lv_aload_n F.1 F.2.1 dX4_kindAt_8 rfl (lv_at hl 0 rfl) ?_
    refine gX4_9 F C hP hj (updH_at _ _ _) dX4_kindAt_9 ?_
    refine lv_iload_n F.1 F.2.1 dX4_kindAt_12 rfl (lv_at hl 1 rfl) ?_
    refine lv_bipush (v := 60) F.1 F.2.1 dX4_kindAt_13 (by decide) ?_
    obtain ⟨hi, hE⟩ := grd_some hE
    refine rj_irem F.1 F.2.1 dX4_kindAt_15 (nzb_ne hi) ?_
    obtain ⟨hi, hE⟩ := grd_some hE
    refine ah11 F C hP hj (updH_at _ _ _) hi dX4_kindAt_16 ?_
    refine lv_goto (tgt := 21) F.1 F.2.1 dX4_kindAt_17 (by decide) ?_
    obtain rfl := Option.some.inj hE
    exact ret_i F hr hlk hP hS dX4_kindAt_21
set_option maxRecDepth 100000 in
set_option maxHeartbeats 4000000 in
theorem kX4_objectAt {l : Launch} {Z : ZC} {HS : Nat → Nat → Nat → Int32} {j : Nat} {X : Nat → Nat → Int32} {zkb : Int32} {zdr : Int32} {zky : Nat → Int32} {zpn : Int32} {zps : Int32} {ztz : Int32} {ztn : Nat → Int64} {zxz : Int32} {zxa : Int32} {zsg : Nat → Int32} {za0 : Int32} {za1 : Int32} {za2 : Int32} {za3 : Int32} {za4 : Int32} {zfr : Nat → Int32} {zcd : Int32} {zgo : Nat → Int32} {ztd : Int32} {ztv : Int32} {zcl : Nat → Int32} {zca : Nat → Int32} {zwa : Nat → Int32} {zpt : Nat → Int32} {zpf : Nat → Int32} {p1 : Int32} {r' : Int32} (hj : j < 13) (hX : HS j = X) (hE : fX4_objectAt X p1 = some r') : Mg l yX4_objectAt cX4_objectAt 2 (some .int) (rmk 1 21) (KX Z) (AX Z) [.ref (hA Z j 10), .int p1] (PX Z HS zkb zdr zky zpn zps ztz ztn zxz zxa zsg za0 za1 za2 za3 za4 zfr zcd zgo ztd ztv zcl zca zwa zpt zpf) (Qi (KX Z) (AX Z) (PX Z HS zkb zdr zky zpn zps ztz ztn zxz zxa zsg za0 za1 za2 za3 za4 zfr zcd zgo ztd ztv zcl zca zwa zpt zpf) r') := by
  rw [← updH_eq hX]
  refine Mg.start (lv := [(0, .ref (hA Z j 10)), (1, .int p1)]) (by decide) rfl (Nat.le_of_ble_eq_true rfl) rfl ?_
  intro p e s m below meth c F hr hlk C hP ls hl
  have hS : va_S (AX Z) s.heap s.heap [] := va_S.rf
  unfold fX4_objectAt at hE
  refine lv_aload_n F.1 F.2.1 dX4_objectAt_0 rfl (lv_at hl 0 rfl) ?_
  refine lv_iload_n F.1 F.2.1 dX4_objectAt_1 rfl (lv_at hl 1 rfl) ?_
  obtain ⟨r758, hc, hE⟩ := bnd1_some hE
  refine aft_i (run_V (rest := []) F (kX4_has hj (updH_at _ _ _) hc) (okX Z) C hS lkX4_31 ⟨Nat.le_of_ble_eq_true rfl, Nat.le_of_ble_eq_true rfl⟩ (rvh10 C hP hj) hP rfl hl.1 rfl (lv_room (Nat.le_of_ble_eq_true rfl)) dX4_objectAt_2 ⟨Nat.zero_le _, Nat.zero_le _⟩) hS (fun H locs hP hS => ?_)
  refine lv_if_eq (tgt := 20) F.1 F.2.1 dX4_objectAt_5 (by decide) (fun hc => ?_) (fun hc => ?_)
  · have hE := ifp hE hc
    refine lv_iconst (v := (-1)) F.1 F.2.1 dX4_objectAt_20 (by decide) ?_
    obtain rfl := Option.some.inj hE
    exact ret_i F hr hlk hP hS dX4_objectAt_21
  · have hE := ifn hE hc
    refine lv_aload_n F.1 F.2.1 dX4_objectAt_8 rfl (lv_at hl 0 rfl) ?_
    refine gX4_15 F C hP hj (updH_at _ _ _) dX4_objectAt_9 ?_
    refine lv_iload_n F.1 F.2.1 dX4_objectAt_12 rfl (lv_at hl 1 rfl) ?_
    refine lv_bipush (v := 60) F.1 F.2.1 dX4_objectAt_13 (by decide) ?_
    obtain ⟨hi, hE⟩ := grd_some hE
    refine rj_irem F.1 F.2.1 dX4_objectAt_15 (nzb_ne hi) ?_
    obtain ⟨hi, hE⟩ := grd_some hE
    refine ah12 F C hP hj (updH_at _ _ _) hi dX4_objectAt_16 ?_
    refine lv_goto (tgt := 21) F.1 F.2.1 dX4_objectAt_17 (by decide) ?_
    obtain rfl := Option.some.inj hE
    exact ret_i F hr hlk hP hS dX4_objectAt_21
set_option maxRecDepth 100000 in
set_option maxHeartbeats 4000000 in
theorem kX6_state {l : Launch} {Z : ZC} {HS : Nat → Nat → Nat → Int32} {j : Nat} {X : Nat → Nat → Int32} {zkb : Int32} {zdr : Int32} {zky : Nat → Int32} {zpn : Int32} {zps : Int32} {ztz : Int32} {ztn : Nat → Int64} {zxz : Int32} {zxa : Int32} {zsg : Nat → Int32} {za0 : Int32} {za1 : Int32} {za2 : Int32} {za3 : Int32} {za4 : Int32} {zfr : Nat → Int32} {zcd : Int32} {zgo : Nat → Int32} {ztd : Int32} {ztv : Int32} {zcl : Nat → Int32} {zca : Nat → Int32} {zwa : Nat → Int32} {zpt : Nat → Int32} {zpf : Nat → Int32} {p1 : Int32} {r' : Int32} (hj : j < 13) (hX : HS j = X) (hE : fX6_state X p1 = some r') : Mg l yX6_state cX6_state 2 (some .int) (rmk 1 21) (KX Z) (AX Z) [.ref (hA Z j 8), .int p1] (PX Z HS zkb zdr zky zpn zps ztz ztn zxz zxa zsg za0 za1 za2 za3 za4 zfr zcd zgo ztd ztv zcl zca zwa zpt zpf) (Qi (KX Z) (AX Z) (PX Z HS zkb zdr zky zpn zps ztz ztn zxz zxa zsg za0 za1 za2 za3 za4 zfr zcd zgo ztd ztv zcl zca zwa zpt zpf) r') := by
  rw [← updH_eq hX]
  refine Mg.start (lv := [(0, .ref (hA Z j 8)), (1, .int p1)]) (by decide) rfl (Nat.le_of_ble_eq_true rfl) rfl ?_
  intro p e s m below meth c F hr hlk C hP ls hl
  have hS : va_S (AX Z) s.heap s.heap [] := va_S.rf
  unfold fX6_state at hE
  refine lv_aload_n F.1 F.2.1 dX6_state_0 rfl (lv_at hl 0 rfl) ?_
  refine gX6_25 F C hP hj (updH_at _ _ _) dX6_state_1 ?_
  refine lv_iload_n F.1 F.2.1 dX6_state_4 rfl (lv_at hl 1 rfl) ?_
  obtain ⟨r761, hc, hE⟩ := bnd1_some hE
  refine aft_i (run_SN (rest := []) F (kX11_bit hc) (okX Z) C hS (C.2.2 _ _ mlX6_31 rfl) lkX6_31 ⟨Nat.le_of_ble_eq_true rfl, Nat.le_of_ble_eq_true rfl⟩ hP rfl hl.1 rfl (lv_room (Nat.le_of_ble_eq_true rfl)) dX6_state_5 ⟨Nat.zero_le _, Nat.zero_le _⟩) hS (fun H locs hP hS => ?_)
  refine lv_if_ne (tgt := 13) F.1 F.2.1 dX6_state_8 (by decide) (fun hc => ?_) (fun hc => ?_)
  · have hE := ifn hE hc
    refine lv_aload_n F.1 F.2.1 dX6_state_13 rfl (lv_at hl 0 rfl) ?_
    refine gX6_28 F C hP hj (updH_at _ _ _) dX6_state_14 ?_
    refine lv_iload_n F.1 F.2.1 dX6_state_17 rfl (lv_at hl 1 rfl) ?_
    obtain ⟨r762, hc, hE⟩ := bnd1_some hE
    refine aft_i (run_SN (rest := []) F (kX11_bit hc) (okX Z) C hS (C.2.2 _ _ mlX6_31 rfl) lkX6_31 ⟨Nat.le_of_ble_eq_true rfl, Nat.le_of_ble_eq_true rfl⟩ hP rfl hl.1 rfl (lv_room (Nat.le_of_ble_eq_true rfl)) dX6_state_18 ⟨Nat.zero_le _, Nat.zero_le _⟩) hS (fun H locs hP hS => ?_)
    refine lv_iconst (v := 1) F.1 F.2.1 dX6_state_21 (by decide) ?_
    refine lv_icmp_ne (tgt := 29) F.1 F.2.1 dX6_state_22 (by decide) (fun hc => ?_) (fun hc => ?_)
    · have hE := ifn hE hc
      refine lv_iconst (v := 2) F.1 F.2.1 dX6_state_29 (by decide) ?_
      obtain rfl := Option.some.inj hE
      exact ret_i F hr hlk hP hS dX6_state_30
    · have hE := ifp hE hc
      refine lv_iconst (v := 1) F.1 F.2.1 dX6_state_25 (by decide) ?_
      refine lv_goto (tgt := 30) F.1 F.2.1 dX6_state_26 (by decide) ?_
      obtain rfl := Option.some.inj hE
      exact ret_i F hr hlk hP hS dX6_state_30
  · have hE := ifp hE hc
    refine lv_iconst (v := 0) F.1 F.2.1 dX6_state_11 (by decide) ?_
    obtain rfl := Option.some.inj hE
    exact ret_i F hr hlk hP hS dX6_state_12
