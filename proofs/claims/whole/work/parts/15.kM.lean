set_option maxRecDepth 100000 in
set_option maxHeartbeats 4000000 in
theorem kX12_thrown {l : Launch} {Z : ZC} {mth : Int32} {mto : Int32} {mrw : Nat → Int64} {mta : Nat → Int32} {mtp : Int32} {mat : Int32} {mtt : Int32} {mme : Nat → Int32} {mun : Int32} {mde : Int32} {mco : Nat → Int32} {mcn : Nat → Int32} {mvi : Int32} {men : Int32} {mfa : Nat → Int32} {mac : Nat → Int32} {mfi : Nat → Int32} {mse : Nat → Int32} {mtd : Nat → Int32} {mra : Int32} {mkp : Nat → Int32} {r' : Int32} (hE : fX12_thrown mth = some r') : Mg l yX12_thrown cX12_thrown 1 (some .int) (rmk 0 0) (KM Z) (AM Z) [.ref (mA Z 0)] (PM Z mth mto mrw mta mtp mat mtt mme mun mde mco mcn mvi men mfa mac mfi mse mtd mra mkp) (Qi (KM Z) (AM Z) (PM Z mth mto mrw mta mtp mat mtt mme mun mde mco mcn mvi men mfa mac mfi mse mtd mra mkp) r') := by
  refine Mg.start (lv := [(0, .ref (mA Z 0))]) (by decide) rfl (Nat.le_of_ble_eq_true rfl) rfl ?_
  intro p e s m below meth c F hr hlk C hP ls hl
  have hS : va_S (AM Z) s.heap s.heap [] := va_S.rf
  unfold fX12_thrown at hE
  refine lv_aload_n F.1 F.2.1 dX12_thrown_0 rfl (lv_at hl 0 rfl) ?_
  refine gX12_1 F C hP dX12_thrown_1 ?_
  obtain rfl := Option.some.inj hE
  exact ret_i F hr hlk hP hS dX12_thrown_4
set_option maxRecDepth 100000 in
set_option maxHeartbeats 4000000 in
theorem kX12_in {l : Launch} {Z : ZC} {mth : Int32} {mto : Int32} {mrw : Nat → Int64} {mta : Nat → Int32} {mtp : Int32} {mat : Int32} {mtt : Int32} {mme : Nat → Int32} {mun : Int32} {mde : Int32} {mco : Nat → Int32} {mcn : Nat → Int32} {mvi : Int32} {men : Int32} {mfa : Nat → Int32} {mac : Nat → Int32} {mfi : Nat → Int32} {mse : Nat → Int32} {mtd : Nat → Int32} {mra : Int32} {mkp : Nat → Int32} {p0 : Int64} {p2 : Int64} {p4 : Int64} {r' : Int32} (hE : fX12_in p0 p2 p4 = some r') : Mg l yX12_in cX12_in 6 (some .boolean) (rmk 0 0) (KM Z) (AM Z) [.long p0, .long p2, .long p4] (PM Z mth mto mrw mta mtp mat mtt mme mun mde mco mcn mvi men mfa mac mfi mse mtd mra mkp) (Qi (KM Z) (AM Z) (PM Z mth mto mrw mta mtp mat mtt mme mun mde mco mcn mvi men mfa mac mfi mse mtd mra mkp) r') := by
  refine Mg.start (lv := [(0, .long p0), (2, .long p2), (4, .long p4)]) (by decide) rfl (Nat.le_of_ble_eq_true rfl) rfl ?_
  intro p e s m below meth c F hr hlk C hP ls hl
  have hS : va_S (AM Z) s.heap s.heap [] := va_S.rf
  unfold fX12_in at hE
  refine lv_lload_n F.1 F.2.1 dX12_in_0 rfl (lv_at hl 0 rfl) ?_
  refine lv_lload_n F.1 F.2.1 dX12_in_1 rfl (lv_at hl 1 rfl) ?_
  refine W.lcmp F.1 F.2.1 dX12_in_2 ?_
  refine lv_if_lt (tgt := 17) F.1 F.2.1 dX12_in_3 (by decide) (fun hc => ?_) (fun hc => ?_)
  · have hE := ifp hE hc
    refine lv_iconst (v := 0) F.1 F.2.1 dX12_in_17 (by decide) ?_
    obtain rfl := Option.some.inj hE
    exact ret_z F hr rfl hlk hP hS dX12_in_18
  · have hE := ifn hE hc
    refine lv_lload_n F.1 F.2.1 dX12_in_6 rfl (lv_at hl 0 rfl) ?_
    refine lv_lload F.1 F.2.1 dX12_in_7 (lv_at hl 2 rfl) ?_
    refine W.lcmp F.1 F.2.1 dX12_in_9 ?_
    refine lv_if_gt (tgt := 17) F.1 F.2.1 dX12_in_10 (by decide) (fun hc => ?_) (fun hc => ?_)
    · have hE := ifp hE hc
      refine lv_iconst (v := 0) F.1 F.2.1 dX12_in_17 (by decide) ?_
      obtain rfl := Option.some.inj hE
      exact ret_z F hr rfl hlk hP hS dX12_in_18
    · have hE := ifn hE hc
      refine lv_iconst (v := 1) F.1 F.2.1 dX12_in_13 (by decide) ?_
      refine lv_goto (tgt := 18) F.1 F.2.1 dX12_in_14 (by decide) ?_
      obtain rfl := Option.some.inj hE
      exact ret_z F hr rfl hlk hP hS dX12_in_18
set_option maxRecDepth 100000 in
set_option maxHeartbeats 4000000 in
theorem kX12_flag {l : Launch} {Z : ZC} {mth : Int32} {mto : Int32} {mrw : Nat → Int64} {mta : Nat → Int32} {mtp : Int32} {mat : Int32} {mtt : Int32} {mme : Nat → Int32} {mun : Int32} {mde : Int32} {mco : Nat → Int32} {mcn : Nat → Int32} {mvi : Int32} {men : Int32} {mfa : Nat → Int32} {mac : Nat → Int32} {mfi : Nat → Int32} {mse : Nat → Int32} {mtd : Nat → Int32} {mra : Int32} {mkp : Nat → Int32} {p0 : Int32} {r' : Int32} (hE : fX12_flag p0 = some r') : Mg l yX12_flag cX12_flag 1 (some .int) (rmk 0 0) (KM Z) (AM Z) [.int p0] (PM Z mth mto mrw mta mtp mat mtt mme mun mde mco mcn mvi men mfa mac mfi mse mtd mra mkp) (Qi (KM Z) (AM Z) (PM Z mth mto mrw mta mtp mat mtt mme mun mde mco mcn mvi men mfa mac mfi mse mtd mra mkp) r') := by
  refine Mg.start (lv := [(0, .int p0)]) (by decide) rfl (Nat.le_of_ble_eq_true rfl) rfl ?_
  intro p e s m below meth c F hr hlk C hP ls hl
  have hS : va_S (AM Z) s.heap s.heap [] := va_S.rf
  unfold fX12_flag at hE
  refine lv_iload_n F.1 F.2.1 dX12_flag_0 rfl (lv_at hl 0 rfl) ?_
  refine lv_if_eq (tgt := 8) F.1 F.2.1 dX12_flag_1 (by decide) (fun hc => ?_) (fun hc => ?_)
  · have hE := ifp hE hc
    refine lv_iconst (v := 0) F.1 F.2.1 dX12_flag_8 (by decide) ?_
    obtain rfl := Option.some.inj hE
    exact ret_i F hr hlk hP hS dX12_flag_9
  · have hE := ifn hE hc
    refine lv_iconst (v := 1) F.1 F.2.1 dX12_flag_4 (by decide) ?_
    refine lv_goto (tgt := 9) F.1 F.2.1 dX12_flag_5 (by decide) ?_
    obtain rfl := Option.some.inj hE
    exact ret_i F hr hlk hP hS dX12_flag_9
set_option maxRecDepth 100000 in
set_option maxHeartbeats 4000000 in
theorem kX12_has {l : Launch} {Z : ZC} {mth : Int32} {mto : Int32} {mrw : Nat → Int64} {mta : Nat → Int32} {mtp : Int32} {mat : Int32} {mtt : Int32} {mme : Nat → Int32} {mun : Int32} {mde : Int32} {mco : Nat → Int32} {mcn : Nat → Int32} {mvi : Int32} {men : Int32} {mfa : Nat → Int32} {mac : Nat → Int32} {mfi : Nat → Int32} {mse : Nat → Int32} {mtd : Nat → Int32} {mra : Int32} {mkp : Nat → Int32} {p0 : Int32} {p1 : Int32} {r' : Int32} (hE : fX12_has p0 p1 = some r') : Mg l yX12_has cX12_has 2 (some .boolean) (rmk 0 0) (KM Z) (AM Z) [.int p0, .int p1] (PM Z mth mto mrw mta mtp mat mtt mme mun mde mco mcn mvi men mfa mac mfi mse mtd mra mkp) (Qi (KM Z) (AM Z) (PM Z mth mto mrw mta mtp mat mtt mme mun mde mco mcn mvi men mfa mac mfi mse mtd mra mkp) r') := by
  refine Mg.start (lv := [(0, .int p0), (1, .int p1)]) (by decide) rfl (Nat.le_of_ble_eq_true rfl) rfl ?_
  intro p e s m below meth c F hr hlk C hP ls hl
  have hS : va_S (AM Z) s.heap s.heap [] := va_S.rf
  unfold fX12_has at hE
  refine lv_iload_n F.1 F.2.1 dX12_has_0 rfl (lv_at hl 0 rfl) ?_
  refine lv_iload_n F.1 F.2.1 dX12_has_1 rfl (lv_at hl 1 rfl) ?_
  refine rj_ishr F.1 F.2.1 dX12_has_2 ?_
  refine lv_iconst (v := 1) F.1 F.2.1 dX12_has_3 (by decide) ?_
  refine lv_iand F.1 F.2.1 dX12_has_4 ?_
  refine lv_iconst (v := 1) F.1 F.2.1 dX12_has_5 (by decide) ?_
  refine lv_icmp_ne (tgt := 13) F.1 F.2.1 dX12_has_6 (by decide) (fun hc => ?_) (fun hc => ?_)
  · have hE := ifn hE hc
    refine lv_iconst (v := 0) F.1 F.2.1 dX12_has_13 (by decide) ?_
    obtain rfl := Option.some.inj hE
    exact ret_z F hr rfl hlk hP hS dX12_has_14
  · have hE := ifp hE hc
    refine lv_iconst (v := 1) F.1 F.2.1 dX12_has_9 (by decide) ?_
    refine lv_goto (tgt := 14) F.1 F.2.1 dX12_has_10 (by decide) ?_
    obtain rfl := Option.some.inj hE
    exact ret_z F hr rfl hlk hP hS dX12_has_14
set_option maxRecDepth 100000 in
set_option maxHeartbeats 4000000 in
theorem qX12_sizeOf_4 {p : Program} {l : Launch} {e : Env} {s : State} {m : MethodId} {args : Array Value} {below : List Frame} {meth : Method} {c : Code} {Z : ZC} {mth : Int32} {mto : Int32} {mrw : Nat → Int64} {mta : Nat → Int32} {mtp : Int32} {mat : Int32} {mtt : Int32} {mme : Nat → Int32} {mun : Int32} {mde : Int32} {mco : Nat → Int32} {mcn : Nat → Int32} {mvi : Int32} {men : Int32} {mfa : Nat → Int32} {mac : Nat → Int32} {mfi : Nat → Int32} {mse : Nat → Int32} {mtd : Nat → Int32} {mra : Int32} {mkp : Nat → Int32} {N : Nat} {p0 : Int32} {r' : Int32} (F : CallFix p m c cX12_sizeOf 3 s args bigW RX12) (hr : meth.sig.returnType = (some .int)) (hlk : meth.locks = false) (C : KM Z s) : ∀ n : Nat, ∀ (x1 : Int32) (x2 : Int32), fX12_sizeOf_4 N p0 n x1 x2 = some r' → ∀ (H : Heap) (locs : List Loc), PM Z mth mto mrw mta mtp mat mtt mme mun mde mco mcn mvi men mfa mac mfi mse mtd mra mkp H → va_S (AM Z) s.heap H locs → ∀ ls : Array Slot, lv_has ls 3 [(1, .int x1), (2, .int x2)] → W p l e (rmk 0 0) s m args below meth c H locs 0 0 (MQ below (Qi (KM Z) (AM Z) (PM Z mth mto mrw mta mtp mat mtt mme mun mde mco mcn mvi men mfa mac mfi mse mtd mra mkp) r') args s 0 0 (AM Z)) (F0 m 4 ls []) := by
  intro n
  induction n with
  | zero => intro x1 x2 hE; cases hE
  | succ n h4 =>
    intro x1 x2 hE H locs hP hS ls hl
    have hE : fX12_sizeOf_4b N p0 (fX12_sizeOf_4 N p0 n) x1 x2 = some r' := hE
    refine lv_iload_n F.1 F.2.1 dX12_sizeOf_4 rfl (lv_at hl 1 rfl) ?_
    refine lv_if_eq (tgt := 20) F.1 F.2.1 dX12_sizeOf_5 (by decide) (fun hc => ?_) (fun hc => ?_)
    · have hE := ifp hE hc
      refine lv_iload_n F.1 F.2.1 dX12_sizeOf_20 rfl (lv_at hl 0 rfl) ?_
      obtain rfl := Option.some.inj hE
      exact ret_i F hr hlk hP hS dX12_sizeOf_21
    · have hE := ifn hE hc
      refine lv_iinc (v := x1 + 1) (lv' := [(1, .int (x1 + 1)), (2, .int x2)]) F.1 F.2.1 dX12_sizeOf_8 hl (k := 0) rfl rfl (by decide) rfl (fun ls hl => ?_)
      refine lv_iload_n F.1 F.2.1 dX12_sizeOf_11 rfl (lv_at hl 1 rfl) ?_
      refine lv_iload_n F.1 F.2.1 dX12_sizeOf_12 rfl (lv_at hl 1 rfl) ?_
      refine lv_iconst (v := 1) F.1 F.2.1 dX12_sizeOf_13 (by decide) ?_
      refine lv_isub F.1 F.2.1 dX12_sizeOf_14 ?_
      refine lv_iand F.1 F.2.1 dX12_sizeOf_15 ?_
      refine lv_istore_n (lv' := [(2, .int (x2 &&& (x2 - 1))), (1, .int (x1 + 1))]) F.1 F.2.1 dX12_sizeOf_16 rfl hl (by decide) rfl (fun ls hl => ?_)
      refine lv_goto (tgt := 4) F.1 F.2.1 dX12_sizeOf_17 (by decide) ?_
      exact h4 (x1 + 1) (x2 &&& (x2 - 1)) hE _ _ hP hS ls (lv_sub hl [1, 0] rfl)
set_option maxRecDepth 100000 in
set_option maxHeartbeats 4000000 in
theorem kX12_sizeOf {l : Launch} {Z : ZC} {mth : Int32} {mto : Int32} {mrw : Nat → Int64} {mta : Nat → Int32} {mtp : Int32} {mat : Int32} {mtt : Int32} {mme : Nat → Int32} {mun : Int32} {mde : Int32} {mco : Nat → Int32} {mcn : Nat → Int32} {mvi : Int32} {men : Int32} {mfa : Nat → Int32} {mac : Nat → Int32} {mfi : Nat → Int32} {mse : Nat → Int32} {mtd : Nat → Int32} {mra : Int32} {mkp : Nat → Int32} {N : Nat} {p0 : Int32} {r' : Int32} (hE : fX12_sizeOf N p0 = some r') : Mg l yX12_sizeOf cX12_sizeOf 3 (some .int) (rmk 0 0) (KM Z) (AM Z) [.int p0] (PM Z mth mto mrw mta mtp mat mtt mme mun mde mco mcn mvi men mfa mac mfi mse mtd mra mkp) (Qi (KM Z) (AM Z) (PM Z mth mto mrw mta mtp mat mtt mme mun mde mco mcn mvi men mfa mac mfi mse mtd mra mkp) r') := by
  refine Mg.start (lv := [(0, .int p0)]) (by decide) rfl (Nat.le_of_ble_eq_true rfl) rfl ?_
  intro p e s m below meth c F hr hlk C hP ls hl
  have hS : va_S (AM Z) s.heap s.heap [] := va_S.rf
  unfold fX12_sizeOf at hE
  refine lv_iconst (v := 0) F.1 F.2.1 dX12_sizeOf_0 (by decide) ?_
  refine lv_istore_n (lv' := [(1, .int 0), (0, .int p0)]) F.1 F.2.1 dX12_sizeOf_1 rfl hl (by decide) rfl (fun ls hl => ?_)
  refine lv_iload_n F.1 F.2.1 dX12_sizeOf_2 rfl (lv_at hl 1 rfl) ?_
  refine lv_istore_n (lv' := [(2, .int p0), (1, .int 0), (0, .int p0)]) F.1 F.2.1 dX12_sizeOf_3 rfl hl (by decide) rfl (fun ls hl => ?_)
  exact qX12_sizeOf_4 F hr hlk C N 0 p0 hE _ _ hP hS ls (lv_sub hl [1, 0] rfl)
set_option maxRecDepth 100000 in
set_option maxHeartbeats 4000000 in
theorem kX12_enters {l : Launch} {Z : ZC} {mth : Int32} {mto : Int32} {mrw : Nat → Int64} {mta : Nat → Int32} {mtp : Int32} {mat : Int32} {mtt : Int32} {mme : Nat → Int32} {mun : Int32} {mde : Int32} {mco : Nat → Int32} {mcn : Nat → Int32} {mvi : Int32} {men : Int32} {mfa : Nat → Int32} {mac : Nat → Int32} {mfi : Nat → Int32} {mse : Nat → Int32} {mtd : Nat → Int32} {mra : Int32} {mkp : Nat → Int32} {p1 : Int64} {mto' : Int32} {mrw' : Nat → Int64} (hE : fX12_enters mto mrw p1 = some (mto', mrw')) : Mg l yX12_enters cX12_enters 3 none (rmk 0 0) (KM Z) (AM Z) [.ref (mA Z 0), .long p1] (PM Z mth mto mrw mta mtp mat mtt mme mun mde mco mcn mvi men mfa mac mfi mse mtd mra mkp) (Qv (KM Z) (AM Z) (PM Z mth mto' mrw' mta mtp mat mtt mme mun mde mco mcn mvi men mfa mac mfi mse mtd mra mkp)) := by
  refine Mg.start (lv := [(0, .ref (mA Z 0)), (1, .long p1)]) (by decide) rfl (Nat.le_of_ble_eq_true rfl) rfl ?_
  intro p e s m below meth c F hr hlk C hP ls hl
  have hS : va_S (AM Z) s.heap s.heap [] := va_S.rf
  unfold fX12_enters at hE
  refine lv_aload_n F.1 F.2.1 dX12_enters_0 rfl (lv_at hl 0 rfl) ?_
  refine gX12_7 F C hP dX12_enters_1 ?_
  refine lv_aload_n F.1 F.2.1 dX12_enters_4 rfl (lv_at hl 0 rfl) ?_
  refine gX12_11 F C hP dX12_enters_5 ?_
  refine lv_lload_n F.1 F.2.1 dX12_enters_8 rfl (lv_at hl 1 rfl) ?_
  obtain ⟨hi, hE⟩ := grd_some hE
  obtain ⟨mrw_3, emrw_3, hE⟩ := lt_some hE
  refine sm1 F C hP hi hS emrw_3.symm dX12_enters_9 (fun H locs hP hS => ?_)
  refine lv_aload_n F.1 F.2.1 dX12_enters_10 rfl (lv_at hl 0 rfl) ?_
  refine lv_dup F.1 F.2.1 dX12_enters_11 rfl ?_
  refine gX12_11 F C hP dX12_enters_12 ?_
  refine lv_iconst (v := 1) F.1 F.2.1 dX12_enters_15 (by decide) ?_
  refine lv_iadd F.1 F.2.1 dX12_enters_16 ?_
  obtain ⟨mto_4, emto_4, hE⟩ := lt_some hE
  refine pX12_11 F C hP hS emto_4.symm dX12_enters_17 (fun H locs hP hS => ?_)
  have w0 := Option.some.inj hE
  obtain ⟨g0, w1⟩ := Prod.mk.inj w0
  subst g0 w1
  exact ret_v F hr hlk hP hS dX12_enters_20
set_option maxRecDepth 100000 in
set_option maxHeartbeats 4000000 in
theorem qX12_sign_53 {p : Program} {l : Launch} {e : Env} {s : State} {m : MethodId} {args : Array Value} {below : List Frame} {meth : Method} {c : Code} {Z : ZC} {mto : Int32} {mrw : Nat → Int64} {mat : Int32} {mtt : Int32} {mme : Nat → Int32} {mun : Int32} {mde : Int32} {mco : Nat → Int32} {mcn : Nat → Int32} {mvi : Int32} {men : Int32} {mfa : Nat → Int32} {mac : Nat → Int32} {mfi : Nat → Int32} {mse : Nat → Int32} {mtd : Nat → Int32} {mra : Int32} {mkp : Nat → Int32} {N : Nat} {p1 : Int32} {r' : Int32} {mth' : Int32} {mta' : Nat → Int32} {mtp' : Int32} (F : CallFix p m c cX12_sign 3 s args bigW RX12) (hr : meth.sig.returnType = (some .int)) (hlk : meth.locks = false) (C : KM Z s) : ∀ (mth : Int32) (mta : Nat → Int32) (mtp : Int32), fX12_sign_53 N p1 mth mta mtp = some (r', mth', mta', mtp') → ∀ (H : Heap) (locs : List Loc), PM Z mth mto mrw mta mtp mat mtt mme mun mde mco mcn mvi men mfa mac mfi mse mtd mra mkp H → va_S (AM Z) s.heap H locs → ∀ ls : Array Slot, lv_has ls 3 [(0, .ref (mA Z 0))] → W p l e (rmk 0 0) s m args below meth c H locs 0 0 (MQ below (Qi (KM Z) (AM Z) (PM Z mth' mto mrw mta' mtp' mat mtt mme mun mde mco mcn mvi men mfa mac mfi mse mtd mra mkp) r') args s 0 0 (AM Z)) (F0 m 53 ls []) := by
  intro mth mta mtp hE H locs hP hS ls hl
  unfold fX12_sign_53 at hE
  refine lv_aload_n F.1 F.2.1 dX12_sign_53 rfl (lv_at hl 0 rfl) ?_
  refine lv_dup F.1 F.2.1 dX12_sign_54 rfl ?_
  refine gX12_14 F C hP dX12_sign_55 ?_
  refine lv_iconst (v := 4) F.1 F.2.1 dX12_sign_58 (by decide) ?_
  refine lv_iadd F.1 F.2.1 dX12_sign_59 ?_
  obtain ⟨mtp_8, emtp_8, hE⟩ := lt_some hE
  refine pX12_14 F C hP hS emtp_8.symm dX12_sign_60 (fun H locs hP hS => ?_)
  refine lv_aload_n F.1 F.2.1 dX12_sign_63 rfl (lv_at hl 0 rfl) ?_
  refine gX12_14 F C hP dX12_sign_64 ?_
  have w0 := Option.some.inj hE
  obtain ⟨g0, w1⟩ := Prod.mk.inj w0
  obtain ⟨g1, w2⟩ := Prod.mk.inj w1
  obtain ⟨g2, w3⟩ := Prod.mk.inj w2
  subst g0 g1 g2 w3
  exact ret_i F hr hlk hP hS dX12_sign_67
set_option maxRecDepth 100000 in
set_option maxHeartbeats 4000000 in
theorem qX12_sign_18 {p : Program} {l : Launch} {e : Env} {s : State} {m : MethodId} {args : Array Value} {below : List Frame} {meth : Method} {c : Code} {Z : ZC} {mto : Int32} {mrw : Nat → Int64} {mat : Int32} {mtt : Int32} {mme : Nat → Int32} {mun : Int32} {mde : Int32} {mco : Nat → Int32} {mcn : Nat → Int32} {mvi : Int32} {men : Int32} {mfa : Nat → Int32} {mac : Nat → Int32} {mfi : Nat → Int32} {mse : Nat → Int32} {mtd : Nat → Int32} {mra : Int32} {mkp : Nat → Int32} {N : Nat} {p1 : Int32} {r' : Int32} {mth' : Int32} {mta' : Nat → Int32} {mtp' : Int32} (F : CallFix p m c cX12_sign 3 s args bigW RX12) (hr : meth.sig.returnType = (some .int)) (hlk : meth.locks = false) (C : KM Z s) : ∀ n : Nat, ∀ (mth : Int32) (mta : Nat → Int32) (mtp : Int32) (x2 : Int32), fX12_sign_18 N p1 n mth mta mtp x2 = some (r', mth', mta', mtp') → ∀ (H : Heap) (locs : List Loc), PM Z mth mto mrw mta mtp mat mtt mme mun mde mco mcn mvi men mfa mac mfi mse mtd mra mkp H → va_S (AM Z) s.heap H locs → ∀ ls : Array Slot, lv_has ls 3 [(0, .ref (mA Z 0)), (1, .int p1), (2, .int x2)] → W p l e (rmk 0 0) s m args below meth c H locs 0 0 (MQ below (Qi (KM Z) (AM Z) (PM Z mth' mto mrw mta' mtp' mat mtt mme mun mde mco mcn mvi men mfa mac mfi mse mtd mra mkp) r') args s 0 0 (AM Z)) (F0 m 18 ls []) := by
  intro n
  induction n with
  | zero => intro mth mta mtp x2 hE; cases hE
  | succ n h18 =>
    intro mth mta mtp x2 hE H locs hP hS ls hl
    have hE : fX12_sign_18b N p1 (fX12_sign_18 N p1 n) mth mta mtp x2 = some (r', mth', mta', mtp') := hE
    refine lv_iload_n F.1 F.2.1 dX12_sign_18 rfl (lv_at hl 2 rfl) ?_
    refine lv_iconst (v := 4) F.1 F.2.1 dX12_sign_19 (by decide) ?_
    refine lv_icmp_ge (tgt := 53) F.1 F.2.1 dX12_sign_20 (by decide) (fun hc => ?_) (fun hc => ?_)
    · have hE := ifp hE hc
      exact qX12_sign_53 F hr hlk C mth mta mtp hE _ _ hP hS ls (lv_sub hl [0] rfl)
    · have hE := ifn hE hc
      refine lv_aload_n F.1 F.2.1 dX12_sign_23 rfl (lv_at hl 0 rfl) ?_
      refine gX12_17 F C hP dX12_sign_24 ?_
      refine lv_aload_n F.1 F.2.1 dX12_sign_27 rfl (lv_at hl 0 rfl) ?_
      refine gX12_14 F C hP dX12_sign_28 ?_
      refine lv_iload_n F.1 F.2.1 dX12_sign_31 rfl (lv_at hl 2 rfl) ?_
      refine lv_iadd F.1 F.2.1 dX12_sign_32 ?_
      refine lv_iload_n F.1 F.2.1 dX12_sign_33 rfl (lv_at hl 1 rfl) ?_
      refine lv_bipush (v := 24) F.1 F.2.1 dX12_sign_34 (by decide) ?_
      refine lv_bipush (v := 8) F.1 F.2.1 dX12_sign_36 (by decide) ?_
      refine lv_iload_n F.1 F.2.1 dX12_sign_38 rfl (lv_at hl 2 rfl) ?_
      refine lv_imul F.1 F.2.1 dX12_sign_39 ?_
      refine lv_isub F.1 F.2.1 dX12_sign_40 ?_
      refine rj_ishr F.1 F.2.1 dX12_sign_41 ?_
      refine lv_sipush (v := 255) F.1 F.2.1 dX12_sign_42 (by decide) ?_
      refine lv_iand F.1 F.2.1 dX12_sign_45 ?_
      obtain ⟨hi, hE⟩ := grd_some hE
      obtain ⟨mta_7, emta_7, hE⟩ := lt_some hE
      refine sm2 F C hP hi hS emta_7.symm dX12_sign_46 (fun H locs hP hS => ?_)
      refine lv_iinc (v := x2 + 1) (lv' := [(2, .int (x2 + 1)), (0, .ref (mA Z 0)), (1, .int p1)]) F.1 F.2.1 dX12_sign_47 hl (k := 2) rfl rfl (by decide) rfl (fun ls hl => ?_)
      refine lv_goto (tgt := 18) F.1 F.2.1 dX12_sign_50 (by decide) ?_
      exact h18 mth mta_7 mtp (x2 + 1) hE _ _ hP hS ls (lv_sub hl [1, 2, 0] rfl)
set_option maxRecDepth 100000 in
set_option maxHeartbeats 4000000 in
theorem kX12_sign {l : Launch} {Z : ZC} {mth : Int32} {mto : Int32} {mrw : Nat → Int64} {mta : Nat → Int32} {mtp : Int32} {mat : Int32} {mtt : Int32} {mme : Nat → Int32} {mun : Int32} {mde : Int32} {mco : Nat → Int32} {mcn : Nat → Int32} {mvi : Int32} {men : Int32} {mfa : Nat → Int32} {mac : Nat → Int32} {mfi : Nat → Int32} {mse : Nat → Int32} {mtd : Nat → Int32} {mra : Int32} {mkp : Nat → Int32} {N : Nat} {p1 : Int32} {r' : Int32} {mth' : Int32} {mta' : Nat → Int32} {mtp' : Int32} (hE : fX12_sign N mth mta mtp p1 = some (r', mth', mta', mtp')) : Mg l yX12_sign cX12_sign 3 (some .int) (rmk 0 0) (KM Z) (AM Z) [.ref (mA Z 0), .int p1] (PM Z mth mto mrw mta mtp mat mtt mme mun mde mco mcn mvi men mfa mac mfi mse mtd mra mkp) (Qi (KM Z) (AM Z) (PM Z mth' mto mrw mta' mtp' mat mtt mme mun mde mco mcn mvi men mfa mac mfi mse mtd mra mkp) r') := by
  refine Mg.start (lv := [(0, .ref (mA Z 0)), (1, .int p1)]) (by decide) rfl (Nat.le_of_ble_eq_true rfl) rfl ?_
  intro p e s m below meth c F hr hlk C hP ls hl
  have hS : va_S (AM Z) s.heap s.heap [] := va_S.rf
  unfold fX12_sign at hE
  refine lv_aload_n F.1 F.2.1 dX12_sign_0 rfl (lv_at hl 0 rfl) ?_
  refine lv_iconst (v := 0) F.1 F.2.1 dX12_sign_1 (by decide) ?_
  refine pX12_1 F C hP hS rfl dX12_sign_2 (fun H locs hP hS => ?_)
  refine lv_aload_n F.1 F.2.1 dX12_sign_5 rfl (lv_at hl 0 rfl) ?_
  refine gX12_14 F C hP dX12_sign_6 ?_
  refine lv_bipush (v := 76) F.1 F.2.1 dX12_sign_9 (by decide) ?_
  refine lv_icmp_le (tgt := 16) F.1 F.2.1 dX12_sign_11 (by decide) (fun hc => ?_) (fun hc => ?_)
  · have hE := ifp hE hc
    refine lv_iconst (v := 0) F.1 F.2.1 dX12_sign_16 (by decide) ?_
    refine lv_istore_n (lv' := [(2, .int 0), (0, .ref (mA Z 0)), (1, .int p1)]) F.1 F.2.1 dX12_sign_17 rfl hl (by decide) rfl (fun ls hl => ?_)
    exact qX12_sign_18 F hr hlk C N 0 mta mtp 0 hE _ _ hP hS ls (lv_sub hl [1, 2, 0] rfl)
  · have hE := ifn hE hc
    refine lv_iconst (v := (-1)) F.1 F.2.1 dX12_sign_14 (by decide) ?_
    have w0 := Option.some.inj hE
    obtain ⟨g0, w1⟩ := Prod.mk.inj w0
    obtain ⟨g1, w2⟩ := Prod.mk.inj w1
    obtain ⟨g2, w3⟩ := Prod.mk.inj w2
    subst g0 g1 g2 w3
    exact ret_i F hr hlk hP hS dX12_sign_15
set_option maxRecDepth 100000 in
set_option maxHeartbeats 4000000 in
theorem kX12_end {l : Launch} {Z : ZC} {mth : Int32} {mto : Int32} {mrw : Nat → Int64} {mta : Nat → Int32} {mtp : Int32} {mat : Int32} {mtt : Int32} {mme : Nat → Int32} {mun : Int32} {mde : Int32} {mco : Nat → Int32} {mcn : Nat → Int32} {mvi : Int32} {men : Int32} {mfa : Nat → Int32} {mac : Nat → Int32} {mfi : Nat → Int32} {mse : Nat → Int32} {mtd : Nat → Int32} {mra : Int32} {mkp : Nat → Int32} {p1 : Int32} {r' : Int32} {mth' : Int32} {mtp' : Int32} (hE : fX12_end mth mtp p1 = some (r', mth', mtp')) : Mg l yX12_end cX12_end 2 (some .boolean) (rmk 1 25) (KM Z) (AM Z) [.ref (mA Z 0), .int p1] (PM Z mth mto mrw mta mtp mat mtt mme mun mde mco mcn mvi men mfa mac mfi mse mtd mra mkp) (Qi (KM Z) (AM Z) (PM Z mth' mto mrw mta mtp' mat mtt mme mun mde mco mcn mvi men mfa mac mfi mse mtd mra mkp) r') := by
  refine Mg.start (lv := [(0, .ref (mA Z 0)), (1, .int p1)]) (by decide) rfl (Nat.le_of_ble_eq_true rfl) rfl ?_
  intro p e s m below meth c F hr hlk C hP ls hl
  have hS : va_S (AM Z) s.heap s.heap [] := va_S.rf
  unfold fX12_end at hE
  refine lv_aload_n F.1 F.2.1 dX12_end_0 rfl (lv_at hl 0 rfl) ?_
  refine lv_iconst (v := 0) F.1 F.2.1 dX12_end_1 (by decide) ?_
  refine pX12_1 F C hP hS rfl dX12_end_2 (fun H locs hP hS => ?_)
  refine lv_iload_n F.1 F.2.1 dX12_end_5 rfl (lv_at hl 1 rfl) ?_
  refine lv_i2l (v := p1.toInt64) F.1 F.2.1 dX12_end_6 rfl ?_
  refine lv_lconst (v := 0) F.1 F.2.1 dX12_end_7 (by decide) ?_
  refine lv_aload_n F.1 F.2.1 dX12_end_8 rfl (lv_at hl 0 rfl) ?_
  refine gX12_14 F C hP dX12_end_9 ?_
  refine lv_i2l (v := mtp.toInt64) F.1 F.2.1 dX12_end_12 rfl ?_
  obtain ⟨r10, hc, hE⟩ := bnd1_some hE
  refine aft_i (run_S (rest := []) F (kX12_in hc) (okM Z) C hS lkX12_21 ⟨Nat.le_of_ble_eq_true rfl, Nat.le_of_ble_eq_true rfl⟩ hP rfl hl.1 rfl (lv_room (Nat.le_of_ble_eq_true rfl)) dX12_end_13 ⟨Nat.zero_le _, Nat.zero_le _⟩) hS (fun H locs hP hS => ?_)
  refine lv_if_ne (tgt := 21) F.1 F.2.1 dX12_end_16 (by decide) (fun hc => ?_) (fun hc => ?_)
  · have hE := ifn hE hc
    refine lv_aload_n F.1 F.2.1 dX12_end_21 rfl (lv_at hl 0 rfl) ?_
    refine lv_iload_n F.1 F.2.1 dX12_end_22 rfl (lv_at hl 1 rfl) ?_
    refine pX12_14 F C hP hS rfl dX12_end_23 (fun H locs hP hS => ?_)
    refine lv_iconst (v := 1) F.1 F.2.1 dX12_end_26 (by decide) ?_
    have w0 := Option.some.inj hE
    obtain ⟨g0, w1⟩ := Prod.mk.inj w0
    obtain ⟨g1, w2⟩ := Prod.mk.inj w1
    subst g0 g1 w2
    exact ret_z F hr rfl hlk hP hS dX12_end_27
  · have hE := ifp hE hc
    refine lv_iconst (v := 0) F.1 F.2.1 dX12_end_19 (by decide) ?_
    have w0 := Option.some.inj hE
    obtain ⟨g0, w1⟩ := Prod.mk.inj w0
    obtain ⟨g1, w2⟩ := Prod.mk.inj w1
    subst g0 g1 w2
    exact ret_z F hr rfl hlk hP hS dX12_end_20
set_option maxRecDepth 100000 in
set_option maxHeartbeats 4000000 in
theorem qX12_copies_2 {p : Program} {l : Launch} {e : Env} {s : State} {m : MethodId} {args : Array Value} {below : List Frame} {meth : Method} {c : Code} {Z : ZC} {mth : Int32} {mto : Int32} {mrw : Nat → Int64} {mta : Nat → Int32} {mtp : Int32} {mat : Int32} {mtt : Int32} {mun : Int32} {mde : Int32} {mco : Nat → Int32} {mcn : Nat → Int32} {mvi : Int32} {men : Int32} {mfa : Nat → Int32} {mac : Nat → Int32} {mfi : Nat → Int32} {mse : Nat → Int32} {mtd : Nat → Int32} {mra : Int32} {mkp : Nat → Int32} {N : Nat} {p1 : Int32} {p2 : Int32} {mme' : Nat → Int32} (F : CallFix p m c cX12_copies 4 s args bigW RX12) (hr : meth.sig.returnType = none) (hlk : meth.locks = false) (C : KM Z s) : ∀ n : Nat, ∀ (mme : Nat → Int32) (x3 : Int32), fX12_copies_2 N p1 p2 n mme x3 = some mme' → ∀ (H : Heap) (locs : List Loc), PM Z mth mto mrw mta mtp mat mtt mme mun mde mco mcn mvi men mfa mac mfi mse mtd mra mkp H → va_S (AM Z) s.heap H locs → ∀ ls : Array Slot, lv_has ls 4 [(0, .ref (mA Z 0)), (1, .int p1), (2, .int p2), (3, .int x3)] → W p l e (rmk 0 0) s m args below meth c H locs 0 0 (MQ below (Qv (KM Z) (AM Z) (PM Z mth mto mrw mta mtp mat mtt mme' mun mde mco mcn mvi men mfa mac mfi mse mtd mra mkp)) args s 0 0 (AM Z)) (F0 m 2 ls []) := by
  intro n
  induction n with
  | zero => intro mme x3 hE; cases hE
  | succ n h2 =>
    intro mme x3 hE H locs hP hS ls hl
    have hE : fX12_copies_2b N p1 p2 (fX12_copies_2 N p1 p2 n) mme x3 = some mme' := hE
    refine lv_iload_n F.1 F.2.1 dX12_copies_2 rfl (lv_at hl 3 rfl) ?_
    refine lv_sipush (v := 427) F.1 F.2.1 dX12_copies_3 (by decide) ?_
    refine lv_icmp_ge (tgt := 39) F.1 F.2.1 dX12_copies_6 (by decide) (fun hc => ?_) (fun hc => ?_)
    · have hE := ifp hE hc
      obtain rfl := Option.some.inj hE
      exact ret_v F hr hlk hP hS dX12_copies_39
    · have hE := ifn hE hc
      refine lv_aload_n F.1 F.2.1 dX12_copies_9 rfl (lv_at hl 0 rfl) ?_
      refine gX12_53 F C hP dX12_copies_10 ?_
      refine lv_iload_n F.1 F.2.1 dX12_copies_13 rfl (lv_at hl 2 rfl) ?_
      refine lv_sipush (v := 427) F.1 F.2.1 dX12_copies_14 (by decide) ?_
      refine lv_imul F.1 F.2.1 dX12_copies_17 ?_
      refine lv_iload_n F.1 F.2.1 dX12_copies_18 rfl (lv_at hl 3 rfl) ?_
      refine lv_iadd F.1 F.2.1 dX12_copies_19 ?_
      refine lv_aload_n F.1 F.2.1 dX12_copies_20 rfl (lv_at hl 0 rfl) ?_
      refine gX12_53 F C hP dX12_copies_21 ?_
      refine lv_iload_n F.1 F.2.1 dX12_copies_24 rfl (lv_at hl 1 rfl) ?_
      refine lv_sipush (v := 427) F.1 F.2.1 dX12_copies_25 (by decide) ?_
      refine lv_imul F.1 F.2.1 dX12_copies_28 ?_
      refine lv_iload_n F.1 F.2.1 dX12_copies_29 rfl (lv_at hl 3 rfl) ?_
      refine lv_iadd F.1 F.2.1 dX12_copies_30 ?_
      obtain ⟨hi, hE⟩ := grd_some hE
      refine am3 F C hP hi dX12_copies_31 ?_
      obtain ⟨hi, hE⟩ := grd_some hE
      obtain ⟨mme_12, emme_12, hE⟩ := lt_some hE
      refine sm3 F C hP hi hS emme_12.symm dX12_copies_32 (fun H locs hP hS => ?_)
      refine lv_iinc (v := x3 + 1) (lv' := [(3, .int (x3 + 1)), (0, .ref (mA Z 0)), (1, .int p1), (2, .int p2)]) F.1 F.2.1 dX12_copies_33 hl (k := 3) rfl rfl (by decide) rfl (fun ls hl => ?_)
      refine lv_goto (tgt := 2) F.1 F.2.1 dX12_copies_36 (by decide) ?_
      exact h2 mme_12 (x3 + 1) hE _ _ hP hS ls (lv_sub hl [1, 2, 3, 0] rfl)
set_option maxRecDepth 100000 in
set_option maxHeartbeats 4000000 in
theorem kX12_copies {l : Launch} {Z : ZC} {mth : Int32} {mto : Int32} {mrw : Nat → Int64} {mta : Nat → Int32} {mtp : Int32} {mat : Int32} {mtt : Int32} {mme : Nat → Int32} {mun : Int32} {mde : Int32} {mco : Nat → Int32} {mcn : Nat → Int32} {mvi : Int32} {men : Int32} {mfa : Nat → Int32} {mac : Nat → Int32} {mfi : Nat → Int32} {mse : Nat → Int32} {mtd : Nat → Int32} {mra : Int32} {mkp : Nat → Int32} {N : Nat} {p1 : Int32} {p2 : Int32} {mme' : Nat → Int32} (hE : fX12_copies N mme p1 p2 = some mme') : Mg l yX12_copies cX12_copies 4 none (rmk 0 0) (KM Z) (AM Z) [.ref (mA Z 0), .int p1, .int p2] (PM Z mth mto mrw mta mtp mat mtt mme mun mde mco mcn mvi men mfa mac mfi mse mtd mra mkp) (Qv (KM Z) (AM Z) (PM Z mth mto mrw mta mtp mat mtt mme' mun mde mco mcn mvi men mfa mac mfi mse mtd mra mkp)) := by
  refine Mg.start (lv := [(0, .ref (mA Z 0)), (1, .int p1), (2, .int p2)]) (by decide) rfl (Nat.le_of_ble_eq_true rfl) rfl ?_
  intro p e s m below meth c F hr hlk C hP ls hl
  have hS : va_S (AM Z) s.heap s.heap [] := va_S.rf
  unfold fX12_copies at hE
  refine lv_iconst (v := 0) F.1 F.2.1 dX12_copies_0 (by decide) ?_
  refine lv_istore_n (lv' := [(3, .int 0), (0, .ref (mA Z 0)), (1, .int p1), (2, .int p2)]) F.1 F.2.1 dX12_copies_1 rfl hl (by decide) rfl (fun ls hl => ?_)
  exact qX12_copies_2 F hr hlk C N mme 0 hE _ _ hP hS ls (lv_sub hl [1, 2, 3, 0] rfl)
set_option maxRecDepth 100000 in
set_option maxHeartbeats 4000000 in
theorem kX12_tries {l : Launch} {Z : ZC} {mth : Int32} {mto : Int32} {mrw : Nat → Int64} {mta : Nat → Int32} {mtp : Int32} {mat : Int32} {mtt : Int32} {mme : Nat → Int32} {mun : Int32} {mde : Int32} {mco : Nat → Int32} {mcn : Nat → Int32} {mvi : Int32} {men : Int32} {mfa : Nat → Int32} {mac : Nat → Int32} {mfi : Nat → Int32} {mse : Nat → Int32} {mtd : Nat → Int32} {mra : Int32} {mkp : Nat → Int32} {N : Nat} {mme' : Nat → Int32} {mde' : Int32} (hE : fX12_tries N mme mde = some (mme', mde')) : Mg l yX12_tries cX12_tries 1 none (rmk 1 23) (KM Z) (AM Z) [.ref (mA Z 0)] (PM Z mth mto mrw mta mtp mat mtt mme mun mde mco mcn mvi men mfa mac mfi mse mtd mra mkp) (Qv (KM Z) (AM Z) (PM Z mth mto mrw mta mtp mat mtt mme' mun mde' mco mcn mvi men mfa mac mfi mse mtd mra mkp)) := by
  refine Mg.start (lv := [(0, .ref (mA Z 0))]) (by decide) rfl (Nat.le_of_ble_eq_true rfl) rfl ?_
  intro p e s m below meth c F hr hlk C hP ls hl
  have hS : va_S (AM Z) s.heap s.heap [] := va_S.rf
  unfold fX12_tries at hE
  refine lv_aload_n F.1 F.2.1 dX12_tries_0 rfl (lv_at hl 0 rfl) ?_
  refine lv_iconst (v := 0) F.1 F.2.1 dX12_tries_1 (by decide) ?_
  refine lv_iconst (v := 4) F.1 F.2.1 dX12_tries_2 (by decide) ?_
  obtain ⟨mme_14, hc, hE⟩ := bnd1_some hE
  refine aft_v (run_V (rest := []) F (kX12_copies hc) (okM Z) C hS lkX12_81 ⟨Nat.le_of_ble_eq_true rfl, Nat.le_of_ble_eq_true rfl⟩ (rvM C hP) hP rfl hl.1 rfl (lv_room (Nat.le_of_ble_eq_true rfl)) dX12_tries_3 ⟨Nat.zero_le _, Nat.zero_le _⟩) hS (fun H locs hP hS => ?_)
  refine lv_aload_n F.1 F.2.1 dX12_tries_6 rfl (lv_at hl 0 rfl) ?_
  refine lv_sipush (v := 1708) F.1 F.2.1 dX12_tries_7 (by decide) ?_
  refine pX12_85 F C hP hS rfl dX12_tries_10 (fun H locs hP hS => ?_)
  have w0 := Option.some.inj hE
  obtain ⟨g0, w1⟩ := Prod.mk.inj w0
  subst g0 w1
  exact ret_v F hr hlk hP hS dX12_tries_13
set_option maxRecDepth 100000 in
set_option maxHeartbeats 4000000 in
theorem kX12_isBack {l : Launch} {Z : ZC} {mth : Int32} {mto : Int32} {mrw : Nat → Int64} {mta : Nat → Int32} {mtp : Int32} {mat : Int32} {mtt : Int32} {mme : Nat → Int32} {mun : Int32} {mde : Int32} {mco : Nat → Int32} {mcn : Nat → Int32} {mvi : Int32} {men : Int32} {mfa : Nat → Int32} {mac : Nat → Int32} {mfi : Nat → Int32} {mse : Nat → Int32} {mtd : Nat → Int32} {mra : Int32} {mkp : Nat → Int32} {mde' : Int32} (hE : fX12_isBack mde = some mde') : Mg l yX12_isBack cX12_isBack 1 none (rmk 0 0) (KM Z) (AM Z) [.ref (mA Z 0)] (PM Z mth mto mrw mta mtp mat mtt mme mun mde mco mcn mvi men mfa mac mfi mse mtd mra mkp) (Qv (KM Z) (AM Z) (PM Z mth mto mrw mta mtp mat mtt mme mun mde' mco mcn mvi men mfa mac mfi mse mtd mra mkp)) := by
  refine Mg.start (lv := [(0, .ref (mA Z 0))]) (by decide) rfl (Nat.le_of_ble_eq_true rfl) rfl ?_
  intro p e s m below meth c F hr hlk C hP ls hl
  have hS : va_S (AM Z) s.heap s.heap [] := va_S.rf
  unfold fX12_isBack at hE
  refine lv_aload_n F.1 F.2.1 dX12_isBack_0 rfl (lv_at hl 0 rfl) ?_
  refine lv_iconst (v := 0) F.1 F.2.1 dX12_isBack_1 (by decide) ?_
  refine pX12_85 F C hP hS rfl dX12_isBack_2 (fun H locs hP hS => ?_)
  obtain rfl := Option.some.inj hE
  exact ret_v F hr hlk hP hS dX12_isBack_5
set_option maxRecDepth 100000 in
set_option maxHeartbeats 4000000 in
theorem qX12_lays_47 {p : Program} {l : Launch} {e : Env} {s : State} {m : MethodId} {args : Array Value} {below : List Frame} {meth : Method} {c : Code} {Z : ZC} {mth : Int32} {mto : Int32} {mrw : Nat → Int64} {mta : Nat → Int32} {mtp : Int32} {mat : Int32} {mtt : Int32} {mde : Int32} {mco : Nat → Int32} {mcn : Nat → Int32} {mvi : Int32} {men : Int32} {mfa : Nat → Int32} {mac : Nat → Int32} {mfi : Nat → Int32} {mse : Nat → Int32} {mtd : Nat → Int32} {mra : Int32} {mkp : Nat → Int32} {N : Nat} {mme' : Nat → Int32} {mun' : Int32} (F : CallFix p m c cX12_lays 2 s args bigW RX12) (hr : meth.sig.returnType = none) (hlk : meth.locks = false) (C : KM Z s) : ∀ (mme : Nat → Int32) (mun : Int32), fX12_lays_47 N mme mun = some (mme', mun') → ∀ (H : Heap) (locs : List Loc), PM Z mth mto mrw mta mtp mat mtt mme mun mde mco mcn mvi men mfa mac mfi mse mtd mra mkp H → va_S (AM Z) s.heap H locs → ∀ ls : Array Slot, lv_has ls 2 [(0, .ref (mA Z 0))] → W p l e (rmk 1 23) s m args below meth c H locs 0 0 (MQ below (Qv (KM Z) (AM Z) (PM Z mth mto mrw mta mtp mat mtt mme' mun' mde mco mcn mvi men mfa mac mfi mse mtd mra mkp)) args s 0 0 (AM Z)) (F0 m 47 ls []) := by
  intro mme mun hE H locs hP hS ls hl
  unfold fX12_lays_47 at hE
  refine lv_aload_n F.1 F.2.1 dX12_lays_47 rfl (lv_at hl 0 rfl) ?_
  refine lv_iconst (v := 3) F.1 F.2.1 dX12_lays_48 (by decide) ?_
  refine lv_iconst (v := 5) F.1 F.2.1 dX12_lays_49 (by decide) ?_
  refine lv_aload_n F.1 F.2.1 dX12_lays_50 rfl (lv_at hl 0 rfl) ?_
  refine gX12_88 F C hP dX12_lays_51 ?_
  refine lv_iadd F.1 F.2.1 dX12_lays_54 ?_
  obtain ⟨mme_19, hc, hE⟩ := bnd1_some hE
  refine aft_v (run_V (rest := []) F (kX12_copies hc) (okM Z) C hS lkX12_81 ⟨Nat.le_of_ble_eq_true rfl, Nat.le_of_ble_eq_true rfl⟩ (rvM C hP) hP rfl hl.1 rfl (lv_room (Nat.le_of_ble_eq_true rfl)) dX12_lays_55 ⟨Nat.zero_le _, Nat.zero_le _⟩) hS (fun H locs hP hS => ?_)
  refine lv_aload_n F.1 F.2.1 dX12_lays_58 rfl (lv_at hl 0 rfl) ?_
  refine lv_dup F.1 F.2.1 dX12_lays_59 rfl ?_
  refine gX12_88 F C hP dX12_lays_60 ?_
  refine lv_iconst (v := 1) F.1 F.2.1 dX12_lays_63 (by decide) ?_
  refine lv_iadd F.1 F.2.1 dX12_lays_64 ?_
  obtain ⟨mun_20, emun_20, hE⟩ := lt_some hE
  refine pX12_88 F C hP hS emun_20.symm dX12_lays_65 (fun H locs hP hS => ?_)
  have w0 := Option.some.inj hE
  obtain ⟨g0, w1⟩ := Prod.mk.inj w0
  subst g0 w1
  exact ret_v F hr hlk hP hS dX12_lays_68
set_option maxRecDepth 100000 in
set_option maxHeartbeats 4000000 in
theorem qX12_lays_37 {p : Program} {l : Launch} {e : Env} {s : State} {m : MethodId} {args : Array Value} {below : List Frame} {meth : Method} {c : Code} {Z : ZC} {mth : Int32} {mto : Int32} {mrw : Nat → Int64} {mta : Nat → Int32} {mtp : Int32} {mat : Int32} {mtt : Int32} {mde : Int32} {mco : Nat → Int32} {mcn : Nat → Int32} {mvi : Int32} {men : Int32} {mfa : Nat → Int32} {mac : Nat → Int32} {mfi : Nat → Int32} {mse : Nat → Int32} {mtd : Nat → Int32} {mra : Int32} {mkp : Nat → Int32} {N : Nat} {mme' : Nat → Int32} {mun' : Int32} (F : CallFix p m c cX12_lays 2 s args bigW RX12) (hr : meth.sig.returnType = none) (hlk : meth.locks = false) (C : KM Z s) : ∀ (mme : Nat → Int32) (mun : Int32), fX12_lays_37 N mme mun = some (mme', mun') → ∀ (H : Heap) (locs : List Loc), PM Z mth mto mrw mta mtp mat mtt mme mun mde mco mcn mvi men mfa mac mfi mse mtd mra mkp H → va_S (AM Z) s.heap H locs → ∀ ls : Array Slot, lv_has ls 2 [(0, .ref (mA Z 0))] → W p l e (rmk 1 23) s m args below meth c H locs 0 0 (MQ below (Qv (KM Z) (AM Z) (PM Z mth mto mrw mta mtp mat mtt mme' mun' mde mco mcn mvi men mfa mac mfi mse mtd mra mkp)) args s 0 0 (AM Z)) (F0 m 37 ls []) := by
  intro mme mun hE H locs hP hS ls hl
  unfold fX12_lays_37 at hE
  refine lv_aload_n F.1 F.2.1 dX12_lays_37 rfl (lv_at hl 0 rfl) ?_
  refine lv_dup F.1 F.2.1 dX12_lays_38 rfl ?_
  refine gX12_88 F C hP dX12_lays_39 ?_
  refine lv_iconst (v := 1) F.1 F.2.1 dX12_lays_42 (by decide) ?_
  refine lv_isub F.1 F.2.1 dX12_lays_43 ?_
  obtain ⟨mun_22, emun_22, hE⟩ := lt_some hE
  refine pX12_88 F C hP hS emun_22.symm dX12_lays_44 (fun H locs hP hS => ?_)
  exact qX12_lays_47 F hr hlk C mme mun_22 hE _ _ hP hS ls (lv_sub hl [0] rfl)
set_option maxRecDepth 100000 in
set_option maxHeartbeats 4000000 in
theorem qX12_lays_11 {p : Program} {l : Launch} {e : Env} {s : State} {m : MethodId} {args : Array Value} {below : List Frame} {meth : Method} {c : Code} {Z : ZC} {mth : Int32} {mto : Int32} {mrw : Nat → Int64} {mta : Nat → Int32} {mtp : Int32} {mat : Int32} {mtt : Int32} {mde : Int32} {mco : Nat → Int32} {mcn : Nat → Int32} {mvi : Int32} {men : Int32} {mfa : Nat → Int32} {mac : Nat → Int32} {mfi : Nat → Int32} {mse : Nat → Int32} {mtd : Nat → Int32} {mra : Int32} {mkp : Nat → Int32} {N : Nat} {mme' : Nat → Int32} {mun' : Int32} (F : CallFix p m c cX12_lays 2 s args bigW RX12) (hr : meth.sig.returnType = none) (hlk : meth.locks = false) (C : KM Z s) : ∀ n : Nat, ∀ (mme : Nat → Int32) (mun : Int32) (x1 : Int32), fX12_lays_11 N n mme mun x1 = some (mme', mun') → ∀ (H : Heap) (locs : List Loc), PM Z mth mto mrw mta mtp mat mtt mme mun mde mco mcn mvi men mfa mac mfi mse mtd mra mkp H → va_S (AM Z) s.heap H locs → ∀ ls : Array Slot, lv_has ls 2 [(0, .ref (mA Z 0)), (1, .int x1)] → W p l e (rmk 1 23) s m args below meth c H locs 0 0 (MQ below (Qv (KM Z) (AM Z) (PM Z mth mto mrw mta mtp mat mtt mme' mun' mde mco mcn mvi men mfa mac mfi mse mtd mra mkp)) args s 0 0 (AM Z)) (F0 m 11 ls []) := by
  intro n
  induction n with
  | zero => intro mme mun x1 hE; cases hE
  | succ n h11 =>
    intro mme mun x1 hE H locs hP hS ls hl
    have hE : fX12_lays_11b N (fX12_lays_11 N n) mme mun x1 = some (mme', mun') := hE
    refine lv_iload_n F.1 F.2.1 dX12_lays_11 rfl (lv_at hl 1 rfl) ?_
    refine lv_iconst (v := 1) F.1 F.2.1 dX12_lays_12 (by decide) ?_
    refine lv_iadd F.1 F.2.1 dX12_lays_13 ?_
    refine lv_bipush (v := 8) F.1 F.2.1 dX12_lays_14 (by decide) ?_
    refine lv_icmp_ge (tgt := 37) F.1 F.2.1 dX12_lays_16 (by decide) (fun hc => ?_) (fun hc => ?_)
    · have hE := ifp hE hc
      exact qX12_lays_37 F hr hlk C mme mun hE _ _ hP hS ls (lv_sub hl [0] rfl)
    · have hE := ifn hE hc
      refine lv_aload_n F.1 F.2.1 dX12_lays_19 rfl (lv_at hl 0 rfl) ?_
      refine lv_iconst (v := 5) F.1 F.2.1 dX12_lays_20 (by decide) ?_
      refine lv_iload_n F.1 F.2.1 dX12_lays_21 rfl (lv_at hl 1 rfl) ?_
      refine lv_iadd F.1 F.2.1 dX12_lays_22 ?_
      refine lv_iconst (v := 1) F.1 F.2.1 dX12_lays_23 (by decide) ?_
      refine lv_iadd F.1 F.2.1 dX12_lays_24 ?_
      refine lv_iconst (v := 5) F.1 F.2.1 dX12_lays_25 (by decide) ?_
      refine lv_iload_n F.1 F.2.1 dX12_lays_26 rfl (lv_at hl 1 rfl) ?_
      refine lv_iadd F.1 F.2.1 dX12_lays_27 ?_
      obtain ⟨mme_21, hc, hE⟩ := bnd1_some hE
      refine aft_v (run_V (rest := []) F (kX12_copies hc) (okM Z) C hS lkX12_81 ⟨Nat.le_of_ble_eq_true rfl, Nat.le_of_ble_eq_true rfl⟩ (rvM C hP) hP rfl hl.1 rfl (lv_room (Nat.le_of_ble_eq_true rfl)) dX12_lays_28 ⟨Nat.zero_le _, Nat.zero_le _⟩) hS (fun H locs hP hS => ?_)
      refine lv_iinc (v := x1 + 1) (lv' := [(1, .int (x1 + 1)), (0, .ref (mA Z 0))]) F.1 F.2.1 dX12_lays_31 hl (k := 1) rfl rfl (by decide) rfl (fun ls hl => ?_)
      refine lv_goto (tgt := 11) F.1 F.2.1 dX12_lays_34 (by decide) ?_
      exact h11 mme_21 mun (x1 + 1) hE _ _ hP hS ls (lv_sub hl [1, 0] rfl)
set_option maxRecDepth 100000 in
set_option maxHeartbeats 4000000 in
theorem kX12_lays {l : Launch} {Z : ZC} {mth : Int32} {mto : Int32} {mrw : Nat → Int64} {mta : Nat → Int32} {mtp : Int32} {mat : Int32} {mtt : Int32} {mme : Nat → Int32} {mun : Int32} {mde : Int32} {mco : Nat → Int32} {mcn : Nat → Int32} {mvi : Int32} {men : Int32} {mfa : Nat → Int32} {mac : Nat → Int32} {mfi : Nat → Int32} {mse : Nat → Int32} {mtd : Nat → Int32} {mra : Int32} {mkp : Nat → Int32} {N : Nat} {mme' : Nat → Int32} {mun' : Int32} (hE : fX12_lays N mme mun = some (mme', mun')) : Mg l yX12_lays cX12_lays 2 none (rmk 1 23) (KM Z) (AM Z) [.ref (mA Z 0)] (PM Z mth mto mrw mta mtp mat mtt mme mun mde mco mcn mvi men mfa mac mfi mse mtd mra mkp) (Qv (KM Z) (AM Z) (PM Z mth mto mrw mta mtp mat mtt mme' mun' mde mco mcn mvi men mfa mac mfi mse mtd mra mkp)) := by
  refine Mg.start (lv := [(0, .ref (mA Z 0))]) (by decide) rfl (Nat.le_of_ble_eq_true rfl) rfl ?_
  intro p e s m below meth c F hr hlk C hP ls hl
  have hS : va_S (AM Z) s.heap s.heap [] := va_S.rf
  unfold fX12_lays at hE
  refine lv_aload_n F.1 F.2.1 dX12_lays_0 rfl (lv_at hl 0 rfl) ?_
  refine gX12_88 F C hP dX12_lays_1 ?_
  refine lv_bipush (v := 8) F.1 F.2.1 dX12_lays_4 (by decide) ?_
  refine lv_icmp_ne (tgt := 47) F.1 F.2.1 dX12_lays_6 (by decide) (fun hc => ?_) (fun hc => ?_)
  · have hE := ifn hE hc
    exact qX12_lays_47 F hr hlk C mme mun hE _ _ hP hS ls (lv_sub hl [0] rfl)
  · have hE := ifp hE hc
    refine lv_iconst (v := 0) F.1 F.2.1 dX12_lays_9 (by decide) ?_
    refine lv_istore_n (lv' := [(1, .int 0), (0, .ref (mA Z 0))]) F.1 F.2.1 dX12_lays_10 rfl hl (by decide) rfl (fun ls hl => ?_)
    exact qX12_lays_11 F hr hlk C N mme mun 0 hE _ _ hP hS ls (lv_sub hl [1, 0] rfl)
set_option maxRecDepth 100000 in
set_option maxHeartbeats 4000000 in
theorem kX12_undo {l : Launch} {Z : ZC} {mth : Int32} {mto : Int32} {mrw : Nat → Int64} {mta : Nat → Int32} {mtp : Int32} {mat : Int32} {mtt : Int32} {mme : Nat → Int32} {mun : Int32} {mde : Int32} {mco : Nat → Int32} {mcn : Nat → Int32} {mvi : Int32} {men : Int32} {mfa : Nat → Int32} {mac : Nat → Int32} {mfi : Nat → Int32} {mse : Nat → Int32} {mtd : Nat → Int32} {mra : Int32} {mkp : Nat → Int32} {N : Nat} {r' : Int32} {mth' : Int32} {mme' : Nat → Int32} {mun' : Int32} (hE : fX12_undo N mth mme mun = some (r', mth', mme', mun')) : Mg l yX12_undo cX12_undo 1 (some .int) (rmk 1 23) (KM Z) (AM Z) [.ref (mA Z 0)] (PM Z mth mto mrw mta mtp mat mtt mme mun mde mco mcn mvi men mfa mac mfi mse mtd mra mkp) (Qi (KM Z) (AM Z) (PM Z mth' mto mrw mta mtp mat mtt mme' mun' mde mco mcn mvi men mfa mac mfi mse mtd mra mkp) r') := by
  refine Mg.start (lv := [(0, .ref (mA Z 0))]) (by decide) rfl (Nat.le_of_ble_eq_true rfl) rfl ?_
  intro p e s m below meth c F hr hlk C hP ls hl
  have hS : va_S (AM Z) s.heap s.heap [] := va_S.rf
  unfold fX12_undo at hE
  refine lv_aload_n F.1 F.2.1 dX12_undo_0 rfl (lv_at hl 0 rfl) ?_
  refine lv_iconst (v := 0) F.1 F.2.1 dX12_undo_1 (by decide) ?_
  refine pX12_1 F C hP hS rfl dX12_undo_2 (fun H locs hP hS => ?_)
  refine lv_aload_n F.1 F.2.1 dX12_undo_5 rfl (lv_at hl 0 rfl) ?_
  refine gX12_88 F C hP dX12_undo_6 ?_
  refine lv_if_ne (tgt := 14) F.1 F.2.1 dX12_undo_9 (by decide) (fun hc => ?_) (fun hc => ?_)
  · have hE := ifn hE hc
    refine lv_aload_n F.1 F.2.1 dX12_undo_14 rfl (lv_at hl 0 rfl) ?_
    refine lv_dup F.1 F.2.1 dX12_undo_15 rfl ?_
    refine gX12_88 F C hP dX12_undo_16 ?_
    refine lv_iconst (v := 1) F.1 F.2.1 dX12_undo_19 (by decide) ?_
    refine lv_isub F.1 F.2.1 dX12_undo_20 ?_
    obtain ⟨mun_25, emun_25, hE⟩ := lt_some hE
    refine pX12_88 F C hP hS emun_25.symm dX12_undo_21 (fun H locs hP hS => ?_)
    refine lv_aload_n F.1 F.2.1 dX12_undo_24 rfl (lv_at hl 0 rfl) ?_
    refine lv_iconst (v := 5) F.1 F.2.1 dX12_undo_25 (by decide) ?_
    refine lv_aload_n F.1 F.2.1 dX12_undo_26 rfl (lv_at hl 0 rfl) ?_
    refine gX12_88 F C hP dX12_undo_27 ?_
    refine lv_iadd F.1 F.2.1 dX12_undo_30 ?_
    refine lv_iconst (v := 0) F.1 F.2.1 dX12_undo_31 (by decide) ?_
    obtain ⟨mme_26, hc, hE⟩ := bnd1_some hE
    refine aft_v (run_V (rest := []) F (kX12_copies hc) (okM Z) C hS lkX12_81 ⟨Nat.le_of_ble_eq_true rfl, Nat.le_of_ble_eq_true rfl⟩ (rvM C hP) hP rfl hl.1 rfl (lv_room (Nat.le_of_ble_eq_true rfl)) dX12_undo_32 ⟨Nat.zero_le _, Nat.zero_le _⟩) hS (fun H locs hP hS => ?_)
    refine lv_aload_n F.1 F.2.1 dX12_undo_35 rfl (lv_at hl 0 rfl) ?_
    refine gX12_88 F C hP dX12_undo_36 ?_
    have w0 := Option.some.inj hE
    obtain ⟨g0, w1⟩ := Prod.mk.inj w0
    obtain ⟨g1, w2⟩ := Prod.mk.inj w1
    obtain ⟨g2, w3⟩ := Prod.mk.inj w2
    subst g0 g1 g2 w3
    exact ret_i F hr hlk hP hS dX12_undo_39
  · have hE := ifp hE hc
    refine lv_iconst (v := (-1)) F.1 F.2.1 dX12_undo_12 (by decide) ?_
    have w0 := Option.some.inj hE
    obtain ⟨g0, w1⟩ := Prod.mk.inj w0
    obtain ⟨g1, w2⟩ := Prod.mk.inj w1
    obtain ⟨g2, w3⟩ := Prod.mk.inj w2
    subst g0 g1 g2 w3
    exact ret_i F hr hlk hP hS dX12_undo_13
set_option maxRecDepth 100000 in
set_option maxHeartbeats 4000000 in
theorem kX12_of {l : Launch} {Z : ZC} {mth : Int32} {mto : Int32} {mrw : Nat → Int64} {mta : Nat → Int32} {mtp : Int32} {mat : Int32} {mtt : Int32} {mme : Nat → Int32} {mun : Int32} {mde : Int32} {mco : Nat → Int32} {mcn : Nat → Int32} {mvi : Int32} {men : Int32} {mfa : Nat → Int32} {mac : Nat → Int32} {mfi : Nat → Int32} {mse : Nat → Int32} {mtd : Nat → Int32} {mra : Int32} {mkp : Nat → Int32} {p1 : Int32} {p2 : Int32} {r' : Int32} (hE : fX12_of mme mde p1 p2 = some r') : Mg l yX12_of cX12_of 3 (some .int) (rmk 0 0) (KM Z) (AM Z) [.ref (mA Z 0), .int p1, .int p2] (PM Z mth mto mrw mta mtp mat mtt mme mun mde mco mcn mvi men mfa mac mfi mse mtd mra mkp) (Qi (KM Z) (AM Z) (PM Z mth mto mrw mta mtp mat mtt mme mun mde mco mcn mvi men mfa mac mfi mse mtd mra mkp) r') := by
  refine Mg.start (lv := [(0, .ref (mA Z 0)), (1, .int p1), (2, .int p2)]) (by decide) rfl (Nat.le_of_ble_eq_true rfl) rfl ?_
  intro p e s m below meth c F hr hlk C hP ls hl
  have hS : va_S (AM Z) s.heap s.heap [] := va_S.rf
  unfold fX12_of at hE
  refine lv_aload_n F.1 F.2.1 dX12_of_0 rfl (lv_at hl 0 rfl) ?_
  refine gX12_53 F C hP dX12_of_1 ?_
  refine lv_aload_n F.1 F.2.1 dX12_of_4 rfl (lv_at hl 0 rfl) ?_
  refine gX12_85 F C hP dX12_of_5 ?_
  refine lv_sipush (v := 163) F.1 F.2.1 dX12_of_8 (by decide) ?_
  refine lv_iadd F.1 F.2.1 dX12_of_11 ?_
  refine lv_bipush (v := 11) F.1 F.2.1 dX12_of_12 (by decide) ?_
  refine lv_iload_n F.1 F.2.1 dX12_of_14 rfl (lv_at hl 1 rfl) ?_
  refine lv_imul F.1 F.2.1 dX12_of_15 ?_
  refine lv_iadd F.1 F.2.1 dX12_of_16 ?_
  refine lv_iload_n F.1 F.2.1 dX12_of_17 rfl (lv_at hl 2 rfl) ?_
  refine lv_iadd F.1 F.2.1 dX12_of_18 ?_
  obtain ⟨hi, hE⟩ := grd_some hE
  refine am3 F C hP hi dX12_of_19 ?_
  obtain rfl := Option.some.inj hE
  exact ret_i F hr hlk hP hS dX12_of_20
set_option maxRecDepth 100000 in
set_option maxHeartbeats 4000000 in
theorem kX12_puts {l : Launch} {Z : ZC} {mth : Int32} {mto : Int32} {mrw : Nat → Int64} {mta : Nat → Int32} {mtp : Int32} {mat : Int32} {mtt : Int32} {mme : Nat → Int32} {mun : Int32} {mde : Int32} {mco : Nat → Int32} {mcn : Nat → Int32} {mvi : Int32} {men : Int32} {mfa : Nat → Int32} {mac : Nat → Int32} {mfi : Nat → Int32} {mse : Nat → Int32} {mtd : Nat → Int32} {mra : Int32} {mkp : Nat → Int32} {p1 : Int32} {p2 : Int32} {p3 : Int32} {mme' : Nat → Int32} (hE : fX12_puts mme mde p1 p2 p3 = some mme') : Mg l yX12_puts cX12_puts 4 none (rmk 0 0) (KM Z) (AM Z) [.ref (mA Z 0), .int p1, .int p2, .int p3] (PM Z mth mto mrw mta mtp mat mtt mme mun mde mco mcn mvi men mfa mac mfi mse mtd mra mkp) (Qv (KM Z) (AM Z) (PM Z mth mto mrw mta mtp mat mtt mme' mun mde mco mcn mvi men mfa mac mfi mse mtd mra mkp)) := by
  refine Mg.start (lv := [(0, .ref (mA Z 0)), (1, .int p1), (2, .int p2), (3, .int p3)]) (by decide) rfl (Nat.le_of_ble_eq_true rfl) rfl ?_
  intro p e s m below meth c F hr hlk C hP ls hl
  have hS : va_S (AM Z) s.heap s.heap [] := va_S.rf
  unfold fX12_puts at hE
  refine lv_aload_n F.1 F.2.1 dX12_puts_0 rfl (lv_at hl 0 rfl) ?_
  refine gX12_53 F C hP dX12_puts_1 ?_
  refine lv_aload_n F.1 F.2.1 dX12_puts_4 rfl (lv_at hl 0 rfl) ?_
  refine gX12_85 F C hP dX12_puts_5 ?_
  refine lv_sipush (v := 163) F.1 F.2.1 dX12_puts_8 (by decide) ?_
  refine lv_iadd F.1 F.2.1 dX12_puts_11 ?_
  refine lv_bipush (v := 11) F.1 F.2.1 dX12_puts_12 (by decide) ?_
  refine lv_iload_n F.1 F.2.1 dX12_puts_14 rfl (lv_at hl 1 rfl) ?_
  refine lv_imul F.1 F.2.1 dX12_puts_15 ?_
  refine lv_iadd F.1 F.2.1 dX12_puts_16 ?_
  refine lv_iload_n F.1 F.2.1 dX12_puts_17 rfl (lv_at hl 2 rfl) ?_
  refine lv_iadd F.1 F.2.1 dX12_puts_18 ?_
  refine lv_iload_n F.1 F.2.1 dX12_puts_19 rfl (lv_at hl 3 rfl) ?_
  obtain ⟨hi, hE⟩ := grd_some hE
  obtain ⟨mme_28, emme_28, hE⟩ := lt_some hE
  refine sm3 F C hP hi hS emme_28.symm dX12_puts_20 (fun H locs hP hS => ?_)
  obtain rfl := Option.some.inj hE
  exact ret_v F hr hlk hP hS dX12_puts_21
set_option maxRecDepth 100000 in
set_option maxHeartbeats 4000000 in
theorem kX12_fieldOf {l : Launch} {Z : ZC} {mth : Int32} {mto : Int32} {mrw : Nat → Int64} {mta : Nat → Int32} {mtp : Int32} {mat : Int32} {mtt : Int32} {mme : Nat → Int32} {mun : Int32} {mde : Int32} {mco : Nat → Int32} {mcn : Nat → Int32} {mvi : Int32} {men : Int32} {mfa : Nat → Int32} {mac : Nat → Int32} {mfi : Nat → Int32} {mse : Nat → Int32} {mtd : Nat → Int32} {mra : Int32} {mkp : Nat → Int32} {p1 : Int32} {p2 : Int32} {r' : Int32} (hE : fX12_fieldOf mme mde p1 p2 = some r') : Mg l yX12_fieldOf cX12_fieldOf 3 (some .int) (rmk 1 22) (KM Z) (AM Z) [.ref (mA Z 0), .int p1, .int p2] (PM Z mth mto mrw mta mtp mat mtt mme mun mde mco mcn mvi men mfa mac mfi mse mtd mra mkp) (Qi (KM Z) (AM Z) (PM Z mth mto mrw mta mtp mat mtt mme mun mde mco mcn mvi men mfa mac mfi mse mtd mra mkp) r') := by
  refine Mg.start (lv := [(0, .ref (mA Z 0)), (1, .int p1), (2, .int p2)]) (by decide) rfl (Nat.le_of_ble_eq_true rfl) rfl ?_
  intro p e s m below meth c F hr hlk C hP ls hl
  have hS : va_S (AM Z) s.heap s.heap [] := va_S.rf
  unfold fX12_fieldOf at hE
  refine lv_aload_n F.1 F.2.1 dX12_fieldOf_0 rfl (lv_at hl 0 rfl) ?_
  refine lv_iload_n F.1 F.2.1 dX12_fieldOf_1 rfl (lv_at hl 1 rfl) ?_
  refine lv_bipush (v := 7) F.1 F.2.1 dX12_fieldOf_2 (by decide) ?_
  refine lv_iload_n F.1 F.2.1 dX12_fieldOf_4 rfl (lv_at hl 2 rfl) ?_
  refine lv_iadd F.1 F.2.1 dX12_fieldOf_5 ?_
  obtain ⟨r30, hc, hE⟩ := bnd1_some hE
  refine aft_i (run_V (rest := []) F (kX12_of hc) (okM Z) C hS lkX12_91 ⟨Nat.le_of_ble_eq_true rfl, Nat.le_of_ble_eq_true rfl⟩ (rvM C hP) hP rfl hl.1 rfl (lv_room (Nat.le_of_ble_eq_true rfl)) dX12_fieldOf_6 ⟨Nat.zero_le _, Nat.zero_le _⟩) hS (fun H locs hP hS => ?_)
  obtain rfl := Option.some.inj hE
  exact ret_i F hr hlk hP hS dX12_fieldOf_9
set_option maxRecDepth 100000 in
set_option maxHeartbeats 4000000 in
theorem kX12_isThere {l : Launch} {Z : ZC} {mth : Int32} {mto : Int32} {mrw : Nat → Int64} {mta : Nat → Int32} {mtp : Int32} {mat : Int32} {mtt : Int32} {mme : Nat → Int32} {mun : Int32} {mde : Int32} {mco : Nat → Int32} {mcn : Nat → Int32} {mvi : Int32} {men : Int32} {mfa : Nat → Int32} {mac : Nat → Int32} {mfi : Nat → Int32} {mse : Nat → Int32} {mtd : Nat → Int32} {mra : Int32} {mkp : Nat → Int32} {p1 : Int32} {r' : Int32} (hE : fX12_isThere mme mde p1 = some r') : Mg l yX12_isThere cX12_isThere 2 (some .boolean) (rmk 1 25) (KM Z) (AM Z) [.ref (mA Z 0), .int p1] (PM Z mth mto mrw mta mtp mat mtt mme mun mde mco mcn mvi men mfa mac mfi mse mtd mra mkp) (Qi (KM Z) (AM Z) (PM Z mth mto mrw mta mtp mat mtt mme mun mde mco mcn mvi men mfa mac mfi mse mtd mra mkp) r') := by
  refine Mg.start (lv := [(0, .ref (mA Z 0)), (1, .int p1)]) (by decide) rfl (Nat.le_of_ble_eq_true rfl) rfl ?_
  intro p e s m below meth c F hr hlk C hP ls hl
  have hS : va_S (AM Z) s.heap s.heap [] := va_S.rf
  unfold fX12_isThere at hE
  refine lv_iload_n F.1 F.2.1 dX12_isThere_0 rfl (lv_at hl 1 rfl) ?_
  refine lv_i2l (v := p1.toInt64) F.1 F.2.1 dX12_isThere_1 rfl ?_
  refine lv_lconst (v := 0) F.1 F.2.1 dX12_isThere_2 (by decide) ?_
  refine lv_ldc2 (v := 23) F.1 F.2.1 F.2.2.2.1 (F.2.2.2.2 _ (bw_t 1230 (by decide +kernel) rfl)) dX12_isThere_3 ?_
  obtain ⟨r33, hc, hE⟩ := bnd1_some hE
  refine aft_i (run_S (rest := []) F (kX12_in hc) (okM Z) C hS lkX12_21 ⟨Nat.le_of_ble_eq_true rfl, Nat.le_of_ble_eq_true rfl⟩ hP rfl hl.1 rfl (lv_room (Nat.le_of_ble_eq_true rfl)) dX12_isThere_6 ⟨Nat.zero_le _, Nat.zero_le _⟩) hS (fun H locs hP hS => ?_)
  refine lv_if_eq (tgt := 26) F.1 F.2.1 dX12_isThere_9 (by decide) (fun hc => ?_) (fun hc => ?_)
  · have hE := ifp hE hc
    refine lv_iconst (v := 0) F.1 F.2.1 dX12_isThere_26 (by decide) ?_
    obtain rfl := Option.some.inj hE
    exact ret_z F hr rfl hlk hP hS dX12_isThere_27
  · have hE := ifn hE hc
    refine lv_aload_n F.1 F.2.1 dX12_isThere_12 rfl (lv_at hl 0 rfl) ?_
    refine lv_iload_n F.1 F.2.1 dX12_isThere_13 rfl (lv_at hl 1 rfl) ?_
    refine lv_iconst (v := 0) F.1 F.2.1 dX12_isThere_14 (by decide) ?_
    obtain ⟨r34, hc, hE⟩ := bnd1_some hE
    refine aft_i (run_V (rest := []) F (kX12_of hc) (okM Z) C hS lkX12_91 ⟨Nat.le_of_ble_eq_true rfl, Nat.le_of_ble_eq_true rfl⟩ (rvM C hP) hP rfl hl.1 rfl (lv_room (Nat.le_of_ble_eq_true rfl)) dX12_isThere_15 ⟨Nat.zero_le _, Nat.zero_le _⟩) hS (fun H locs hP hS => ?_)
    refine lv_iconst (v := 1) F.1 F.2.1 dX12_isThere_18 (by decide) ?_
    refine lv_icmp_ne (tgt := 26) F.1 F.2.1 dX12_isThere_19 (by decide) (fun hc => ?_) (fun hc => ?_)
    · have hE := ifn hE hc
      refine lv_iconst (v := 0) F.1 F.2.1 dX12_isThere_26 (by decide) ?_
      obtain rfl := Option.some.inj hE
      exact ret_z F hr rfl hlk hP hS dX12_isThere_27
    · have hE := ifp hE hc
      refine lv_iconst (v := 1) F.1 F.2.1 dX12_isThere_22 (by decide) ?_
      refine lv_goto (tgt := 27) F.1 F.2.1 dX12_isThere_23 (by decide) ?_
      obtain rfl := Option.some.inj hE
      exact ret_z F hr rfl hlk hP hS dX12_isThere_27
set_option maxRecDepth 100000 in
set_option maxHeartbeats 4000000 in
theorem kX12_rootOf {l : Launch} {Z : ZC} {mth : Int32} {mto : Int32} {mrw : Nat → Int64} {mta : Nat → Int32} {mtp : Int32} {mat : Int32} {mtt : Int32} {mme : Nat → Int32} {mun : Int32} {mde : Int32} {mco : Nat → Int32} {mcn : Nat → Int32} {mvi : Int32} {men : Int32} {mfa : Nat → Int32} {mac : Nat → Int32} {mfi : Nat → Int32} {mse : Nat → Int32} {mtd : Nat → Int32} {mra : Int32} {mkp : Nat → Int32} {p1 : Int32} {r' : Int32} (hE : fX12_rootOf mme mde p1 = some r') : Mg l yX12_rootOf cX12_rootOf 2 (some .int) (rmk 0 0) (KM Z) (AM Z) [.ref (mA Z 0), .int p1] (PM Z mth mto mrw mta mtp mat mtt mme mun mde mco mcn mvi men mfa mac mfi mse mtd mra mkp) (Qi (KM Z) (AM Z) (PM Z mth mto mrw mta mtp mat mtt mme mun mde mco mcn mvi men mfa mac mfi mse mtd mra mkp) r') := by
  refine Mg.start (lv := [(0, .ref (mA Z 0)), (1, .int p1)]) (by decide) rfl (Nat.le_of_ble_eq_true rfl) rfl ?_
  intro p e s m below meth c F hr hlk C hP ls hl
  have hS : va_S (AM Z) s.heap s.heap [] := va_S.rf
  unfold fX12_rootOf at hE
  refine lv_aload_n F.1 F.2.1 dX12_rootOf_0 rfl (lv_at hl 0 rfl) ?_
  refine gX12_53 F C hP dX12_rootOf_1 ?_
  refine lv_aload_n F.1 F.2.1 dX12_rootOf_4 rfl (lv_at hl 0 rfl) ?_
  refine gX12_85 F C hP dX12_rootOf_5 ?_
  refine lv_bipush (v := 33) F.1 F.2.1 dX12_rootOf_8 (by decide) ?_
  refine lv_iadd F.1 F.2.1 dX12_rootOf_10 ?_
  refine lv_iload_n F.1 F.2.1 dX12_rootOf_11 rfl (lv_at hl 1 rfl) ?_
  refine lv_iadd F.1 F.2.1 dX12_rootOf_12 ?_
  obtain ⟨hi, hE⟩ := grd_some hE
  refine am3 F C hP hi dX12_rootOf_13 ?_
  obtain rfl := Option.some.inj hE
  exact ret_i F hr hlk hP hS dX12_rootOf_14
set_option maxRecDepth 100000 in
set_option maxHeartbeats 4000000 in
theorem kX12_weakOf {l : Launch} {Z : ZC} {mth : Int32} {mto : Int32} {mrw : Nat → Int64} {mta : Nat → Int32} {mtp : Int32} {mat : Int32} {mtt : Int32} {mme : Nat → Int32} {mun : Int32} {mde : Int32} {mco : Nat → Int32} {mcn : Nat → Int32} {mvi : Int32} {men : Int32} {mfa : Nat → Int32} {mac : Nat → Int32} {mfi : Nat → Int32} {mse : Nat → Int32} {mtd : Nat → Int32} {mra : Int32} {mkp : Nat → Int32} {p1 : Int32} {r' : Int32} (hE : fX12_weakOf mme mde p1 = some r') : Mg l yX12_weakOf cX12_weakOf 2 (some .int) (rmk 0 0) (KM Z) (AM Z) [.ref (mA Z 0), .int p1] (PM Z mth mto mrw mta mtp mat mtt mme mun mde mco mcn mvi men mfa mac mfi mse mtd mra mkp) (Qi (KM Z) (AM Z) (PM Z mth mto mrw mta mtp mat mtt mme mun mde mco mcn mvi men mfa mac mfi mse mtd mra mkp) r') := by
  refine Mg.start (lv := [(0, .ref (mA Z 0)), (1, .int p1)]) (by decide) rfl (Nat.le_of_ble_eq_true rfl) rfl ?_
  intro p e s m below meth c F hr hlk C hP ls hl
  have hS : va_S (AM Z) s.heap s.heap [] := va_S.rf
  unfold fX12_weakOf at hE
  refine lv_aload_n F.1 F.2.1 dX12_weakOf_0 rfl (lv_at hl 0 rfl) ?_
  refine gX12_53 F C hP dX12_weakOf_1 ?_
  refine lv_aload_n F.1 F.2.1 dX12_weakOf_4 rfl (lv_at hl 0 rfl) ?_
  refine gX12_85 F C hP dX12_weakOf_5 ?_
  refine lv_bipush (v := 39) F.1 F.2.1 dX12_weakOf_8 (by decide) ?_
  refine lv_iadd F.1 F.2.1 dX12_weakOf_10 ?_
  refine lv_iload_n F.1 F.2.1 dX12_weakOf_11 rfl (lv_at hl 1 rfl) ?_
  refine lv_iadd F.1 F.2.1 dX12_weakOf_12 ?_
  obtain ⟨hi, hE⟩ := grd_some hE
  refine am3 F C hP hi dX12_weakOf_13 ?_
  obtain rfl := Option.some.inj hE
  exact ret_i F hr hlk hP hS dX12_weakOf_14
set_option maxRecDepth 100000 in
set_option maxHeartbeats 4000000 in
theorem kX12_logs {l : Launch} {Z : ZC} {mth : Int32} {mto : Int32} {mrw : Nat → Int64} {mta : Nat → Int32} {mtp : Int32} {mat : Int32} {mtt : Int32} {mme : Nat → Int32} {mun : Int32} {mde : Int32} {mco : Nat → Int32} {mcn : Nat → Int32} {mvi : Int32} {men : Int32} {mfa : Nat → Int32} {mac : Nat → Int32} {mfi : Nat → Int32} {mse : Nat → Int32} {mtd : Nat → Int32} {mra : Int32} {mkp : Nat → Int32} {p1 : Int32} {p2 : Int32} {mme' : Nat → Int32} (hE : fX12_logs mme mde p1 p2 = some mme') : Mg l yX12_logs cX12_logs 4 none (rmk 0 0) (KM Z) (AM Z) [.ref (mA Z 0), .int p1, .int p2] (PM Z mth mto mrw mta mtp mat mtt mme mun mde mco mcn mvi men mfa mac mfi mse mtd mra mkp) (Qv (KM Z) (AM Z) (PM Z mth mto mrw mta mtp mat mtt mme' mun mde mco mcn mvi men mfa mac mfi mse mtd mra mkp)) := by
  refine Mg.start (lv := [(0, .ref (mA Z 0)), (1, .int p1), (2, .int p2)]) (by decide) rfl (Nat.le_of_ble_eq_true rfl) rfl ?_
  intro p e s m below meth c F hr hlk C hP ls hl
  have hS : va_S (AM Z) s.heap s.heap [] := va_S.rf
  unfold fX12_logs at hE
  refine lv_aload_n F.1 F.2.1 dX12_logs_0 rfl (lv_at hl 0 rfl) ?_
  refine gX12_85 F C hP dX12_logs_1 ?_
  refine lv_bipush (v := 43) F.1 F.2.1 dX12_logs_4 (by decide) ?_
  refine lv_iadd F.1 F.2.1 dX12_logs_6 ?_
  refine lv_iconst (v := 2) F.1 F.2.1 dX12_logs_7 (by decide) ?_
  refine lv_aload_n F.1 F.2.1 dX12_logs_8 rfl (lv_at hl 0 rfl) ?_
  refine gX12_53 F C hP dX12_logs_9 ?_
  refine lv_aload_n F.1 F.2.1 dX12_logs_12 rfl (lv_at hl 0 rfl) ?_
  refine gX12_85 F C hP dX12_logs_13 ?_
  refine lv_iconst (v := 2) F.1 F.2.1 dX12_logs_16 (by decide) ?_
  refine lv_iadd F.1 F.2.1 dX12_logs_17 ?_
  obtain ⟨hi, hE⟩ := grd_some hE
  refine am3 F C hP hi dX12_logs_18 ?_
  refine lv_bipush (v := 60) F.1 F.2.1 dX12_logs_19 (by decide) ?_
  obtain ⟨hi, hE⟩ := grd_some hE
  refine rj_irem F.1 F.2.1 dX12_logs_21 (nzb_ne hi) ?_
  refine lv_imul F.1 F.2.1 dX12_logs_22 ?_
  refine lv_iadd F.1 F.2.1 dX12_logs_23 ?_
  obtain ⟨v_40, ev_40, hE⟩ := lt_some hE
  refine lv_seti ev_40 ?_
  refine lv_istore_n (lv' := [(3, .int v_40), (0, .ref (mA Z 0)), (1, .int p1), (2, .int p2)]) F.1 F.2.1 dX12_logs_24 rfl hl (by decide) rfl (fun ls hl => ?_)
  refine lv_aload_n F.1 F.2.1 dX12_logs_25 rfl (lv_at hl 1 rfl) ?_
  refine gX12_53 F C hP dX12_logs_26 ?_
  refine lv_iload_n F.1 F.2.1 dX12_logs_29 rfl (lv_at hl 0 rfl) ?_
  refine lv_iload_n F.1 F.2.1 dX12_logs_30 rfl (lv_at hl 2 rfl) ?_
  obtain ⟨hi, hE⟩ := grd_some hE
  obtain ⟨mme_41, emme_41, hE⟩ := lt_some hE
  refine sm3 F C hP hi hS emme_41.symm dX12_logs_31 (fun H locs hP hS => ?_)
  refine lv_aload_n F.1 F.2.1 dX12_logs_32 rfl (lv_at hl 1 rfl) ?_
  refine gX12_53 F C hP dX12_logs_33 ?_
  refine lv_iload_n F.1 F.2.1 dX12_logs_36 rfl (lv_at hl 0 rfl) ?_
  refine lv_iconst (v := 1) F.1 F.2.1 dX12_logs_37 (by decide) ?_
  refine lv_iadd F.1 F.2.1 dX12_logs_38 ?_
  refine lv_iload_n F.1 F.2.1 dX12_logs_39 rfl (lv_at hl 3 rfl) ?_
  obtain ⟨hi, hE⟩ := grd_some hE
  obtain ⟨mme_42, emme_42, hE⟩ := lt_some hE
  refine sm3 F C hP hi hS emme_42.symm dX12_logs_40 (fun H locs hP hS => ?_)
  refine lv_aload_n F.1 F.2.1 dX12_logs_41 rfl (lv_at hl 1 rfl) ?_
  refine gX12_53 F C hP dX12_logs_42 ?_
  refine lv_aload_n F.1 F.2.1 dX12_logs_45 rfl (lv_at hl 1 rfl) ?_
  refine gX12_85 F C hP dX12_logs_46 ?_
  refine lv_iconst (v := 2) F.1 F.2.1 dX12_logs_49 (by decide) ?_
  refine lv_iadd F.1 F.2.1 dX12_logs_50 ?_
  refine lv_dup2_11 F.1 F.2.1 dX12_logs_51 rfl rfl ?_
  obtain ⟨hi, hE⟩ := grd_some hE
  refine am3 F C hP hi dX12_logs_52 ?_
  refine lv_iconst (v := 1) F.1 F.2.1 dX12_logs_53 (by decide) ?_
  refine lv_iadd F.1 F.2.1 dX12_logs_54 ?_
  obtain ⟨hi, hE⟩ := grd_some hE
  obtain ⟨mme_43, emme_43, hE⟩ := lt_some hE
  refine sm3 F C hP hi hS emme_43.symm dX12_logs_55 (fun H locs hP hS => ?_)
  refine lv_aload_n F.1 F.2.1 dX12_logs_56 rfl (lv_at hl 1 rfl) ?_
  refine gX12_53 F C hP dX12_logs_57 ?_
  refine lv_aload_n F.1 F.2.1 dX12_logs_60 rfl (lv_at hl 1 rfl) ?_
  refine gX12_85 F C hP dX12_logs_61 ?_
  refine lv_iconst (v := 3) F.1 F.2.1 dX12_logs_64 (by decide) ?_
  refine lv_iadd F.1 F.2.1 dX12_logs_65 ?_
  refine lv_iload_n F.1 F.2.1 dX12_logs_66 rfl (lv_at hl 2 rfl) ?_
  refine lv_iadd F.1 F.2.1 dX12_logs_67 ?_
  refine lv_dup2_11 F.1 F.2.1 dX12_logs_68 rfl rfl ?_
  obtain ⟨hi, hE⟩ := grd_some hE
  refine am3 F C hP hi dX12_logs_69 ?_
  refine lv_iconst (v := 1) F.1 F.2.1 dX12_logs_70 (by decide) ?_
  refine lv_iadd F.1 F.2.1 dX12_logs_71 ?_
  obtain ⟨hi, hE⟩ := grd_some hE
  obtain ⟨mme_44, emme_44, hE⟩ := lt_some hE
  refine sm3 F C hP hi hS emme_44.symm dX12_logs_72 (fun H locs hP hS => ?_)
  obtain rfl := Option.some.inj hE
  exact ret_v F hr hlk hP hS dX12_logs_73
set_option maxRecDepth 100000 in
set_option maxHeartbeats 4000000 in
theorem kX12_listed {l : Launch} {Z : ZC} {mth : Int32} {mto : Int32} {mrw : Nat → Int64} {mta : Nat → Int32} {mtp : Int32} {mat : Int32} {mtt : Int32} {mme : Nat → Int32} {mun : Int32} {mde : Int32} {mco : Nat → Int32} {mcn : Nat → Int32} {mvi : Int32} {men : Int32} {mfa : Nat → Int32} {mac : Nat → Int32} {mfi : Nat → Int32} {mse : Nat → Int32} {mtd : Nat → Int32} {mra : Int32} {mkp : Nat → Int32} {r' : Int32} (hE : fX12_listed mme mde = some r') : Mg l yX12_listed cX12_listed 1 (some .int) (rmk 0 0) (KM Z) (AM Z) [.ref (mA Z 0)] (PM Z mth mto mrw mta mtp mat mtt mme mun mde mco mcn mvi men mfa mac mfi mse mtd mra mkp) (Qi (KM Z) (AM Z) (PM Z mth mto mrw mta mtp mat mtt mme mun mde mco mcn mvi men mfa mac mfi mse mtd mra mkp) r') := by
  refine Mg.start (lv := [(0, .ref (mA Z 0))]) (by decide) rfl (Nat.le_of_ble_eq_true rfl) rfl ?_
  intro p e s m below meth c F hr hlk C hP ls hl
  have hS : va_S (AM Z) s.heap s.heap [] := va_S.rf
  unfold fX12_listed at hE
  refine lv_aload_n F.1 F.2.1 dX12_listed_0 rfl (lv_at hl 0 rfl) ?_
  refine gX12_53 F C hP dX12_listed_1 ?_
  refine lv_aload_n F.1 F.2.1 dX12_listed_4 rfl (lv_at hl 0 rfl) ?_
  refine gX12_85 F C hP dX12_listed_5 ?_
  refine lv_iconst (v := 1) F.1 F.2.1 dX12_listed_8 (by decide) ?_
  refine lv_iadd F.1 F.2.1 dX12_listed_9 ?_
  obtain ⟨hi, hE⟩ := grd_some hE
  refine am3 F C hP hi dX12_listed_10 ?_
  obtain rfl := Option.some.inj hE
  exact ret_i F hr hlk hP hS dX12_listed_11
set_option maxRecDepth 100000 in
set_option maxHeartbeats 4000000 in
theorem kX12_onList {l : Launch} {Z : ZC} {mth : Int32} {mto : Int32} {mrw : Nat → Int64} {mta : Nat → Int32} {mtp : Int32} {mat : Int32} {mtt : Int32} {mme : Nat → Int32} {mun : Int32} {mde : Int32} {mco : Nat → Int32} {mcn : Nat → Int32} {mvi : Int32} {men : Int32} {mfa : Nat → Int32} {mac : Nat → Int32} {mfi : Nat → Int32} {mse : Nat → Int32} {mtd : Nat → Int32} {mra : Int32} {mkp : Nat → Int32} {p1 : Int32} {r' : Int32} (hE : fX12_onList mme mde p1 = some r') : Mg l yX12_onList cX12_onList 2 (some .int) (rmk 0 0) (KM Z) (AM Z) [.ref (mA Z 0), .int p1] (PM Z mth mto mrw mta mtp mat mtt mme mun mde mco mcn mvi men mfa mac mfi mse mtd mra mkp) (Qi (KM Z) (AM Z) (PM Z mth mto mrw mta mtp mat mtt mme mun mde mco mcn mvi men mfa mac mfi mse mtd mra mkp) r') := by
  refine Mg.start (lv := [(0, .ref (mA Z 0)), (1, .int p1)]) (by decide) rfl (Nat.le_of_ble_eq_true rfl) rfl ?_
  intro p e s m below meth c F hr hlk C hP ls hl
  have hS : va_S (AM Z) s.heap s.heap [] := va_S.rf
  unfold fX12_onList at hE
  refine lv_aload_n F.1 F.2.1 dX12_onList_0 rfl (lv_at hl 0 rfl) ?_
  refine gX12_53 F C hP dX12_onList_1 ?_
  refine lv_aload_n F.1 F.2.1 dX12_onList_4 rfl (lv_at hl 0 rfl) ?_
  refine gX12_85 F C hP dX12_onList_5 ?_
  refine lv_bipush (v := 9) F.1 F.2.1 dX12_onList_8 (by decide) ?_
  refine lv_iadd F.1 F.2.1 dX12_onList_10 ?_
  refine lv_iload_n F.1 F.2.1 dX12_onList_11 rfl (lv_at hl 1 rfl) ?_
  refine lv_iadd F.1 F.2.1 dX12_onList_12 ?_
  obtain ⟨hi, hE⟩ := grd_some hE
  refine am3 F C hP hi dX12_onList_13 ?_
  obtain rfl := Option.some.inj hE
  exact ret_i F hr hlk hP hS dX12_onList_14
set_option maxRecDepth 100000 in
set_option maxHeartbeats 4000000 in
theorem qX12_placeOnList_2 {p : Program} {l : Launch} {e : Env} {s : State} {m : MethodId} {args : Array Value} {below : List Frame} {meth : Method} {c : Code} {Z : ZC} {mth : Int32} {mto : Int32} {mrw : Nat → Int64} {mta : Nat → Int32} {mtp : Int32} {mat : Int32} {mtt : Int32} {mme : Nat → Int32} {mun : Int32} {mde : Int32} {mco : Nat → Int32} {mcn : Nat → Int32} {mvi : Int32} {men : Int32} {mfa : Nat → Int32} {mac : Nat → Int32} {mfi : Nat → Int32} {mse : Nat → Int32} {mtd : Nat → Int32} {mra : Int32} {mkp : Nat → Int32} {N : Nat} {p1 : Int32} {r' : Int32} (F : CallFix p m c cX12_placeOnList 3 s args bigW RX12) (hr : meth.sig.returnType = (some .int)) (hlk : meth.locks = false) (C : KM Z s) : ∀ n : Nat, ∀ (x2 : Int32), fX12_placeOnList_2 N mme mde p1 n x2 = some r' → ∀ (H : Heap) (locs : List Loc), PM Z mth mto mrw mta mtp mat mtt mme mun mde mco mcn mvi men mfa mac mfi mse mtd mra mkp H → va_S (AM Z) s.heap H locs → ∀ ls : Array Slot, lv_has ls 3 [(0, .ref (mA Z 0)), (1, .int p1), (2, .int x2)] → W p l e (rmk 1 21) s m args below meth c H locs 0 0 (MQ below (Qi (KM Z) (AM Z) (PM Z mth mto mrw mta mtp mat mtt mme mun mde mco mcn mvi men mfa mac mfi mse mtd mra mkp) r') args s 0 0 (AM Z)) (F0 m 2 ls []) := by
  intro n
  induction n with
  | zero => intro x2 hE; cases hE
  | succ n h2 =>
    intro x2 hE H locs hP hS ls hl
    have hE : fX12_placeOnList_2b N mme mde p1 (fX12_placeOnList_2 N mme mde p1 n) x2 = some r' := hE
    refine lv_iload_n F.1 F.2.1 dX12_placeOnList_2 rfl (lv_at hl 2 rfl) ?_
    refine lv_aload_n F.1 F.2.1 dX12_placeOnList_3 rfl (lv_at hl 0 rfl) ?_
    obtain ⟨r47, hc, hE⟩ := bnd1_some hE
    refine aft_i (run_V (rest := [.int x2]) F (kX12_listed hc) (okM Z) C hS lkX12_97 ⟨Nat.le_of_ble_eq_true rfl, Nat.le_of_ble_eq_true rfl⟩ (rvM C hP) hP rfl hl.1 rfl (lv_room (Nat.le_of_ble_eq_true rfl)) dX12_placeOnList_4 ⟨Nat.zero_le _, Nat.zero_le _⟩) hS (fun H locs hP hS => ?_)
    refine lv_icmp_ge (tgt := 27) F.1 F.2.1 dX12_placeOnList_7 (by decide) (fun hc => ?_) (fun hc => ?_)
    · have hE := ifp hE hc
      refine lv_iconst (v := (-1)) F.1 F.2.1 dX12_placeOnList_27 (by decide) ?_
      obtain rfl := Option.some.inj hE
      exact ret_i F hr hlk hP hS dX12_placeOnList_28
    · have hE := ifn hE hc
      refine lv_aload_n F.1 F.2.1 dX12_placeOnList_10 rfl (lv_at hl 0 rfl) ?_
      refine lv_iload_n F.1 F.2.1 dX12_placeOnList_11 rfl (lv_at hl 2 rfl) ?_
      obtain ⟨r48, hc, hE⟩ := bnd1_some hE
      refine aft_i (run_V (rest := []) F (kX12_onList hc) (okM Z) C hS lkX12_100 ⟨Nat.le_of_ble_eq_true rfl, Nat.le_of_ble_eq_true rfl⟩ (rvM C hP) hP rfl hl.1 rfl (lv_room (Nat.le_of_ble_eq_true rfl)) dX12_placeOnList_12 ⟨Nat.zero_le _, Nat.zero_le _⟩) hS (fun H locs hP hS => ?_)
      refine lv_iload_n F.1 F.2.1 dX12_placeOnList_15 rfl (lv_at hl 1 rfl) ?_
      refine lv_icmp_ne (tgt := 21) F.1 F.2.1 dX12_placeOnList_16 (by decide) (fun hc => ?_) (fun hc => ?_)
      · have hE := ifn hE hc
        refine lv_iinc (v := x2 + 1) (lv' := [(2, .int (x2 + 1)), (0, .ref (mA Z 0)), (1, .int p1)]) F.1 F.2.1 dX12_placeOnList_21 hl (k := 2) rfl rfl (by decide) rfl (fun ls hl => ?_)
        refine lv_goto (tgt := 2) F.1 F.2.1 dX12_placeOnList_24 (by decide) ?_
        exact h2 (x2 + 1) hE _ _ hP hS ls (lv_sub hl [1, 2, 0] rfl)
      · have hE := ifp hE hc
        refine lv_iload_n F.1 F.2.1 dX12_placeOnList_19 rfl (lv_at hl 2 rfl) ?_
        obtain rfl := Option.some.inj hE
        exact ret_i F hr hlk hP hS dX12_placeOnList_20
set_option maxRecDepth 100000 in
set_option maxHeartbeats 4000000 in
theorem kX12_placeOnList {l : Launch} {Z : ZC} {mth : Int32} {mto : Int32} {mrw : Nat → Int64} {mta : Nat → Int32} {mtp : Int32} {mat : Int32} {mtt : Int32} {mme : Nat → Int32} {mun : Int32} {mde : Int32} {mco : Nat → Int32} {mcn : Nat → Int32} {mvi : Int32} {men : Int32} {mfa : Nat → Int32} {mac : Nat → Int32} {mfi : Nat → Int32} {mse : Nat → Int32} {mtd : Nat → Int32} {mra : Int32} {mkp : Nat → Int32} {N : Nat} {p1 : Int32} {r' : Int32} (hE : fX12_placeOnList N mme mde p1 = some r') : Mg l yX12_placeOnList cX12_placeOnList 3 (some .int) (rmk 1 21) (KM Z) (AM Z) [.ref (mA Z 0), .int p1] (PM Z mth mto mrw mta mtp mat mtt mme mun mde mco mcn mvi men mfa mac mfi mse mtd mra mkp) (Qi (KM Z) (AM Z) (PM Z mth mto mrw mta mtp mat mtt mme mun mde mco mcn mvi men mfa mac mfi mse mtd mra mkp) r') := by
  refine Mg.start (lv := [(0, .ref (mA Z 0)), (1, .int p1)]) (by decide) rfl (Nat.le_of_ble_eq_true rfl) rfl ?_
  intro p e s m below meth c F hr hlk C hP ls hl
  have hS : va_S (AM Z) s.heap s.heap [] := va_S.rf
  unfold fX12_placeOnList at hE
  refine lv_iconst (v := 0) F.1 F.2.1 dX12_placeOnList_0 (by decide) ?_
  refine lv_istore_n (lv' := [(2, .int 0), (0, .ref (mA Z 0)), (1, .int p1)]) F.1 F.2.1 dX12_placeOnList_1 rfl hl (by decide) rfl (fun ls hl => ?_)
  exact qX12_placeOnList_2 F hr hlk C N 0 hE _ _ hP hS ls (lv_sub hl [1, 2, 0] rfl)
set_option maxRecDepth 100000 in
set_option maxHeartbeats 4000000 in
theorem qX12_goesOffList_29 {p : Program} {l : Launch} {e : Env} {s : State} {m : MethodId} {args : Array Value} {below : List Frame} {meth : Method} {c : Code} {Z : ZC} {mth : Int32} {mto : Int32} {mrw : Nat → Int64} {mta : Nat → Int32} {mtp : Int32} {mat : Int32} {mtt : Int32} {mun : Int32} {mde : Int32} {mco : Nat → Int32} {mcn : Nat → Int32} {mvi : Int32} {men : Int32} {mfa : Nat → Int32} {mac : Nat → Int32} {mfi : Nat → Int32} {mse : Nat → Int32} {mtd : Nat → Int32} {mra : Int32} {mkp : Nat → Int32} {N : Nat} {p1 : Int32} {mme' : Nat → Int32} (F : CallFix p m c cX12_goesOffList 3 s args bigW RX12) (hr : meth.sig.returnType = none) (hlk : meth.locks = false) (C : KM Z s) : ∀ n : Nat, ∀ (mme : Nat → Int32) (x2 : Int32), fX12_goesOffList_29 N mde p1 n mme x2 = some mme' → ∀ (H : Heap) (locs : List Loc), PM Z mth mto mrw mta mtp mat mtt mme mun mde mco mcn mvi men mfa mac mfi mse mtd mra mkp H → va_S (AM Z) s.heap H locs → ∀ ls : Array Slot, lv_has ls 3 [(0, .ref (mA Z 0)), (2, .int x2)] → W p l e (rmk 1 23) s m args below meth c H locs 0 0 (MQ below (Qv (KM Z) (AM Z) (PM Z mth mto mrw mta mtp mat mtt mme' mun mde mco mcn mvi men mfa mac mfi mse mtd mra mkp)) args s 0 0 (AM Z)) (F0 m 29 ls []) := by
  intro n
  induction n with
  | zero => intro mme x2 hE; cases hE
  | succ n h29 =>
    intro mme x2 hE H locs hP hS ls hl
    have hE : fX12_goesOffList_29b N mde p1 (fX12_goesOffList_29 N mde p1 n) mme x2 = some mme' := hE
    refine lv_iload_n F.1 F.2.1 dX12_goesOffList_29 rfl (lv_at hl 1 rfl) ?_
    refine lv_aload_n F.1 F.2.1 dX12_goesOffList_30 rfl (lv_at hl 0 rfl) ?_
    obtain ⟨r57, hc, hE⟩ := bnd1_some hE
    refine aft_i (run_V (rest := [.int x2]) F (kX12_listed hc) (okM Z) C hS lkX12_97 ⟨Nat.le_of_ble_eq_true rfl, Nat.le_of_ble_eq_true rfl⟩ (rvM C hP) hP rfl hl.1 rfl (lv_room (Nat.le_of_ble_eq_true rfl)) dX12_goesOffList_31 ⟨Nat.zero_le _, Nat.zero_le _⟩) hS (fun H locs hP hS => ?_)
    refine lv_icmp_ge (tgt := 73) F.1 F.2.1 dX12_goesOffList_34 (by decide) (fun hc => ?_) (fun hc => ?_)
    · have hE := ifp hE hc
      obtain rfl := Option.some.inj hE
      exact ret_v F hr hlk hP hS dX12_goesOffList_73
    · have hE := ifn hE hc
      refine lv_aload_n F.1 F.2.1 dX12_goesOffList_37 rfl (lv_at hl 0 rfl) ?_
      refine gX12_53 F C hP dX12_goesOffList_38 ?_
      refine lv_aload_n F.1 F.2.1 dX12_goesOffList_41 rfl (lv_at hl 0 rfl) ?_
      refine gX12_85 F C hP dX12_goesOffList_42 ?_
      refine lv_bipush (v := 9) F.1 F.2.1 dX12_goesOffList_45 (by decide) ?_
      refine lv_iadd F.1 F.2.1 dX12_goesOffList_47 ?_
      refine lv_iload_n F.1 F.2.1 dX12_goesOffList_48 rfl (lv_at hl 1 rfl) ?_
      refine lv_iadd F.1 F.2.1 dX12_goesOffList_49 ?_
      refine lv_aload_n F.1 F.2.1 dX12_goesOffList_50 rfl (lv_at hl 0 rfl) ?_
      refine gX12_53 F C hP dX12_goesOffList_51 ?_
      refine lv_aload_n F.1 F.2.1 dX12_goesOffList_54 rfl (lv_at hl 0 rfl) ?_
      refine gX12_85 F C hP dX12_goesOffList_55 ?_
      refine lv_bipush (v := 9) F.1 F.2.1 dX12_goesOffList_58 (by decide) ?_
      refine lv_iadd F.1 F.2.1 dX12_goesOffList_60 ?_
      refine lv_iload_n F.1 F.2.1 dX12_goesOffList_61 rfl (lv_at hl 1 rfl) ?_
      refine lv_iadd F.1 F.2.1 dX12_goesOffList_62 ?_
      refine lv_iconst (v := 1) F.1 F.2.1 dX12_goesOffList_63 (by decide) ?_
      refine lv_iadd F.1 F.2.1 dX12_goesOffList_64 ?_
      obtain ⟨hi, hE⟩ := grd_some hE
      refine am3 F C hP hi dX12_goesOffList_65 ?_
      obtain ⟨hi, hE⟩ := grd_some hE
      obtain ⟨mme_58, emme_58, hE⟩ := lt_some hE
      refine sm3 F C hP hi hS emme_58.symm dX12_goesOffList_66 (fun H locs hP hS => ?_)
      refine lv_iinc (v := x2 + 1) (lv' := [(2, .int (x2 + 1)), (0, .ref (mA Z 0))]) F.1 F.2.1 dX12_goesOffList_67 hl (k := 1) rfl rfl (by decide) rfl (fun ls hl => ?_)
      refine lv_goto (tgt := 29) F.1 F.2.1 dX12_goesOffList_70 (by decide) ?_
      exact h29 mme_58 (x2 + 1) hE _ _ hP hS ls (lv_sub hl [1, 0] rfl)
set_option maxRecDepth 100000 in
set_option maxHeartbeats 4000000 in
theorem kX12_goesOffList {l : Launch} {Z : ZC} {mth : Int32} {mto : Int32} {mrw : Nat → Int64} {mta : Nat → Int32} {mtp : Int32} {mat : Int32} {mtt : Int32} {mme : Nat → Int32} {mun : Int32} {mde : Int32} {mco : Nat → Int32} {mcn : Nat → Int32} {mvi : Int32} {men : Int32} {mfa : Nat → Int32} {mac : Nat → Int32} {mfi : Nat → Int32} {mse : Nat → Int32} {mtd : Nat → Int32} {mra : Int32} {mkp : Nat → Int32} {N : Nat} {p1 : Int32} {mme' : Nat → Int32} (hE : fX12_goesOffList N mme mde p1 = some mme') : Mg l yX12_goesOffList cX12_goesOffList 3 none (rmk 1 23) (KM Z) (AM Z) [.ref (mA Z 0), .int p1] (PM Z mth mto mrw mta mtp mat mtt mme mun mde mco mcn mvi men mfa mac mfi mse mtd mra mkp) (Qv (KM Z) (AM Z) (PM Z mth mto mrw mta mtp mat mtt mme' mun mde mco mcn mvi men mfa mac mfi mse mtd mra mkp)) := by
  refine Mg.start (lv := [(0, .ref (mA Z 0)), (1, .int p1)]) (by decide) rfl (Nat.le_of_ble_eq_true rfl) rfl ?_
  intro p e s m below meth c F hr hlk C hP ls hl
  have hS : va_S (AM Z) s.heap s.heap [] := va_S.rf
  unfold fX12_goesOffList at hE
  refine lv_aload_n F.1 F.2.1 dX12_goesOffList_0 rfl (lv_at hl 0 rfl) ?_
  refine lv_aload_n F.1 F.2.1 dX12_goesOffList_1 rfl (lv_at hl 0 rfl) ?_
  refine lv_iload_n F.1 F.2.1 dX12_goesOffList_2 rfl (lv_at hl 1 rfl) ?_
  obtain ⟨r54, hc, hE⟩ := bnd1_some hE
  refine aft_i (run_V (rest := [.ref (mA Z 0)]) F (kX12_onList hc) (okM Z) C hS lkX12_100 ⟨Nat.le_of_ble_eq_true rfl, Nat.le_of_ble_eq_true rfl⟩ (rvM C hP) hP rfl hl.1 rfl (lv_room (Nat.le_of_ble_eq_true rfl)) dX12_goesOffList_3 ⟨Nat.zero_le _, Nat.zero_le _⟩) hS (fun H locs hP hS => ?_)
  refine lv_bipush (v := 6) F.1 F.2.1 dX12_goesOffList_6 (by decide) ?_
  refine lv_iconst (v := 0) F.1 F.2.1 dX12_goesOffList_8 (by decide) ?_
  obtain ⟨mme_55, hc, hE⟩ := bnd1_some hE
  refine aft_v (run_V (rest := []) F (kX12_puts hc) (okM Z) C hS lkX12_104 ⟨Nat.le_of_ble_eq_true rfl, Nat.le_of_ble_eq_true rfl⟩ (rvM C hP) hP rfl hl.1 rfl (lv_room (Nat.le_of_ble_eq_true rfl)) dX12_goesOffList_9 ⟨Nat.zero_le _, Nat.zero_le _⟩) hS (fun H locs hP hS => ?_)
  refine lv_aload_n F.1 F.2.1 dX12_goesOffList_12 rfl (lv_at hl 0 rfl) ?_
  refine gX12_53 F C hP dX12_goesOffList_13 ?_
  refine lv_aload_n F.1 F.2.1 dX12_goesOffList_16 rfl (lv_at hl 0 rfl) ?_
  refine gX12_85 F C hP dX12_goesOffList_17 ?_
  refine lv_iconst (v := 1) F.1 F.2.1 dX12_goesOffList_20 (by decide) ?_
  refine lv_iadd F.1 F.2.1 dX12_goesOffList_21 ?_
  refine lv_dup2_11 F.1 F.2.1 dX12_goesOffList_22 rfl rfl ?_
  obtain ⟨hi, hE⟩ := grd_some hE
  refine am3 F C hP hi dX12_goesOffList_23 ?_
  refine lv_iconst (v := 1) F.1 F.2.1 dX12_goesOffList_24 (by decide) ?_
  refine lv_isub F.1 F.2.1 dX12_goesOffList_25 ?_
  obtain ⟨hi, hE⟩ := grd_some hE
  obtain ⟨mme_56, emme_56, hE⟩ := lt_some hE
  refine sm3 F C hP hi hS emme_56.symm dX12_goesOffList_26 (fun H locs hP hS => ?_)
  refine lv_iload_n F.1 F.2.1 dX12_goesOffList_27 rfl (lv_at hl 1 rfl) ?_
  refine lv_istore_n (lv' := [(2, .int p1), (0, .ref (mA Z 0)), (1, .int p1)]) F.1 F.2.1 dX12_goesOffList_28 rfl hl (by decide) rfl (fun ls hl => ?_)
  exact qX12_goesOffList_29 F hr hlk C N mme_56 p1 hE _ _ hP hS ls (lv_sub hl [1, 0] rfl)
set_option maxRecDepth 100000 in
set_option maxHeartbeats 4000000 in
theorem kX12_isSuspect {l : Launch} {Z : ZC} {mth : Int32} {mto : Int32} {mrw : Nat → Int64} {mta : Nat → Int32} {mtp : Int32} {mat : Int32} {mtt : Int32} {mme : Nat → Int32} {mun : Int32} {mde : Int32} {mco : Nat → Int32} {mcn : Nat → Int32} {mvi : Int32} {men : Int32} {mfa : Nat → Int32} {mac : Nat → Int32} {mfi : Nat → Int32} {mse : Nat → Int32} {mtd : Nat → Int32} {mra : Int32} {mkp : Nat → Int32} {N : Nat} {p1 : Int32} {mme' : Nat → Int32} (hE : fX12_isSuspect N mme mde p1 = some mme') : Mg l yX12_isSuspect cX12_isSuspect 2 none (rmk 2 43) (KM Z) (AM Z) [.ref (mA Z 0), .int p1] (PM Z mth mto mrw mta mtp mat mtt mme mun mde mco mcn mvi men mfa mac mfi mse mtd mra mkp) (Qv (KM Z) (AM Z) (PM Z mth mto mrw mta mtp mat mtt mme' mun mde mco mcn mvi men mfa mac mfi mse mtd mra mkp)) := by
  refine Mg.start (lv := [(0, .ref (mA Z 0)), (1, .int p1)]) (by decide) rfl (Nat.le_of_ble_eq_true rfl) rfl ?_
  intro p e s m below meth c F hr hlk C hP ls hl
  have hS : va_S (AM Z) s.heap s.heap [] := va_S.rf
  unfold fX12_isSuspect at hE
  refine lv_aload_n F.1 F.2.1 dX12_isSuspect_0 rfl (lv_at hl 0 rfl) ?_
  refine lv_iload_n F.1 F.2.1 dX12_isSuspect_1 rfl (lv_at hl 1 rfl) ?_
  refine lv_bipush (v := 6) F.1 F.2.1 dX12_isSuspect_2 (by decide) ?_
  refine lv_iconst (v := 1) F.1 F.2.1 dX12_isSuspect_4 (by decide) ?_
  obtain ⟨mme_64, hc, hE⟩ := bnd1_some hE
  refine aft_v (run_V (rest := []) F (kX12_puts hc) (okM Z) C hS lkX12_104 ⟨Nat.le_of_ble_eq_true rfl, Nat.le_of_ble_eq_true rfl⟩ (rvM C hP) hP rfl hl.1 rfl (lv_room (Nat.le_of_ble_eq_true rfl)) dX12_isSuspect_5 ⟨Nat.zero_le _, Nat.zero_le _⟩) hS (fun H locs hP hS => ?_)
  refine lv_aload_n F.1 F.2.1 dX12_isSuspect_8 rfl (lv_at hl 0 rfl) ?_
  refine lv_iload_n F.1 F.2.1 dX12_isSuspect_9 rfl (lv_at hl 1 rfl) ?_
  obtain ⟨r65, hc, hE⟩ := bnd1_some hE
  refine aft_i (run_V (rest := []) F (kX12_placeOnList hc) (okM Z) C hS lkX12_108 ⟨Nat.le_of_ble_eq_true rfl, Nat.le_of_ble_eq_true rfl⟩ (rvM C hP) hP rfl hl.1 rfl (lv_room (Nat.le_of_ble_eq_true rfl)) dX12_isSuspect_10 ⟨Nat.zero_le _, Nat.zero_le _⟩) hS (fun H locs hP hS => ?_)
  refine lv_if_ge (tgt := 49) F.1 F.2.1 dX12_isSuspect_13 (by decide) (fun hc => ?_) (fun hc => ?_)
  · have hE := ifp hE hc
    obtain rfl := Option.some.inj hE
    exact ret_v F hr hlk hP hS dX12_isSuspect_49
  · have hE := ifn hE hc
    refine lv_aload_n F.1 F.2.1 dX12_isSuspect_16 rfl (lv_at hl 0 rfl) ?_
    refine gX12_53 F C hP dX12_isSuspect_17 ?_
    refine lv_aload_n F.1 F.2.1 dX12_isSuspect_20 rfl (lv_at hl 0 rfl) ?_
    refine gX12_85 F C hP dX12_isSuspect_21 ?_
    refine lv_bipush (v := 9) F.1 F.2.1 dX12_isSuspect_24 (by decide) ?_
    refine lv_iadd F.1 F.2.1 dX12_isSuspect_26 ?_
    refine lv_aload_n F.1 F.2.1 dX12_isSuspect_27 rfl (lv_at hl 0 rfl) ?_
    obtain ⟨r66, hc, hE⟩ := bnd1_some hE
    refine aft_i (run_V (rest := [.int (mde + 9), .ref (mA Z 3)]) F (kX12_listed hc) (okM Z) C hS lkX12_97 ⟨Nat.le_of_ble_eq_true rfl, Nat.le_of_ble_eq_true rfl⟩ (rvM C hP) hP rfl hl.1 rfl (lv_room (Nat.le_of_ble_eq_true rfl)) dX12_isSuspect_28 ⟨Nat.zero_le _, Nat.zero_le _⟩) hS (fun H locs hP hS => ?_)
    refine lv_iadd F.1 F.2.1 dX12_isSuspect_31 ?_
    refine lv_iload_n F.1 F.2.1 dX12_isSuspect_32 rfl (lv_at hl 1 rfl) ?_
    obtain ⟨hi, hE⟩ := grd_some hE
    obtain ⟨mme_67, emme_67, hE⟩ := lt_some hE
    refine sm3 F C hP hi hS emme_67.symm dX12_isSuspect_33 (fun H locs hP hS => ?_)
    refine lv_aload_n F.1 F.2.1 dX12_isSuspect_34 rfl (lv_at hl 0 rfl) ?_
    refine gX12_53 F C hP dX12_isSuspect_35 ?_
    refine lv_aload_n F.1 F.2.1 dX12_isSuspect_38 rfl (lv_at hl 0 rfl) ?_
    refine gX12_85 F C hP dX12_isSuspect_39 ?_
    refine lv_iconst (v := 1) F.1 F.2.1 dX12_isSuspect_42 (by decide) ?_
    refine lv_iadd F.1 F.2.1 dX12_isSuspect_43 ?_
    refine lv_dup2_11 F.1 F.2.1 dX12_isSuspect_44 rfl rfl ?_
    obtain ⟨hi, hE⟩ := grd_some hE
    refine am3 F C hP hi dX12_isSuspect_45 ?_
    refine lv_iconst (v := 1) F.1 F.2.1 dX12_isSuspect_46 (by decide) ?_
    refine lv_iadd F.1 F.2.1 dX12_isSuspect_47 ?_
    obtain ⟨hi, hE⟩ := grd_some hE
    obtain ⟨mme_68, emme_68, hE⟩ := lt_some hE
    refine sm3 F C hP hi hS emme_68.symm dX12_isSuspect_48 (fun H locs hP hS => ?_)
    obtain rfl := Option.some.inj hE
    exact ret_v F hr hlk hP hS dX12_isSuspect_49
set_option maxRecDepth 100000 in
set_option maxHeartbeats 4000000 in
theorem kX12_countsUp {l : Launch} {Z : ZC} {mth : Int32} {mto : Int32} {mrw : Nat → Int64} {mta : Nat → Int32} {mtp : Int32} {mat : Int32} {mtt : Int32} {mme : Nat → Int32} {mun : Int32} {mde : Int32} {mco : Nat → Int32} {mcn : Nat → Int32} {mvi : Int32} {men : Int32} {mfa : Nat → Int32} {mac : Nat → Int32} {mfi : Nat → Int32} {mse : Nat → Int32} {mtd : Nat → Int32} {mra : Int32} {mkp : Nat → Int32} {p1 : Int32} {mme' : Nat → Int32} (hE : fX12_countsUp mme mde p1 = some mme') : Mg l yX12_countsUp cX12_countsUp 2 none (rmk 1 23) (KM Z) (AM Z) [.ref (mA Z 0), .int p1] (PM Z mth mto mrw mta mtp mat mtt mme mun mde mco mcn mvi men mfa mac mfi mse mtd mra mkp) (Qv (KM Z) (AM Z) (PM Z mth mto mrw mta mtp mat mtt mme' mun mde mco mcn mvi men mfa mac mfi mse mtd mra mkp)) := by
  refine Mg.start (lv := [(0, .ref (mA Z 0)), (1, .int p1)]) (by decide) rfl (Nat.le_of_ble_eq_true rfl) rfl ?_
  intro p e s m below meth c F hr hlk C hP ls hl
  have hS : va_S (AM Z) s.heap s.heap [] := va_S.rf
  unfold fX12_countsUp at hE
  refine lv_aload_n F.1 F.2.1 dX12_countsUp_0 rfl (lv_at hl 0 rfl) ?_
  refine lv_iload_n F.1 F.2.1 dX12_countsUp_1 rfl (lv_at hl 1 rfl) ?_
  refine lv_iconst (v := 5) F.1 F.2.1 dX12_countsUp_2 (by decide) ?_
  refine lv_aload_n F.1 F.2.1 dX12_countsUp_3 rfl (lv_at hl 0 rfl) ?_
  refine lv_iload_n F.1 F.2.1 dX12_countsUp_4 rfl (lv_at hl 1 rfl) ?_
  refine lv_iconst (v := 5) F.1 F.2.1 dX12_countsUp_5 (by decide) ?_
  obtain ⟨r72, hc, hE⟩ := bnd1_some hE
  refine aft_i (run_V (rest := [.int 5, .int p1, .ref (mA Z 0)]) F (kX12_of hc) (okM Z) C hS lkX12_91 ⟨Nat.le_of_ble_eq_true rfl, Nat.le_of_ble_eq_true rfl⟩ (rvM C hP) hP rfl hl.1 rfl (lv_room (Nat.le_of_ble_eq_true rfl)) dX12_countsUp_6 ⟨Nat.zero_le _, Nat.zero_le _⟩) hS (fun H locs hP hS => ?_)
  refine lv_iconst (v := 1) F.1 F.2.1 dX12_countsUp_9 (by decide) ?_
  refine lv_iadd F.1 F.2.1 dX12_countsUp_10 ?_
  obtain ⟨mme_73, hc, hE⟩ := bnd1_some hE
  refine aft_v (run_V (rest := []) F (kX12_puts hc) (okM Z) C hS lkX12_104 ⟨Nat.le_of_ble_eq_true rfl, Nat.le_of_ble_eq_true rfl⟩ (rvM C hP) hP rfl hl.1 rfl (lv_room (Nat.le_of_ble_eq_true rfl)) dX12_countsUp_11 ⟨Nat.zero_le _, Nat.zero_le _⟩) hS (fun H locs hP hS => ?_)
  refine lv_aload_n F.1 F.2.1 dX12_countsUp_14 rfl (lv_at hl 0 rfl) ?_
  refine lv_iload_n F.1 F.2.1 dX12_countsUp_15 rfl (lv_at hl 1 rfl) ?_
  refine lv_bipush (v := 6) F.1 F.2.1 dX12_countsUp_16 (by decide) ?_
  refine lv_iconst (v := 0) F.1 F.2.1 dX12_countsUp_18 (by decide) ?_
  obtain ⟨mme_74, hc, hE⟩ := bnd1_some hE
  refine aft_v (run_V (rest := []) F (kX12_puts hc) (okM Z) C hS lkX12_104 ⟨Nat.le_of_ble_eq_true rfl, Nat.le_of_ble_eq_true rfl⟩ (rvM C hP) hP rfl hl.1 rfl (lv_room (Nat.le_of_ble_eq_true rfl)) dX12_countsUp_19 ⟨Nat.zero_le _, Nat.zero_le _⟩) hS (fun H locs hP hS => ?_)
  obtain rfl := Option.some.inj hE
  exact ret_v F hr hlk hP hS dX12_countsUp_22
set_option maxRecDepth 100000 in
set_option maxHeartbeats 4000000 in
theorem qX12_clearsWeak_2 {p : Program} {l : Launch} {e : Env} {s : State} {m : MethodId} {args : Array Value} {below : List Frame} {meth : Method} {c : Code} {Z : ZC} {mth : Int32} {mto : Int32} {mrw : Nat → Int64} {mta : Nat → Int32} {mtp : Int32} {mat : Int32} {mtt : Int32} {mun : Int32} {mde : Int32} {mco : Nat → Int32} {mcn : Nat → Int32} {mvi : Int32} {men : Int32} {mfa : Nat → Int32} {mac : Nat → Int32} {mfi : Nat → Int32} {mse : Nat → Int32} {mtd : Nat → Int32} {mra : Int32} {mkp : Nat → Int32} {N : Nat} {p1 : Int32} {mme' : Nat → Int32} (F : CallFix p m c cX12_clearsWeak 3 s args bigW RX12) (hr : meth.sig.returnType = none) (hlk : meth.locks = false) (C : KM Z s) : ∀ n : Nat, ∀ (mme : Nat → Int32) (x2 : Int32), fX12_clearsWeak_2 N mde p1 n mme x2 = some mme' → ∀ (H : Heap) (locs : List Loc), PM Z mth mto mrw mta mtp mat mtt mme mun mde mco mcn mvi men mfa mac mfi mse mtd mra mkp H → va_S (AM Z) s.heap H locs → ∀ ls : Array Slot, lv_has ls 3 [(0, .ref (mA Z 0)), (1, .int p1), (2, .int x2)] → W p l e (rmk 1 23) s m args below meth c H locs 0 0 (MQ below (Qv (KM Z) (AM Z) (PM Z mth mto mrw mta mtp mat mtt mme' mun mde mco mcn mvi men mfa mac mfi mse mtd mra mkp)) args s 0 0 (AM Z)) (F0 m 2 ls []) := by
  intro n
  induction n with
  | zero => intro mme x2 hE; cases hE
  | succ n h2 =>
    intro mme x2 hE H locs hP hS ls hl
    have hE : fX12_clearsWeak_2b N mde p1 (fX12_clearsWeak_2 N mde p1 n) mme x2 = some mme' := hE
    refine lv_iload_n F.1 F.2.1 dX12_clearsWeak_2 rfl (lv_at hl 2 rfl) ?_
    refine lv_iconst (v := 4) F.1 F.2.1 dX12_clearsWeak_3 (by decide) ?_
    refine lv_icmp_ge (tgt := 43) F.1 F.2.1 dX12_clearsWeak_4 (by decide) (fun hc => ?_) (fun hc => ?_)
    · have hE := ifp hE hc
      obtain rfl := Option.some.inj hE
      exact ret_v F hr hlk hP hS dX12_clearsWeak_43
    · have hE := ifn hE hc
      refine lv_aload_n F.1 F.2.1 dX12_clearsWeak_7 rfl (lv_at hl 0 rfl) ?_
      refine lv_iload_n F.1 F.2.1 dX12_clearsWeak_8 rfl (lv_at hl 2 rfl) ?_
      obtain ⟨r78, hc, hE⟩ := bnd1_some hE
      refine aft_i (run_V (rest := []) F (kX12_weakOf hc) (okM Z) C hS lkX12_143 ⟨Nat.le_of_ble_eq_true rfl, Nat.le_of_ble_eq_true rfl⟩ (rvM C hP) hP rfl hl.1 rfl (lv_room (Nat.le_of_ble_eq_true rfl)) dX12_clearsWeak_9 ⟨Nat.zero_le _, Nat.zero_le _⟩) hS (fun H locs hP hS => ?_)
      refine lv_iload_n F.1 F.2.1 dX12_clearsWeak_12 rfl (lv_at hl 1 rfl) ?_
      refine lv_icmp_ne (tgt := 37) F.1 F.2.1 dX12_clearsWeak_13 (by decide) (fun hc => ?_) (fun hc => ?_)
      · have hE := ifn hE hc
        refine lv_iinc (v := x2 + 1) (lv' := [(2, .int (x2 + 1)), (0, .ref (mA Z 0)), (1, .int p1)]) F.1 F.2.1 dX12_clearsWeak_37 hl (k := 2) rfl rfl (by decide) rfl (fun ls hl => ?_)
        refine lv_goto (tgt := 2) F.1 F.2.1 dX12_clearsWeak_40 (by decide) ?_
        exact h2 mme (x2 + 1) hE _ _ hP hS ls (lv_sub hl [1, 2, 0] rfl)
      · have hE := ifp hE hc
        refine lv_aload_n F.1 F.2.1 dX12_clearsWeak_16 rfl (lv_at hl 0 rfl) ?_
        refine gX12_53 F C hP dX12_clearsWeak_17 ?_
        refine lv_aload_n F.1 F.2.1 dX12_clearsWeak_20 rfl (lv_at hl 0 rfl) ?_
        refine gX12_85 F C hP dX12_clearsWeak_21 ?_
        refine lv_bipush (v := 39) F.1 F.2.1 dX12_clearsWeak_24 (by decide) ?_
        refine lv_iadd F.1 F.2.1 dX12_clearsWeak_26 ?_
        refine lv_iload_n F.1 F.2.1 dX12_clearsWeak_27 rfl (lv_at hl 2 rfl) ?_
        refine lv_iadd F.1 F.2.1 dX12_clearsWeak_28 ?_
        refine lv_iconst (v := (-1)) F.1 F.2.1 dX12_clearsWeak_29 (by decide) ?_
        obtain ⟨hi, hE⟩ := grd_some hE
        obtain ⟨mme_79, emme_79, hE⟩ := lt_some hE
        refine sm3 F C hP hi hS emme_79.symm dX12_clearsWeak_30 (fun H locs hP hS => ?_)
        refine lv_aload_n F.1 F.2.1 dX12_clearsWeak_31 rfl (lv_at hl 0 rfl) ?_
        refine lv_iconst (v := 5) F.1 F.2.1 dX12_clearsWeak_32 (by decide) ?_
        refine lv_iload_n F.1 F.2.1 dX12_clearsWeak_33 rfl (lv_at hl 1 rfl) ?_
        obtain ⟨mme_80, hc, hE⟩ := bnd1_some hE
        refine aft_v (run_V (rest := []) F (kX12_logs hc) (okM Z) C hS lkX12_125 ⟨Nat.le_of_ble_eq_true rfl, Nat.le_of_ble_eq_true rfl⟩ (rvM C hP) hP rfl hl.1 rfl (lv_room (Nat.le_of_ble_eq_true rfl)) dX12_clearsWeak_34 ⟨Nat.zero_le _, Nat.zero_le _⟩) hS (fun H locs hP hS => ?_)
        refine lv_iinc (v := x2 + 1) (lv' := [(2, .int (x2 + 1)), (0, .ref (mA Z 0)), (1, .int p1)]) F.1 F.2.1 dX12_clearsWeak_37 hl (k := 2) rfl rfl (by decide) rfl (fun ls hl => ?_)
        refine lv_goto (tgt := 2) F.1 F.2.1 dX12_clearsWeak_40 (by decide) ?_
        exact h2 mme_80 (x2 + 1) hE _ _ hP hS ls (lv_sub hl [1, 2, 0] rfl)
set_option maxRecDepth 100000 in
set_option maxHeartbeats 4000000 in
theorem kX12_clearsWeak {l : Launch} {Z : ZC} {mth : Int32} {mto : Int32} {mrw : Nat → Int64} {mta : Nat → Int32} {mtp : Int32} {mat : Int32} {mtt : Int32} {mme : Nat → Int32} {mun : Int32} {mde : Int32} {mco : Nat → Int32} {mcn : Nat → Int32} {mvi : Int32} {men : Int32} {mfa : Nat → Int32} {mac : Nat → Int32} {mfi : Nat → Int32} {mse : Nat → Int32} {mtd : Nat → Int32} {mra : Int32} {mkp : Nat → Int32} {N : Nat} {p1 : Int32} {mme' : Nat → Int32} (hE : fX12_clearsWeak N mme mde p1 = some mme') : Mg l yX12_clearsWeak cX12_clearsWeak 3 none (rmk 1 23) (KM Z) (AM Z) [.ref (mA Z 0), .int p1] (PM Z mth mto mrw mta mtp mat mtt mme mun mde mco mcn mvi men mfa mac mfi mse mtd mra mkp) (Qv (KM Z) (AM Z) (PM Z mth mto mrw mta mtp mat mtt mme' mun mde mco mcn mvi men mfa mac mfi mse mtd mra mkp)) := by
  refine Mg.start (lv := [(0, .ref (mA Z 0)), (1, .int p1)]) (by decide) rfl (Nat.le_of_ble_eq_true rfl) rfl ?_
  intro p e s m below meth c F hr hlk C hP ls hl
  have hS : va_S (AM Z) s.heap s.heap [] := va_S.rf
  unfold fX12_clearsWeak at hE
  refine lv_iconst (v := 0) F.1 F.2.1 dX12_clearsWeak_0 (by decide) ?_
  refine lv_istore_n (lv' := [(2, .int 0), (0, .ref (mA Z 0)), (1, .int p1)]) F.1 F.2.1 dX12_clearsWeak_1 rfl hl (by decide) rfl (fun ls hl => ?_)
  exact qX12_clearsWeak_2 F hr hlk C N mme 0 hE _ _ hP hS ls (lv_sub hl [1, 2, 0] rfl)
set_option maxRecDepth 100000 in
set_option maxHeartbeats 4000000 in
theorem qX12_laysRoot_o_30 {p : Program} {l : Launch} {e : Env} {s : State} {m : MethodId} {args : Array Value} {below : List Frame} {meth : Method} {c : Code} {Z : ZC} {mth : Int32} {mto : Int32} {mrw : Nat → Int64} {mta : Nat → Int32} {mtp : Int32} {mat : Int32} {mtt : Int32} {mun : Int32} {mde : Int32} {mco : Nat → Int32} {mcn : Nat → Int32} {mvi : Int32} {men : Int32} {mfa : Nat → Int32} {mac : Nat → Int32} {mfi : Nat → Int32} {mse : Nat → Int32} {mtd : Nat → Int32} {mra : Int32} {mkp : Nat → Int32} {rc : (Nat → Int32) → Int32 → Int32 → Option ((Nat → Int32))} {p1 : Int32} {p2 : Int32} {mme' : Nat → Int32} (F : CallFix p m c cX12_laysRoot 4 s args bigW RX12) (hr : meth.sig.returnType = none) (hlk : meth.locks = false) (C : KM Z s) {fa lb : Nat} (hfa : 8 ≤ fa) (hlb : 400 ≤ lb) (hrc : ∀ {mth : Int32} {mto : Int32} {mrw : Nat → Int64} {mta : Nat → Int32} {mtp : Int32} {mat : Int32} {mtt : Int32} {mme : Nat → Int32} {mun : Int32} {mde : Int32} {mco : Nat → Int32} {mcn : Nat → Int32} {mvi : Int32} {men : Int32} {mfa : Nat → Int32} {mac : Nat → Int32} {mfi : Nat → Int32} {mse : Nat → Int32} {mtd : Nat → Int32} {mra : Int32} {mkp : Nat → Int32} {o0 : Int32} {mme' : Nat → Int32}, rc mme mde o0 = some mme' → Mg l yX12_countsDown cX12_countsDown 3 none (rmk fa lb) (KM Z) (AM Z) [.ref (mA Z 0), .int o0] (PM Z mth mto mrw mta mtp mat mtt mme mun mde mco mcn mvi men mfa mac mfi mse mtd mra mkp) (Qv (KM Z) (AM Z) (PM Z mth mto mrw mta mtp mat mtt mme' mun mde mco mcn mvi men mfa mac mfi mse mtd mra mkp))) : ∀ (mme : Nat → Int32) (x3 : Int32), fX12_laysRoot_o_30 rc mde p1 p2 mme x3 = some mme' → ∀ (H : Heap) (locs : List Loc), PM Z mth mto mrw mta mtp mat mtt mme mun mde mco mcn mvi men mfa mac mfi mse mtd mra mkp H → va_S (AM Z) s.heap H locs → ∀ ls : Array Slot, lv_has ls 4 [(0, .ref (mA Z 0)), (3, .int x3)] → W p l e (rmk (fa + 1) (lb + 22)) s m args below meth c H locs 0 0 (MQ below (Qv (KM Z) (AM Z) (PM Z mth mto mrw mta mtp mat mtt mme' mun mde mco mcn mvi men mfa mac mfi mse mtd mra mkp)) args s 0 0 (AM Z)) (F0 m 30 ls []) := by
  intro mme x3 hE H locs hP hS ls hl
  unfold fX12_laysRoot_o_30 at hE
  refine lv_iload_n F.1 F.2.1 dX12_laysRoot_30 rfl (lv_at hl 1 rfl) ?_
  refine lv_if_lt (tgt := 39) F.1 F.2.1 dX12_laysRoot_31 (by decide) (fun hc => ?_) (fun hc => ?_)
  · have hE := ifp hE hc
    obtain rfl := Option.some.inj hE
    exact ret_v F hr hlk hP hS dX12_laysRoot_39
  · have hE := ifn hE hc
    refine lv_aload_n F.1 F.2.1 dX12_laysRoot_34 rfl (lv_at hl 0 rfl) ?_
    refine lv_iload_n F.1 F.2.1 dX12_laysRoot_35 rfl (lv_at hl 1 rfl) ?_
    obtain ⟨mme_88, hc, hE⟩ := bnd1_some hE
    refine aft_v (run_V (rest := []) F (hrc hc) (okM Z) C hS lkX12_137 ⟨by simp only [rmk]; omega, by simp only [rmk]; omega⟩ (rvM C hP) hP rfl hl.1 rfl (lv_room (Nat.le_of_ble_eq_true rfl)) dX12_laysRoot_36 ⟨Nat.zero_le _, Nat.zero_le _⟩) hS (fun H locs hP hS => ?_)
    obtain rfl := Option.some.inj hE
    exact ret_v F hr hlk hP hS dX12_laysRoot_39
set_option maxRecDepth 100000 in
set_option maxHeartbeats 4000000 in
theorem kX12_laysRoot_o {l : Launch} {Z : ZC} {mth : Int32} {mto : Int32} {mrw : Nat → Int64} {mta : Nat → Int32} {mtp : Int32} {mat : Int32} {mtt : Int32} {mme : Nat → Int32} {mun : Int32} {mde : Int32} {mco : Nat → Int32} {mcn : Nat → Int32} {mvi : Int32} {men : Int32} {mfa : Nat → Int32} {mac : Nat → Int32} {mfi : Nat → Int32} {mse : Nat → Int32} {mtd : Nat → Int32} {mra : Int32} {mkp : Nat → Int32} {p1 : Int32} {p2 : Int32} {mme' : Nat → Int32} {rc : (Nat → Int32) → Int32 → Int32 → Option ((Nat → Int32))} {fa lb : Nat} (hfa : 8 ≤ fa) (hlb : 400 ≤ lb) (hrc : ∀ {mth : Int32} {mto : Int32} {mrw : Nat → Int64} {mta : Nat → Int32} {mtp : Int32} {mat : Int32} {mtt : Int32} {mme : Nat → Int32} {mun : Int32} {mde : Int32} {mco : Nat → Int32} {mcn : Nat → Int32} {mvi : Int32} {men : Int32} {mfa : Nat → Int32} {mac : Nat → Int32} {mfi : Nat → Int32} {mse : Nat → Int32} {mtd : Nat → Int32} {mra : Int32} {mkp : Nat → Int32} {o0 : Int32} {mme' : Nat → Int32}, rc mme mde o0 = some mme' → Mg l yX12_countsDown cX12_countsDown 3 none (rmk fa lb) (KM Z) (AM Z) [.ref (mA Z 0), .int o0] (PM Z mth mto mrw mta mtp mat mtt mme mun mde mco mcn mvi men mfa mac mfi mse mtd mra mkp) (Qv (KM Z) (AM Z) (PM Z mth mto mrw mta mtp mat mtt mme' mun mde mco mcn mvi men mfa mac mfi mse mtd mra mkp))) (hE : fX12_laysRoot_o rc mme mde p1 p2 = some mme') : Mg l yX12_laysRoot cX12_laysRoot 4 none (rmk (fa + 1) (lb + 22)) (KM Z) (AM Z) [.ref (mA Z 0), .int p1, .int p2] (PM Z mth mto mrw mta mtp mat mtt mme mun mde mco mcn mvi men mfa mac mfi mse mtd mra mkp) (Qv (KM Z) (AM Z) (PM Z mth mto mrw mta mtp mat mtt mme' mun mde mco mcn mvi men mfa mac mfi mse mtd mra mkp)) := by
  refine Mg.start (lv := [(0, .ref (mA Z 0)), (1, .int p1), (2, .int p2)]) (by decide) rfl (Nat.le_of_ble_eq_true rfl) rfl ?_
  intro p e s m below meth c F hr hlk C hP ls hl
  have hS : va_S (AM Z) s.heap s.heap [] := va_S.rf
  unfold fX12_laysRoot_o at hE
  refine lv_aload_n F.1 F.2.1 dX12_laysRoot_0 rfl (lv_at hl 0 rfl) ?_
  refine lv_iload_n F.1 F.2.1 dX12_laysRoot_1 rfl (lv_at hl 1 rfl) ?_
  obtain ⟨r85, hc, hE⟩ := bnd1_some hE
  refine aft_i (run_V (rest := []) F (kX12_rootOf hc) (okM Z) C hS lkX12_131 ⟨by simp only [rmk]; omega, by simp only [rmk]; omega⟩ (rvM C hP) hP rfl hl.1 rfl (lv_room (Nat.le_of_ble_eq_true rfl)) dX12_laysRoot_2 ⟨Nat.zero_le _, Nat.zero_le _⟩) hS (fun H locs hP hS => ?_)
  refine lv_istore_n (lv' := [(3, .int r85), (0, .ref (mA Z 0)), (1, .int p1), (2, .int p2)]) F.1 F.2.1 dX12_laysRoot_5 rfl hl (by decide) rfl (fun ls hl => ?_)
  refine lv_aload_n F.1 F.2.1 dX12_laysRoot_6 rfl (lv_at hl 1 rfl) ?_
  refine gX12_53 F C hP dX12_laysRoot_7 ?_
  refine lv_aload_n F.1 F.2.1 dX12_laysRoot_10 rfl (lv_at hl 1 rfl) ?_
  refine gX12_85 F C hP dX12_laysRoot_11 ?_
  refine lv_bipush (v := 33) F.1 F.2.1 dX12_laysRoot_14 (by decide) ?_
  refine lv_iadd F.1 F.2.1 dX12_laysRoot_16 ?_
  refine lv_iload_n F.1 F.2.1 dX12_laysRoot_17 rfl (lv_at hl 2 rfl) ?_
  refine lv_iadd F.1 F.2.1 dX12_laysRoot_18 ?_
  refine lv_iload_n F.1 F.2.1 dX12_laysRoot_19 rfl (lv_at hl 3 rfl) ?_
  obtain ⟨hi, hE⟩ := grd_some hE
  obtain ⟨mme_86, emme_86, hE⟩ := lt_some hE
  refine sm3 F C hP hi hS emme_86.symm dX12_laysRoot_20 (fun H locs hP hS => ?_)
  refine lv_iload_n F.1 F.2.1 dX12_laysRoot_21 rfl (lv_at hl 3 rfl) ?_
  refine lv_if_lt (tgt := 30) F.1 F.2.1 dX12_laysRoot_22 (by decide) (fun hc => ?_) (fun hc => ?_)
  · have hE := ifp hE hc
    exact qX12_laysRoot_o_30 F hr hlk C hfa hlb hrc mme_86 r85 hE _ _ hP hS ls (lv_sub hl [1, 0] rfl)
  · have hE := ifn hE hc
    refine lv_aload_n F.1 F.2.1 dX12_laysRoot_25 rfl (lv_at hl 1 rfl) ?_
    refine lv_iload_n F.1 F.2.1 dX12_laysRoot_26 rfl (lv_at hl 3 rfl) ?_
    obtain ⟨mme_87, hc, hE⟩ := bnd1_some hE
    refine aft_v (run_V (rest := []) F (kX12_countsUp hc) (okM Z) C hS lkX12_134 ⟨by simp only [rmk]; omega, by simp only [rmk]; omega⟩ (rvM C hP) hP rfl hl.1 rfl (lv_room (Nat.le_of_ble_eq_true rfl)) dX12_laysRoot_27 ⟨Nat.zero_le _, Nat.zero_le _⟩) hS (fun H locs hP hS => ?_)
    exact qX12_laysRoot_o_30 F hr hlk C hfa hlb hrc mme_87 r85 hE _ _ hP hS ls (lv_sub hl [1, 0] rfl)
set_option maxRecDepth 100000 in
set_option maxHeartbeats 4000000 in
theorem qX12_laysField_o_27 {p : Program} {l : Launch} {e : Env} {s : State} {m : MethodId} {args : Array Value} {below : List Frame} {meth : Method} {c : Code} {Z : ZC} {mth : Int32} {mto : Int32} {mrw : Nat → Int64} {mta : Nat → Int32} {mtp : Int32} {mat : Int32} {mtt : Int32} {mun : Int32} {mde : Int32} {mco : Nat → Int32} {mcn : Nat → Int32} {mvi : Int32} {men : Int32} {mfa : Nat → Int32} {mac : Nat → Int32} {mfi : Nat → Int32} {mse : Nat → Int32} {mtd : Nat → Int32} {mra : Int32} {mkp : Nat → Int32} {rc : (Nat → Int32) → Int32 → Int32 → Option ((Nat → Int32))} {p1 : Int32} {p2 : Int32} {p3 : Int32} {mme' : Nat → Int32} (F : CallFix p m c cX12_laysField 5 s args bigW RX12) (hr : meth.sig.returnType = none) (hlk : meth.locks = false) (C : KM Z s) {fa lb : Nat} (hfa : 8 ≤ fa) (hlb : 400 ≤ lb) (hrc : ∀ {mth : Int32} {mto : Int32} {mrw : Nat → Int64} {mta : Nat → Int32} {mtp : Int32} {mat : Int32} {mtt : Int32} {mme : Nat → Int32} {mun : Int32} {mde : Int32} {mco : Nat → Int32} {mcn : Nat → Int32} {mvi : Int32} {men : Int32} {mfa : Nat → Int32} {mac : Nat → Int32} {mfi : Nat → Int32} {mse : Nat → Int32} {mtd : Nat → Int32} {mra : Int32} {mkp : Nat → Int32} {o0 : Int32} {mme' : Nat → Int32}, rc mme mde o0 = some mme' → Mg l yX12_countsDown cX12_countsDown 3 none (rmk fa lb) (KM Z) (AM Z) [.ref (mA Z 0), .int o0] (PM Z mth mto mrw mta mtp mat mtt mme mun mde mco mcn mvi men mfa mac mfi mse mtd mra mkp) (Qv (KM Z) (AM Z) (PM Z mth mto mrw mta mtp mat mtt mme' mun mde mco mcn mvi men mfa mac mfi mse mtd mra mkp))) : ∀ (mme : Nat → Int32) (x4 : Int32), fX12_laysField_o_27 rc mde p1 p2 p3 mme x4 = some mme' → ∀ (H : Heap) (locs : List Loc), PM Z mth mto mrw mta mtp mat mtt mme mun mde mco mcn mvi men mfa mac mfi mse mtd mra mkp H → va_S (AM Z) s.heap H locs → ∀ ls : Array Slot, lv_has ls 5 [(0, .ref (mA Z 0)), (4, .int x4)] → W p l e (rmk (fa + 1) (lb + 22)) s m args below meth c H locs 0 0 (MQ below (Qv (KM Z) (AM Z) (PM Z mth mto mrw mta mtp mat mtt mme' mun mde mco mcn mvi men mfa mac mfi mse mtd mra mkp)) args s 0 0 (AM Z)) (F0 m 27 ls []) := by
  intro mme x4 hE H locs hP hS ls hl
  unfold fX12_laysField_o_27 at hE
  refine lv_iload F.1 F.2.1 dX12_laysField_27 (lv_at hl 1 rfl) ?_
  refine lv_if_lt (tgt := 38) F.1 F.2.1 dX12_laysField_29 (by decide) (fun hc => ?_) (fun hc => ?_)
  · have hE := ifp hE hc
    obtain rfl := Option.some.inj hE
    exact ret_v F hr hlk hP hS dX12_laysField_38
  · have hE := ifn hE hc
    refine lv_aload_n F.1 F.2.1 dX12_laysField_32 rfl (lv_at hl 0 rfl) ?_
    refine lv_iload F.1 F.2.1 dX12_laysField_33 (lv_at hl 1 rfl) ?_
    obtain ⟨mme_96, hc, hE⟩ := bnd1_some hE
    refine aft_v (run_V (rest := []) F (hrc hc) (okM Z) C hS lkX12_137 ⟨by simp only [rmk]; omega, by simp only [rmk]; omega⟩ (rvM C hP) hP rfl hl.1 rfl (lv_room (Nat.le_of_ble_eq_true rfl)) dX12_laysField_35 ⟨Nat.zero_le _, Nat.zero_le _⟩) hS (fun H locs hP hS => ?_)
    obtain rfl := Option.some.inj hE
    exact ret_v F hr hlk hP hS dX12_laysField_38
set_option maxRecDepth 100000 in
set_option maxHeartbeats 4000000 in
theorem kX12_laysField_o {l : Launch} {Z : ZC} {mth : Int32} {mto : Int32} {mrw : Nat → Int64} {mta : Nat → Int32} {mtp : Int32} {mat : Int32} {mtt : Int32} {mme : Nat → Int32} {mun : Int32} {mde : Int32} {mco : Nat → Int32} {mcn : Nat → Int32} {mvi : Int32} {men : Int32} {mfa : Nat → Int32} {mac : Nat → Int32} {mfi : Nat → Int32} {mse : Nat → Int32} {mtd : Nat → Int32} {mra : Int32} {mkp : Nat → Int32} {p1 : Int32} {p2 : Int32} {p3 : Int32} {mme' : Nat → Int32} {rc : (Nat → Int32) → Int32 → Int32 → Option ((Nat → Int32))} {fa lb : Nat} (hfa : 8 ≤ fa) (hlb : 400 ≤ lb) (hrc : ∀ {mth : Int32} {mto : Int32} {mrw : Nat → Int64} {mta : Nat → Int32} {mtp : Int32} {mat : Int32} {mtt : Int32} {mme : Nat → Int32} {mun : Int32} {mde : Int32} {mco : Nat → Int32} {mcn : Nat → Int32} {mvi : Int32} {men : Int32} {mfa : Nat → Int32} {mac : Nat → Int32} {mfi : Nat → Int32} {mse : Nat → Int32} {mtd : Nat → Int32} {mra : Int32} {mkp : Nat → Int32} {o0 : Int32} {mme' : Nat → Int32}, rc mme mde o0 = some mme' → Mg l yX12_countsDown cX12_countsDown 3 none (rmk fa lb) (KM Z) (AM Z) [.ref (mA Z 0), .int o0] (PM Z mth mto mrw mta mtp mat mtt mme mun mde mco mcn mvi men mfa mac mfi mse mtd mra mkp) (Qv (KM Z) (AM Z) (PM Z mth mto mrw mta mtp mat mtt mme' mun mde mco mcn mvi men mfa mac mfi mse mtd mra mkp))) (hE : fX12_laysField_o rc mme mde p1 p2 p3 = some mme') : Mg l yX12_laysField cX12_laysField 5 none (rmk (fa + 1) (lb + 22)) (KM Z) (AM Z) [.ref (mA Z 0), .int p1, .int p2, .int p3] (PM Z mth mto mrw mta mtp mat mtt mme mun mde mco mcn mvi men mfa mac mfi mse mtd mra mkp) (Qv (KM Z) (AM Z) (PM Z mth mto mrw mta mtp mat mtt mme' mun mde mco mcn mvi men mfa mac mfi mse mtd mra mkp)) := by
  refine Mg.start (lv := [(0, .ref (mA Z 0)), (1, .int p1), (2, .int p2), (3, .int p3)]) (by decide) rfl (Nat.le_of_ble_eq_true rfl) rfl ?_
  intro p e s m below meth c F hr hlk C hP ls hl
  have hS : va_S (AM Z) s.heap s.heap [] := va_S.rf
  unfold fX12_laysField_o at hE
  refine lv_aload_n F.1 F.2.1 dX12_laysField_0 rfl (lv_at hl 0 rfl) ?_
  refine lv_iload_n F.1 F.2.1 dX12_laysField_1 rfl (lv_at hl 1 rfl) ?_
  refine lv_iload_n F.1 F.2.1 dX12_laysField_2 rfl (lv_at hl 2 rfl) ?_
  obtain ⟨r93, hc, hE⟩ := bnd1_some hE
  refine aft_i (run_V (rest := []) F (kX12_fieldOf hc) (okM Z) C hS lkX12_140 ⟨by simp only [rmk]; omega, by simp only [rmk]; omega⟩ (rvM C hP) hP rfl hl.1 rfl (lv_room (Nat.le_of_ble_eq_true rfl)) dX12_laysField_3 ⟨Nat.zero_le _, Nat.zero_le _⟩) hS (fun H locs hP hS => ?_)
  refine lv_istore (lv' := [(4, .int r93), (0, .ref (mA Z 0)), (1, .int p1), (2, .int p2), (3, .int p3)]) F.1 F.2.1 dX12_laysField_6 hl (by decide) rfl (fun ls hl => ?_)
  refine lv_aload_n F.1 F.2.1 dX12_laysField_8 rfl (lv_at hl 1 rfl) ?_
  refine lv_iload_n F.1 F.2.1 dX12_laysField_9 rfl (lv_at hl 2 rfl) ?_
  refine lv_bipush (v := 7) F.1 F.2.1 dX12_laysField_10 (by decide) ?_
  refine lv_iload_n F.1 F.2.1 dX12_laysField_12 rfl (lv_at hl 3 rfl) ?_
  refine lv_iadd F.1 F.2.1 dX12_laysField_13 ?_
  refine lv_iload_n F.1 F.2.1 dX12_laysField_14 rfl (lv_at hl 4 rfl) ?_
  obtain ⟨mme_94, hc, hE⟩ := bnd1_some hE
  refine aft_v (run_V (rest := []) F (kX12_puts hc) (okM Z) C hS lkX12_104 ⟨by simp only [rmk]; omega, by simp only [rmk]; omega⟩ (rvM C hP) hP rfl hl.1 rfl (lv_room (Nat.le_of_ble_eq_true rfl)) dX12_laysField_15 ⟨Nat.zero_le _, Nat.zero_le _⟩) hS (fun H locs hP hS => ?_)
  refine lv_iload_n F.1 F.2.1 dX12_laysField_18 rfl (lv_at hl 4 rfl) ?_
  refine lv_if_lt (tgt := 27) F.1 F.2.1 dX12_laysField_19 (by decide) (fun hc => ?_) (fun hc => ?_)
  · have hE := ifp hE hc
    exact qX12_laysField_o_27 F hr hlk C hfa hlb hrc mme_94 r93 hE _ _ hP hS ls (lv_sub hl [1, 0] rfl)
  · have hE := ifn hE hc
    refine lv_aload_n F.1 F.2.1 dX12_laysField_22 rfl (lv_at hl 1 rfl) ?_
    refine lv_iload_n F.1 F.2.1 dX12_laysField_23 rfl (lv_at hl 4 rfl) ?_
    obtain ⟨mme_95, hc, hE⟩ := bnd1_some hE
    refine aft_v (run_V (rest := []) F (kX12_countsUp hc) (okM Z) C hS lkX12_134 ⟨by simp only [rmk]; omega, by simp only [rmk]; omega⟩ (rvM C hP) hP rfl hl.1 rfl (lv_room (Nat.le_of_ble_eq_true rfl)) dX12_laysField_24 ⟨Nat.zero_le _, Nat.zero_le _⟩) hS (fun H locs hP hS => ?_)
    exact qX12_laysField_o_27 F hr hlk C hfa hlb hrc mme_95 r93 hE _ _ hP hS ls (lv_sub hl [1, 0] rfl)
set_option maxRecDepth 100000 in
set_option maxHeartbeats 4000000 in
theorem kX12_runsEnd_o {l : Launch} {Z : ZC} {mth : Int32} {mto : Int32} {mrw : Nat → Int64} {mta : Nat → Int32} {mtp : Int32} {mat : Int32} {mtt : Int32} {mme : Nat → Int32} {mun : Int32} {mde : Int32} {mco : Nat → Int32} {mcn : Nat → Int32} {mvi : Int32} {men : Int32} {mfa : Nat → Int32} {mac : Nat → Int32} {mfi : Nat → Int32} {mse : Nat → Int32} {mtd : Nat → Int32} {mra : Int32} {mkp : Nat → Int32} {p1 : Int32} {r' : Int32} {mme' : Nat → Int32} {rc : (Nat → Int32) → Int32 → Int32 → Option ((Nat → Int32))} {fa lb : Nat} (hfa : 8 ≤ fa) (hlb : 400 ≤ lb) (hrc : ∀ {mth : Int32} {mto : Int32} {mrw : Nat → Int64} {mta : Nat → Int32} {mtp : Int32} {mat : Int32} {mtt : Int32} {mme : Nat → Int32} {mun : Int32} {mde : Int32} {mco : Nat → Int32} {mcn : Nat → Int32} {mvi : Int32} {men : Int32} {mfa : Nat → Int32} {mac : Nat → Int32} {mfi : Nat → Int32} {mse : Nat → Int32} {mtd : Nat → Int32} {mra : Int32} {mkp : Nat → Int32} {o0 : Int32} {mme' : Nat → Int32}, rc mme mde o0 = some mme' → Mg l yX12_countsDown cX12_countsDown 3 none (rmk fa lb) (KM Z) (AM Z) [.ref (mA Z 0), .int o0] (PM Z mth mto mrw mta mtp mat mtt mme mun mde mco mcn mvi men mfa mac mfi mse mtd mra mkp) (Qv (KM Z) (AM Z) (PM Z mth mto mrw mta mtp mat mtt mme' mun mde mco mcn mvi men mfa mac mfi mse mtd mra mkp))) (hE : fX12_runsEnd_o rc mme mde p1 = some (r', mme')) : Mg l yX12_runsEnd cX12_runsEnd 2 (some .boolean) (rmk (fa + 2) (lb + 45)) (KM Z) (AM Z) [.ref (mA Z 0), .int p1] (PM Z mth mto mrw mta mtp mat mtt mme mun mde mco mcn mvi men mfa mac mfi mse mtd mra mkp) (Qi (KM Z) (AM Z) (PM Z mth mto mrw mta mtp mat mtt mme' mun mde mco mcn mvi men mfa mac mfi mse mtd mra mkp) r') := by
  refine Mg.start (lv := [(0, .ref (mA Z 0)), (1, .int p1)]) (by decide) rfl (Nat.le_of_ble_eq_true rfl) rfl ?_
  intro p e s m below meth c F hr hlk C hP ls hl
  have hS : va_S (AM Z) s.heap s.heap [] := va_S.rf
  unfold fX12_runsEnd_o at hE
  refine lv_aload_n F.1 F.2.1 dX12_runsEnd_0 rfl (lv_at hl 0 rfl) ?_
  refine lv_iload_n F.1 F.2.1 dX12_runsEnd_1 rfl (lv_at hl 1 rfl) ?_
  refine lv_iconst (v := 4) F.1 F.2.1 dX12_runsEnd_2 (by decide) ?_
  refine lv_iconst (v := 1) F.1 F.2.1 dX12_runsEnd_3 (by decide) ?_
  obtain ⟨mme_103, hc, hE⟩ := bnd1_some hE
  refine aft_v (run_V (rest := []) F (kX12_puts hc) (okM Z) C hS lkX12_104 ⟨by simp only [rmk]; omega, by simp only [rmk]; omega⟩ (rvM C hP) hP rfl hl.1 rfl (lv_room (Nat.le_of_ble_eq_true rfl)) dX12_runsEnd_4 ⟨Nat.zero_le _, Nat.zero_le _⟩) hS (fun H locs hP hS => ?_)
  refine lv_aload_n F.1 F.2.1 dX12_runsEnd_7 rfl (lv_at hl 0 rfl) ?_
  refine lv_iconst (v := 3) F.1 F.2.1 dX12_runsEnd_8 (by decide) ?_
  refine lv_iload_n F.1 F.2.1 dX12_runsEnd_9 rfl (lv_at hl 1 rfl) ?_
  obtain ⟨mme_104, hc, hE⟩ := bnd1_some hE
  refine aft_v (run_V (rest := []) F (kX12_logs hc) (okM Z) C hS lkX12_125 ⟨by simp only [rmk]; omega, by simp only [rmk]; omega⟩ (rvM C hP) hP rfl hl.1 rfl (lv_room (Nat.le_of_ble_eq_true rfl)) dX12_runsEnd_10 ⟨Nat.zero_le _, Nat.zero_le _⟩) hS (fun H locs hP hS => ?_)
  refine lv_aload_n F.1 F.2.1 dX12_runsEnd_13 rfl (lv_at hl 0 rfl) ?_
  refine lv_iload_n F.1 F.2.1 dX12_runsEnd_14 rfl (lv_at hl 1 rfl) ?_
  refine lv_iconst (v := 3) F.1 F.2.1 dX12_runsEnd_15 (by decide) ?_
  obtain ⟨r105, hc, hE⟩ := bnd1_some hE
  refine aft_i (run_V (rest := []) F (kX12_of hc) (okM Z) C hS lkX12_91 ⟨by simp only [rmk]; omega, by simp only [rmk]; omega⟩ (rvM C hP) hP rfl hl.1 rfl (lv_room (Nat.le_of_ble_eq_true rfl)) dX12_runsEnd_16 ⟨Nat.zero_le _, Nat.zero_le _⟩) hS (fun H locs hP hS => ?_)
  refine lv_iconst (v := 1) F.1 F.2.1 dX12_runsEnd_19 (by decide) ?_
  refine lv_icmp_ne (tgt := 25) F.1 F.2.1 dX12_runsEnd_20 (by decide) (fun hc => ?_) (fun hc => ?_)
  · have hE := ifn hE hc
    refine lv_aload_n F.1 F.2.1 dX12_runsEnd_25 rfl (lv_at hl 0 rfl) ?_
    refine lv_iconst (v := 4) F.1 F.2.1 dX12_runsEnd_26 (by decide) ?_
    refine lv_iload_n F.1 F.2.1 dX12_runsEnd_27 rfl (lv_at hl 1 rfl) ?_
    obtain ⟨mme_106, hc, hE⟩ := bnd1_some hE
    refine aft_v (run_V (rest := []) F (kX12_logs hc) (okM Z) C hS lkX12_125 ⟨by simp only [rmk]; omega, by simp only [rmk]; omega⟩ (rvM C hP) hP rfl hl.1 rfl (lv_room (Nat.le_of_ble_eq_true rfl)) dX12_runsEnd_28 ⟨Nat.zero_le _, Nat.zero_le _⟩) hS (fun H locs hP hS => ?_)
    refine lv_aload_n F.1 F.2.1 dX12_runsEnd_31 rfl (lv_at hl 0 rfl) ?_
    refine lv_aload_n F.1 F.2.1 dX12_runsEnd_32 rfl (lv_at hl 0 rfl) ?_
    refine lv_iload_n F.1 F.2.1 dX12_runsEnd_33 rfl (lv_at hl 1 rfl) ?_
    refine lv_iconst (v := 3) F.1 F.2.1 dX12_runsEnd_34 (by decide) ?_
    obtain ⟨r107, hc, hE⟩ := bnd1_some hE
    refine aft_i (run_V (rest := [.ref (mA Z 0)]) F (kX12_of hc) (okM Z) C hS lkX12_91 ⟨by simp only [rmk]; omega, by simp only [rmk]; omega⟩ (rvM C hP) hP rfl hl.1 rfl (lv_room (Nat.le_of_ble_eq_true rfl)) dX12_runsEnd_35 ⟨Nat.zero_le _, Nat.zero_le _⟩) hS (fun H locs hP hS => ?_)
    refine lv_iconst (v := 2) F.1 F.2.1 dX12_runsEnd_38 (by decide) ?_
    refine lv_isub F.1 F.2.1 dX12_runsEnd_39 ?_
    refine lv_iload_n F.1 F.2.1 dX12_runsEnd_40 rfl (lv_at hl 1 rfl) ?_
    obtain ⟨mme_108, hc, hE⟩ := bnd1_some hE
    refine aft_v (run_V (rest := []) F (kX12_laysRoot_o hfa hlb hrc hc) (okM Z) C hS lkX12_128 ⟨by simp only [rmk]; omega, by simp only [rmk]; omega⟩ (rvM C hP) hP rfl hl.1 rfl (lv_room (Nat.le_of_ble_eq_true rfl)) dX12_runsEnd_41 ⟨Nat.zero_le _, Nat.zero_le _⟩) hS (fun H locs hP hS => ?_)
    refine lv_iconst (v := 1) F.1 F.2.1 dX12_runsEnd_44 (by decide) ?_
    have w0 := Option.some.inj hE
    obtain ⟨g0, w1⟩ := Prod.mk.inj w0
    subst g0 w1
    exact ret_z F hr rfl hlk hP hS dX12_runsEnd_45
  · have hE := ifp hE hc
    refine lv_iconst (v := 0) F.1 F.2.1 dX12_runsEnd_23 (by decide) ?_
    have w0 := Option.some.inj hE
    obtain ⟨g0, w1⟩ := Prod.mk.inj w0
    subst g0 w1
    exact ret_z F hr rfl hlk hP hS dX12_runsEnd_24
set_option maxRecDepth 100000 in
set_option maxHeartbeats 4000000 in
theorem qX12_isFreed_o_31 {p : Program} {l : Launch} {e : Env} {s : State} {m : MethodId} {args : Array Value} {below : List Frame} {meth : Method} {c : Code} {Z : ZC} {mth : Int32} {mto : Int32} {mrw : Nat → Int64} {mta : Nat → Int32} {mtp : Int32} {mat : Int32} {mtt : Int32} {mun : Int32} {mde : Int32} {mco : Nat → Int32} {mcn : Nat → Int32} {mvi : Int32} {men : Int32} {mfa : Nat → Int32} {mac : Nat → Int32} {mfi : Nat → Int32} {mse : Nat → Int32} {mtd : Nat → Int32} {mra : Int32} {mkp : Nat → Int32} {rc : (Nat → Int32) → Int32 → Int32 → Option ((Nat → Int32))} {N : Nat} {p1 : Int32} {mme' : Nat → Int32} (F : CallFix p m c cX12_isFreed 3 s args bigW RX12) (hr : meth.sig.returnType = none) (hlk : meth.locks = false) (C : KM Z s) {fa lb : Nat} (hfa : 8 ≤ fa) (hlb : 400 ≤ lb) (hrc : ∀ {mth : Int32} {mto : Int32} {mrw : Nat → Int64} {mta : Nat → Int32} {mtp : Int32} {mat : Int32} {mtt : Int32} {mme : Nat → Int32} {mun : Int32} {mde : Int32} {mco : Nat → Int32} {mcn : Nat → Int32} {mvi : Int32} {men : Int32} {mfa : Nat → Int32} {mac : Nat → Int32} {mfi : Nat → Int32} {mse : Nat → Int32} {mtd : Nat → Int32} {mra : Int32} {mkp : Nat → Int32} {o0 : Int32} {mme' : Nat → Int32}, rc mme mde o0 = some mme' → Mg l yX12_countsDown cX12_countsDown 3 none (rmk fa lb) (KM Z) (AM Z) [.ref (mA Z 0), .int o0] (PM Z mth mto mrw mta mtp mat mtt mme mun mde mco mcn mvi men mfa mac mfi mse mtd mra mkp) (Qv (KM Z) (AM Z) (PM Z mth mto mrw mta mtp mat mtt mme' mun mde mco mcn mvi men mfa mac mfi mse mtd mra mkp))) : ∀ (mme : Nat → Int32), fX12_isFreed_o_31 rc N mde p1 mme = some mme' → ∀ (H : Heap) (locs : List Loc), PM Z mth mto mrw mta mtp mat mtt mme mun mde mco mcn mvi men mfa mac mfi mse mtd mra mkp H → va_S (AM Z) s.heap H locs → ∀ ls : Array Slot, lv_has ls 3 [(0, .ref (mA Z 0)), (1, .int p1)] → W p l e (rmk (fa + 2) (lb + 46)) s m args below meth c H locs 0 0 (MQ below (Qv (KM Z) (AM Z) (PM Z mth mto mrw mta mtp mat mtt mme' mun mde mco mcn mvi men mfa mac mfi mse mtd mra mkp)) args s 0 0 (AM Z)) (F0 m 31 ls []) := by
  intro mme hE H locs hP hS ls hl
  unfold fX12_isFreed_o_31 at hE
  refine lv_aload_n F.1 F.2.1 dX12_isFreed_31 rfl (lv_at hl 0 rfl) ?_
  refine lv_iload_n F.1 F.2.1 dX12_isFreed_32 rfl (lv_at hl 1 rfl) ?_
  obtain ⟨mme_117, hc, hE⟩ := bnd1_some hE
  refine aft_v (run_V (rest := []) F (kX12_clearsWeak hc) (okM Z) C hS lkX12_149 ⟨by simp only [rmk]; omega, by simp only [rmk]; omega⟩ (rvM C hP) hP rfl hl.1 rfl (lv_room (Nat.le_of_ble_eq_true rfl)) dX12_isFreed_33 ⟨Nat.zero_le _, Nat.zero_le _⟩) hS (fun H locs hP hS => ?_)
  refine lv_aload_n F.1 F.2.1 dX12_isFreed_36 rfl (lv_at hl 0 rfl) ?_
  refine lv_iload_n F.1 F.2.1 dX12_isFreed_37 rfl (lv_at hl 1 rfl) ?_
  refine lv_iconst (v := 0) F.1 F.2.1 dX12_isFreed_38 (by decide) ?_
  refine lv_iconst (v := 0) F.1 F.2.1 dX12_isFreed_39 (by decide) ?_
  obtain ⟨mme_118, hc, hE⟩ := bnd1_some hE
  refine aft_v (run_V (rest := []) F (kX12_puts hc) (okM Z) C hS lkX12_104 ⟨by simp only [rmk]; omega, by simp only [rmk]; omega⟩ (rvM C hP) hP rfl hl.1 rfl (lv_room (Nat.le_of_ble_eq_true rfl)) dX12_isFreed_40 ⟨Nat.zero_le _, Nat.zero_le _⟩) hS (fun H locs hP hS => ?_)
  obtain rfl := Option.some.inj hE
  exact ret_v F hr hlk hP hS dX12_isFreed_43
set_option maxRecDepth 100000 in
set_option maxHeartbeats 4000000 in
theorem qX12_isFreed_o_8 {p : Program} {l : Launch} {e : Env} {s : State} {m : MethodId} {args : Array Value} {below : List Frame} {meth : Method} {c : Code} {Z : ZC} {mth : Int32} {mto : Int32} {mrw : Nat → Int64} {mta : Nat → Int32} {mtp : Int32} {mat : Int32} {mtt : Int32} {mun : Int32} {mde : Int32} {mco : Nat → Int32} {mcn : Nat → Int32} {mvi : Int32} {men : Int32} {mfa : Nat → Int32} {mac : Nat → Int32} {mfi : Nat → Int32} {mse : Nat → Int32} {mtd : Nat → Int32} {mra : Int32} {mkp : Nat → Int32} {rc : (Nat → Int32) → Int32 → Int32 → Option ((Nat → Int32))} {N : Nat} {p1 : Int32} {mme' : Nat → Int32} (F : CallFix p m c cX12_isFreed 3 s args bigW RX12) (hr : meth.sig.returnType = none) (hlk : meth.locks = false) (C : KM Z s) {fa lb : Nat} (hfa : 8 ≤ fa) (hlb : 400 ≤ lb) (hrc : ∀ {mth : Int32} {mto : Int32} {mrw : Nat → Int64} {mta : Nat → Int32} {mtp : Int32} {mat : Int32} {mtt : Int32} {mme : Nat → Int32} {mun : Int32} {mde : Int32} {mco : Nat → Int32} {mcn : Nat → Int32} {mvi : Int32} {men : Int32} {mfa : Nat → Int32} {mac : Nat → Int32} {mfi : Nat → Int32} {mse : Nat → Int32} {mtd : Nat → Int32} {mra : Int32} {mkp : Nat → Int32} {o0 : Int32} {mme' : Nat → Int32}, rc mme mde o0 = some mme' → Mg l yX12_countsDown cX12_countsDown 3 none (rmk fa lb) (KM Z) (AM Z) [.ref (mA Z 0), .int o0] (PM Z mth mto mrw mta mtp mat mtt mme mun mde mco mcn mvi men mfa mac mfi mse mtd mra mkp) (Qv (KM Z) (AM Z) (PM Z mth mto mrw mta mtp mat mtt mme' mun mde mco mcn mvi men mfa mac mfi mse mtd mra mkp))) : ∀ n : Nat, ∀ (mme : Nat → Int32) (x2 : Int32), fX12_isFreed_o_8 rc N mde p1 n mme x2 = some mme' → ∀ (H : Heap) (locs : List Loc), PM Z mth mto mrw mta mtp mat mtt mme mun mde mco mcn mvi men mfa mac mfi mse mtd mra mkp H → va_S (AM Z) s.heap H locs → ∀ ls : Array Slot, lv_has ls 3 [(0, .ref (mA Z 0)), (1, .int p1), (2, .int x2)] → W p l e (rmk (fa + 2) (lb + 46)) s m args below meth c H locs 0 0 (MQ below (Qv (KM Z) (AM Z) (PM Z mth mto mrw mta mtp mat mtt mme' mun mde mco mcn mvi men mfa mac mfi mse mtd mra mkp)) args s 0 0 (AM Z)) (F0 m 8 ls []) := by
  intro n
  induction n with
  | zero => intro mme x2 hE; cases hE
  | succ n h8 =>
    intro mme x2 hE H locs hP hS ls hl
    have hE : fX12_isFreed_o_8b rc N mde p1 (fX12_isFreed_o_8 rc N mde p1 n) mme x2 = some mme' := hE
    refine lv_iload_n F.1 F.2.1 dX12_isFreed_8 rfl (lv_at hl 2 rfl) ?_
    refine lv_aload_n F.1 F.2.1 dX12_isFreed_9 rfl (lv_at hl 0 rfl) ?_
    refine lv_iload_n F.1 F.2.1 dX12_isFreed_10 rfl (lv_at hl 1 rfl) ?_
    refine lv_iconst (v := 1) F.1 F.2.1 dX12_isFreed_11 (by decide) ?_
    obtain ⟨r115, hc, hE⟩ := bnd1_some hE
    refine aft_i (run_V (rest := [.int x2]) F (kX12_of hc) (okM Z) C hS lkX12_91 ⟨by simp only [rmk]; omega, by simp only [rmk]; omega⟩ (rvM C hP) hP rfl hl.1 rfl (lv_room (Nat.le_of_ble_eq_true rfl)) dX12_isFreed_12 ⟨Nat.zero_le _, Nat.zero_le _⟩) hS (fun H locs hP hS => ?_)
    refine lv_icmp_ge (tgt := 31) F.1 F.2.1 dX12_isFreed_15 (by decide) (fun hc => ?_) (fun hc => ?_)
    · have hE := ifp hE hc
      exact qX12_isFreed_o_31 F hr hlk C hfa hlb hrc mme hE _ _ hP hS ls (lv_sub hl [0, 1] rfl)
    · have hE := ifn hE hc
      refine lv_aload_n F.1 F.2.1 dX12_isFreed_18 rfl (lv_at hl 0 rfl) ?_
      refine lv_iload_n F.1 F.2.1 dX12_isFreed_19 rfl (lv_at hl 1 rfl) ?_
      refine lv_iload_n F.1 F.2.1 dX12_isFreed_20 rfl (lv_at hl 2 rfl) ?_
      refine lv_iconst (v := (-1)) F.1 F.2.1 dX12_isFreed_21 (by decide) ?_
      obtain ⟨mme_116, hc, hE⟩ := bnd1_some hE
      refine aft_v (run_V (rest := []) F (kX12_laysField_o hfa hlb hrc hc) (okM Z) C hS lkX12_146 ⟨by simp only [rmk]; omega, by simp only [rmk]; omega⟩ (rvM C hP) hP rfl hl.1 rfl (lv_room (Nat.le_of_ble_eq_true rfl)) dX12_isFreed_22 ⟨Nat.zero_le _, Nat.zero_le _⟩) hS (fun H locs hP hS => ?_)
      refine lv_iinc (v := x2 + 1) (lv' := [(2, .int (x2 + 1)), (0, .ref (mA Z 0)), (1, .int p1)]) F.1 F.2.1 dX12_isFreed_25 hl (k := 2) rfl rfl (by decide) rfl (fun ls hl => ?_)
      refine lv_goto (tgt := 8) F.1 F.2.1 dX12_isFreed_28 (by decide) ?_
      exact h8 mme_116 (x2 + 1) hE _ _ hP hS ls (lv_sub hl [1, 2, 0] rfl)
set_option maxRecDepth 100000 in
set_option maxHeartbeats 4000000 in
theorem kX12_isFreed_o {l : Launch} {Z : ZC} {mth : Int32} {mto : Int32} {mrw : Nat → Int64} {mta : Nat → Int32} {mtp : Int32} {mat : Int32} {mtt : Int32} {mme : Nat → Int32} {mun : Int32} {mde : Int32} {mco : Nat → Int32} {mcn : Nat → Int32} {mvi : Int32} {men : Int32} {mfa : Nat → Int32} {mac : Nat → Int32} {mfi : Nat → Int32} {mse : Nat → Int32} {mtd : Nat → Int32} {mra : Int32} {mkp : Nat → Int32} {N : Nat} {p1 : Int32} {mme' : Nat → Int32} {rc : (Nat → Int32) → Int32 → Int32 → Option ((Nat → Int32))} {fa lb : Nat} (hfa : 8 ≤ fa) (hlb : 400 ≤ lb) (hrc : ∀ {mth : Int32} {mto : Int32} {mrw : Nat → Int64} {mta : Nat → Int32} {mtp : Int32} {mat : Int32} {mtt : Int32} {mme : Nat → Int32} {mun : Int32} {mde : Int32} {mco : Nat → Int32} {mcn : Nat → Int32} {mvi : Int32} {men : Int32} {mfa : Nat → Int32} {mac : Nat → Int32} {mfi : Nat → Int32} {mse : Nat → Int32} {mtd : Nat → Int32} {mra : Int32} {mkp : Nat → Int32} {o0 : Int32} {mme' : Nat → Int32}, rc mme mde o0 = some mme' → Mg l yX12_countsDown cX12_countsDown 3 none (rmk fa lb) (KM Z) (AM Z) [.ref (mA Z 0), .int o0] (PM Z mth mto mrw mta mtp mat mtt mme mun mde mco mcn mvi men mfa mac mfi mse mtd mra mkp) (Qv (KM Z) (AM Z) (PM Z mth mto mrw mta mtp mat mtt mme' mun mde mco mcn mvi men mfa mac mfi mse mtd mra mkp))) (hE : fX12_isFreed_o rc N mme mde p1 = some mme') : Mg l yX12_isFreed cX12_isFreed 3 none (rmk (fa + 2) (lb + 46)) (KM Z) (AM Z) [.ref (mA Z 0), .int p1] (PM Z mth mto mrw mta mtp mat mtt mme mun mde mco mcn mvi men mfa mac mfi mse mtd mra mkp) (Qv (KM Z) (AM Z) (PM Z mth mto mrw mta mtp mat mtt mme' mun mde mco mcn mvi men mfa mac mfi mse mtd mra mkp)) := by
  refine Mg.start (lv := [(0, .ref (mA Z 0)), (1, .int p1)]) (by decide) rfl (Nat.le_of_ble_eq_true rfl) rfl ?_
  intro p e s m below meth c F hr hlk C hP ls hl
  have hS : va_S (AM Z) s.heap s.heap [] := va_S.rf
  unfold fX12_isFreed_o at hE
  refine lv_aload_n F.1 F.2.1 dX12_isFreed_0 rfl (lv_at hl 0 rfl) ?_
  refine lv_iconst (v := 1) F.1 F.2.1 dX12_isFreed_1 (by decide) ?_
  refine lv_iload_n F.1 F.2.1 dX12_isFreed_2 rfl (lv_at hl 1 rfl) ?_
  obtain ⟨mme_114, hc, hE⟩ := bnd1_some hE
  refine aft_v (run_V (rest := []) F (kX12_logs hc) (okM Z) C hS lkX12_125 ⟨by simp only [rmk]; omega, by simp only [rmk]; omega⟩ (rvM C hP) hP rfl hl.1 rfl (lv_room (Nat.le_of_ble_eq_true rfl)) dX12_isFreed_3 ⟨Nat.zero_le _, Nat.zero_le _⟩) hS (fun H locs hP hS => ?_)
  refine lv_iconst (v := 0) F.1 F.2.1 dX12_isFreed_6 (by decide) ?_
  refine lv_istore_n (lv' := [(2, .int 0), (0, .ref (mA Z 0)), (1, .int p1)]) F.1 F.2.1 dX12_isFreed_7 rfl hl (by decide) rfl (fun ls hl => ?_)
  exact qX12_isFreed_o_8 F hr hlk C hfa hlb hrc N mme_114 0 hE _ _ hP hS ls (lv_sub hl [1, 2, 0] rfl)
set_option maxRecDepth 100000 in
set_option maxHeartbeats 4000000 in
theorem qX12_countsDown_o_80 {p : Program} {l : Launch} {e : Env} {s : State} {m : MethodId} {args : Array Value} {below : List Frame} {meth : Method} {c : Code} {Z : ZC} {mth : Int32} {mto : Int32} {mrw : Nat → Int64} {mta : Nat → Int32} {mtp : Int32} {mat : Int32} {mtt : Int32} {mun : Int32} {mde : Int32} {mco : Nat → Int32} {mcn : Nat → Int32} {mvi : Int32} {men : Int32} {mfa : Nat → Int32} {mac : Nat → Int32} {mfi : Nat → Int32} {mse : Nat → Int32} {mtd : Nat → Int32} {mra : Int32} {mkp : Nat → Int32} {rc : (Nat → Int32) → Int32 → Int32 → Option ((Nat → Int32))} {N : Nat} {p1 : Int32} {mme' : Nat → Int32} (F : CallFix p m c cX12_countsDown 3 s args bigW RX12) (hr : meth.sig.returnType = none) (hlk : meth.locks = false) (C : KM Z s) {fa lb : Nat} (hfa : 8 ≤ fa) (hlb : 400 ≤ lb) (hrc : ∀ {mth : Int32} {mto : Int32} {mrw : Nat → Int64} {mta : Nat → Int32} {mtp : Int32} {mat : Int32} {mtt : Int32} {mme : Nat → Int32} {mun : Int32} {mde : Int32} {mco : Nat → Int32} {mcn : Nat → Int32} {mvi : Int32} {men : Int32} {mfa : Nat → Int32} {mac : Nat → Int32} {mfi : Nat → Int32} {mse : Nat → Int32} {mtd : Nat → Int32} {mra : Int32} {mkp : Nat → Int32} {o0 : Int32} {mme' : Nat → Int32}, rc mme mde o0 = some mme' → Mg l yX12_countsDown cX12_countsDown 3 none (rmk fa lb) (KM Z) (AM Z) [.ref (mA Z 0), .int o0] (PM Z mth mto mrw mta mtp mat mtt mme mun mde mco mcn mvi men mfa mac mfi mse mtd mra mkp) (Qv (KM Z) (AM Z) (PM Z mth mto mrw mta mtp mat mtt mme' mun mde mco mcn mvi men mfa mac mfi mse mtd mra mkp))) : ∀ (mme : Nat → Int32), fX12_countsDown_o_80 rc N mde p1 mme = some mme' → ∀ (H : Heap) (locs : List Loc), PM Z mth mto mrw mta mtp mat mtt mme mun mde mco mcn mvi men mfa mac mfi mse mtd mra mkp H → va_S (AM Z) s.heap H locs → ∀ ls : Array Slot, lv_has ls 3 [(0, .ref (mA Z 0)), (1, .int p1)] → W p l e (rmk (fa + 3) (lb + 68)) s m args below meth c H locs 0 0 (MQ below (Qv (KM Z) (AM Z) (PM Z mth mto mrw mta mtp mat mtt mme' mun mde mco mcn mvi men mfa mac mfi mse mtd mra mkp)) args s 0 0 (AM Z)) (F0 m 80 ls []) := by
  intro mme hE H locs hP hS ls hl
  unfold fX12_countsDown_o_80 at hE
  refine lv_aload_n F.1 F.2.1 dX12_countsDown_80 rfl (lv_at hl 0 rfl) ?_
  refine lv_iload_n F.1 F.2.1 dX12_countsDown_81 rfl (lv_at hl 1 rfl) ?_
  obtain ⟨mme_140, hc, hE⟩ := bnd1_some hE
  refine aft_v (run_V (rest := []) F (kX12_isFreed_o hfa hlb hrc hc) (okM Z) C hS lkX12_122 ⟨by simp only [rmk]; omega, by simp only [rmk]; omega⟩ (rvM C hP) hP rfl hl.1 rfl (lv_room (Nat.le_of_ble_eq_true rfl)) dX12_countsDown_82 ⟨Nat.zero_le _, Nat.zero_le _⟩) hS (fun H locs hP hS => ?_)
  obtain rfl := Option.some.inj hE
  exact ret_v F hr hlk hP hS dX12_countsDown_85
set_option maxRecDepth 100000 in
set_option maxHeartbeats 4000000 in
theorem qX12_countsDown_o_53 {p : Program} {l : Launch} {e : Env} {s : State} {m : MethodId} {args : Array Value} {below : List Frame} {meth : Method} {c : Code} {Z : ZC} {mth : Int32} {mto : Int32} {mrw : Nat → Int64} {mta : Nat → Int32} {mtp : Int32} {mat : Int32} {mtt : Int32} {mun : Int32} {mde : Int32} {mco : Nat → Int32} {mcn : Nat → Int32} {mvi : Int32} {men : Int32} {mfa : Nat → Int32} {mac : Nat → Int32} {mfi : Nat → Int32} {mse : Nat → Int32} {mtd : Nat → Int32} {mra : Int32} {mkp : Nat → Int32} {rc : (Nat → Int32) → Int32 → Int32 → Option ((Nat → Int32))} {N : Nat} {p1 : Int32} {mme' : Nat → Int32} (F : CallFix p m c cX12_countsDown 3 s args bigW RX12) (hr : meth.sig.returnType = none) (hlk : meth.locks = false) (C : KM Z s) {fa lb : Nat} (hfa : 8 ≤ fa) (hlb : 400 ≤ lb) (hrc : ∀ {mth : Int32} {mto : Int32} {mrw : Nat → Int64} {mta : Nat → Int32} {mtp : Int32} {mat : Int32} {mtt : Int32} {mme : Nat → Int32} {mun : Int32} {mde : Int32} {mco : Nat → Int32} {mcn : Nat → Int32} {mvi : Int32} {men : Int32} {mfa : Nat → Int32} {mac : Nat → Int32} {mfi : Nat → Int32} {mse : Nat → Int32} {mtd : Nat → Int32} {mra : Int32} {mkp : Nat → Int32} {o0 : Int32} {mme' : Nat → Int32}, rc mme mde o0 = some mme' → Mg l yX12_countsDown cX12_countsDown 3 none (rmk fa lb) (KM Z) (AM Z) [.ref (mA Z 0), .int o0] (PM Z mth mto mrw mta mtp mat mtt mme mun mde mco mcn mvi men mfa mac mfi mse mtd mra mkp) (Qv (KM Z) (AM Z) (PM Z mth mto mrw mta mtp mat mtt mme' mun mde mco mcn mvi men mfa mac mfi mse mtd mra mkp))) : ∀ (mme : Nat → Int32), fX12_countsDown_o_53 rc N mde p1 mme = some mme' → ∀ (H : Heap) (locs : List Loc), PM Z mth mto mrw mta mtp mat mtt mme mun mde mco mcn mvi men mfa mac mfi mse mtd mra mkp H → va_S (AM Z) s.heap H locs → ∀ ls : Array Slot, lv_has ls 3 [(0, .ref (mA Z 0)), (1, .int p1)] → W p l e (rmk (fa + 3) (lb + 68)) s m args below meth c H locs 0 0 (MQ below (Qv (KM Z) (AM Z) (PM Z mth mto mrw mta mtp mat mtt mme' mun mde mco mcn mvi men mfa mac mfi mse mtd mra mkp)) args s 0 0 (AM Z)) (F0 m 53 ls []) := by
  intro mme hE H locs hP hS ls hl
  unfold fX12_countsDown_o_53 at hE
  refine lv_aload_n F.1 F.2.1 dX12_countsDown_53 rfl (lv_at hl 0 rfl) ?_
  refine lv_iload_n F.1 F.2.1 dX12_countsDown_54 rfl (lv_at hl 1 rfl) ?_
  refine lv_iconst (v := 3) F.1 F.2.1 dX12_countsDown_55 (by decide) ?_
  obtain ⟨r137, hc, hE⟩ := bnd1_some hE
  refine aft_i (run_V (rest := []) F (kX12_of hc) (okM Z) C hS lkX12_91 ⟨by simp only [rmk]; omega, by simp only [rmk]; omega⟩ (rvM C hP) hP rfl hl.1 rfl (lv_room (Nat.le_of_ble_eq_true rfl)) dX12_countsDown_56 ⟨Nat.zero_le _, Nat.zero_le _⟩) hS (fun H locs hP hS => ?_)
  refine lv_if_le (tgt := 80) F.1 F.2.1 dX12_countsDown_59 (by decide) (fun hc => ?_) (fun hc => ?_)
  · have hE := ifp hE hc
    exact qX12_countsDown_o_80 F hr hlk C hfa hlb hrc mme hE _ _ hP hS ls (lv_sub hl [0, 1] rfl)
  · have hE := ifn hE hc
    refine lv_aload_n F.1 F.2.1 dX12_countsDown_62 rfl (lv_at hl 0 rfl) ?_
    refine lv_iload_n F.1 F.2.1 dX12_countsDown_63 rfl (lv_at hl 1 rfl) ?_
    refine lv_iconst (v := 4) F.1 F.2.1 dX12_countsDown_64 (by decide) ?_
    obtain ⟨r138, hc, hE⟩ := bnd1_some hE
    refine aft_i (run_V (rest := []) F (kX12_of hc) (okM Z) C hS lkX12_91 ⟨by simp only [rmk]; omega, by simp only [rmk]; omega⟩ (rvM C hP) hP rfl hl.1 rfl (lv_room (Nat.le_of_ble_eq_true rfl)) dX12_countsDown_65 ⟨Nat.zero_le _, Nat.zero_le _⟩) hS (fun H locs hP hS => ?_)
    refine lv_if_ne (tgt := 80) F.1 F.2.1 dX12_countsDown_68 (by decide) (fun hc => ?_) (fun hc => ?_)
    · have hE := ifn hE hc
      exact qX12_countsDown_o_80 F hr hlk C hfa hlb hrc mme hE _ _ hP hS ls (lv_sub hl [0, 1] rfl)
    · have hE := ifp hE hc
      refine lv_aload_n F.1 F.2.1 dX12_countsDown_71 rfl (lv_at hl 0 rfl) ?_
      refine lv_iload_n F.1 F.2.1 dX12_countsDown_72 rfl (lv_at hl 1 rfl) ?_
      obtain ⟨r139, mme_139, hc, hE⟩ := bnd2_some hE
      refine aft_i (run_V (rest := []) F (kX12_runsEnd_o hfa hlb hrc hc) (okM Z) C hS lkX12_118 ⟨by simp only [rmk]; omega, by simp only [rmk]; omega⟩ (rvM C hP) hP rfl hl.1 rfl (lv_room (Nat.le_of_ble_eq_true rfl)) dX12_countsDown_73 ⟨Nat.zero_le _, Nat.zero_le _⟩) hS (fun H locs hP hS => ?_)
      refine lv_if_eq (tgt := 80) F.1 F.2.1 dX12_countsDown_76 (by decide) (fun hc => ?_) (fun hc => ?_)
      · have hE := ifp hE hc
        exact qX12_countsDown_o_80 F hr hlk C hfa hlb hrc mme_139 hE _ _ hP hS ls (lv_sub hl [0, 1] rfl)
      · have hE := ifn hE hc
        obtain rfl := Option.some.inj hE
        exact ret_v F hr hlk hP hS dX12_countsDown_79
set_option maxRecDepth 100000 in
set_option maxHeartbeats 4000000 in
theorem kX12_countsDown_o {l : Launch} {Z : ZC} {mth : Int32} {mto : Int32} {mrw : Nat → Int64} {mta : Nat → Int32} {mtp : Int32} {mat : Int32} {mtt : Int32} {mme : Nat → Int32} {mun : Int32} {mde : Int32} {mco : Nat → Int32} {mcn : Nat → Int32} {mvi : Int32} {men : Int32} {mfa : Nat → Int32} {mac : Nat → Int32} {mfi : Nat → Int32} {mse : Nat → Int32} {mtd : Nat → Int32} {mra : Int32} {mkp : Nat → Int32} {N : Nat} {p1 : Int32} {mme' : Nat → Int32} {rc : (Nat → Int32) → Int32 → Int32 → Option ((Nat → Int32))} {fa lb : Nat} (hfa : 8 ≤ fa) (hlb : 400 ≤ lb) (hrc : ∀ {mth : Int32} {mto : Int32} {mrw : Nat → Int64} {mta : Nat → Int32} {mtp : Int32} {mat : Int32} {mtt : Int32} {mme : Nat → Int32} {mun : Int32} {mde : Int32} {mco : Nat → Int32} {mcn : Nat → Int32} {mvi : Int32} {men : Int32} {mfa : Nat → Int32} {mac : Nat → Int32} {mfi : Nat → Int32} {mse : Nat → Int32} {mtd : Nat → Int32} {mra : Int32} {mkp : Nat → Int32} {o0 : Int32} {mme' : Nat → Int32}, rc mme mde o0 = some mme' → Mg l yX12_countsDown cX12_countsDown 3 none (rmk fa lb) (KM Z) (AM Z) [.ref (mA Z 0), .int o0] (PM Z mth mto mrw mta mtp mat mtt mme mun mde mco mcn mvi men mfa mac mfi mse mtd mra mkp) (Qv (KM Z) (AM Z) (PM Z mth mto mrw mta mtp mat mtt mme' mun mde mco mcn mvi men mfa mac mfi mse mtd mra mkp))) (hE : fX12_countsDown_o rc N mme mde p1 = some mme') : Mg l yX12_countsDown cX12_countsDown 3 none (rmk (fa + 3) (lb + 68)) (KM Z) (AM Z) [.ref (mA Z 0), .int p1] (PM Z mth mto mrw mta mtp mat mtt mme mun mde mco mcn mvi men mfa mac mfi mse mtd mra mkp) (Qv (KM Z) (AM Z) (PM Z mth mto mrw mta mtp mat mtt mme' mun mde mco mcn mvi men mfa mac mfi mse mtd mra mkp)) := by
  refine Mg.start (lv := [(0, .ref (mA Z 0)), (1, .int p1)]) (by decide) rfl (Nat.le_of_ble_eq_true rfl) rfl ?_
  intro p e s m below meth c F hr hlk C hP ls hl
  have hS : va_S (AM Z) s.heap s.heap [] := va_S.rf
  unfold fX12_countsDown_o at hE
  refine lv_aload_n F.1 F.2.1 dX12_countsDown_0 rfl (lv_at hl 0 rfl) ?_
  refine lv_iload_n F.1 F.2.1 dX12_countsDown_1 rfl (lv_at hl 1 rfl) ?_
  refine lv_iconst (v := 5) F.1 F.2.1 dX12_countsDown_2 (by decide) ?_
  refine lv_aload_n F.1 F.2.1 dX12_countsDown_3 rfl (lv_at hl 0 rfl) ?_
  refine lv_iload_n F.1 F.2.1 dX12_countsDown_4 rfl (lv_at hl 1 rfl) ?_
  refine lv_iconst (v := 5) F.1 F.2.1 dX12_countsDown_5 (by decide) ?_
  obtain ⟨r130, hc, hE⟩ := bnd1_some hE
  refine aft_i (run_V (rest := [.int 5, .int p1, .ref (mA Z 0)]) F (kX12_of hc) (okM Z) C hS lkX12_91 ⟨by simp only [rmk]; omega, by simp only [rmk]; omega⟩ (rvM C hP) hP rfl hl.1 rfl (lv_room (Nat.le_of_ble_eq_true rfl)) dX12_countsDown_6 ⟨Nat.zero_le _, Nat.zero_le _⟩) hS (fun H locs hP hS => ?_)
  refine lv_iconst (v := 1) F.1 F.2.1 dX12_countsDown_9 (by decide) ?_
  refine lv_isub F.1 F.2.1 dX12_countsDown_10 ?_
  obtain ⟨mme_131, hc, hE⟩ := bnd1_some hE
  refine aft_v (run_V (rest := []) F (kX12_puts hc) (okM Z) C hS lkX12_104 ⟨by simp only [rmk]; omega, by simp only [rmk]; omega⟩ (rvM C hP) hP rfl hl.1 rfl (lv_room (Nat.le_of_ble_eq_true rfl)) dX12_countsDown_11 ⟨Nat.zero_le _, Nat.zero_le _⟩) hS (fun H locs hP hS => ?_)
  refine lv_aload_n F.1 F.2.1 dX12_countsDown_14 rfl (lv_at hl 0 rfl) ?_
  refine lv_iload_n F.1 F.2.1 dX12_countsDown_15 rfl (lv_at hl 1 rfl) ?_
  refine lv_iconst (v := 5) F.1 F.2.1 dX12_countsDown_16 (by decide) ?_
  obtain ⟨r132, hc, hE⟩ := bnd1_some hE
  refine aft_i (run_V (rest := []) F (kX12_of hc) (okM Z) C hS lkX12_91 ⟨by simp only [rmk]; omega, by simp only [rmk]; omega⟩ (rvM C hP) hP rfl hl.1 rfl (lv_room (Nat.le_of_ble_eq_true rfl)) dX12_countsDown_17 ⟨Nat.zero_le _, Nat.zero_le _⟩) hS (fun H locs hP hS => ?_)
  refine lv_if_le (tgt := 38) F.1 F.2.1 dX12_countsDown_20 (by decide) (fun hc => ?_) (fun hc => ?_)
  · have hE := ifp hE hc
    refine lv_aload_n F.1 F.2.1 dX12_countsDown_38 rfl (lv_at hl 0 rfl) ?_
    refine lv_iload_n F.1 F.2.1 dX12_countsDown_39 rfl (lv_at hl 1 rfl) ?_
    obtain ⟨r133, hc, hE⟩ := bnd1_some hE
    refine aft_i (run_V (rest := []) F (kX12_placeOnList hc) (okM Z) C hS lkX12_108 ⟨by simp only [rmk]; omega, by simp only [rmk]; omega⟩ (rvM C hP) hP rfl hl.1 rfl (lv_room (Nat.le_of_ble_eq_true rfl)) dX12_countsDown_40 ⟨Nat.zero_le _, Nat.zero_le _⟩) hS (fun H locs hP hS => ?_)
    refine lv_istore_n (lv' := [(2, .int r133), (0, .ref (mA Z 0)), (1, .int p1)]) F.1 F.2.1 dX12_countsDown_43 rfl hl (by decide) rfl (fun ls hl => ?_)
    refine lv_iload_n F.1 F.2.1 dX12_countsDown_44 rfl (lv_at hl 0 rfl) ?_
    refine lv_if_lt (tgt := 53) F.1 F.2.1 dX12_countsDown_45 (by decide) (fun hc => ?_) (fun hc => ?_)
    · have hE := ifp hE hc
      exact qX12_countsDown_o_53 F hr hlk C hfa hlb hrc mme_131 hE _ _ hP hS ls (lv_sub hl [1, 2] rfl)
    · have hE := ifn hE hc
      refine lv_aload_n F.1 F.2.1 dX12_countsDown_48 rfl (lv_at hl 1 rfl) ?_
      refine lv_iload_n F.1 F.2.1 dX12_countsDown_49 rfl (lv_at hl 0 rfl) ?_
      obtain ⟨mme_134, hc, hE⟩ := bnd1_some hE
      refine aft_v (run_V (rest := []) F (kX12_goesOffList hc) (okM Z) C hS lkX12_115 ⟨by simp only [rmk]; omega, by simp only [rmk]; omega⟩ (rvM C hP) hP rfl hl.1 rfl (lv_room (Nat.le_of_ble_eq_true rfl)) dX12_countsDown_50 ⟨Nat.zero_le _, Nat.zero_le _⟩) hS (fun H locs hP hS => ?_)
      exact qX12_countsDown_o_53 F hr hlk C hfa hlb hrc mme_134 hE _ _ hP hS ls (lv_sub hl [1, 2] rfl)
  · have hE := ifn hE hc
    refine lv_aload_n F.1 F.2.1 dX12_countsDown_23 rfl (lv_at hl 0 rfl) ?_
    refine lv_iload_n F.1 F.2.1 dX12_countsDown_24 rfl (lv_at hl 1 rfl) ?_
    refine lv_iconst (v := 1) F.1 F.2.1 dX12_countsDown_25 (by decide) ?_
    obtain ⟨r135, hc, hE⟩ := bnd1_some hE
    refine aft_i (run_V (rest := []) F (kX12_of hc) (okM Z) C hS lkX12_91 ⟨by simp only [rmk]; omega, by simp only [rmk]; omega⟩ (rvM C hP) hP rfl hl.1 rfl (lv_room (Nat.le_of_ble_eq_true rfl)) dX12_countsDown_26 ⟨Nat.zero_le _, Nat.zero_le _⟩) hS (fun H locs hP hS => ?_)
    refine lv_if_le (tgt := 37) F.1 F.2.1 dX12_countsDown_29 (by decide) (fun hc => ?_) (fun hc => ?_)
    · have hE := ifp hE hc
      obtain rfl := Option.some.inj hE
      exact ret_v F hr hlk hP hS dX12_countsDown_37
    · have hE := ifn hE hc
      refine lv_aload_n F.1 F.2.1 dX12_countsDown_32 rfl (lv_at hl 0 rfl) ?_
      refine lv_iload_n F.1 F.2.1 dX12_countsDown_33 rfl (lv_at hl 1 rfl) ?_
      obtain ⟨mme_136, hc, hE⟩ := bnd1_some hE
      refine aft_v (run_V (rest := []) F (kX12_isSuspect hc) (okM Z) C hS lkX12_111 ⟨by simp only [rmk]; omega, by simp only [rmk]; omega⟩ (rvM C hP) hP rfl hl.1 rfl (lv_room (Nat.le_of_ble_eq_true rfl)) dX12_countsDown_34 ⟨Nat.zero_le _, Nat.zero_le _⟩) hS (fun H locs hP hS => ?_)
      obtain rfl := Option.some.inj hE
      exact ret_v F hr hlk hP hS dX12_countsDown_37
set_option maxRecDepth 100000 in
theorem kX12_countsDown_d {l : Launch} {Z : ZC} {N : Nat} : ∀ d : Nat, ∀ {mth : Int32} {mto : Int32} {mrw : Nat → Int64} {mta : Nat → Int32} {mtp : Int32} {mat : Int32} {mtt : Int32} {mme : Nat → Int32} {mun : Int32} {mde : Int32} {mco : Nat → Int32} {mcn : Nat → Int32} {mvi : Int32} {men : Int32} {mfa : Nat → Int32} {mac : Nat → Int32} {mfi : Nat → Int32} {mse : Nat → Int32} {mtd : Nat → Int32} {mra : Int32} {mkp : Nat → Int32} {o0 : Int32} {mme' : Nat → Int32}, fX12_countsDown_d N d mme mde o0 = some mme' → Mg l yX12_countsDown cX12_countsDown 3 none (rmk (8 + 3 * d) (400 + 68 * d)) (KM Z) (AM Z) [.ref (mA Z 0), .int o0] (PM Z mth mto mrw mta mtp mat mtt mme mun mde mco mcn mvi men mfa mac mfi mse mtd mra mkp) (Qv (KM Z) (AM Z) (PM Z mth mto mrw mta mtp mat mtt mme' mun mde mco mcn mvi men mfa mac mfi mse mtd mra mkp)) := by
  intro d
  induction d with
  | zero => intros; rename_i hE; cases hE
  | succ d ih =>
    intros; rename_i hE
    rw [show 8 + 3 * (d + 1) = 8 + 3 * d + 3 by omega, show 400 + 68 * (d + 1) = 400 + 68 * d + 68 by omega]
    exact kX12_countsDown_o (rc := fX12_countsDown_d N d) (fa := 8 + 3 * d) (lb := 400 + 68 * d) (by omega) (by omega) ih hE
theorem kX12_laysRoot {l : Launch} {Z : ZC} {mth : Int32} {mto : Int32} {mrw : Nat → Int64} {mta : Nat → Int32} {mtp : Int32} {mat : Int32} {mtt : Int32} {mme : Nat → Int32} {mun : Int32} {mde : Int32} {mco : Nat → Int32} {mcn : Nat → Int32} {mvi : Int32} {men : Int32} {mfa : Nat → Int32} {mac : Nat → Int32} {mfi : Nat → Int32} {mse : Nat → Int32} {mtd : Nat → Int32} {mra : Int32} {mkp : Nat → Int32} {N : Nat} {p1 : Int32} {p2 : Int32} {mme' : Nat → Int32} (hE : fX12_laysRoot N mme mde p1 p2 = some mme') : Mg l yX12_laysRoot cX12_laysRoot 4 none (rmk 201 4774) (KM Z) (AM Z) [.ref (mA Z 0), .int p1, .int p2] (PM Z mth mto mrw mta mtp mat mtt mme mun mde mco mcn mvi men mfa mac mfi mse mtd mra mkp) (Qv (KM Z) (AM Z) (PM Z mth mto mrw mta mtp mat mtt mme' mun mde mco mcn mvi men mfa mac mfi mse mtd mra mkp)) := kX12_laysRoot_o (fa := 200) (lb := 4752) (by omega) (by omega) (kX12_countsDown_d 64) hE
theorem kX12_laysField {l : Launch} {Z : ZC} {mth : Int32} {mto : Int32} {mrw : Nat → Int64} {mta : Nat → Int32} {mtp : Int32} {mat : Int32} {mtt : Int32} {mme : Nat → Int32} {mun : Int32} {mde : Int32} {mco : Nat → Int32} {mcn : Nat → Int32} {mvi : Int32} {men : Int32} {mfa : Nat → Int32} {mac : Nat → Int32} {mfi : Nat → Int32} {mse : Nat → Int32} {mtd : Nat → Int32} {mra : Int32} {mkp : Nat → Int32} {N : Nat} {p1 : Int32} {p2 : Int32} {p3 : Int32} {mme' : Nat → Int32} (hE : fX12_laysField N mme mde p1 p2 p3 = some mme') : Mg l yX12_laysField cX12_laysField 5 none (rmk 201 4774) (KM Z) (AM Z) [.ref (mA Z 0), .int p1, .int p2, .int p3] (PM Z mth mto mrw mta mtp mat mtt mme mun mde mco mcn mvi men mfa mac mfi mse mtd mra mkp) (Qv (KM Z) (AM Z) (PM Z mth mto mrw mta mtp mat mtt mme' mun mde mco mcn mvi men mfa mac mfi mse mtd mra mkp)) := kX12_laysField_o (fa := 200) (lb := 4752) (by omega) (by omega) (kX12_countsDown_d 64) hE
theorem kX12_runsEnd {l : Launch} {Z : ZC} {mth : Int32} {mto : Int32} {mrw : Nat → Int64} {mta : Nat → Int32} {mtp : Int32} {mat : Int32} {mtt : Int32} {mme : Nat → Int32} {mun : Int32} {mde : Int32} {mco : Nat → Int32} {mcn : Nat → Int32} {mvi : Int32} {men : Int32} {mfa : Nat → Int32} {mac : Nat → Int32} {mfi : Nat → Int32} {mse : Nat → Int32} {mtd : Nat → Int32} {mra : Int32} {mkp : Nat → Int32} {N : Nat} {p1 : Int32} {r' : Int32} {mme' : Nat → Int32} (hE : fX12_runsEnd N mme mde p1 = some (r', mme')) : Mg l yX12_runsEnd cX12_runsEnd 2 (some .boolean) (rmk 202 4797) (KM Z) (AM Z) [.ref (mA Z 0), .int p1] (PM Z mth mto mrw mta mtp mat mtt mme mun mde mco mcn mvi men mfa mac mfi mse mtd mra mkp) (Qi (KM Z) (AM Z) (PM Z mth mto mrw mta mtp mat mtt mme' mun mde mco mcn mvi men mfa mac mfi mse mtd mra mkp) r') := kX12_runsEnd_o (fa := 200) (lb := 4752) (by omega) (by omega) (kX12_countsDown_d 64) hE
theorem kX12_isFreed {l : Launch} {Z : ZC} {mth : Int32} {mto : Int32} {mrw : Nat → Int64} {mta : Nat → Int32} {mtp : Int32} {mat : Int32} {mtt : Int32} {mme : Nat → Int32} {mun : Int32} {mde : Int32} {mco : Nat → Int32} {mcn : Nat → Int32} {mvi : Int32} {men : Int32} {mfa : Nat → Int32} {mac : Nat → Int32} {mfi : Nat → Int32} {mse : Nat → Int32} {mtd : Nat → Int32} {mra : Int32} {mkp : Nat → Int32} {N : Nat} {p1 : Int32} {mme' : Nat → Int32} (hE : fX12_isFreed N mme mde p1 = some mme') : Mg l yX12_isFreed cX12_isFreed 3 none (rmk 202 4798) (KM Z) (AM Z) [.ref (mA Z 0), .int p1] (PM Z mth mto mrw mta mtp mat mtt mme mun mde mco mcn mvi men mfa mac mfi mse mtd mra mkp) (Qv (KM Z) (AM Z) (PM Z mth mto mrw mta mtp mat mtt mme' mun mde mco mcn mvi men mfa mac mfi mse mtd mra mkp)) := kX12_isFreed_o (fa := 200) (lb := 4752) (by omega) (by omega) (kX12_countsDown_d 64) hE
theorem kX12_countsDown {l : Launch} {Z : ZC} {mth : Int32} {mto : Int32} {mrw : Nat → Int64} {mta : Nat → Int32} {mtp : Int32} {mat : Int32} {mtt : Int32} {mme : Nat → Int32} {mun : Int32} {mde : Int32} {mco : Nat → Int32} {mcn : Nat → Int32} {mvi : Int32} {men : Int32} {mfa : Nat → Int32} {mac : Nat → Int32} {mfi : Nat → Int32} {mse : Nat → Int32} {mtd : Nat → Int32} {mra : Int32} {mkp : Nat → Int32} {N : Nat} {p1 : Int32} {mme' : Nat → Int32} (hE : fX12_countsDown N mme mde p1 = some mme') : Mg l yX12_countsDown cX12_countsDown 3 none (rmk 200 4752) (KM Z) (AM Z) [.ref (mA Z 0), .int p1] (PM Z mth mto mrw mta mtp mat mtt mme mun mde mco mcn mvi men mfa mac mfi mse mtd mra mkp) (Qv (KM Z) (AM Z) (PM Z mth mto mrw mta mtp mat mtt mme' mun mde mco mcn mvi men mfa mac mfi mse mtd mra mkp)) := kX12_countsDown_d 64 hE
set_option maxRecDepth 100000 in
set_option maxHeartbeats 4000000 in
theorem kX12_becomes {l : Launch} {Z : ZC} {mth : Int32} {mto : Int32} {mrw : Nat → Int64} {mta : Nat → Int32} {mtp : Int32} {mat : Int32} {mtt : Int32} {mme : Nat → Int32} {mun : Int32} {mde : Int32} {mco : Nat → Int32} {mcn : Nat → Int32} {mvi : Int32} {men : Int32} {mfa : Nat → Int32} {mac : Nat → Int32} {mfi : Nat → Int32} {mse : Nat → Int32} {mtd : Nat → Int32} {mra : Int32} {mkp : Nat → Int32} {p1 : Int32} {p2 : Int32} {mco' : Nat → Int32} {mvi' : Int32} (hE : fX12_becomes mco mvi p1 p2 = some (mco', mvi')) : Mg l yX12_becomes cX12_becomes 3 none (rmk 0 0) (KM Z) (AM Z) [.ref (mA Z 0), .int p1, .int p2] (PM Z mth mto mrw mta mtp mat mtt mme mun mde mco mcn mvi men mfa mac mfi mse mtd mra mkp) (Qv (KM Z) (AM Z) (PM Z mth mto mrw mta mtp mat mtt mme mun mde mco' mcn mvi' men mfa mac mfi mse mtd mra mkp)) := by
  refine Mg.start (lv := [(0, .ref (mA Z 0)), (1, .int p1), (2, .int p2)]) (by decide) rfl (Nat.le_of_ble_eq_true rfl) rfl ?_
  intro p e s m below meth c F hr hlk C hP ls hl
  have hS : va_S (AM Z) s.heap s.heap [] := va_S.rf
  unfold fX12_becomes at hE
  refine lv_aload_n F.1 F.2.1 dX12_becomes_0 rfl (lv_at hl 0 rfl) ?_
  refine gX12_56 F C hP dX12_becomes_1 ?_
  refine lv_iload_n F.1 F.2.1 dX12_becomes_4 rfl (lv_at hl 1 rfl) ?_
  refine lv_iload_n F.1 F.2.1 dX12_becomes_5 rfl (lv_at hl 2 rfl) ?_
  obtain ⟨hi, hE⟩ := grd_some hE
  obtain ⟨mco_143, emco_143, hE⟩ := lt_some hE
  refine sm4 F C hP hi hS emco_143.symm dX12_becomes_6 (fun H locs hP hS => ?_)
  refine lv_aload_n F.1 F.2.1 dX12_becomes_7 rfl (lv_at hl 0 rfl) ?_
  refine lv_dup F.1 F.2.1 dX12_becomes_8 rfl ?_
  refine gX12_152 F C hP dX12_becomes_9 ?_
  refine lv_iconst (v := 1) F.1 F.2.1 dX12_becomes_12 (by decide) ?_
  refine lv_iadd F.1 F.2.1 dX12_becomes_13 ?_
  obtain ⟨mvi_144, emvi_144, hE⟩ := lt_some hE
  refine pX12_152 F C hP hS emvi_144.symm dX12_becomes_14 (fun H locs hP hS => ?_)
  have w0 := Option.some.inj hE
  obtain ⟨g0, w1⟩ := Prod.mk.inj w0
  subst g0 w1
  exact ret_v F hr hlk hP hS dX12_becomes_17
set_option maxRecDepth 100000 in
set_option maxHeartbeats 4000000 in
theorem qX12_grays_o_19 {p : Program} {l : Launch} {e : Env} {s : State} {m : MethodId} {args : Array Value} {below : List Frame} {meth : Method} {c : Code} {Z : ZC} {mth : Int32} {mto : Int32} {mrw : Nat → Int64} {mta : Nat → Int32} {mtp : Int32} {mat : Int32} {mtt : Int32} {mun : Int32} {mde : Int32} {mcn : Nat → Int32} {men : Int32} {mfa : Nat → Int32} {mac : Nat → Int32} {mfi : Nat → Int32} {mse : Nat → Int32} {mtd : Nat → Int32} {mra : Int32} {mkp : Nat → Int32} {rc : (Nat → Int32) → Int32 → (Nat → Int32) → Int32 → Int32 → Option ((Nat → Int32) × (Nat → Int32) × Int32)} {N : Nat} {p1 : Int32} {mme' : Nat → Int32} {mco' : Nat → Int32} {mvi' : Int32} (F : CallFix p m c cX12_grays 4 s args bigW RX12) (hr : meth.sig.returnType = none) (hlk : meth.locks = false) (C : KM Z s) {fa lb : Nat} (hfa : 8 ≤ fa) (hlb : 400 ≤ lb) (hrc : ∀ {mth : Int32} {mto : Int32} {mrw : Nat → Int64} {mta : Nat → Int32} {mtp : Int32} {mat : Int32} {mtt : Int32} {mme : Nat → Int32} {mun : Int32} {mde : Int32} {mco : Nat → Int32} {mcn : Nat → Int32} {mvi : Int32} {men : Int32} {mfa : Nat → Int32} {mac : Nat → Int32} {mfi : Nat → Int32} {mse : Nat → Int32} {mtd : Nat → Int32} {mra : Int32} {mkp : Nat → Int32} {o0 : Int32} {mme' : Nat → Int32} {mco' : Nat → Int32} {mvi' : Int32}, rc mme mde mco mvi o0 = some (mme', mco', mvi') → Mg l yX12_grays cX12_grays 4 none (rmk fa lb) (KM Z) (AM Z) [.ref (mA Z 0), .int o0] (PM Z mth mto mrw mta mtp mat mtt mme mun mde mco mcn mvi men mfa mac mfi mse mtd mra mkp) (Qv (KM Z) (AM Z) (PM Z mth mto mrw mta mtp mat mtt mme' mun mde mco' mcn mvi' men mfa mac mfi mse mtd mra mkp))) : ∀ n : Nat, ∀ (mme : Nat → Int32) (mco : Nat → Int32) (mvi : Int32) (x2 : Int32), fX12_grays_o_19 rc N mde p1 n mme mco mvi x2 = some (mme', mco', mvi') → ∀ (H : Heap) (locs : List Loc), PM Z mth mto mrw mta mtp mat mtt mme mun mde mco mcn mvi men mfa mac mfi mse mtd mra mkp H → va_S (AM Z) s.heap H locs → ∀ ls : Array Slot, lv_has ls 4 [(0, .ref (mA Z 0)), (1, .int p1), (2, .int x2)] → W p l e (rmk (fa + 1) (lb + 23)) s m args below meth c H locs 0 0 (MQ below (Qv (KM Z) (AM Z) (PM Z mth mto mrw mta mtp mat mtt mme' mun mde mco' mcn mvi' men mfa mac mfi mse mtd mra mkp)) args s 0 0 (AM Z)) (F0 m 19 ls []) := by
  intro n
  induction n with
  | zero => intro mme mco mvi x2 hE; cases hE
  | succ n h19 =>
    intro mme mco mvi x2 hE H locs hP hS ls hl
    have hE : fX12_grays_o_19b rc N mde p1 (fX12_grays_o_19 rc N mde p1 n) mme mco mvi x2 = some (mme', mco', mvi') := hE
    refine lv_iload_n F.1 F.2.1 dX12_grays_19 rfl (lv_at hl 2 rfl) ?_
    refine lv_aload_n F.1 F.2.1 dX12_grays_20 rfl (lv_at hl 0 rfl) ?_
    refine lv_iload_n F.1 F.2.1 dX12_grays_21 rfl (lv_at hl 1 rfl) ?_
    refine lv_iconst (v := 1) F.1 F.2.1 dX12_grays_22 (by decide) ?_
    obtain ⟨r152, hc, hE⟩ := bnd1_some hE
    refine aft_i (run_V (rest := [.int x2]) F (kX12_of hc) (okM Z) C hS lkX12_91 ⟨by simp only [rmk]; omega, by simp only [rmk]; omega⟩ (rvM C hP) hP rfl hl.1 rfl (lv_room (Nat.le_of_ble_eq_true rfl)) dX12_grays_23 ⟨Nat.zero_le _, Nat.zero_le _⟩) hS (fun H locs hP hS => ?_)
    refine lv_icmp_ge (tgt := 65) F.1 F.2.1 dX12_grays_26 (by decide) (fun hc => ?_) (fun hc => ?_)
    · have hE := ifp hE hc
      have w0 := Option.some.inj hE
      obtain ⟨g0, w1⟩ := Prod.mk.inj w0
      obtain ⟨g1, w2⟩ := Prod.mk.inj w1
      subst g0 g1 w2
      exact ret_v F hr hlk hP hS dX12_grays_65
    · have hE := ifn hE hc
      refine lv_aload_n F.1 F.2.1 dX12_grays_29 rfl (lv_at hl 0 rfl) ?_
      refine lv_iload_n F.1 F.2.1 dX12_grays_30 rfl (lv_at hl 1 rfl) ?_
      refine lv_iload_n F.1 F.2.1 dX12_grays_31 rfl (lv_at hl 2 rfl) ?_
      obtain ⟨r153, hc, hE⟩ := bnd1_some hE
      refine aft_i (run_V (rest := []) F (kX12_fieldOf hc) (okM Z) C hS lkX12_140 ⟨by simp only [rmk]; omega, by simp only [rmk]; omega⟩ (rvM C hP) hP rfl hl.1 rfl (lv_room (Nat.le_of_ble_eq_true rfl)) dX12_grays_32 ⟨Nat.zero_le _, Nat.zero_le _⟩) hS (fun H locs hP hS => ?_)
      refine lv_istore_n (lv' := [(3, .int r153), (0, .ref (mA Z 0)), (1, .int p1), (2, .int x2)]) F.1 F.2.1 dX12_grays_35 rfl hl (by decide) rfl (fun ls hl => ?_)
      refine lv_iload_n F.1 F.2.1 dX12_grays_36 rfl (lv_at hl 0 rfl) ?_
      refine lv_if_lt (tgt := 59) F.1 F.2.1 dX12_grays_37 (by decide) (fun hc => ?_) (fun hc => ?_)
      · have hE := ifp hE hc
        refine lv_iinc (v := x2 + 1) (lv' := [(2, .int (x2 + 1)), (3, .int r153), (0, .ref (mA Z 0)), (1, .int p1)]) F.1 F.2.1 dX12_grays_59 hl (k := 3) rfl rfl (by decide) rfl (fun ls hl => ?_)
        refine lv_goto (tgt := 19) F.1 F.2.1 dX12_grays_62 (by decide) ?_
        exact h19 mme mco mvi (x2 + 1) hE _ _ hP hS ls (lv_sub hl [2, 3, 0] rfl)
      · have hE := ifn hE hc
        refine lv_aload_n F.1 F.2.1 dX12_grays_40 rfl (lv_at hl 1 rfl) ?_
        refine lv_iload_n F.1 F.2.1 dX12_grays_41 rfl (lv_at hl 0 rfl) ?_
        refine lv_iconst (v := 5) F.1 F.2.1 dX12_grays_42 (by decide) ?_
        refine lv_aload_n F.1 F.2.1 dX12_grays_43 rfl (lv_at hl 1 rfl) ?_
        refine lv_iload_n F.1 F.2.1 dX12_grays_44 rfl (lv_at hl 0 rfl) ?_
        refine lv_iconst (v := 5) F.1 F.2.1 dX12_grays_45 (by decide) ?_
        obtain ⟨r154, hc, hE⟩ := bnd1_some hE
        refine aft_i (run_V (rest := [.int 5, .int r153, .ref (mA Z 0)]) F (kX12_of hc) (okM Z) C hS lkX12_91 ⟨by simp only [rmk]; omega, by simp only [rmk]; omega⟩ (rvM C hP) hP rfl hl.1 rfl (lv_room (Nat.le_of_ble_eq_true rfl)) dX12_grays_46 ⟨Nat.zero_le _, Nat.zero_le _⟩) hS (fun H locs hP hS => ?_)
        refine lv_iconst (v := 1) F.1 F.2.1 dX12_grays_49 (by decide) ?_
        refine lv_isub F.1 F.2.1 dX12_grays_50 ?_
        obtain ⟨mme_155, hc, hE⟩ := bnd1_some hE
        refine aft_v (run_V (rest := []) F (kX12_puts hc) (okM Z) C hS lkX12_104 ⟨by simp only [rmk]; omega, by simp only [rmk]; omega⟩ (rvM C hP) hP rfl hl.1 rfl (lv_room (Nat.le_of_ble_eq_true rfl)) dX12_grays_51 ⟨Nat.zero_le _, Nat.zero_le _⟩) hS (fun H locs hP hS => ?_)
        refine lv_aload_n F.1 F.2.1 dX12_grays_54 rfl (lv_at hl 1 rfl) ?_
        refine lv_iload_n F.1 F.2.1 dX12_grays_55 rfl (lv_at hl 0 rfl) ?_
        obtain ⟨mme_156, mco_156, mvi_156, hc, hE⟩ := bnd3_some hE
        refine aft_v (run_V (rest := []) F (hrc hc) (okM Z) C hS lkX12_158 ⟨by simp only [rmk]; omega, by simp only [rmk]; omega⟩ (rvM C hP) hP rfl hl.1 rfl (lv_room (Nat.le_of_ble_eq_true rfl)) dX12_grays_56 ⟨Nat.zero_le _, Nat.zero_le _⟩) hS (fun H locs hP hS => ?_)
        refine lv_iinc (v := x2 + 1) (lv' := [(2, .int (x2 + 1)), (3, .int r153), (0, .ref (mA Z 0)), (1, .int p1)]) F.1 F.2.1 dX12_grays_59 hl (k := 3) rfl rfl (by decide) rfl (fun ls hl => ?_)
        refine lv_goto (tgt := 19) F.1 F.2.1 dX12_grays_62 (by decide) ?_
        exact h19 mme_156 mco_156 mvi_156 (x2 + 1) hE _ _ hP hS ls (lv_sub hl [2, 3, 0] rfl)
set_option maxRecDepth 100000 in
set_option maxHeartbeats 4000000 in
theorem kX12_grays_o {l : Launch} {Z : ZC} {mth : Int32} {mto : Int32} {mrw : Nat → Int64} {mta : Nat → Int32} {mtp : Int32} {mat : Int32} {mtt : Int32} {mme : Nat → Int32} {mun : Int32} {mde : Int32} {mco : Nat → Int32} {mcn : Nat → Int32} {mvi : Int32} {men : Int32} {mfa : Nat → Int32} {mac : Nat → Int32} {mfi : Nat → Int32} {mse : Nat → Int32} {mtd : Nat → Int32} {mra : Int32} {mkp : Nat → Int32} {N : Nat} {p1 : Int32} {mme' : Nat → Int32} {mco' : Nat → Int32} {mvi' : Int32} {rc : (Nat → Int32) → Int32 → (Nat → Int32) → Int32 → Int32 → Option ((Nat → Int32) × (Nat → Int32) × Int32)} {fa lb : Nat} (hfa : 8 ≤ fa) (hlb : 400 ≤ lb) (hrc : ∀ {mth : Int32} {mto : Int32} {mrw : Nat → Int64} {mta : Nat → Int32} {mtp : Int32} {mat : Int32} {mtt : Int32} {mme : Nat → Int32} {mun : Int32} {mde : Int32} {mco : Nat → Int32} {mcn : Nat → Int32} {mvi : Int32} {men : Int32} {mfa : Nat → Int32} {mac : Nat → Int32} {mfi : Nat → Int32} {mse : Nat → Int32} {mtd : Nat → Int32} {mra : Int32} {mkp : Nat → Int32} {o0 : Int32} {mme' : Nat → Int32} {mco' : Nat → Int32} {mvi' : Int32}, rc mme mde mco mvi o0 = some (mme', mco', mvi') → Mg l yX12_grays cX12_grays 4 none (rmk fa lb) (KM Z) (AM Z) [.ref (mA Z 0), .int o0] (PM Z mth mto mrw mta mtp mat mtt mme mun mde mco mcn mvi men mfa mac mfi mse mtd mra mkp) (Qv (KM Z) (AM Z) (PM Z mth mto mrw mta mtp mat mtt mme' mun mde mco' mcn mvi' men mfa mac mfi mse mtd mra mkp))) (hE : fX12_grays_o rc N mme mde mco mvi p1 = some (mme', mco', mvi')) : Mg l yX12_grays cX12_grays 4 none (rmk (fa + 1) (lb + 23)) (KM Z) (AM Z) [.ref (mA Z 0), .int p1] (PM Z mth mto mrw mta mtp mat mtt mme mun mde mco mcn mvi men mfa mac mfi mse mtd mra mkp) (Qv (KM Z) (AM Z) (PM Z mth mto mrw mta mtp mat mtt mme' mun mde mco' mcn mvi' men mfa mac mfi mse mtd mra mkp)) := by
  refine Mg.start (lv := [(0, .ref (mA Z 0)), (1, .int p1)]) (by decide) rfl (Nat.le_of_ble_eq_true rfl) rfl ?_
  intro p e s m below meth c F hr hlk C hP ls hl
  have hS : va_S (AM Z) s.heap s.heap [] := va_S.rf
  unfold fX12_grays_o at hE
  refine lv_aload_n F.1 F.2.1 dX12_grays_0 rfl (lv_at hl 0 rfl) ?_
  refine gX12_56 F C hP dX12_grays_1 ?_
  refine lv_iload_n F.1 F.2.1 dX12_grays_4 rfl (lv_at hl 1 rfl) ?_
  obtain ⟨hi, hE⟩ := grd_some hE
  refine am4 F C hP hi dX12_grays_5 ?_
  refine lv_iconst (v := 1) F.1 F.2.1 dX12_grays_6 (by decide) ?_
  refine lv_icmp_ne (tgt := 11) F.1 F.2.1 dX12_grays_7 (by decide) (fun hc => ?_) (fun hc => ?_)
  · have hE := ifn hE hc
    refine lv_aload_n F.1 F.2.1 dX12_grays_11 rfl (lv_at hl 0 rfl) ?_
    refine lv_iload_n F.1 F.2.1 dX12_grays_12 rfl (lv_at hl 1 rfl) ?_
    refine lv_iconst (v := 1) F.1 F.2.1 dX12_grays_13 (by decide) ?_
    obtain ⟨mco_151, mvi_151, hc, hE⟩ := bnd2_some hE
    refine aft_v (run_V (rest := []) F (kX12_becomes hc) (okM Z) C hS lkX12_155 ⟨by simp only [rmk]; omega, by simp only [rmk]; omega⟩ (rvM C hP) hP rfl hl.1 rfl (lv_room (Nat.le_of_ble_eq_true rfl)) dX12_grays_14 ⟨Nat.zero_le _, Nat.zero_le _⟩) hS (fun H locs hP hS => ?_)
    refine lv_iconst (v := 0) F.1 F.2.1 dX12_grays_17 (by decide) ?_
    refine lv_istore_n (lv' := [(2, .int 0), (0, .ref (mA Z 0)), (1, .int p1)]) F.1 F.2.1 dX12_grays_18 rfl hl (by decide) rfl (fun ls hl => ?_)
    exact qX12_grays_o_19 F hr hlk C hfa hlb hrc N mme mco_151 mvi_151 0 hE _ _ hP hS ls (lv_sub hl [1, 2, 0] rfl)
  · have hE := ifp hE hc
    have w0 := Option.some.inj hE
    obtain ⟨g0, w1⟩ := Prod.mk.inj w0
    obtain ⟨g1, w2⟩ := Prod.mk.inj w1
    subst g0 g1 w2
    exact ret_v F hr hlk hP hS dX12_grays_10
set_option maxRecDepth 100000 in
theorem kX12_grays_d {l : Launch} {Z : ZC} {N : Nat} : ∀ d : Nat, ∀ {mth : Int32} {mto : Int32} {mrw : Nat → Int64} {mta : Nat → Int32} {mtp : Int32} {mat : Int32} {mtt : Int32} {mme : Nat → Int32} {mun : Int32} {mde : Int32} {mco : Nat → Int32} {mcn : Nat → Int32} {mvi : Int32} {men : Int32} {mfa : Nat → Int32} {mac : Nat → Int32} {mfi : Nat → Int32} {mse : Nat → Int32} {mtd : Nat → Int32} {mra : Int32} {mkp : Nat → Int32} {o0 : Int32} {mme' : Nat → Int32} {mco' : Nat → Int32} {mvi' : Int32}, fX12_grays_d N d mme mde mco mvi o0 = some (mme', mco', mvi') → Mg l yX12_grays cX12_grays 4 none (rmk (8 + 1 * d) (400 + 23 * d)) (KM Z) (AM Z) [.ref (mA Z 0), .int o0] (PM Z mth mto mrw mta mtp mat mtt mme mun mde mco mcn mvi men mfa mac mfi mse mtd mra mkp) (Qv (KM Z) (AM Z) (PM Z mth mto mrw mta mtp mat mtt mme' mun mde mco' mcn mvi' men mfa mac mfi mse mtd mra mkp)) := by
  intro d
  induction d with
  | zero => intros; rename_i hE; cases hE
  | succ d ih =>
    intros; rename_i hE
    rw [show 8 + 1 * (d + 1) = 8 + 1 * d + 1 by omega, show 400 + 23 * (d + 1) = 400 + 23 * d + 23 by omega]
    exact kX12_grays_o (rc := fX12_grays_d N d) (fa := 8 + 1 * d) (lb := 400 + 23 * d) (by omega) (by omega) ih hE
theorem kX12_grays {l : Launch} {Z : ZC} {mth : Int32} {mto : Int32} {mrw : Nat → Int64} {mta : Nat → Int32} {mtp : Int32} {mat : Int32} {mtt : Int32} {mme : Nat → Int32} {mun : Int32} {mde : Int32} {mco : Nat → Int32} {mcn : Nat → Int32} {mvi : Int32} {men : Int32} {mfa : Nat → Int32} {mac : Nat → Int32} {mfi : Nat → Int32} {mse : Nat → Int32} {mtd : Nat → Int32} {mra : Int32} {mkp : Nat → Int32} {N : Nat} {p1 : Int32} {mme' : Nat → Int32} {mco' : Nat → Int32} {mvi' : Int32} (hE : fX12_grays N mme mde mco mvi p1 = some (mme', mco', mvi')) : Mg l yX12_grays cX12_grays 4 none (rmk 72 1872) (KM Z) (AM Z) [.ref (mA Z 0), .int p1] (PM Z mth mto mrw mta mtp mat mtt mme mun mde mco mcn mvi men mfa mac mfi mse mtd mra mkp) (Qv (KM Z) (AM Z) (PM Z mth mto mrw mta mtp mat mtt mme' mun mde mco' mcn mvi' men mfa mac mfi mse mtd mra mkp)) := kX12_grays_d 64 hE
set_option maxRecDepth 100000 in
set_option maxHeartbeats 4000000 in
theorem qX12_givesBack_o_8 {p : Program} {l : Launch} {e : Env} {s : State} {m : MethodId} {args : Array Value} {below : List Frame} {meth : Method} {c : Code} {Z : ZC} {mth : Int32} {mto : Int32} {mrw : Nat → Int64} {mta : Nat → Int32} {mtp : Int32} {mat : Int32} {mtt : Int32} {mun : Int32} {mde : Int32} {mcn : Nat → Int32} {men : Int32} {mfa : Nat → Int32} {mac : Nat → Int32} {mfi : Nat → Int32} {mse : Nat → Int32} {mtd : Nat → Int32} {mra : Int32} {mkp : Nat → Int32} {rc : (Nat → Int32) → Int32 → (Nat → Int32) → Int32 → Int32 → Option ((Nat → Int32) × (Nat → Int32) × Int32)} {N : Nat} {p1 : Int32} {mme' : Nat → Int32} {mco' : Nat → Int32} {mvi' : Int32} (F : CallFix p m c cX12_givesBack 4 s args bigW RX12) (hr : meth.sig.returnType = none) (hlk : meth.locks = false) (C : KM Z s) {fa lb : Nat} (hfa : 8 ≤ fa) (hlb : 400 ≤ lb) (hrc : ∀ {mth : Int32} {mto : Int32} {mrw : Nat → Int64} {mta : Nat → Int32} {mtp : Int32} {mat : Int32} {mtt : Int32} {mme : Nat → Int32} {mun : Int32} {mde : Int32} {mco : Nat → Int32} {mcn : Nat → Int32} {mvi : Int32} {men : Int32} {mfa : Nat → Int32} {mac : Nat → Int32} {mfi : Nat → Int32} {mse : Nat → Int32} {mtd : Nat → Int32} {mra : Int32} {mkp : Nat → Int32} {o0 : Int32} {mme' : Nat → Int32} {mco' : Nat → Int32} {mvi' : Int32}, rc mme mde mco mvi o0 = some (mme', mco', mvi') → Mg l yX12_givesBack cX12_givesBack 4 none (rmk fa lb) (KM Z) (AM Z) [.ref (mA Z 0), .int o0] (PM Z mth mto mrw mta mtp mat mtt mme mun mde mco mcn mvi men mfa mac mfi mse mtd mra mkp) (Qv (KM Z) (AM Z) (PM Z mth mto mrw mta mtp mat mtt mme' mun mde mco' mcn mvi' men mfa mac mfi mse mtd mra mkp))) : ∀ n : Nat, ∀ (mme : Nat → Int32) (mco : Nat → Int32) (mvi : Int32) (x2 : Int32), fX12_givesBack_o_8 rc N mde p1 n mme mco mvi x2 = some (mme', mco', mvi') → ∀ (H : Heap) (locs : List Loc), PM Z mth mto mrw mta mtp mat mtt mme mun mde mco mcn mvi men mfa mac mfi mse mtd mra mkp H → va_S (AM Z) s.heap H locs → ∀ ls : Array Slot, lv_has ls 4 [(0, .ref (mA Z 0)), (1, .int p1), (2, .int x2)] → W p l e (rmk (fa + 1) (lb + 23)) s m args below meth c H locs 0 0 (MQ below (Qv (KM Z) (AM Z) (PM Z mth mto mrw mta mtp mat mtt mme' mun mde mco' mcn mvi' men mfa mac mfi mse mtd mra mkp)) args s 0 0 (AM Z)) (F0 m 8 ls []) := by
  intro n
  induction n with
  | zero => intro mme mco mvi x2 hE; cases hE
  | succ n h8 =>
    intro mme mco mvi x2 hE H locs hP hS ls hl
    have hE : fX12_givesBack_o_8b rc N mde p1 (fX12_givesBack_o_8 rc N mde p1 n) mme mco mvi x2 = some (mme', mco', mvi') := hE
    refine lv_iload_n F.1 F.2.1 dX12_givesBack_8 rfl (lv_at hl 2 rfl) ?_
    refine lv_aload_n F.1 F.2.1 dX12_givesBack_9 rfl (lv_at hl 0 rfl) ?_
    refine lv_iload_n F.1 F.2.1 dX12_givesBack_10 rfl (lv_at hl 1 rfl) ?_
    refine lv_iconst (v := 1) F.1 F.2.1 dX12_givesBack_11 (by decide) ?_
    obtain ⟨r164, hc, hE⟩ := bnd1_some hE
    refine aft_i (run_V (rest := [.int x2]) F (kX12_of hc) (okM Z) C hS lkX12_91 ⟨by simp only [rmk]; omega, by simp only [rmk]; omega⟩ (rvM C hP) hP rfl hl.1 rfl (lv_room (Nat.le_of_ble_eq_true rfl)) dX12_givesBack_12 ⟨Nat.zero_le _, Nat.zero_le _⟩) hS (fun H locs hP hS => ?_)
    refine lv_icmp_ge (tgt := 64) F.1 F.2.1 dX12_givesBack_15 (by decide) (fun hc => ?_) (fun hc => ?_)
    · have hE := ifp hE hc
      have w0 := Option.some.inj hE
      obtain ⟨g0, w1⟩ := Prod.mk.inj w0
      obtain ⟨g1, w2⟩ := Prod.mk.inj w1
      subst g0 g1 w2
      exact ret_v F hr hlk hP hS dX12_givesBack_64
    · have hE := ifn hE hc
      refine lv_aload_n F.1 F.2.1 dX12_givesBack_18 rfl (lv_at hl 0 rfl) ?_
      refine lv_iload_n F.1 F.2.1 dX12_givesBack_19 rfl (lv_at hl 1 rfl) ?_
      refine lv_iload_n F.1 F.2.1 dX12_givesBack_20 rfl (lv_at hl 2 rfl) ?_
      obtain ⟨r165, hc, hE⟩ := bnd1_some hE
      refine aft_i (run_V (rest := []) F (kX12_fieldOf hc) (okM Z) C hS lkX12_140 ⟨by simp only [rmk]; omega, by simp only [rmk]; omega⟩ (rvM C hP) hP rfl hl.1 rfl (lv_room (Nat.le_of_ble_eq_true rfl)) dX12_givesBack_21 ⟨Nat.zero_le _, Nat.zero_le _⟩) hS (fun H locs hP hS => ?_)
      refine lv_istore_n (lv' := [(3, .int r165), (0, .ref (mA Z 0)), (1, .int p1), (2, .int x2)]) F.1 F.2.1 dX12_givesBack_24 rfl hl (by decide) rfl (fun ls hl => ?_)
      refine lv_iload_n F.1 F.2.1 dX12_givesBack_25 rfl (lv_at hl 0 rfl) ?_
      refine lv_if_lt (tgt := 58) F.1 F.2.1 dX12_givesBack_26 (by decide) (fun hc => ?_) (fun hc => ?_)
      · have hE := ifp hE hc
        refine lv_iinc (v := x2 + 1) (lv' := [(2, .int (x2 + 1)), (3, .int r165), (0, .ref (mA Z 0)), (1, .int p1)]) F.1 F.2.1 dX12_givesBack_58 hl (k := 3) rfl rfl (by decide) rfl (fun ls hl => ?_)
        refine lv_goto (tgt := 8) F.1 F.2.1 dX12_givesBack_61 (by decide) ?_
        exact h8 mme mco mvi (x2 + 1) hE _ _ hP hS ls (lv_sub hl [2, 3, 0] rfl)
      · have hE := ifn hE hc
        refine lv_aload_n F.1 F.2.1 dX12_givesBack_29 rfl (lv_at hl 1 rfl) ?_
        refine lv_iload_n F.1 F.2.1 dX12_givesBack_30 rfl (lv_at hl 0 rfl) ?_
        refine lv_iconst (v := 5) F.1 F.2.1 dX12_givesBack_31 (by decide) ?_
        refine lv_aload_n F.1 F.2.1 dX12_givesBack_32 rfl (lv_at hl 1 rfl) ?_
        refine lv_iload_n F.1 F.2.1 dX12_givesBack_33 rfl (lv_at hl 0 rfl) ?_
        refine lv_iconst (v := 5) F.1 F.2.1 dX12_givesBack_34 (by decide) ?_
        obtain ⟨r166, hc, hE⟩ := bnd1_some hE
        refine aft_i (run_V (rest := [.int 5, .int r165, .ref (mA Z 0)]) F (kX12_of hc) (okM Z) C hS lkX12_91 ⟨by simp only [rmk]; omega, by simp only [rmk]; omega⟩ (rvM C hP) hP rfl hl.1 rfl (lv_room (Nat.le_of_ble_eq_true rfl)) dX12_givesBack_35 ⟨Nat.zero_le _, Nat.zero_le _⟩) hS (fun H locs hP hS => ?_)
        refine lv_iconst (v := 1) F.1 F.2.1 dX12_givesBack_38 (by decide) ?_
        refine lv_iadd F.1 F.2.1 dX12_givesBack_39 ?_
        obtain ⟨mme_167, hc, hE⟩ := bnd1_some hE
        refine aft_v (run_V (rest := []) F (kX12_puts hc) (okM Z) C hS lkX12_104 ⟨by simp only [rmk]; omega, by simp only [rmk]; omega⟩ (rvM C hP) hP rfl hl.1 rfl (lv_room (Nat.le_of_ble_eq_true rfl)) dX12_givesBack_40 ⟨Nat.zero_le _, Nat.zero_le _⟩) hS (fun H locs hP hS => ?_)
        refine lv_aload_n F.1 F.2.1 dX12_givesBack_43 rfl (lv_at hl 1 rfl) ?_
        refine gX12_56 F C hP dX12_givesBack_44 ?_
        refine lv_iload_n F.1 F.2.1 dX12_givesBack_47 rfl (lv_at hl 0 rfl) ?_
        obtain ⟨hi, hE⟩ := grd_some hE
        refine am4 F C hP hi dX12_givesBack_48 ?_
        refine lv_iconst (v := 3) F.1 F.2.1 dX12_givesBack_49 (by decide) ?_
        refine lv_icmp_eq (tgt := 58) F.1 F.2.1 dX12_givesBack_50 (by decide) (fun hc => ?_) (fun hc => ?_)
        · have hE := ifp hE hc
          refine lv_iinc (v := x2 + 1) (lv' := [(2, .int (x2 + 1)), (3, .int r165), (0, .ref (mA Z 0)), (1, .int p1)]) F.1 F.2.1 dX12_givesBack_58 hl (k := 3) rfl rfl (by decide) rfl (fun ls hl => ?_)
          refine lv_goto (tgt := 8) F.1 F.2.1 dX12_givesBack_61 (by decide) ?_
          exact h8 mme_167 mco mvi (x2 + 1) hE _ _ hP hS ls (lv_sub hl [2, 3, 0] rfl)
        · have hE := ifn hE hc
          refine lv_aload_n F.1 F.2.1 dX12_givesBack_53 rfl (lv_at hl 1 rfl) ?_
          refine lv_iload_n F.1 F.2.1 dX12_givesBack_54 rfl (lv_at hl 0 rfl) ?_
          obtain ⟨mme_168, mco_168, mvi_168, hc, hE⟩ := bnd3_some hE
          refine aft_v (run_V (rest := []) F (hrc hc) (okM Z) C hS lkX12_161 ⟨by simp only [rmk]; omega, by simp only [rmk]; omega⟩ (rvM C hP) hP rfl hl.1 rfl (lv_room (Nat.le_of_ble_eq_true rfl)) dX12_givesBack_55 ⟨Nat.zero_le _, Nat.zero_le _⟩) hS (fun H locs hP hS => ?_)
          refine lv_iinc (v := x2 + 1) (lv' := [(2, .int (x2 + 1)), (3, .int r165), (0, .ref (mA Z 0)), (1, .int p1)]) F.1 F.2.1 dX12_givesBack_58 hl (k := 3) rfl rfl (by decide) rfl (fun ls hl => ?_)
          refine lv_goto (tgt := 8) F.1 F.2.1 dX12_givesBack_61 (by decide) ?_
          exact h8 mme_168 mco_168 mvi_168 (x2 + 1) hE _ _ hP hS ls (lv_sub hl [2, 3, 0] rfl)
set_option maxRecDepth 100000 in
set_option maxHeartbeats 4000000 in
theorem kX12_givesBack_o {l : Launch} {Z : ZC} {mth : Int32} {mto : Int32} {mrw : Nat → Int64} {mta : Nat → Int32} {mtp : Int32} {mat : Int32} {mtt : Int32} {mme : Nat → Int32} {mun : Int32} {mde : Int32} {mco : Nat → Int32} {mcn : Nat → Int32} {mvi : Int32} {men : Int32} {mfa : Nat → Int32} {mac : Nat → Int32} {mfi : Nat → Int32} {mse : Nat → Int32} {mtd : Nat → Int32} {mra : Int32} {mkp : Nat → Int32} {N : Nat} {p1 : Int32} {mme' : Nat → Int32} {mco' : Nat → Int32} {mvi' : Int32} {rc : (Nat → Int32) → Int32 → (Nat → Int32) → Int32 → Int32 → Option ((Nat → Int32) × (Nat → Int32) × Int32)} {fa lb : Nat} (hfa : 8 ≤ fa) (hlb : 400 ≤ lb) (hrc : ∀ {mth : Int32} {mto : Int32} {mrw : Nat → Int64} {mta : Nat → Int32} {mtp : Int32} {mat : Int32} {mtt : Int32} {mme : Nat → Int32} {mun : Int32} {mde : Int32} {mco : Nat → Int32} {mcn : Nat → Int32} {mvi : Int32} {men : Int32} {mfa : Nat → Int32} {mac : Nat → Int32} {mfi : Nat → Int32} {mse : Nat → Int32} {mtd : Nat → Int32} {mra : Int32} {mkp : Nat → Int32} {o0 : Int32} {mme' : Nat → Int32} {mco' : Nat → Int32} {mvi' : Int32}, rc mme mde mco mvi o0 = some (mme', mco', mvi') → Mg l yX12_givesBack cX12_givesBack 4 none (rmk fa lb) (KM Z) (AM Z) [.ref (mA Z 0), .int o0] (PM Z mth mto mrw mta mtp mat mtt mme mun mde mco mcn mvi men mfa mac mfi mse mtd mra mkp) (Qv (KM Z) (AM Z) (PM Z mth mto mrw mta mtp mat mtt mme' mun mde mco' mcn mvi' men mfa mac mfi mse mtd mra mkp))) (hE : fX12_givesBack_o rc N mme mde mco mvi p1 = some (mme', mco', mvi')) : Mg l yX12_givesBack cX12_givesBack 4 none (rmk (fa + 1) (lb + 23)) (KM Z) (AM Z) [.ref (mA Z 0), .int p1] (PM Z mth mto mrw mta mtp mat mtt mme mun mde mco mcn mvi men mfa mac mfi mse mtd mra mkp) (Qv (KM Z) (AM Z) (PM Z mth mto mrw mta mtp mat mtt mme' mun mde mco' mcn mvi' men mfa mac mfi mse mtd mra mkp)) := by
  refine Mg.start (lv := [(0, .ref (mA Z 0)), (1, .int p1)]) (by decide) rfl (Nat.le_of_ble_eq_true rfl) rfl ?_
  intro p e s m below meth c F hr hlk C hP ls hl
  have hS : va_S (AM Z) s.heap s.heap [] := va_S.rf
  unfold fX12_givesBack_o at hE
  refine lv_aload_n F.1 F.2.1 dX12_givesBack_0 rfl (lv_at hl 0 rfl) ?_
  refine lv_iload_n F.1 F.2.1 dX12_givesBack_1 rfl (lv_at hl 1 rfl) ?_
  refine lv_iconst (v := 3) F.1 F.2.1 dX12_givesBack_2 (by decide) ?_
  obtain ⟨mco_163, mvi_163, hc, hE⟩ := bnd2_some hE
  refine aft_v (run_V (rest := []) F (kX12_becomes hc) (okM Z) C hS lkX12_155 ⟨by simp only [rmk]; omega, by simp only [rmk]; omega⟩ (rvM C hP) hP rfl hl.1 rfl (lv_room (Nat.le_of_ble_eq_true rfl)) dX12_givesBack_3 ⟨Nat.zero_le _, Nat.zero_le _⟩) hS (fun H locs hP hS => ?_)
  refine lv_iconst (v := 0) F.1 F.2.1 dX12_givesBack_6 (by decide) ?_
  refine lv_istore_n (lv' := [(2, .int 0), (0, .ref (mA Z 0)), (1, .int p1)]) F.1 F.2.1 dX12_givesBack_7 rfl hl (by decide) rfl (fun ls hl => ?_)
  exact qX12_givesBack_o_8 F hr hlk C hfa hlb hrc N mme mco_163 mvi_163 0 hE _ _ hP hS ls (lv_sub hl [1, 2, 0] rfl)
set_option maxRecDepth 100000 in
theorem kX12_givesBack_d {l : Launch} {Z : ZC} {N : Nat} : ∀ d : Nat, ∀ {mth : Int32} {mto : Int32} {mrw : Nat → Int64} {mta : Nat → Int32} {mtp : Int32} {mat : Int32} {mtt : Int32} {mme : Nat → Int32} {mun : Int32} {mde : Int32} {mco : Nat → Int32} {mcn : Nat → Int32} {mvi : Int32} {men : Int32} {mfa : Nat → Int32} {mac : Nat → Int32} {mfi : Nat → Int32} {mse : Nat → Int32} {mtd : Nat → Int32} {mra : Int32} {mkp : Nat → Int32} {o0 : Int32} {mme' : Nat → Int32} {mco' : Nat → Int32} {mvi' : Int32}, fX12_givesBack_d N d mme mde mco mvi o0 = some (mme', mco', mvi') → Mg l yX12_givesBack cX12_givesBack 4 none (rmk (8 + 1 * d) (400 + 23 * d)) (KM Z) (AM Z) [.ref (mA Z 0), .int o0] (PM Z mth mto mrw mta mtp mat mtt mme mun mde mco mcn mvi men mfa mac mfi mse mtd mra mkp) (Qv (KM Z) (AM Z) (PM Z mth mto mrw mta mtp mat mtt mme' mun mde mco' mcn mvi' men mfa mac mfi mse mtd mra mkp)) := by
  intro d
  induction d with
  | zero => intros; rename_i hE; cases hE
  | succ d ih =>
    intros; rename_i hE
    rw [show 8 + 1 * (d + 1) = 8 + 1 * d + 1 by omega, show 400 + 23 * (d + 1) = 400 + 23 * d + 23 by omega]
    exact kX12_givesBack_o (rc := fX12_givesBack_d N d) (fa := 8 + 1 * d) (lb := 400 + 23 * d) (by omega) (by omega) ih hE
theorem kX12_givesBack {l : Launch} {Z : ZC} {mth : Int32} {mto : Int32} {mrw : Nat → Int64} {mta : Nat → Int32} {mtp : Int32} {mat : Int32} {mtt : Int32} {mme : Nat → Int32} {mun : Int32} {mde : Int32} {mco : Nat → Int32} {mcn : Nat → Int32} {mvi : Int32} {men : Int32} {mfa : Nat → Int32} {mac : Nat → Int32} {mfi : Nat → Int32} {mse : Nat → Int32} {mtd : Nat → Int32} {mra : Int32} {mkp : Nat → Int32} {N : Nat} {p1 : Int32} {mme' : Nat → Int32} {mco' : Nat → Int32} {mvi' : Int32} (hE : fX12_givesBack N mme mde mco mvi p1 = some (mme', mco', mvi')) : Mg l yX12_givesBack cX12_givesBack 4 none (rmk 72 1872) (KM Z) (AM Z) [.ref (mA Z 0), .int p1] (PM Z mth mto mrw mta mtp mat mtt mme mun mde mco mcn mvi men mfa mac mfi mse mtd mra mkp) (Qv (KM Z) (AM Z) (PM Z mth mto mrw mta mtp mat mtt mme' mun mde mco' mcn mvi' men mfa mac mfi mse mtd mra mkp)) := kX12_givesBack_d 64 hE
set_option maxRecDepth 100000 in
set_option maxHeartbeats 4000000 in
theorem qX12_looksThrough_o_34 {p : Program} {l : Launch} {e : Env} {s : State} {m : MethodId} {args : Array Value} {below : List Frame} {meth : Method} {c : Code} {Z : ZC} {mth : Int32} {mto : Int32} {mrw : Nat → Int64} {mta : Nat → Int32} {mtp : Int32} {mat : Int32} {mtt : Int32} {mun : Int32} {mde : Int32} {mcn : Nat → Int32} {men : Int32} {mfa : Nat → Int32} {mac : Nat → Int32} {mfi : Nat → Int32} {mse : Nat → Int32} {mtd : Nat → Int32} {mra : Int32} {mkp : Nat → Int32} {rc : (Nat → Int32) → Int32 → (Nat → Int32) → Int32 → Int32 → Option ((Nat → Int32) × (Nat → Int32) × Int32)} {N : Nat} {p1 : Int32} {mme' : Nat → Int32} {mco' : Nat → Int32} {mvi' : Int32} (F : CallFix p m c cX12_looksThrough 3 s args bigW RX12) (hr : meth.sig.returnType = none) (hlk : meth.locks = false) (C : KM Z s) {fa lb : Nat} (hfa : 100 ≤ fa) (hlb : 3000 ≤ lb) (hrc : ∀ {mth : Int32} {mto : Int32} {mrw : Nat → Int64} {mta : Nat → Int32} {mtp : Int32} {mat : Int32} {mtt : Int32} {mme : Nat → Int32} {mun : Int32} {mde : Int32} {mco : Nat → Int32} {mcn : Nat → Int32} {mvi : Int32} {men : Int32} {mfa : Nat → Int32} {mac : Nat → Int32} {mfi : Nat → Int32} {mse : Nat → Int32} {mtd : Nat → Int32} {mra : Int32} {mkp : Nat → Int32} {o0 : Int32} {mme' : Nat → Int32} {mco' : Nat → Int32} {mvi' : Int32}, rc mme mde mco mvi o0 = some (mme', mco', mvi') → Mg l yX12_looksThrough cX12_looksThrough 3 none (rmk fa lb) (KM Z) (AM Z) [.ref (mA Z 0), .int o0] (PM Z mth mto mrw mta mtp mat mtt mme mun mde mco mcn mvi men mfa mac mfi mse mtd mra mkp) (Qv (KM Z) (AM Z) (PM Z mth mto mrw mta mtp mat mtt mme' mun mde mco' mcn mvi' men mfa mac mfi mse mtd mra mkp))) : ∀ n : Nat, ∀ (mme : Nat → Int32) (mco : Nat → Int32) (mvi : Int32) (x2 : Int32), fX12_looksThrough_o_34 rc N mde p1 n mme mco mvi x2 = some (mme', mco', mvi') → ∀ (H : Heap) (locs : List Loc), PM Z mth mto mrw mta mtp mat mtt mme mun mde mco mcn mvi men mfa mac mfi mse mtd mra mkp H → va_S (AM Z) s.heap H locs → ∀ ls : Array Slot, lv_has ls 3 [(0, .ref (mA Z 0)), (1, .int p1), (2, .int x2)] → W p l e (rmk (fa + 1) (lb + 22)) s m args below meth c H locs 0 0 (MQ below (Qv (KM Z) (AM Z) (PM Z mth mto mrw mta mtp mat mtt mme' mun mde mco' mcn mvi' men mfa mac mfi mse mtd mra mkp)) args s 0 0 (AM Z)) (F0 m 34 ls []) := by
  intro n
  induction n with
  | zero => intro mme mco mvi x2 hE; cases hE
  | succ n h34 =>
    intro mme mco mvi x2 hE H locs hP hS ls hl
    have hE : fX12_looksThrough_o_34b rc N mde p1 (fX12_looksThrough_o_34 rc N mde p1 n) mme mco mvi x2 = some (mme', mco', mvi') := hE
    refine lv_iload_n F.1 F.2.1 dX12_looksThrough_34 rfl (lv_at hl 2 rfl) ?_
    refine lv_aload_n F.1 F.2.1 dX12_looksThrough_35 rfl (lv_at hl 0 rfl) ?_
    refine lv_iload_n F.1 F.2.1 dX12_looksThrough_36 rfl (lv_at hl 1 rfl) ?_
    refine lv_iconst (v := 1) F.1 F.2.1 dX12_looksThrough_37 (by decide) ?_
    obtain ⟨r179, hc, hE⟩ := bnd1_some hE
    refine aft_i (run_V (rest := [.int x2]) F (kX12_of hc) (okM Z) C hS lkX12_91 ⟨by simp only [rmk]; omega, by simp only [rmk]; omega⟩ (rvM C hP) hP rfl hl.1 rfl (lv_room (Nat.le_of_ble_eq_true rfl)) dX12_looksThrough_38 ⟨Nat.zero_le _, Nat.zero_le _⟩) hS (fun H locs hP hS => ?_)
    refine lv_icmp_ge (tgt := 69) F.1 F.2.1 dX12_looksThrough_41 (by decide) (fun hc => ?_) (fun hc => ?_)
    · have hE := ifp hE hc
      have w0 := Option.some.inj hE
      obtain ⟨g0, w1⟩ := Prod.mk.inj w0
      obtain ⟨g1, w2⟩ := Prod.mk.inj w1
      subst g0 g1 w2
      exact ret_v F hr hlk hP hS dX12_looksThrough_69
    · have hE := ifn hE hc
      refine lv_aload_n F.1 F.2.1 dX12_looksThrough_44 rfl (lv_at hl 0 rfl) ?_
      refine lv_iload_n F.1 F.2.1 dX12_looksThrough_45 rfl (lv_at hl 1 rfl) ?_
      refine lv_iload_n F.1 F.2.1 dX12_looksThrough_46 rfl (lv_at hl 2 rfl) ?_
      obtain ⟨r180, hc, hE⟩ := bnd1_some hE
      refine aft_i (run_V (rest := []) F (kX12_fieldOf hc) (okM Z) C hS lkX12_140 ⟨by simp only [rmk]; omega, by simp only [rmk]; omega⟩ (rvM C hP) hP rfl hl.1 rfl (lv_room (Nat.le_of_ble_eq_true rfl)) dX12_looksThrough_47 ⟨Nat.zero_le _, Nat.zero_le _⟩) hS (fun H locs hP hS => ?_)
      refine lv_if_lt (tgt := 63) F.1 F.2.1 dX12_looksThrough_50 (by decide) (fun hc => ?_) (fun hc => ?_)
      · have hE := ifp hE hc
        refine lv_iinc (v := x2 + 1) (lv' := [(2, .int (x2 + 1)), (0, .ref (mA Z 0)), (1, .int p1)]) F.1 F.2.1 dX12_looksThrough_63 hl (k := 2) rfl rfl (by decide) rfl (fun ls hl => ?_)
        refine lv_goto (tgt := 34) F.1 F.2.1 dX12_looksThrough_66 (by decide) ?_
        exact h34 mme mco mvi (x2 + 1) hE _ _ hP hS ls (lv_sub hl [1, 2, 0] rfl)
      · have hE := ifn hE hc
        refine lv_aload_n F.1 F.2.1 dX12_looksThrough_53 rfl (lv_at hl 0 rfl) ?_
        refine lv_aload_n F.1 F.2.1 dX12_looksThrough_54 rfl (lv_at hl 0 rfl) ?_
        refine lv_iload_n F.1 F.2.1 dX12_looksThrough_55 rfl (lv_at hl 1 rfl) ?_
        refine lv_iload_n F.1 F.2.1 dX12_looksThrough_56 rfl (lv_at hl 2 rfl) ?_
        obtain ⟨r181, hc, hE⟩ := bnd1_some hE
        refine aft_i (run_V (rest := [.ref (mA Z 0)]) F (kX12_fieldOf hc) (okM Z) C hS lkX12_140 ⟨by simp only [rmk]; omega, by simp only [rmk]; omega⟩ (rvM C hP) hP rfl hl.1 rfl (lv_room (Nat.le_of_ble_eq_true rfl)) dX12_looksThrough_57 ⟨Nat.zero_le _, Nat.zero_le _⟩) hS (fun H locs hP hS => ?_)
        obtain ⟨mme_182, mco_182, mvi_182, hc, hE⟩ := bnd3_some hE
        refine aft_v (run_V (rest := []) F (hrc hc) (okM Z) C hS lkX12_164 ⟨by simp only [rmk]; omega, by simp only [rmk]; omega⟩ (rvM C hP) hP rfl hl.1 rfl (lv_room (Nat.le_of_ble_eq_true rfl)) dX12_looksThrough_60 ⟨Nat.zero_le _, Nat.zero_le _⟩) hS (fun H locs hP hS => ?_)
        refine lv_iinc (v := x2 + 1) (lv' := [(2, .int (x2 + 1)), (0, .ref (mA Z 0)), (1, .int p1)]) F.1 F.2.1 dX12_looksThrough_63 hl (k := 2) rfl rfl (by decide) rfl (fun ls hl => ?_)
        refine lv_goto (tgt := 34) F.1 F.2.1 dX12_looksThrough_66 (by decide) ?_
        exact h34 mme_182 mco_182 mvi_182 (x2 + 1) hE _ _ hP hS ls (lv_sub hl [1, 2, 0] rfl)
set_option maxRecDepth 100000 in
set_option maxHeartbeats 4000000 in
theorem kX12_looksThrough_o {l : Launch} {Z : ZC} {mth : Int32} {mto : Int32} {mrw : Nat → Int64} {mta : Nat → Int32} {mtp : Int32} {mat : Int32} {mtt : Int32} {mme : Nat → Int32} {mun : Int32} {mde : Int32} {mco : Nat → Int32} {mcn : Nat → Int32} {mvi : Int32} {men : Int32} {mfa : Nat → Int32} {mac : Nat → Int32} {mfi : Nat → Int32} {mse : Nat → Int32} {mtd : Nat → Int32} {mra : Int32} {mkp : Nat → Int32} {N : Nat} {p1 : Int32} {mme' : Nat → Int32} {mco' : Nat → Int32} {mvi' : Int32} {rc : (Nat → Int32) → Int32 → (Nat → Int32) → Int32 → Int32 → Option ((Nat → Int32) × (Nat → Int32) × Int32)} {fa lb : Nat} (hfa : 100 ≤ fa) (hlb : 3000 ≤ lb) (hrc : ∀ {mth : Int32} {mto : Int32} {mrw : Nat → Int64} {mta : Nat → Int32} {mtp : Int32} {mat : Int32} {mtt : Int32} {mme : Nat → Int32} {mun : Int32} {mde : Int32} {mco : Nat → Int32} {mcn : Nat → Int32} {mvi : Int32} {men : Int32} {mfa : Nat → Int32} {mac : Nat → Int32} {mfi : Nat → Int32} {mse : Nat → Int32} {mtd : Nat → Int32} {mra : Int32} {mkp : Nat → Int32} {o0 : Int32} {mme' : Nat → Int32} {mco' : Nat → Int32} {mvi' : Int32}, rc mme mde mco mvi o0 = some (mme', mco', mvi') → Mg l yX12_looksThrough cX12_looksThrough 3 none (rmk fa lb) (KM Z) (AM Z) [.ref (mA Z 0), .int o0] (PM Z mth mto mrw mta mtp mat mtt mme mun mde mco mcn mvi men mfa mac mfi mse mtd mra mkp) (Qv (KM Z) (AM Z) (PM Z mth mto mrw mta mtp mat mtt mme' mun mde mco' mcn mvi' men mfa mac mfi mse mtd mra mkp))) (hE : fX12_looksThrough_o rc N mme mde mco mvi p1 = some (mme', mco', mvi')) : Mg l yX12_looksThrough cX12_looksThrough 3 none (rmk (fa + 1) (lb + 22)) (KM Z) (AM Z) [.ref (mA Z 0), .int p1] (PM Z mth mto mrw mta mtp mat mtt mme mun mde mco mcn mvi men mfa mac mfi mse mtd mra mkp) (Qv (KM Z) (AM Z) (PM Z mth mto mrw mta mtp mat mtt mme' mun mde mco' mcn mvi' men mfa mac mfi mse mtd mra mkp)) := by
  refine Mg.start (lv := [(0, .ref (mA Z 0)), (1, .int p1)]) (by decide) rfl (Nat.le_of_ble_eq_true rfl) rfl ?_
  intro p e s m below meth c F hr hlk C hP ls hl
  have hS : va_S (AM Z) s.heap s.heap [] := va_S.rf
  unfold fX12_looksThrough_o at hE
  refine lv_aload_n F.1 F.2.1 dX12_looksThrough_0 rfl (lv_at hl 0 rfl) ?_
  refine gX12_56 F C hP dX12_looksThrough_1 ?_
  refine lv_iload_n F.1 F.2.1 dX12_looksThrough_4 rfl (lv_at hl 1 rfl) ?_
  obtain ⟨hi, hE⟩ := grd_some hE
  refine am4 F C hP hi dX12_looksThrough_5 ?_
  refine lv_iconst (v := 1) F.1 F.2.1 dX12_looksThrough_6 (by decide) ?_
  refine lv_icmp_eq (tgt := 11) F.1 F.2.1 dX12_looksThrough_7 (by decide) (fun hc => ?_) (fun hc => ?_)
  · have hE := ifp hE hc
    refine lv_aload_n F.1 F.2.1 dX12_looksThrough_11 rfl (lv_at hl 0 rfl) ?_
    refine lv_iload_n F.1 F.2.1 dX12_looksThrough_12 rfl (lv_at hl 1 rfl) ?_
    refine lv_iconst (v := 5) F.1 F.2.1 dX12_looksThrough_13 (by decide) ?_
    obtain ⟨r176, hc, hE⟩ := bnd1_some hE
    refine aft_i (run_V (rest := []) F (kX12_of hc) (okM Z) C hS lkX12_91 ⟨by simp only [rmk]; omega, by simp only [rmk]; omega⟩ (rvM C hP) hP rfl hl.1 rfl (lv_room (Nat.le_of_ble_eq_true rfl)) dX12_looksThrough_14 ⟨Nat.zero_le _, Nat.zero_le _⟩) hS (fun H locs hP hS => ?_)
    refine lv_if_le (tgt := 26) F.1 F.2.1 dX12_looksThrough_17 (by decide) (fun hc => ?_) (fun hc => ?_)
    · have hE := ifp hE hc
      refine lv_aload_n F.1 F.2.1 dX12_looksThrough_26 rfl (lv_at hl 0 rfl) ?_
      refine lv_iload_n F.1 F.2.1 dX12_looksThrough_27 rfl (lv_at hl 1 rfl) ?_
      refine lv_iconst (v := 2) F.1 F.2.1 dX12_looksThrough_28 (by decide) ?_
      obtain ⟨mco_177, mvi_177, hc, hE⟩ := bnd2_some hE
      refine aft_v (run_V (rest := []) F (kX12_becomes hc) (okM Z) C hS lkX12_155 ⟨by simp only [rmk]; omega, by simp only [rmk]; omega⟩ (rvM C hP) hP rfl hl.1 rfl (lv_room (Nat.le_of_ble_eq_true rfl)) dX12_looksThrough_29 ⟨Nat.zero_le _, Nat.zero_le _⟩) hS (fun H locs hP hS => ?_)
      refine lv_iconst (v := 0) F.1 F.2.1 dX12_looksThrough_32 (by decide) ?_
      refine lv_istore_n (lv' := [(2, .int 0), (0, .ref (mA Z 0)), (1, .int p1)]) F.1 F.2.1 dX12_looksThrough_33 rfl hl (by decide) rfl (fun ls hl => ?_)
      exact qX12_looksThrough_o_34 F hr hlk C hfa hlb hrc N mme mco_177 mvi_177 0 hE _ _ hP hS ls (lv_sub hl [1, 2, 0] rfl)
    · have hE := ifn hE hc
      refine lv_aload_n F.1 F.2.1 dX12_looksThrough_20 rfl (lv_at hl 0 rfl) ?_
      refine lv_iload_n F.1 F.2.1 dX12_looksThrough_21 rfl (lv_at hl 1 rfl) ?_
      obtain ⟨mme_178, mco_178, mvi_178, hc, hE⟩ := bnd3_some hE
      refine aft_v (run_V (rest := []) F (kX12_givesBack hc) (okM Z) C hS lkX12_161 ⟨by simp only [rmk]; omega, by simp only [rmk]; omega⟩ (rvM C hP) hP rfl hl.1 rfl (lv_room (Nat.le_of_ble_eq_true rfl)) dX12_looksThrough_22 ⟨Nat.zero_le _, Nat.zero_le _⟩) hS (fun H locs hP hS => ?_)
      have w0 := Option.some.inj hE
      obtain ⟨g0, w1⟩ := Prod.mk.inj w0
      obtain ⟨g1, w2⟩ := Prod.mk.inj w1
      subst g0 g1 w2
      exact ret_v F hr hlk hP hS dX12_looksThrough_25
  · have hE := ifn hE hc
    have w0 := Option.some.inj hE
    obtain ⟨g0, w1⟩ := Prod.mk.inj w0
    obtain ⟨g1, w2⟩ := Prod.mk.inj w1
    subst g0 g1 w2
    exact ret_v F hr hlk hP hS dX12_looksThrough_10
set_option maxRecDepth 100000 in
theorem kX12_looksThrough_d {l : Launch} {Z : ZC} {N : Nat} : ∀ d : Nat, ∀ {mth : Int32} {mto : Int32} {mrw : Nat → Int64} {mta : Nat → Int32} {mtp : Int32} {mat : Int32} {mtt : Int32} {mme : Nat → Int32} {mun : Int32} {mde : Int32} {mco : Nat → Int32} {mcn : Nat → Int32} {mvi : Int32} {men : Int32} {mfa : Nat → Int32} {mac : Nat → Int32} {mfi : Nat → Int32} {mse : Nat → Int32} {mtd : Nat → Int32} {mra : Int32} {mkp : Nat → Int32} {o0 : Int32} {mme' : Nat → Int32} {mco' : Nat → Int32} {mvi' : Int32}, fX12_looksThrough_d N d mme mde mco mvi o0 = some (mme', mco', mvi') → Mg l yX12_looksThrough cX12_looksThrough 3 none (rmk (100 + 1 * d) (3000 + 22 * d)) (KM Z) (AM Z) [.ref (mA Z 0), .int o0] (PM Z mth mto mrw mta mtp mat mtt mme mun mde mco mcn mvi men mfa mac mfi mse mtd mra mkp) (Qv (KM Z) (AM Z) (PM Z mth mto mrw mta mtp mat mtt mme' mun mde mco' mcn mvi' men mfa mac mfi mse mtd mra mkp)) := by
  intro d
  induction d with
  | zero => intros; rename_i hE; cases hE
  | succ d ih =>
    intros; rename_i hE
    rw [show 100 + 1 * (d + 1) = 100 + 1 * d + 1 by omega, show 3000 + 22 * (d + 1) = 3000 + 22 * d + 22 by omega]
    exact kX12_looksThrough_o (rc := fX12_looksThrough_d N d) (fa := 100 + 1 * d) (lb := 3000 + 22 * d) (by omega) (by omega) ih hE
theorem kX12_looksThrough {l : Launch} {Z : ZC} {mth : Int32} {mto : Int32} {mrw : Nat → Int64} {mta : Nat → Int32} {mtp : Int32} {mat : Int32} {mtt : Int32} {mme : Nat → Int32} {mun : Int32} {mde : Int32} {mco : Nat → Int32} {mcn : Nat → Int32} {mvi : Int32} {men : Int32} {mfa : Nat → Int32} {mac : Nat → Int32} {mfi : Nat → Int32} {mse : Nat → Int32} {mtd : Nat → Int32} {mra : Int32} {mkp : Nat → Int32} {N : Nat} {p1 : Int32} {mme' : Nat → Int32} {mco' : Nat → Int32} {mvi' : Int32} (hE : fX12_looksThrough N mme mde mco mvi p1 = some (mme', mco', mvi')) : Mg l yX12_looksThrough cX12_looksThrough 3 none (rmk 164 4408) (KM Z) (AM Z) [.ref (mA Z 0), .int p1] (PM Z mth mto mrw mta mtp mat mtt mme mun mde mco mcn mvi men mfa mac mfi mse mtd mra mkp) (Qv (KM Z) (AM Z) (PM Z mth mto mrw mta mtp mat mtt mme' mun mde mco' mcn mvi' men mfa mac mfi mse mtd mra mkp)) := kX12_looksThrough_d 64 hE
set_option maxRecDepth 100000 in
set_option maxHeartbeats 4000000 in
theorem qX12_whites_26 {p : Program} {l : Launch} {e : Env} {s : State} {m : MethodId} {args : Array Value} {below : List Frame} {meth : Method} {c : Code} {Z : ZC} {mth : Int32} {mto : Int32} {mrw : Nat → Int64} {mta : Nat → Int32} {mtp : Int32} {mat : Int32} {mtt : Int32} {mme : Nat → Int32} {mun : Int32} {mde : Int32} {mco : Nat → Int32} {mcn : Nat → Int32} {mvi : Int32} {men : Int32} {mfa : Nat → Int32} {mac : Nat → Int32} {mfi : Nat → Int32} {mse : Nat → Int32} {mtd : Nat → Int32} {mra : Int32} {mkp : Nat → Int32} {N : Nat} {r' : Int32} (F : CallFix p m c cX12_whites 3 s args bigW RX12) (hr : meth.sig.returnType = (some .int)) (hlk : meth.locks = false) (C : KM Z s) {k4 : Int32 → Int32 → Option (Int32)} (h4 : ∀ (x1 : Int32) (x2 : Int32), k4 x1 x2 = some r' → ∀ (H : Heap) (locs : List Loc), PM Z mth mto mrw mta mtp mat mtt mme mun mde mco mcn mvi men mfa mac mfi mse mtd mra mkp H → va_S (AM Z) s.heap H locs → ∀ ls : Array Slot, lv_has ls 3 [(0, .ref (mA Z 0)), (1, .int x1), (2, .int x2)] → W p l e (rmk 1 20) s m args below meth c H locs 0 0 (MQ below (Qi (KM Z) (AM Z) (PM Z mth mto mrw mta mtp mat mtt mme mun mde mco mcn mvi men mfa mac mfi mse mtd mra mkp) r') args s 0 0 (AM Z)) (F0 m 4 ls [])) : ∀ (x2 : Int32) (y0 : Int32) (y1 : Int32), fX12_whites_26 N mco k4 x2 y0 y1 = some r' → ∀ (H : Heap) (locs : List Loc), PM Z mth mto mrw mta mtp mat mtt mme mun mde mco mcn mvi men mfa mac mfi mse mtd mra mkp H → va_S (AM Z) s.heap H locs → ∀ ls : Array Slot, lv_has ls 3 [(0, .ref (mA Z 0)), (2, .int x2)] → W p l e (rmk 1 20) s m args below meth c H locs 0 0 (MQ below (Qi (KM Z) (AM Z) (PM Z mth mto mrw mta mtp mat mtt mme mun mde mco mcn mvi men mfa mac mfi mse mtd mra mkp) r') args s 0 0 (AM Z)) (F0 m 26 ls [.int y0, .int y1]) := by
  intro x2 y0 y1 hE H locs hP hS ls hl
  unfold fX12_whites_26 at hE
  obtain ⟨r184, hc, hE⟩ := bnd1_some hE
  refine aft_i (run_S (rest := [.int y1]) F (kX12_flag hc) (okM Z) C hS lkX12_167 ⟨Nat.le_of_ble_eq_true rfl, Nat.le_of_ble_eq_true rfl⟩ hP rfl hl.1 rfl (lv_room (Nat.le_of_ble_eq_true rfl)) dX12_whites_26 ⟨Nat.zero_le _, Nat.zero_le _⟩) hS (fun H locs hP hS => ?_)
  refine lv_iload_n F.1 F.2.1 dX12_whites_29 rfl (lv_at hl 1 rfl) ?_
  refine rj_ishl F.1 F.2.1 dX12_whites_30 ?_
  refine lv_ior F.1 F.2.1 dX12_whites_31 ?_
  refine lv_istore_n (lv' := [(1, .int (y1 ||| (jshl r184 x2))), (0, .ref (mA Z 0)), (2, .int x2)]) F.1 F.2.1 dX12_whites_32 rfl hl (by decide) rfl (fun ls hl => ?_)
  refine lv_iinc (v := x2 + 1) (lv' := [(2, .int (x2 + 1)), (1, .int (y1 ||| (jshl r184 x2))), (0, .ref (mA Z 0))]) F.1 F.2.1 dX12_whites_33 hl (k := 2) rfl rfl (by decide) rfl (fun ls hl => ?_)
  refine lv_goto (tgt := 4) F.1 F.2.1 dX12_whites_36 (by decide) ?_
  exact h4 (y1 ||| (jshl r184 x2)) (x2 + 1) hE _ _ hP hS ls (lv_sub hl [2, 1, 0] rfl)
set_option maxRecDepth 100000 in
set_option maxHeartbeats 4000000 in
theorem qX12_whites_4 {p : Program} {l : Launch} {e : Env} {s : State} {m : MethodId} {args : Array Value} {below : List Frame} {meth : Method} {c : Code} {Z : ZC} {mth : Int32} {mto : Int32} {mrw : Nat → Int64} {mta : Nat → Int32} {mtp : Int32} {mat : Int32} {mtt : Int32} {mme : Nat → Int32} {mun : Int32} {mde : Int32} {mco : Nat → Int32} {mcn : Nat → Int32} {mvi : Int32} {men : Int32} {mfa : Nat → Int32} {mac : Nat → Int32} {mfi : Nat → Int32} {mse : Nat → Int32} {mtd : Nat → Int32} {mra : Int32} {mkp : Nat → Int32} {N : Nat} {r' : Int32} (F : CallFix p m c cX12_whites 3 s args bigW RX12) (hr : meth.sig.returnType = (some .int)) (hlk : meth.locks = false) (C : KM Z s) : ∀ n : Nat, ∀ (x1 : Int32) (x2 : Int32), fX12_whites_4 N mco n x1 x2 = some r' → ∀ (H : Heap) (locs : List Loc), PM Z mth mto mrw mta mtp mat mtt mme mun mde mco mcn mvi men mfa mac mfi mse mtd mra mkp H → va_S (AM Z) s.heap H locs → ∀ ls : Array Slot, lv_has ls 3 [(0, .ref (mA Z 0)), (1, .int x1), (2, .int x2)] → W p l e (rmk 1 20) s m args below meth c H locs 0 0 (MQ below (Qi (KM Z) (AM Z) (PM Z mth mto mrw mta mtp mat mtt mme mun mde mco mcn mvi men mfa mac mfi mse mtd mra mkp) r') args s 0 0 (AM Z)) (F0 m 4 ls []) := by
  intro n
  induction n with
  | zero => intro x1 x2 hE; cases hE
  | succ n h4 =>
    intro x1 x2 hE H locs hP hS ls hl
    have hE : fX12_whites_4b N mco (fX12_whites_4 N mco n) x1 x2 = some r' := hE
    refine lv_iload_n F.1 F.2.1 dX12_whites_4 rfl (lv_at hl 2 rfl) ?_
    refine lv_bipush (v := 24) F.1 F.2.1 dX12_whites_5 (by decide) ?_
    refine lv_icmp_ge (tgt := 39) F.1 F.2.1 dX12_whites_7 (by decide) (fun hc => ?_) (fun hc => ?_)
    · have hE := ifp hE hc
      refine lv_iload_n F.1 F.2.1 dX12_whites_39 rfl (lv_at hl 1 rfl) ?_
      obtain rfl := Option.some.inj hE
      exact ret_i F hr hlk hP hS dX12_whites_40
    · have hE := ifn hE hc
      refine lv_iload_n F.1 F.2.1 dX12_whites_10 rfl (lv_at hl 1 rfl) ?_
      refine lv_aload_n F.1 F.2.1 dX12_whites_11 rfl (lv_at hl 0 rfl) ?_
      refine gX12_56 F C hP dX12_whites_12 ?_
      refine lv_iload_n F.1 F.2.1 dX12_whites_15 rfl (lv_at hl 2 rfl) ?_
      obtain ⟨hi, hE⟩ := grd_some hE
      refine am4 F C hP hi dX12_whites_16 ?_
      refine lv_iconst (v := 2) F.1 F.2.1 dX12_whites_17 (by decide) ?_
      refine lv_icmp_ne (tgt := 25) F.1 F.2.1 dX12_whites_18 (by decide) (fun hc => ?_) (fun hc => ?_)
      · have hE := ifn hE hc
        refine lv_iconst (v := 0) F.1 F.2.1 dX12_whites_25 (by decide) ?_
        exact qX12_whites_26 F hr hlk C h4 x2 0 x1 hE _ _ hP hS ls (lv_sub hl [0, 2] rfl)
      · have hE := ifp hE hc
        refine lv_iconst (v := 1) F.1 F.2.1 dX12_whites_21 (by decide) ?_
        refine lv_goto (tgt := 26) F.1 F.2.1 dX12_whites_22 (by decide) ?_
        exact qX12_whites_26 F hr hlk C h4 x2 1 x1 hE _ _ hP hS ls (lv_sub hl [0, 2] rfl)
set_option maxRecDepth 100000 in
set_option maxHeartbeats 4000000 in
theorem kX12_whites {l : Launch} {Z : ZC} {mth : Int32} {mto : Int32} {mrw : Nat → Int64} {mta : Nat → Int32} {mtp : Int32} {mat : Int32} {mtt : Int32} {mme : Nat → Int32} {mun : Int32} {mde : Int32} {mco : Nat → Int32} {mcn : Nat → Int32} {mvi : Int32} {men : Int32} {mfa : Nat → Int32} {mac : Nat → Int32} {mfi : Nat → Int32} {mse : Nat → Int32} {mtd : Nat → Int32} {mra : Int32} {mkp : Nat → Int32} {N : Nat} {r' : Int32} (hE : fX12_whites N mco = some r') : Mg l yX12_whites cX12_whites 3 (some .int) (rmk 1 20) (KM Z) (AM Z) [.ref (mA Z 0)] (PM Z mth mto mrw mta mtp mat mtt mme mun mde mco mcn mvi men mfa mac mfi mse mtd mra mkp) (Qi (KM Z) (AM Z) (PM Z mth mto mrw mta mtp mat mtt mme mun mde mco mcn mvi men mfa mac mfi mse mtd mra mkp) r') := by
  refine Mg.start (lv := [(0, .ref (mA Z 0))]) (by decide) rfl (Nat.le_of_ble_eq_true rfl) rfl ?_
  intro p e s m below meth c F hr hlk C hP ls hl
  have hS : va_S (AM Z) s.heap s.heap [] := va_S.rf
  unfold fX12_whites at hE
  refine lv_iconst (v := 0) F.1 F.2.1 dX12_whites_0 (by decide) ?_
  refine lv_istore_n (lv' := [(1, .int 0), (0, .ref (mA Z 0))]) F.1 F.2.1 dX12_whites_1 rfl hl (by decide) rfl (fun ls hl => ?_)
  refine lv_iconst (v := 0) F.1 F.2.1 dX12_whites_2 (by decide) ?_
  refine lv_istore_n (lv' := [(2, .int 0), (1, .int 0), (0, .ref (mA Z 0))]) F.1 F.2.1 dX12_whites_3 rfl hl (by decide) rfl (fun ls hl => ?_)
  exact qX12_whites_4 F hr hlk C N 0 0 hE _ _ hP hS ls (lv_sub hl [2, 1, 0] rfl)
set_option maxRecDepth 100000 in
set_option maxHeartbeats 4000000 in
theorem kX12_hasEnd {l : Launch} {Z : ZC} {mth : Int32} {mto : Int32} {mrw : Nat → Int64} {mta : Nat → Int32} {mtp : Int32} {mat : Int32} {mtt : Int32} {mme : Nat → Int32} {mun : Int32} {mde : Int32} {mco : Nat → Int32} {mcn : Nat → Int32} {mvi : Int32} {men : Int32} {mfa : Nat → Int32} {mac : Nat → Int32} {mfi : Nat → Int32} {mse : Nat → Int32} {mtd : Nat → Int32} {mra : Int32} {mkp : Nat → Int32} {p1 : Int32} {r' : Int32} (hE : fX12_hasEnd mme mde p1 = some r') : Mg l yX12_hasEnd cX12_hasEnd 2 (some .boolean) (rmk 1 22) (KM Z) (AM Z) [.ref (mA Z 0), .int p1] (PM Z mth mto mrw mta mtp mat mtt mme mun mde mco mcn mvi men mfa mac mfi mse mtd mra mkp) (Qi (KM Z) (AM Z) (PM Z mth mto mrw mta mtp mat mtt mme mun mde mco mcn mvi men mfa mac mfi mse mtd mra mkp) r') := by
  refine Mg.start (lv := [(0, .ref (mA Z 0)), (1, .int p1)]) (by decide) rfl (Nat.le_of_ble_eq_true rfl) rfl ?_
  intro p e s m below meth c F hr hlk C hP ls hl
  have hS : va_S (AM Z) s.heap s.heap [] := va_S.rf
  unfold fX12_hasEnd at hE
  refine lv_aload_n F.1 F.2.1 dX12_hasEnd_0 rfl (lv_at hl 0 rfl) ?_
  refine lv_iload_n F.1 F.2.1 dX12_hasEnd_1 rfl (lv_at hl 1 rfl) ?_
  refine lv_iconst (v := 3) F.1 F.2.1 dX12_hasEnd_2 (by decide) ?_
  obtain ⟨r187, hc, hE⟩ := bnd1_some hE
  refine aft_i (run_V (rest := []) F (kX12_of hc) (okM Z) C hS lkX12_91 ⟨Nat.le_of_ble_eq_true rfl, Nat.le_of_ble_eq_true rfl⟩ (rvM C hP) hP rfl hl.1 rfl (lv_room (Nat.le_of_ble_eq_true rfl)) dX12_hasEnd_3 ⟨Nat.zero_le _, Nat.zero_le _⟩) hS (fun H locs hP hS => ?_)
  refine lv_if_le (tgt := 22) F.1 F.2.1 dX12_hasEnd_6 (by decide) (fun hc => ?_) (fun hc => ?_)
  · have hE := ifp hE hc
    refine lv_iconst (v := 0) F.1 F.2.1 dX12_hasEnd_22 (by decide) ?_
    obtain rfl := Option.some.inj hE
    exact ret_z F hr rfl hlk hP hS dX12_hasEnd_23
  · have hE := ifn hE hc
    refine lv_aload_n F.1 F.2.1 dX12_hasEnd_9 rfl (lv_at hl 0 rfl) ?_
    refine lv_iload_n F.1 F.2.1 dX12_hasEnd_10 rfl (lv_at hl 1 rfl) ?_
    refine lv_iconst (v := 4) F.1 F.2.1 dX12_hasEnd_11 (by decide) ?_
    obtain ⟨r188, hc, hE⟩ := bnd1_some hE
    refine aft_i (run_V (rest := []) F (kX12_of hc) (okM Z) C hS lkX12_91 ⟨Nat.le_of_ble_eq_true rfl, Nat.le_of_ble_eq_true rfl⟩ (rvM C hP) hP rfl hl.1 rfl (lv_room (Nat.le_of_ble_eq_true rfl)) dX12_hasEnd_12 ⟨Nat.zero_le _, Nat.zero_le _⟩) hS (fun H locs hP hS => ?_)
    refine lv_if_ne (tgt := 22) F.1 F.2.1 dX12_hasEnd_15 (by decide) (fun hc => ?_) (fun hc => ?_)
    · have hE := ifn hE hc
      refine lv_iconst (v := 0) F.1 F.2.1 dX12_hasEnd_22 (by decide) ?_
      obtain rfl := Option.some.inj hE
      exact ret_z F hr rfl hlk hP hS dX12_hasEnd_23
    · have hE := ifp hE hc
      refine lv_iconst (v := 1) F.1 F.2.1 dX12_hasEnd_18 (by decide) ?_
      refine lv_goto (tgt := 23) F.1 F.2.1 dX12_hasEnd_19 (by decide) ?_
      obtain rfl := Option.some.inj hE
      exact ret_z F hr rfl hlk hP hS dX12_hasEnd_23
set_option maxRecDepth 100000 in
set_option maxHeartbeats 4000000 in
theorem qX12_withEnds_32 {p : Program} {l : Launch} {e : Env} {s : State} {m : MethodId} {args : Array Value} {below : List Frame} {meth : Method} {c : Code} {Z : ZC} {mth : Int32} {mto : Int32} {mrw : Nat → Int64} {mta : Nat → Int32} {mtp : Int32} {mat : Int32} {mtt : Int32} {mme : Nat → Int32} {mun : Int32} {mde : Int32} {mco : Nat → Int32} {mcn : Nat → Int32} {mvi : Int32} {men : Int32} {mfa : Nat → Int32} {mac : Nat → Int32} {mfi : Nat → Int32} {mse : Nat → Int32} {mtd : Nat → Int32} {mra : Int32} {mkp : Nat → Int32} {N : Nat} {p1 : Int32} {r' : Int32} (F : CallFix p m c cX12_withEnds 4 s args bigW RX12) (hr : meth.sig.returnType = (some .int)) (hlk : meth.locks = false) (C : KM Z s) {k4 : Int32 → Int32 → Option (Int32)} (h4 : ∀ (x2 : Int32) (x3 : Int32), k4 x2 x3 = some r' → ∀ (H : Heap) (locs : List Loc), PM Z mth mto mrw mta mtp mat mtt mme mun mde mco mcn mvi men mfa mac mfi mse mtd mra mkp H → va_S (AM Z) s.heap H locs → ∀ ls : Array Slot, lv_has ls 4 [(0, .ref (mA Z 0)), (1, .int p1), (2, .int x2), (3, .int x3)] → W p l e (rmk 2 43) s m args below meth c H locs 0 0 (MQ below (Qi (KM Z) (AM Z) (PM Z mth mto mrw mta mtp mat mtt mme mun mde mco mcn mvi men mfa mac mfi mse mtd mra mkp) r') args s 0 0 (AM Z)) (F0 m 4 ls [])) : ∀ (x3 : Int32) (y0 : Int32) (y1 : Int32), fX12_withEnds_32 N mme mde p1 k4 x3 y0 y1 = some r' → ∀ (H : Heap) (locs : List Loc), PM Z mth mto mrw mta mtp mat mtt mme mun mde mco mcn mvi men mfa mac mfi mse mtd mra mkp H → va_S (AM Z) s.heap H locs → ∀ ls : Array Slot, lv_has ls 4 [(0, .ref (mA Z 0)), (1, .int p1), (3, .int x3)] → W p l e (rmk 2 43) s m args below meth c H locs 0 0 (MQ below (Qi (KM Z) (AM Z) (PM Z mth mto mrw mta mtp mat mtt mme mun mde mco mcn mvi men mfa mac mfi mse mtd mra mkp) r') args s 0 0 (AM Z)) (F0 m 32 ls [.int y0, .int y1]) := by
  intro x3 y0 y1 hE H locs hP hS ls hl
  unfold fX12_withEnds_32 at hE
  obtain ⟨r194, hc, hE⟩ := bnd1_some hE
  refine aft_i (run_S (rest := [.int y1]) F (kX12_flag hc) (okM Z) C hS lkX12_167 ⟨Nat.le_of_ble_eq_true rfl, Nat.le_of_ble_eq_true rfl⟩ hP rfl hl.1 rfl (lv_room (Nat.le_of_ble_eq_true rfl)) dX12_withEnds_32 ⟨Nat.zero_le _, Nat.zero_le _⟩) hS (fun H locs hP hS => ?_)
  refine lv_iload_n F.1 F.2.1 dX12_withEnds_35 rfl (lv_at hl 2 rfl) ?_
  refine rj_ishl F.1 F.2.1 dX12_withEnds_36 ?_
  refine lv_ior F.1 F.2.1 dX12_withEnds_37 ?_
  refine lv_istore_n (lv' := [(2, .int (y1 ||| (jshl r194 x3))), (0, .ref (mA Z 0)), (1, .int p1), (3, .int x3)]) F.1 F.2.1 dX12_withEnds_38 rfl hl (by decide) rfl (fun ls hl => ?_)
  refine lv_iinc (v := x3 + 1) (lv' := [(3, .int (x3 + 1)), (2, .int (y1 ||| (jshl r194 x3))), (0, .ref (mA Z 0)), (1, .int p1)]) F.1 F.2.1 dX12_withEnds_39 hl (k := 3) rfl rfl (by decide) rfl (fun ls hl => ?_)
  refine lv_goto (tgt := 4) F.1 F.2.1 dX12_withEnds_42 (by decide) ?_
  exact h4 (y1 ||| (jshl r194 x3)) (x3 + 1) hE _ _ hP hS ls (lv_sub hl [2, 3, 1, 0] rfl)
set_option maxRecDepth 100000 in
set_option maxHeartbeats 4000000 in
theorem qX12_withEnds_31 {p : Program} {l : Launch} {e : Env} {s : State} {m : MethodId} {args : Array Value} {below : List Frame} {meth : Method} {c : Code} {Z : ZC} {mth : Int32} {mto : Int32} {mrw : Nat → Int64} {mta : Nat → Int32} {mtp : Int32} {mat : Int32} {mtt : Int32} {mme : Nat → Int32} {mun : Int32} {mde : Int32} {mco : Nat → Int32} {mcn : Nat → Int32} {mvi : Int32} {men : Int32} {mfa : Nat → Int32} {mac : Nat → Int32} {mfi : Nat → Int32} {mse : Nat → Int32} {mtd : Nat → Int32} {mra : Int32} {mkp : Nat → Int32} {N : Nat} {p1 : Int32} {r' : Int32} (F : CallFix p m c cX12_withEnds 4 s args bigW RX12) (hr : meth.sig.returnType = (some .int)) (hlk : meth.locks = false) (C : KM Z s) {k4 : Int32 → Int32 → Option (Int32)} (h4 : ∀ (x2 : Int32) (x3 : Int32), k4 x2 x3 = some r' → ∀ (H : Heap) (locs : List Loc), PM Z mth mto mrw mta mtp mat mtt mme mun mde mco mcn mvi men mfa mac mfi mse mtd mra mkp H → va_S (AM Z) s.heap H locs → ∀ ls : Array Slot, lv_has ls 4 [(0, .ref (mA Z 0)), (1, .int p1), (2, .int x2), (3, .int x3)] → W p l e (rmk 2 43) s m args below meth c H locs 0 0 (MQ below (Qi (KM Z) (AM Z) (PM Z mth mto mrw mta mtp mat mtt mme mun mde mco mcn mvi men mfa mac mfi mse mtd mra mkp) r') args s 0 0 (AM Z)) (F0 m 4 ls [])) : ∀ (x3 : Int32) (y0 : Int32), fX12_withEnds_31 N mme mde p1 k4 x3 y0 = some r' → ∀ (H : Heap) (locs : List Loc), PM Z mth mto mrw mta mtp mat mtt mme mun mde mco mcn mvi men mfa mac mfi mse mtd mra mkp H → va_S (AM Z) s.heap H locs → ∀ ls : Array Slot, lv_has ls 4 [(0, .ref (mA Z 0)), (1, .int p1), (3, .int x3)] → W p l e (rmk 2 43) s m args below meth c H locs 0 0 (MQ below (Qi (KM Z) (AM Z) (PM Z mth mto mrw mta mtp mat mtt mme mun mde mco mcn mvi men mfa mac mfi mse mtd mra mkp) r') args s 0 0 (AM Z)) (F0 m 31 ls [.int y0]) := by
  intro x3 y0 hE H locs hP hS ls hl
  unfold fX12_withEnds_31 at hE
  refine lv_iconst (v := 0) F.1 F.2.1 dX12_withEnds_31 (by decide) ?_
  exact qX12_withEnds_32 F hr hlk C h4 x3 0 y0 hE _ _ hP hS ls (lv_sub hl [0, 1, 2] rfl)
set_option maxRecDepth 100000 in
set_option maxHeartbeats 4000000 in
theorem qX12_withEnds_4 {p : Program} {l : Launch} {e : Env} {s : State} {m : MethodId} {args : Array Value} {below : List Frame} {meth : Method} {c : Code} {Z : ZC} {mth : Int32} {mto : Int32} {mrw : Nat → Int64} {mta : Nat → Int32} {mtp : Int32} {mat : Int32} {mtt : Int32} {mme : Nat → Int32} {mun : Int32} {mde : Int32} {mco : Nat → Int32} {mcn : Nat → Int32} {mvi : Int32} {men : Int32} {mfa : Nat → Int32} {mac : Nat → Int32} {mfi : Nat → Int32} {mse : Nat → Int32} {mtd : Nat → Int32} {mra : Int32} {mkp : Nat → Int32} {N : Nat} {p1 : Int32} {r' : Int32} (F : CallFix p m c cX12_withEnds 4 s args bigW RX12) (hr : meth.sig.returnType = (some .int)) (hlk : meth.locks = false) (C : KM Z s) : ∀ n : Nat, ∀ (x2 : Int32) (x3 : Int32), fX12_withEnds_4 N mme mde p1 n x2 x3 = some r' → ∀ (H : Heap) (locs : List Loc), PM Z mth mto mrw mta mtp mat mtt mme mun mde mco mcn mvi men mfa mac mfi mse mtd mra mkp H → va_S (AM Z) s.heap H locs → ∀ ls : Array Slot, lv_has ls 4 [(0, .ref (mA Z 0)), (1, .int p1), (2, .int x2), (3, .int x3)] → W p l e (rmk 2 43) s m args below meth c H locs 0 0 (MQ below (Qi (KM Z) (AM Z) (PM Z mth mto mrw mta mtp mat mtt mme mun mde mco mcn mvi men mfa mac mfi mse mtd mra mkp) r') args s 0 0 (AM Z)) (F0 m 4 ls []) := by
  intro n
  induction n with
  | zero => intro x2 x3 hE; cases hE
  | succ n h4 =>
    intro x2 x3 hE H locs hP hS ls hl
    have hE : fX12_withEnds_4b N mme mde p1 (fX12_withEnds_4 N mme mde p1 n) x2 x3 = some r' := hE
    refine lv_iload_n F.1 F.2.1 dX12_withEnds_4 rfl (lv_at hl 3 rfl) ?_
    refine lv_bipush (v := 24) F.1 F.2.1 dX12_withEnds_5 (by decide) ?_
    refine lv_icmp_ge (tgt := 45) F.1 F.2.1 dX12_withEnds_7 (by decide) (fun hc => ?_) (fun hc => ?_)
    · have hE := ifp hE hc
      refine lv_iload_n F.1 F.2.1 dX12_withEnds_45 rfl (lv_at hl 2 rfl) ?_
      obtain rfl := Option.some.inj hE
      exact ret_i F hr hlk hP hS dX12_withEnds_46
    · have hE := ifn hE hc
      refine lv_iload_n F.1 F.2.1 dX12_withEnds_10 rfl (lv_at hl 2 rfl) ?_
      refine lv_iload_n F.1 F.2.1 dX12_withEnds_11 rfl (lv_at hl 1 rfl) ?_
      refine lv_iload_n F.1 F.2.1 dX12_withEnds_12 rfl (lv_at hl 3 rfl) ?_
      obtain ⟨r192, hc, hE⟩ := bnd1_some hE
      refine aft_i (run_S (rest := [.int x2]) F (kX12_has hc) (okM Z) C hS lkX12_171 ⟨Nat.le_of_ble_eq_true rfl, Nat.le_of_ble_eq_true rfl⟩ hP rfl hl.1 rfl (lv_room (Nat.le_of_ble_eq_true rfl)) dX12_withEnds_13 ⟨Nat.zero_le _, Nat.zero_le _⟩) hS (fun H locs hP hS => ?_)
      refine lv_if_eq (tgt := 31) F.1 F.2.1 dX12_withEnds_16 (by decide) (fun hc => ?_) (fun hc => ?_)
      · have hE := ifp hE hc
        exact qX12_withEnds_31 F hr hlk C h4 x3 x2 hE _ _ hP hS ls (lv_sub hl [0, 1, 3] rfl)
      · have hE := ifn hE hc
        refine lv_aload_n F.1 F.2.1 dX12_withEnds_19 rfl (lv_at hl 0 rfl) ?_
        refine lv_iload_n F.1 F.2.1 dX12_withEnds_20 rfl (lv_at hl 3 rfl) ?_
        obtain ⟨r193, hc, hE⟩ := bnd1_some hE
        refine aft_i (run_V (rest := [.int x2]) F (kX12_hasEnd hc) (okM Z) C hS lkX12_175 ⟨Nat.le_of_ble_eq_true rfl, Nat.le_of_ble_eq_true rfl⟩ (rvM C hP) hP rfl hl.1 rfl (lv_room (Nat.le_of_ble_eq_true rfl)) dX12_withEnds_21 ⟨Nat.zero_le _, Nat.zero_le _⟩) hS (fun H locs hP hS => ?_)
        refine lv_if_eq (tgt := 31) F.1 F.2.1 dX12_withEnds_24 (by decide) (fun hc => ?_) (fun hc => ?_)
        · have hE := ifp hE hc
          exact qX12_withEnds_31 F hr hlk C h4 x3 x2 hE _ _ hP hS ls (lv_sub hl [0, 1, 3] rfl)
        · have hE := ifn hE hc
          refine lv_iconst (v := 1) F.1 F.2.1 dX12_withEnds_27 (by decide) ?_
          refine lv_goto (tgt := 32) F.1 F.2.1 dX12_withEnds_28 (by decide) ?_
          exact qX12_withEnds_32 F hr hlk C h4 x3 1 x2 hE _ _ hP hS ls (lv_sub hl [0, 1, 3] rfl)
set_option maxRecDepth 100000 in
set_option maxHeartbeats 4000000 in
theorem kX12_withEnds {l : Launch} {Z : ZC} {mth : Int32} {mto : Int32} {mrw : Nat → Int64} {mta : Nat → Int32} {mtp : Int32} {mat : Int32} {mtt : Int32} {mme : Nat → Int32} {mun : Int32} {mde : Int32} {mco : Nat → Int32} {mcn : Nat → Int32} {mvi : Int32} {men : Int32} {mfa : Nat → Int32} {mac : Nat → Int32} {mfi : Nat → Int32} {mse : Nat → Int32} {mtd : Nat → Int32} {mra : Int32} {mkp : Nat → Int32} {N : Nat} {p1 : Int32} {r' : Int32} (hE : fX12_withEnds N mme mde p1 = some r') : Mg l yX12_withEnds cX12_withEnds 4 (some .int) (rmk 2 43) (KM Z) (AM Z) [.ref (mA Z 0), .int p1] (PM Z mth mto mrw mta mtp mat mtt mme mun mde mco mcn mvi men mfa mac mfi mse mtd mra mkp) (Qi (KM Z) (AM Z) (PM Z mth mto mrw mta mtp mat mtt mme mun mde mco mcn mvi men mfa mac mfi mse mtd mra mkp) r') := by
  refine Mg.start (lv := [(0, .ref (mA Z 0)), (1, .int p1)]) (by decide) rfl (Nat.le_of_ble_eq_true rfl) rfl ?_
  intro p e s m below meth c F hr hlk C hP ls hl
  have hS : va_S (AM Z) s.heap s.heap [] := va_S.rf
  unfold fX12_withEnds at hE
  refine lv_iconst (v := 0) F.1 F.2.1 dX12_withEnds_0 (by decide) ?_
  refine lv_istore_n (lv' := [(2, .int 0), (0, .ref (mA Z 0)), (1, .int p1)]) F.1 F.2.1 dX12_withEnds_1 rfl hl (by decide) rfl (fun ls hl => ?_)
  refine lv_iconst (v := 0) F.1 F.2.1 dX12_withEnds_2 (by decide) ?_
  refine lv_istore_n (lv' := [(3, .int 0), (2, .int 0), (0, .ref (mA Z 0)), (1, .int p1)]) F.1 F.2.1 dX12_withEnds_3 rfl hl (by decide) rfl (fun ls hl => ?_)
  exact qX12_withEnds_4 F hr hlk C N 0 0 hE _ _ hP hS ls (lv_sub hl [2, 3, 1, 0] rfl)
set_option maxRecDepth 100000 in
set_option maxHeartbeats 4000000 in
theorem qX12_freesAll_2 {p : Program} {l : Launch} {e : Env} {s : State} {m : MethodId} {args : Array Value} {below : List Frame} {meth : Method} {c : Code} {Z : ZC} {mth : Int32} {mto : Int32} {mrw : Nat → Int64} {mta : Nat → Int32} {mtp : Int32} {mat : Int32} {mtt : Int32} {mun : Int32} {mde : Int32} {mco : Nat → Int32} {mcn : Nat → Int32} {mvi : Int32} {men : Int32} {mfa : Nat → Int32} {mac : Nat → Int32} {mfi : Nat → Int32} {mse : Nat → Int32} {mtd : Nat → Int32} {mra : Int32} {mkp : Nat → Int32} {N : Nat} {p1 : Int32} {mme' : Nat → Int32} (F : CallFix p m c cX12_freesAll 3 s args bigW RX12) (hr : meth.sig.returnType = none) (hlk : meth.locks = false) (C : KM Z s) : ∀ n : Nat, ∀ (mme : Nat → Int32) (x2 : Int32), fX12_freesAll_2 N mde p1 n mme x2 = some mme' → ∀ (H : Heap) (locs : List Loc), PM Z mth mto mrw mta mtp mat mtt mme mun mde mco mcn mvi men mfa mac mfi mse mtd mra mkp H → va_S (AM Z) s.heap H locs → ∀ ls : Array Slot, lv_has ls 3 [(0, .ref (mA Z 0)), (1, .int p1), (2, .int x2)] → W p l e (rmk 2 45) s m args below meth c H locs 0 0 (MQ below (Qv (KM Z) (AM Z) (PM Z mth mto mrw mta mtp mat mtt mme' mun mde mco mcn mvi men mfa mac mfi mse mtd mra mkp)) args s 0 0 (AM Z)) (F0 m 2 ls []) := by
  intro n
  induction n with
  | zero => intro mme x2 hE; cases hE
  | succ n h2 =>
    intro mme x2 hE H locs hP hS ls hl
    have hE : fX12_freesAll_2b N mde p1 (fX12_freesAll_2 N mde p1 n) mme x2 = some mme' := hE
    refine lv_iload_n F.1 F.2.1 dX12_freesAll_2 rfl (lv_at hl 2 rfl) ?_
    refine lv_bipush (v := 24) F.1 F.2.1 dX12_freesAll_3 (by decide) ?_
    refine lv_icmp_ge (tgt := 47) F.1 F.2.1 dX12_freesAll_5 (by decide) (fun hc => ?_) (fun hc => ?_)
    · have hE := ifp hE hc
      obtain rfl := Option.some.inj hE
      exact ret_v F hr hlk hP hS dX12_freesAll_47
    · have hE := ifn hE hc
      refine lv_iload_n F.1 F.2.1 dX12_freesAll_8 rfl (lv_at hl 1 rfl) ?_
      refine lv_iload_n F.1 F.2.1 dX12_freesAll_9 rfl (lv_at hl 2 rfl) ?_
      obtain ⟨r200, hc, hE⟩ := bnd1_some hE
      refine aft_i (run_S (rest := []) F (kX12_has hc) (okM Z) C hS lkX12_171 ⟨Nat.le_of_ble_eq_true rfl, Nat.le_of_ble_eq_true rfl⟩ hP rfl hl.1 rfl (lv_room (Nat.le_of_ble_eq_true rfl)) dX12_freesAll_10 ⟨Nat.zero_le _, Nat.zero_le _⟩) hS (fun H locs hP hS => ?_)
      refine lv_if_eq (tgt := 41) F.1 F.2.1 dX12_freesAll_13 (by decide) (fun hc => ?_) (fun hc => ?_)
      · have hE := ifp hE hc
        refine lv_iinc (v := x2 + 1) (lv' := [(2, .int (x2 + 1)), (0, .ref (mA Z 0)), (1, .int p1)]) F.1 F.2.1 dX12_freesAll_41 hl (k := 2) rfl rfl (by decide) rfl (fun ls hl => ?_)
        refine lv_goto (tgt := 2) F.1 F.2.1 dX12_freesAll_44 (by decide) ?_
        exact h2 mme (x2 + 1) hE _ _ hP hS ls (lv_sub hl [1, 2, 0] rfl)
      · have hE := ifn hE hc
        refine lv_aload_n F.1 F.2.1 dX12_freesAll_16 rfl (lv_at hl 0 rfl) ?_
        refine lv_iconst (v := 2) F.1 F.2.1 dX12_freesAll_17 (by decide) ?_
        refine lv_iload_n F.1 F.2.1 dX12_freesAll_18 rfl (lv_at hl 2 rfl) ?_
        obtain ⟨mme_201, hc, hE⟩ := bnd1_some hE
        refine aft_v (run_V (rest := []) F (kX12_logs hc) (okM Z) C hS lkX12_125 ⟨Nat.le_of_ble_eq_true rfl, Nat.le_of_ble_eq_true rfl⟩ (rvM C hP) hP rfl hl.1 rfl (lv_room (Nat.le_of_ble_eq_true rfl)) dX12_freesAll_19 ⟨Nat.zero_le _, Nat.zero_le _⟩) hS (fun H locs hP hS => ?_)
        refine lv_aload_n F.1 F.2.1 dX12_freesAll_22 rfl (lv_at hl 0 rfl) ?_
        refine lv_iload_n F.1 F.2.1 dX12_freesAll_23 rfl (lv_at hl 2 rfl) ?_
        obtain ⟨mme_202, hc, hE⟩ := bnd1_some hE
        refine aft_v (run_V (rest := []) F (kX12_clearsWeak hc) (okM Z) C hS lkX12_149 ⟨Nat.le_of_ble_eq_true rfl, Nat.le_of_ble_eq_true rfl⟩ (rvM C hP) hP rfl hl.1 rfl (lv_room (Nat.le_of_ble_eq_true rfl)) dX12_freesAll_24 ⟨Nat.zero_le _, Nat.zero_le _⟩) hS (fun H locs hP hS => ?_)
        refine lv_aload_n F.1 F.2.1 dX12_freesAll_27 rfl (lv_at hl 0 rfl) ?_
        refine lv_iload_n F.1 F.2.1 dX12_freesAll_28 rfl (lv_at hl 2 rfl) ?_
        refine lv_iconst (v := 0) F.1 F.2.1 dX12_freesAll_29 (by decide) ?_
        refine lv_iconst (v := 0) F.1 F.2.1 dX12_freesAll_30 (by decide) ?_
        obtain ⟨mme_203, hc, hE⟩ := bnd1_some hE
        refine aft_v (run_V (rest := []) F (kX12_puts hc) (okM Z) C hS lkX12_104 ⟨Nat.le_of_ble_eq_true rfl, Nat.le_of_ble_eq_true rfl⟩ (rvM C hP) hP rfl hl.1 rfl (lv_room (Nat.le_of_ble_eq_true rfl)) dX12_freesAll_31 ⟨Nat.zero_le _, Nat.zero_le _⟩) hS (fun H locs hP hS => ?_)
        refine lv_aload_n F.1 F.2.1 dX12_freesAll_34 rfl (lv_at hl 0 rfl) ?_
        refine lv_iload_n F.1 F.2.1 dX12_freesAll_35 rfl (lv_at hl 2 rfl) ?_
        refine lv_iconst (v := 5) F.1 F.2.1 dX12_freesAll_36 (by decide) ?_
        refine lv_iconst (v := 0) F.1 F.2.1 dX12_freesAll_37 (by decide) ?_
        obtain ⟨mme_204, hc, hE⟩ := bnd1_some hE
        refine aft_v (run_V (rest := []) F (kX12_puts hc) (okM Z) C hS lkX12_104 ⟨Nat.le_of_ble_eq_true rfl, Nat.le_of_ble_eq_true rfl⟩ (rvM C hP) hP rfl hl.1 rfl (lv_room (Nat.le_of_ble_eq_true rfl)) dX12_freesAll_38 ⟨Nat.zero_le _, Nat.zero_le _⟩) hS (fun H locs hP hS => ?_)
        refine lv_iinc (v := x2 + 1) (lv' := [(2, .int (x2 + 1)), (0, .ref (mA Z 0)), (1, .int p1)]) F.1 F.2.1 dX12_freesAll_41 hl (k := 2) rfl rfl (by decide) rfl (fun ls hl => ?_)
        refine lv_goto (tgt := 2) F.1 F.2.1 dX12_freesAll_44 (by decide) ?_
        exact h2 mme_204 (x2 + 1) hE _ _ hP hS ls (lv_sub hl [1, 2, 0] rfl)
set_option maxRecDepth 100000 in
set_option maxHeartbeats 4000000 in
theorem kX12_freesAll {l : Launch} {Z : ZC} {mth : Int32} {mto : Int32} {mrw : Nat → Int64} {mta : Nat → Int32} {mtp : Int32} {mat : Int32} {mtt : Int32} {mme : Nat → Int32} {mun : Int32} {mde : Int32} {mco : Nat → Int32} {mcn : Nat → Int32} {mvi : Int32} {men : Int32} {mfa : Nat → Int32} {mac : Nat → Int32} {mfi : Nat → Int32} {mse : Nat → Int32} {mtd : Nat → Int32} {mra : Int32} {mkp : Nat → Int32} {N : Nat} {p1 : Int32} {mme' : Nat → Int32} (hE : fX12_freesAll N mme mde p1 = some mme') : Mg l yX12_freesAll cX12_freesAll 3 none (rmk 2 45) (KM Z) (AM Z) [.ref (mA Z 0), .int p1] (PM Z mth mto mrw mta mtp mat mtt mme mun mde mco mcn mvi men mfa mac mfi mse mtd mra mkp) (Qv (KM Z) (AM Z) (PM Z mth mto mrw mta mtp mat mtt mme' mun mde mco mcn mvi men mfa mac mfi mse mtd mra mkp)) := by
  refine Mg.start (lv := [(0, .ref (mA Z 0)), (1, .int p1)]) (by decide) rfl (Nat.le_of_ble_eq_true rfl) rfl ?_
  intro p e s m below meth c F hr hlk C hP ls hl
  have hS : va_S (AM Z) s.heap s.heap [] := va_S.rf
  unfold fX12_freesAll at hE
  refine lv_iconst (v := 0) F.1 F.2.1 dX12_freesAll_0 (by decide) ?_
  refine lv_istore_n (lv' := [(2, .int 0), (0, .ref (mA Z 0)), (1, .int p1)]) F.1 F.2.1 dX12_freesAll_1 rfl hl (by decide) rfl (fun ls hl => ?_)
  exact qX12_freesAll_2 F hr hlk C N mme 0 hE _ _ hP hS ls (lv_sub hl [1, 2, 0] rfl)
set_option maxRecDepth 100000 in
set_option maxHeartbeats 4000000 in
theorem qX12_runsEnds_74 {p : Program} {l : Launch} {e : Env} {s : State} {m : MethodId} {args : Array Value} {below : List Frame} {meth : Method} {c : Code} {Z : ZC} {mth : Int32} {mto : Int32} {mrw : Nat → Int64} {mta : Nat → Int32} {mtp : Int32} {mat : Int32} {mtt : Int32} {mun : Int32} {mde : Int32} {mco : Nat → Int32} {mcn : Nat → Int32} {mvi : Int32} {men : Int32} {mfa : Nat → Int32} {mac : Nat → Int32} {mfi : Nat → Int32} {mse : Nat → Int32} {mtd : Nat → Int32} {mra : Int32} {mkp : Nat → Int32} {N : Nat} {p1 : Int32} {mme' : Nat → Int32} (F : CallFix p m c cX12_runsEnds 3 s args bigW RX12) (hr : meth.sig.returnType = none) (hlk : meth.locks = false) (C : KM Z s) : ∀ n : Nat, ∀ (mme : Nat → Int32) (x2 : Int32), fX12_runsEnds_74 N mde mcn p1 n mme x2 = some mme' → ∀ (H : Heap) (locs : List Loc), PM Z mth mto mrw mta mtp mat mtt mme mun mde mco mcn mvi men mfa mac mfi mse mtd mra mkp H → va_S (AM Z) s.heap H locs → ∀ ls : Array Slot, lv_has ls 3 [(0, .ref (mA Z 0)), (1, .int p1), (2, .int x2)] → W p l e (rmk 203 4818) s m args below meth c H locs 0 0 (MQ below (Qv (KM Z) (AM Z) (PM Z mth mto mrw mta mtp mat mtt mme' mun mde mco mcn mvi men mfa mac mfi mse mtd mra mkp)) args s 0 0 (AM Z)) (F0 m 74 ls []) := by
  intro n
  induction n with
  | zero => intro mme x2 hE; cases hE
  | succ n h74 =>
    intro mme x2 hE H locs hP hS ls hl
    have hE : fX12_runsEnds_74b N mde mcn p1 (fX12_runsEnds_74 N mde mcn p1 n) mme x2 = some mme' := hE
    refine lv_iload_n F.1 F.2.1 dX12_runsEnds_74 rfl (lv_at hl 2 rfl) ?_
    refine lv_bipush (v := 24) F.1 F.2.1 dX12_runsEnds_75 (by decide) ?_
    refine lv_icmp_ge (tgt := 126) F.1 F.2.1 dX12_runsEnds_77 (by decide) (fun hc => ?_) (fun hc => ?_)
    · have hE := ifp hE hc
      obtain rfl := Option.some.inj hE
      exact ret_v F hr hlk hP hS dX12_runsEnds_126
    · have hE := ifn hE hc
      refine lv_iload_n F.1 F.2.1 dX12_runsEnds_80 rfl (lv_at hl 1 rfl) ?_
      refine lv_iload_n F.1 F.2.1 dX12_runsEnds_81 rfl (lv_at hl 2 rfl) ?_
      obtain ⟨r220, hc, hE⟩ := bnd1_some hE
      refine aft_i (run_S (rest := []) F (kX12_has hc) (okM Z) C hS lkX12_171 ⟨Nat.le_of_ble_eq_true rfl, Nat.le_of_ble_eq_true rfl⟩ hP rfl hl.1 rfl (lv_room (Nat.le_of_ble_eq_true rfl)) dX12_runsEnds_82 ⟨Nat.zero_le _, Nat.zero_le _⟩) hS (fun H locs hP hS => ?_)
      refine lv_if_eq (tgt := 120) F.1 F.2.1 dX12_runsEnds_85 (by decide) (fun hc => ?_) (fun hc => ?_)
      · have hE := ifp hE hc
        refine lv_iinc (v := x2 + 1) (lv' := [(2, .int (x2 + 1)), (0, .ref (mA Z 0)), (1, .int p1)]) F.1 F.2.1 dX12_runsEnds_120 hl (k := 2) rfl rfl (by decide) rfl (fun ls hl => ?_)
        refine lv_goto (tgt := 74) F.1 F.2.1 dX12_runsEnds_123 (by decide) ?_
        exact h74 mme (x2 + 1) hE _ _ hP hS ls (lv_sub hl [1, 2, 0] rfl)
      · have hE := ifn hE hc
        refine lv_aload_n F.1 F.2.1 dX12_runsEnds_88 rfl (lv_at hl 0 rfl) ?_
        refine lv_iload_n F.1 F.2.1 dX12_runsEnds_89 rfl (lv_at hl 2 rfl) ?_
        refine lv_iconst (v := 0) F.1 F.2.1 dX12_runsEnds_90 (by decide) ?_
        obtain ⟨r221, hc, hE⟩ := bnd1_some hE
        refine aft_i (run_V (rest := []) F (kX12_of hc) (okM Z) C hS lkX12_91 ⟨Nat.le_of_ble_eq_true rfl, Nat.le_of_ble_eq_true rfl⟩ (rvM C hP) hP rfl hl.1 rfl (lv_room (Nat.le_of_ble_eq_true rfl)) dX12_runsEnds_91 ⟨Nat.zero_le _, Nat.zero_le _⟩) hS (fun H locs hP hS => ?_)
        refine lv_iconst (v := 1) F.1 F.2.1 dX12_runsEnds_94 (by decide) ?_
        refine lv_icmp_ne (tgt := 120) F.1 F.2.1 dX12_runsEnds_95 (by decide) (fun hc => ?_) (fun hc => ?_)
        · have hE := ifn hE hc
          refine lv_iinc (v := x2 + 1) (lv' := [(2, .int (x2 + 1)), (0, .ref (mA Z 0)), (1, .int p1)]) F.1 F.2.1 dX12_runsEnds_120 hl (k := 2) rfl rfl (by decide) rfl (fun ls hl => ?_)
          refine lv_goto (tgt := 74) F.1 F.2.1 dX12_runsEnds_123 (by decide) ?_
          exact h74 mme (x2 + 1) hE _ _ hP hS ls (lv_sub hl [1, 2, 0] rfl)
        · have hE := ifp hE hc
          refine lv_aload_n F.1 F.2.1 dX12_runsEnds_98 rfl (lv_at hl 0 rfl) ?_
          refine lv_iload_n F.1 F.2.1 dX12_runsEnds_99 rfl (lv_at hl 2 rfl) ?_
          refine lv_iconst (v := 1) F.1 F.2.1 dX12_runsEnds_100 (by decide) ?_
          obtain ⟨r222, hc, hE⟩ := bnd1_some hE
          refine aft_i (run_V (rest := []) F (kX12_of hc) (okM Z) C hS lkX12_91 ⟨Nat.le_of_ble_eq_true rfl, Nat.le_of_ble_eq_true rfl⟩ (rvM C hP) hP rfl hl.1 rfl (lv_room (Nat.le_of_ble_eq_true rfl)) dX12_runsEnds_101 ⟨Nat.zero_le _, Nat.zero_le _⟩) hS (fun H locs hP hS => ?_)
          refine lv_if_le (tgt := 120) F.1 F.2.1 dX12_runsEnds_104 (by decide) (fun hc => ?_) (fun hc => ?_)
          · have hE := ifp hE hc
            refine lv_iinc (v := x2 + 1) (lv' := [(2, .int (x2 + 1)), (0, .ref (mA Z 0)), (1, .int p1)]) F.1 F.2.1 dX12_runsEnds_120 hl (k := 2) rfl rfl (by decide) rfl (fun ls hl => ?_)
            refine lv_goto (tgt := 74) F.1 F.2.1 dX12_runsEnds_123 (by decide) ?_
            exact h74 mme (x2 + 1) hE _ _ hP hS ls (lv_sub hl [1, 2, 0] rfl)
          · have hE := ifn hE hc
            refine lv_aload_n F.1 F.2.1 dX12_runsEnds_107 rfl (lv_at hl 0 rfl) ?_
            refine lv_iload_n F.1 F.2.1 dX12_runsEnds_108 rfl (lv_at hl 2 rfl) ?_
            obtain ⟨r223, hc, hE⟩ := bnd1_some hE
            refine aft_i (run_V (rest := []) F (kX12_placeOnList hc) (okM Z) C hS lkX12_108 ⟨Nat.le_of_ble_eq_true rfl, Nat.le_of_ble_eq_true rfl⟩ (rvM C hP) hP rfl hl.1 rfl (lv_room (Nat.le_of_ble_eq_true rfl)) dX12_runsEnds_109 ⟨Nat.zero_le _, Nat.zero_le _⟩) hS (fun H locs hP hS => ?_)
            refine lv_if_ge (tgt := 120) F.1 F.2.1 dX12_runsEnds_112 (by decide) (fun hc => ?_) (fun hc => ?_)
            · have hE := ifp hE hc
              refine lv_iinc (v := x2 + 1) (lv' := [(2, .int (x2 + 1)), (0, .ref (mA Z 0)), (1, .int p1)]) F.1 F.2.1 dX12_runsEnds_120 hl (k := 2) rfl rfl (by decide) rfl (fun ls hl => ?_)
              refine lv_goto (tgt := 74) F.1 F.2.1 dX12_runsEnds_123 (by decide) ?_
              exact h74 mme (x2 + 1) hE _ _ hP hS ls (lv_sub hl [1, 2, 0] rfl)
            · have hE := ifn hE hc
              refine lv_aload_n F.1 F.2.1 dX12_runsEnds_115 rfl (lv_at hl 0 rfl) ?_
              refine lv_iload_n F.1 F.2.1 dX12_runsEnds_116 rfl (lv_at hl 2 rfl) ?_
              obtain ⟨mme_224, hc, hE⟩ := bnd1_some hE
              refine aft_v (run_V (rest := []) F (kX12_isSuspect hc) (okM Z) C hS lkX12_111 ⟨Nat.le_of_ble_eq_true rfl, Nat.le_of_ble_eq_true rfl⟩ (rvM C hP) hP rfl hl.1 rfl (lv_room (Nat.le_of_ble_eq_true rfl)) dX12_runsEnds_117 ⟨Nat.zero_le _, Nat.zero_le _⟩) hS (fun H locs hP hS => ?_)
              refine lv_iinc (v := x2 + 1) (lv' := [(2, .int (x2 + 1)), (0, .ref (mA Z 0)), (1, .int p1)]) F.1 F.2.1 dX12_runsEnds_120 hl (k := 2) rfl rfl (by decide) rfl (fun ls hl => ?_)
              refine lv_goto (tgt := 74) F.1 F.2.1 dX12_runsEnds_123 (by decide) ?_
              exact h74 mme_224 (x2 + 1) hE _ _ hP hS ls (lv_sub hl [1, 2, 0] rfl)
set_option maxRecDepth 100000 in
set_option maxHeartbeats 4000000 in
theorem qX12_runsEnds_28 {p : Program} {l : Launch} {e : Env} {s : State} {m : MethodId} {args : Array Value} {below : List Frame} {meth : Method} {c : Code} {Z : ZC} {mth : Int32} {mto : Int32} {mrw : Nat → Int64} {mta : Nat → Int32} {mtp : Int32} {mat : Int32} {mtt : Int32} {mun : Int32} {mde : Int32} {mco : Nat → Int32} {mcn : Nat → Int32} {mvi : Int32} {men : Int32} {mfa : Nat → Int32} {mac : Nat → Int32} {mfi : Nat → Int32} {mse : Nat → Int32} {mtd : Nat → Int32} {mra : Int32} {mkp : Nat → Int32} {N : Nat} {p1 : Int32} {mme' : Nat → Int32} (F : CallFix p m c cX12_runsEnds 3 s args bigW RX12) (hr : meth.sig.returnType = none) (hlk : meth.locks = false) (C : KM Z s) : ∀ n : Nat, ∀ (mme : Nat → Int32) (x2 : Int32), fX12_runsEnds_28 N mde mcn p1 n mme x2 = some mme' → ∀ (H : Heap) (locs : List Loc), PM Z mth mto mrw mta mtp mat mtt mme mun mde mco mcn mvi men mfa mac mfi mse mtd mra mkp H → va_S (AM Z) s.heap H locs → ∀ ls : Array Slot, lv_has ls 3 [(0, .ref (mA Z 0)), (1, .int p1), (2, .int x2)] → W p l e (rmk 203 4818) s m args below meth c H locs 0 0 (MQ below (Qv (KM Z) (AM Z) (PM Z mth mto mrw mta mtp mat mtt mme' mun mde mco mcn mvi men mfa mac mfi mse mtd mra mkp)) args s 0 0 (AM Z)) (F0 m 28 ls []) := by
  intro n
  induction n with
  | zero => intro mme x2 hE; cases hE
  | succ n h28 =>
    intro mme x2 hE H locs hP hS ls hl
    have hE : fX12_runsEnds_28b N mde mcn p1 (fX12_runsEnds_28 N mde mcn p1 n) mme x2 = some mme' := hE
    refine lv_iload_n F.1 F.2.1 dX12_runsEnds_28 rfl (lv_at hl 2 rfl) ?_
    refine lv_bipush (v := 24) F.1 F.2.1 dX12_runsEnds_29 (by decide) ?_
    refine lv_icmp_ge (tgt := 72) F.1 F.2.1 dX12_runsEnds_31 (by decide) (fun hc => ?_) (fun hc => ?_)
    · have hE := ifp hE hc
      refine lv_iconst (v := 0) F.1 F.2.1 dX12_runsEnds_72 (by decide) ?_
      refine lv_istore_n (lv' := [(2, .int 0), (0, .ref (mA Z 0)), (1, .int p1)]) F.1 F.2.1 dX12_runsEnds_73 rfl hl (by decide) rfl (fun ls hl => ?_)
      exact qX12_runsEnds_74 F hr hlk C N mme 0 hE _ _ hP hS ls (lv_sub hl [1, 2, 0] rfl)
    · have hE := ifn hE hc
      refine lv_iload_n F.1 F.2.1 dX12_runsEnds_34 rfl (lv_at hl 1 rfl) ?_
      refine lv_iload_n F.1 F.2.1 dX12_runsEnds_35 rfl (lv_at hl 2 rfl) ?_
      obtain ⟨r216, hc, hE⟩ := bnd1_some hE
      refine aft_i (run_S (rest := []) F (kX12_has hc) (okM Z) C hS lkX12_171 ⟨Nat.le_of_ble_eq_true rfl, Nat.le_of_ble_eq_true rfl⟩ hP rfl hl.1 rfl (lv_room (Nat.le_of_ble_eq_true rfl)) dX12_runsEnds_36 ⟨Nat.zero_le _, Nat.zero_le _⟩) hS (fun H locs hP hS => ?_)
      refine lv_if_eq (tgt := 66) F.1 F.2.1 dX12_runsEnds_39 (by decide) (fun hc => ?_) (fun hc => ?_)
      · have hE := ifp hE hc
        refine lv_iinc (v := x2 + 1) (lv' := [(2, .int (x2 + 1)), (0, .ref (mA Z 0)), (1, .int p1)]) F.1 F.2.1 dX12_runsEnds_66 hl (k := 2) rfl rfl (by decide) rfl (fun ls hl => ?_)
        refine lv_goto (tgt := 28) F.1 F.2.1 dX12_runsEnds_69 (by decide) ?_
        exact h28 mme (x2 + 1) hE _ _ hP hS ls (lv_sub hl [1, 2, 0] rfl)
      · have hE := ifn hE hc
        refine lv_aload_n F.1 F.2.1 dX12_runsEnds_42 rfl (lv_at hl 0 rfl) ?_
        refine lv_iload_n F.1 F.2.1 dX12_runsEnds_43 rfl (lv_at hl 2 rfl) ?_
        refine lv_iconst (v := 0) F.1 F.2.1 dX12_runsEnds_44 (by decide) ?_
        obtain ⟨r217, hc, hE⟩ := bnd1_some hE
        refine aft_i (run_V (rest := []) F (kX12_of hc) (okM Z) C hS lkX12_91 ⟨Nat.le_of_ble_eq_true rfl, Nat.le_of_ble_eq_true rfl⟩ (rvM C hP) hP rfl hl.1 rfl (lv_room (Nat.le_of_ble_eq_true rfl)) dX12_runsEnds_45 ⟨Nat.zero_le _, Nat.zero_le _⟩) hS (fun H locs hP hS => ?_)
        refine lv_iconst (v := 1) F.1 F.2.1 dX12_runsEnds_48 (by decide) ?_
        refine lv_icmp_ne (tgt := 66) F.1 F.2.1 dX12_runsEnds_49 (by decide) (fun hc => ?_) (fun hc => ?_)
        · have hE := ifn hE hc
          refine lv_iinc (v := x2 + 1) (lv' := [(2, .int (x2 + 1)), (0, .ref (mA Z 0)), (1, .int p1)]) F.1 F.2.1 dX12_runsEnds_66 hl (k := 2) rfl rfl (by decide) rfl (fun ls hl => ?_)
          refine lv_goto (tgt := 28) F.1 F.2.1 dX12_runsEnds_69 (by decide) ?_
          exact h28 mme (x2 + 1) hE _ _ hP hS ls (lv_sub hl [1, 2, 0] rfl)
        · have hE := ifp hE hc
          refine lv_aload_n F.1 F.2.1 dX12_runsEnds_52 rfl (lv_at hl 0 rfl) ?_
          refine lv_iload_n F.1 F.2.1 dX12_runsEnds_53 rfl (lv_at hl 2 rfl) ?_
          obtain ⟨r218, hc, hE⟩ := bnd1_some hE
          refine aft_i (run_V (rest := []) F (kX12_hasEnd hc) (okM Z) C hS lkX12_175 ⟨Nat.le_of_ble_eq_true rfl, Nat.le_of_ble_eq_true rfl⟩ (rvM C hP) hP rfl hl.1 rfl (lv_room (Nat.le_of_ble_eq_true rfl)) dX12_runsEnds_54 ⟨Nat.zero_le _, Nat.zero_le _⟩) hS (fun H locs hP hS => ?_)
          refine lv_if_eq (tgt := 66) F.1 F.2.1 dX12_runsEnds_57 (by decide) (fun hc => ?_) (fun hc => ?_)
          · have hE := ifp hE hc
            refine lv_iinc (v := x2 + 1) (lv' := [(2, .int (x2 + 1)), (0, .ref (mA Z 0)), (1, .int p1)]) F.1 F.2.1 dX12_runsEnds_66 hl (k := 2) rfl rfl (by decide) rfl (fun ls hl => ?_)
            refine lv_goto (tgt := 28) F.1 F.2.1 dX12_runsEnds_69 (by decide) ?_
            exact h28 mme (x2 + 1) hE _ _ hP hS ls (lv_sub hl [1, 2, 0] rfl)
          · have hE := ifn hE hc
            refine lv_aload_n F.1 F.2.1 dX12_runsEnds_60 rfl (lv_at hl 0 rfl) ?_
            refine lv_iload_n F.1 F.2.1 dX12_runsEnds_61 rfl (lv_at hl 2 rfl) ?_
            obtain ⟨r219, mme_219, hc, hE⟩ := bnd2_some hE
            refine aft_i (run_V (rest := []) F (kX12_runsEnd hc) (okM Z) C hS lkX12_118 ⟨Nat.le_of_ble_eq_true rfl, Nat.le_of_ble_eq_true rfl⟩ (rvM C hP) hP rfl hl.1 rfl (lv_room (Nat.le_of_ble_eq_true rfl)) dX12_runsEnds_62 ⟨Nat.zero_le _, Nat.zero_le _⟩) hS (fun H locs hP hS => ?_)
            refine lv_pop F.1 F.2.1 dX12_runsEnds_65 rfl ?_
            refine lv_iinc (v := x2 + 1) (lv' := [(2, .int (x2 + 1)), (0, .ref (mA Z 0)), (1, .int p1)]) F.1 F.2.1 dX12_runsEnds_66 hl (k := 2) rfl rfl (by decide) rfl (fun ls hl => ?_)
            refine lv_goto (tgt := 28) F.1 F.2.1 dX12_runsEnds_69 (by decide) ?_
            exact h28 mme_219 (x2 + 1) hE _ _ hP hS ls (lv_sub hl [1, 2, 0] rfl)
set_option maxRecDepth 100000 in
set_option maxHeartbeats 4000000 in
theorem qX12_runsEnds_2 {p : Program} {l : Launch} {e : Env} {s : State} {m : MethodId} {args : Array Value} {below : List Frame} {meth : Method} {c : Code} {Z : ZC} {mth : Int32} {mto : Int32} {mrw : Nat → Int64} {mta : Nat → Int32} {mtp : Int32} {mat : Int32} {mtt : Int32} {mun : Int32} {mde : Int32} {mco : Nat → Int32} {mcn : Nat → Int32} {mvi : Int32} {men : Int32} {mfa : Nat → Int32} {mac : Nat → Int32} {mfi : Nat → Int32} {mse : Nat → Int32} {mtd : Nat → Int32} {mra : Int32} {mkp : Nat → Int32} {N : Nat} {p1 : Int32} {mme' : Nat → Int32} (F : CallFix p m c cX12_runsEnds 3 s args bigW RX12) (hr : meth.sig.returnType = none) (hlk : meth.locks = false) (C : KM Z s) : ∀ n : Nat, ∀ (mme : Nat → Int32) (x2 : Int32), fX12_runsEnds_2 N mde mcn p1 n mme x2 = some mme' → ∀ (H : Heap) (locs : List Loc), PM Z mth mto mrw mta mtp mat mtt mme mun mde mco mcn mvi men mfa mac mfi mse mtd mra mkp H → va_S (AM Z) s.heap H locs → ∀ ls : Array Slot, lv_has ls 3 [(0, .ref (mA Z 0)), (1, .int p1), (2, .int x2)] → W p l e (rmk 203 4818) s m args below meth c H locs 0 0 (MQ below (Qv (KM Z) (AM Z) (PM Z mth mto mrw mta mtp mat mtt mme' mun mde mco mcn mvi men mfa mac mfi mse mtd mra mkp)) args s 0 0 (AM Z)) (F0 m 2 ls []) := by
  intro n
  induction n with
  | zero => intro mme x2 hE; cases hE
  | succ n h2 =>
    intro mme x2 hE H locs hP hS ls hl
    have hE : fX12_runsEnds_2b N mde mcn p1 (fX12_runsEnds_2 N mde mcn p1 n) mme x2 = some mme' := hE
    refine lv_iload_n F.1 F.2.1 dX12_runsEnds_2 rfl (lv_at hl 2 rfl) ?_
    refine lv_bipush (v := 24) F.1 F.2.1 dX12_runsEnds_3 (by decide) ?_
    refine lv_icmp_ge (tgt := 26) F.1 F.2.1 dX12_runsEnds_5 (by decide) (fun hc => ?_) (fun hc => ?_)
    · have hE := ifp hE hc
      refine lv_iconst (v := 0) F.1 F.2.1 dX12_runsEnds_26 (by decide) ?_
      refine lv_istore_n (lv' := [(2, .int 0), (0, .ref (mA Z 0)), (1, .int p1)]) F.1 F.2.1 dX12_runsEnds_27 rfl hl (by decide) rfl (fun ls hl => ?_)
      exact qX12_runsEnds_28 F hr hlk C N mme 0 hE _ _ hP hS ls (lv_sub hl [1, 2, 0] rfl)
    · have hE := ifn hE hc
      refine lv_aload_n F.1 F.2.1 dX12_runsEnds_8 rfl (lv_at hl 0 rfl) ?_
      refine lv_iload_n F.1 F.2.1 dX12_runsEnds_9 rfl (lv_at hl 2 rfl) ?_
      refine lv_iconst (v := 5) F.1 F.2.1 dX12_runsEnds_10 (by decide) ?_
      refine lv_aload_n F.1 F.2.1 dX12_runsEnds_11 rfl (lv_at hl 0 rfl) ?_
      refine gX12_59 F C hP dX12_runsEnds_12 ?_
      refine lv_iload_n F.1 F.2.1 dX12_runsEnds_15 rfl (lv_at hl 2 rfl) ?_
      obtain ⟨hi, hE⟩ := grd_some hE
      refine am5 F C hP hi dX12_runsEnds_16 ?_
      obtain ⟨mme_215, hc, hE⟩ := bnd1_some hE
      refine aft_v (run_V (rest := []) F (kX12_puts hc) (okM Z) C hS lkX12_104 ⟨Nat.le_of_ble_eq_true rfl, Nat.le_of_ble_eq_true rfl⟩ (rvM C hP) hP rfl hl.1 rfl (lv_room (Nat.le_of_ble_eq_true rfl)) dX12_runsEnds_17 ⟨Nat.zero_le _, Nat.zero_le _⟩) hS (fun H locs hP hS => ?_)
      refine lv_iinc (v := x2 + 1) (lv' := [(2, .int (x2 + 1)), (0, .ref (mA Z 0)), (1, .int p1)]) F.1 F.2.1 dX12_runsEnds_20 hl (k := 2) rfl rfl (by decide) rfl (fun ls hl => ?_)
      refine lv_goto (tgt := 2) F.1 F.2.1 dX12_runsEnds_23 (by decide) ?_
      exact h2 mme_215 (x2 + 1) hE _ _ hP hS ls (lv_sub hl [1, 2, 0] rfl)
set_option maxRecDepth 100000 in
set_option maxHeartbeats 4000000 in
theorem kX12_runsEnds {l : Launch} {Z : ZC} {mth : Int32} {mto : Int32} {mrw : Nat → Int64} {mta : Nat → Int32} {mtp : Int32} {mat : Int32} {mtt : Int32} {mme : Nat → Int32} {mun : Int32} {mde : Int32} {mco : Nat → Int32} {mcn : Nat → Int32} {mvi : Int32} {men : Int32} {mfa : Nat → Int32} {mac : Nat → Int32} {mfi : Nat → Int32} {mse : Nat → Int32} {mtd : Nat → Int32} {mra : Int32} {mkp : Nat → Int32} {N : Nat} {p1 : Int32} {mme' : Nat → Int32} (hE : fX12_runsEnds N mme mde mcn p1 = some mme') : Mg l yX12_runsEnds cX12_runsEnds 3 none (rmk 203 4818) (KM Z) (AM Z) [.ref (mA Z 0), .int p1] (PM Z mth mto mrw mta mtp mat mtt mme mun mde mco mcn mvi men mfa mac mfi mse mtd mra mkp) (Qv (KM Z) (AM Z) (PM Z mth mto mrw mta mtp mat mtt mme' mun mde mco mcn mvi men mfa mac mfi mse mtd mra mkp)) := by
  refine Mg.start (lv := [(0, .ref (mA Z 0)), (1, .int p1)]) (by decide) rfl (Nat.le_of_ble_eq_true rfl) rfl ?_
  intro p e s m below meth c F hr hlk C hP ls hl
  have hS : va_S (AM Z) s.heap s.heap [] := va_S.rf
  unfold fX12_runsEnds at hE
  refine lv_iconst (v := 0) F.1 F.2.1 dX12_runsEnds_0 (by decide) ?_
  refine lv_istore_n (lv' := [(2, .int 0), (0, .ref (mA Z 0)), (1, .int p1)]) F.1 F.2.1 dX12_runsEnds_1 rfl hl (by decide) rfl (fun ls hl => ?_)
  exact qX12_runsEnds_2 F hr hlk C N mme 0 hE _ _ hP hS ls (lv_sub hl [1, 2, 0] rfl)
set_option maxRecDepth 100000 in
set_option maxHeartbeats 4000000 in
theorem qX12_runsTrial_128 {p : Program} {l : Launch} {e : Env} {s : State} {m : MethodId} {args : Array Value} {below : List Frame} {meth : Method} {c : Code} {Z : ZC} {mth : Int32} {mto : Int32} {mrw : Nat → Int64} {mta : Nat → Int32} {mtp : Int32} {mat : Int32} {mtt : Int32} {mun : Int32} {mde : Int32} {men : Int32} {mfa : Nat → Int32} {mac : Nat → Int32} {mfi : Nat → Int32} {mse : Nat → Int32} {mtd : Nat → Int32} {mra : Int32} {mkp : Nat → Int32} {N : Nat} {mme' : Nat → Int32} {mco' : Nat → Int32} {mcn' : Nat → Int32} {mvi' : Int32} (F : CallFix p m c cX12_runsTrial 3 s args bigW RX12) (hr : meth.sig.returnType = none) (hlk : meth.locks = false) (C : KM Z s) : ∀ (mme : Nat → Int32) (mco : Nat → Int32) (mcn : Nat → Int32) (mvi : Int32), fX12_runsTrial_128 N mde mme mco mcn mvi = some (mme', mco', mcn', mvi') → ∀ (H : Heap) (locs : List Loc), PM Z mth mto mrw mta mtp mat mtt mme mun mde mco mcn mvi men mfa mac mfi mse mtd mra mkp H → va_S (AM Z) s.heap H locs → ∀ ls : Array Slot, lv_has ls 3 [(0, .ref (mA Z 0))] → W p l e (rmk 204 4840) s m args below meth c H locs 0 0 (MQ below (Qv (KM Z) (AM Z) (PM Z mth mto mrw mta mtp mat mtt mme' mun mde mco' mcn' mvi' men mfa mac mfi mse mtd mra mkp)) args s 0 0 (AM Z)) (F0 m 128 ls []) := by
  intro mme mco mcn mvi hE H locs hP hS ls hl
  unfold fX12_runsTrial_128 at hE
  refine lv_aload_n F.1 F.2.1 dX12_runsTrial_128 rfl (lv_at hl 0 rfl) ?_
  obtain ⟨r257, hc, hE⟩ := bnd1_some hE
  refine aft_i (run_V (rest := []) F (kX12_whites hc) (okM Z) C hS lkX12_178 ⟨Nat.le_of_ble_eq_true rfl, Nat.le_of_ble_eq_true rfl⟩ (rvM C hP) hP rfl hl.1 rfl (lv_room (Nat.le_of_ble_eq_true rfl)) dX12_runsTrial_129 ⟨Nat.zero_le _, Nat.zero_le _⟩) hS (fun H locs hP hS => ?_)
  refine lv_istore_n (lv' := [(2, .int r257), (0, .ref (mA Z 0))]) F.1 F.2.1 dX12_runsTrial_132 rfl hl (by decide) rfl (fun ls hl => ?_)
  refine lv_aload_n F.1 F.2.1 dX12_runsTrial_133 rfl (lv_at hl 1 rfl) ?_
  refine lv_iload_n F.1 F.2.1 dX12_runsTrial_134 rfl (lv_at hl 0 rfl) ?_
  obtain ⟨r258, hc, hE⟩ := bnd1_some hE
  refine aft_i (run_V (rest := []) F (kX12_withEnds hc) (okM Z) C hS lkX12_181 ⟨Nat.le_of_ble_eq_true rfl, Nat.le_of_ble_eq_true rfl⟩ (rvM C hP) hP rfl hl.1 rfl (lv_room (Nat.le_of_ble_eq_true rfl)) dX12_runsTrial_135 ⟨Nat.zero_le _, Nat.zero_le _⟩) hS (fun H locs hP hS => ?_)
  refine lv_if_ne (tgt := 149) F.1 F.2.1 dX12_runsTrial_138 (by decide) (fun hc => ?_) (fun hc => ?_)
  · have hE := ifn hE hc
    refine lv_aload_n F.1 F.2.1 dX12_runsTrial_149 rfl (lv_at hl 1 rfl) ?_
    refine lv_iload_n F.1 F.2.1 dX12_runsTrial_150 rfl (lv_at hl 0 rfl) ?_
    obtain ⟨mme_259, hc, hE⟩ := bnd1_some hE
    refine aft_v (run_V (rest := []) F (kX12_runsEnds hc) (okM Z) C hS lkX12_187 ⟨Nat.le_of_ble_eq_true rfl, Nat.le_of_ble_eq_true rfl⟩ (rvM C hP) hP rfl hl.1 rfl (lv_room (Nat.le_of_ble_eq_true rfl)) dX12_runsTrial_151 ⟨Nat.zero_le _, Nat.zero_le _⟩) hS (fun H locs hP hS => ?_)
    have w0 := Option.some.inj hE
    obtain ⟨g0, w1⟩ := Prod.mk.inj w0
    obtain ⟨g1, w2⟩ := Prod.mk.inj w1
    obtain ⟨g2, w3⟩ := Prod.mk.inj w2
    subst g0 g1 g2 w3
    exact ret_v F hr hlk hP hS dX12_runsTrial_154
  · have hE := ifp hE hc
    refine lv_aload_n F.1 F.2.1 dX12_runsTrial_141 rfl (lv_at hl 1 rfl) ?_
    refine lv_iload_n F.1 F.2.1 dX12_runsTrial_142 rfl (lv_at hl 0 rfl) ?_
    obtain ⟨mme_260, hc, hE⟩ := bnd1_some hE
    refine aft_v (run_V (rest := []) F (kX12_freesAll hc) (okM Z) C hS lkX12_184 ⟨Nat.le_of_ble_eq_true rfl, Nat.le_of_ble_eq_true rfl⟩ (rvM C hP) hP rfl hl.1 rfl (lv_room (Nat.le_of_ble_eq_true rfl)) dX12_runsTrial_143 ⟨Nat.zero_le _, Nat.zero_le _⟩) hS (fun H locs hP hS => ?_)
    refine lv_goto (tgt := 154) F.1 F.2.1 dX12_runsTrial_146 (by decide) ?_
    have w0 := Option.some.inj hE
    obtain ⟨g0, w1⟩ := Prod.mk.inj w0
    obtain ⟨g1, w2⟩ := Prod.mk.inj w1
    obtain ⟨g2, w3⟩ := Prod.mk.inj w2
    subst g0 g1 g2 w3
    exact ret_v F hr hlk hP hS dX12_runsTrial_154
set_option maxRecDepth 100000 in
set_option maxHeartbeats 4000000 in
theorem qX12_runsTrial_108 {p : Program} {l : Launch} {e : Env} {s : State} {m : MethodId} {args : Array Value} {below : List Frame} {meth : Method} {c : Code} {Z : ZC} {mth : Int32} {mto : Int32} {mrw : Nat → Int64} {mta : Nat → Int32} {mtp : Int32} {mat : Int32} {mtt : Int32} {mun : Int32} {mde : Int32} {men : Int32} {mfa : Nat → Int32} {mac : Nat → Int32} {mfi : Nat → Int32} {mse : Nat → Int32} {mtd : Nat → Int32} {mra : Int32} {mkp : Nat → Int32} {N : Nat} {mme' : Nat → Int32} {mco' : Nat → Int32} {mcn' : Nat → Int32} {mvi' : Int32} (F : CallFix p m c cX12_runsTrial 3 s args bigW RX12) (hr : meth.sig.returnType = none) (hlk : meth.locks = false) (C : KM Z s) : ∀ n : Nat, ∀ (mme : Nat → Int32) (mco : Nat → Int32) (mcn : Nat → Int32) (mvi : Int32), fX12_runsTrial_108 N mde n mme mco mcn mvi = some (mme', mco', mcn', mvi') → ∀ (H : Heap) (locs : List Loc), PM Z mth mto mrw mta mtp mat mtt mme mun mde mco mcn mvi men mfa mac mfi mse mtd mra mkp H → va_S (AM Z) s.heap H locs → ∀ ls : Array Slot, lv_has ls 3 [(0, .ref (mA Z 0))] → W p l e (rmk 204 4840) s m args below meth c H locs 0 0 (MQ below (Qv (KM Z) (AM Z) (PM Z mth mto mrw mta mtp mat mtt mme' mun mde mco' mcn' mvi' men mfa mac mfi mse mtd mra mkp)) args s 0 0 (AM Z)) (F0 m 108 ls []) := by
  intro n
  induction n with
  | zero => intro mme mco mcn mvi hE; cases hE
  | succ n h108 =>
    intro mme mco mcn mvi hE H locs hP hS ls hl
    have hE : fX12_runsTrial_108b N mde (fX12_runsTrial_108 N mde n) mme mco mcn mvi = some (mme', mco', mcn', mvi') := hE
    refine lv_aload_n F.1 F.2.1 dX12_runsTrial_108 rfl (lv_at hl 0 rfl) ?_
    obtain ⟨r254, hc, hE⟩ := bnd1_some hE
    refine aft_i (run_V (rest := []) F (kX12_listed hc) (okM Z) C hS lkX12_97 ⟨Nat.le_of_ble_eq_true rfl, Nat.le_of_ble_eq_true rfl⟩ (rvM C hP) hP rfl hl.1 rfl (lv_room (Nat.le_of_ble_eq_true rfl)) dX12_runsTrial_109 ⟨Nat.zero_le _, Nat.zero_le _⟩) hS (fun H locs hP hS => ?_)
    refine lv_if_le (tgt := 128) F.1 F.2.1 dX12_runsTrial_112 (by decide) (fun hc => ?_) (fun hc => ?_)
    · have hE := ifp hE hc
      exact qX12_runsTrial_128 F hr hlk C mme mco mcn mvi hE _ _ hP hS ls (lv_sub hl [0] rfl)
    · have hE := ifn hE hc
      refine lv_aload_n F.1 F.2.1 dX12_runsTrial_115 rfl (lv_at hl 0 rfl) ?_
      refine lv_aload_n F.1 F.2.1 dX12_runsTrial_116 rfl (lv_at hl 0 rfl) ?_
      obtain ⟨r255, hc, hE⟩ := bnd1_some hE
      refine aft_i (run_V (rest := [.ref (mA Z 0)]) F (kX12_listed hc) (okM Z) C hS lkX12_97 ⟨Nat.le_of_ble_eq_true rfl, Nat.le_of_ble_eq_true rfl⟩ (rvM C hP) hP rfl hl.1 rfl (lv_room (Nat.le_of_ble_eq_true rfl)) dX12_runsTrial_117 ⟨Nat.zero_le _, Nat.zero_le _⟩) hS (fun H locs hP hS => ?_)
      refine lv_iconst (v := 1) F.1 F.2.1 dX12_runsTrial_120 (by decide) ?_
      refine lv_isub F.1 F.2.1 dX12_runsTrial_121 ?_
      obtain ⟨mme_256, hc, hE⟩ := bnd1_some hE
      refine aft_v (run_V (rest := []) F (kX12_goesOffList hc) (okM Z) C hS lkX12_115 ⟨Nat.le_of_ble_eq_true rfl, Nat.le_of_ble_eq_true rfl⟩ (rvM C hP) hP rfl hl.1 rfl (lv_room (Nat.le_of_ble_eq_true rfl)) dX12_runsTrial_122 ⟨Nat.zero_le _, Nat.zero_le _⟩) hS (fun H locs hP hS => ?_)
      refine lv_goto (tgt := 108) F.1 F.2.1 dX12_runsTrial_125 (by decide) ?_
      exact h108 mme_256 mco mcn mvi hE _ _ hP hS ls (lv_sub hl [0] rfl)
set_option maxRecDepth 100000 in
set_option maxHeartbeats 4000000 in
theorem qX12_runsTrial_85 {p : Program} {l : Launch} {e : Env} {s : State} {m : MethodId} {args : Array Value} {below : List Frame} {meth : Method} {c : Code} {Z : ZC} {mth : Int32} {mto : Int32} {mrw : Nat → Int64} {mta : Nat → Int32} {mtp : Int32} {mat : Int32} {mtt : Int32} {mun : Int32} {mde : Int32} {men : Int32} {mfa : Nat → Int32} {mac : Nat → Int32} {mfi : Nat → Int32} {mse : Nat → Int32} {mtd : Nat → Int32} {mra : Int32} {mkp : Nat → Int32} {N : Nat} {mme' : Nat → Int32} {mco' : Nat → Int32} {mcn' : Nat → Int32} {mvi' : Int32} (F : CallFix p m c cX12_runsTrial 3 s args bigW RX12) (hr : meth.sig.returnType = none) (hlk : meth.locks = false) (C : KM Z s) : ∀ n : Nat, ∀ (mme : Nat → Int32) (mco : Nat → Int32) (mcn : Nat → Int32) (mvi : Int32) (x2 : Int32), fX12_runsTrial_85 N mde n mme mco mcn mvi x2 = some (mme', mco', mcn', mvi') → ∀ (H : Heap) (locs : List Loc), PM Z mth mto mrw mta mtp mat mtt mme mun mde mco mcn mvi men mfa mac mfi mse mtd mra mkp H → va_S (AM Z) s.heap H locs → ∀ ls : Array Slot, lv_has ls 3 [(0, .ref (mA Z 0)), (2, .int x2)] → W p l e (rmk 204 4840) s m args below meth c H locs 0 0 (MQ below (Qv (KM Z) (AM Z) (PM Z mth mto mrw mta mtp mat mtt mme' mun mde mco' mcn' mvi' men mfa mac mfi mse mtd mra mkp)) args s 0 0 (AM Z)) (F0 m 85 ls []) := by
  intro n
  induction n with
  | zero => intro mme mco mcn mvi x2 hE; cases hE
  | succ n h85 =>
    intro mme mco mcn mvi x2 hE H locs hP hS ls hl
    have hE : fX12_runsTrial_85b N mde (fX12_runsTrial_85 N mde n) mme mco mcn mvi x2 = some (mme', mco', mcn', mvi') := hE
    refine lv_iload_n F.1 F.2.1 dX12_runsTrial_85 rfl (lv_at hl 1 rfl) ?_
    refine lv_aload_n F.1 F.2.1 dX12_runsTrial_86 rfl (lv_at hl 0 rfl) ?_
    obtain ⟨r251, hc, hE⟩ := bnd1_some hE
    refine aft_i (run_V (rest := [.int x2]) F (kX12_listed hc) (okM Z) C hS lkX12_97 ⟨Nat.le_of_ble_eq_true rfl, Nat.le_of_ble_eq_true rfl⟩ (rvM C hP) hP rfl hl.1 rfl (lv_room (Nat.le_of_ble_eq_true rfl)) dX12_runsTrial_87 ⟨Nat.zero_le _, Nat.zero_le _⟩) hS (fun H locs hP hS => ?_)
    refine lv_icmp_ge (tgt := 108) F.1 F.2.1 dX12_runsTrial_90 (by decide) (fun hc => ?_) (fun hc => ?_)
    · have hE := ifp hE hc
      exact qX12_runsTrial_108 F hr hlk C N mme mco mcn mvi hE _ _ hP hS ls (lv_sub hl [0] rfl)
    · have hE := ifn hE hc
      refine lv_aload_n F.1 F.2.1 dX12_runsTrial_93 rfl (lv_at hl 0 rfl) ?_
      refine lv_aload_n F.1 F.2.1 dX12_runsTrial_94 rfl (lv_at hl 0 rfl) ?_
      refine lv_iload_n F.1 F.2.1 dX12_runsTrial_95 rfl (lv_at hl 1 rfl) ?_
      obtain ⟨r252, hc, hE⟩ := bnd1_some hE
      refine aft_i (run_V (rest := [.ref (mA Z 0)]) F (kX12_onList hc) (okM Z) C hS lkX12_100 ⟨Nat.le_of_ble_eq_true rfl, Nat.le_of_ble_eq_true rfl⟩ (rvM C hP) hP rfl hl.1 rfl (lv_room (Nat.le_of_ble_eq_true rfl)) dX12_runsTrial_96 ⟨Nat.zero_le _, Nat.zero_le _⟩) hS (fun H locs hP hS => ?_)
      obtain ⟨mme_253, mco_253, mvi_253, hc, hE⟩ := bnd3_some hE
      refine aft_v (run_V (rest := []) F (kX12_looksThrough hc) (okM Z) C hS lkX12_164 ⟨Nat.le_of_ble_eq_true rfl, Nat.le_of_ble_eq_true rfl⟩ (rvM C hP) hP rfl hl.1 rfl (lv_room (Nat.le_of_ble_eq_true rfl)) dX12_runsTrial_99 ⟨Nat.zero_le _, Nat.zero_le _⟩) hS (fun H locs hP hS => ?_)
      refine lv_iinc (v := x2 + 1) (lv' := [(2, .int (x2 + 1)), (0, .ref (mA Z 0))]) F.1 F.2.1 dX12_runsTrial_102 hl (k := 1) rfl rfl (by decide) rfl (fun ls hl => ?_)
      refine lv_goto (tgt := 85) F.1 F.2.1 dX12_runsTrial_105 (by decide) ?_
      exact h85 mme_253 mco_253 mcn mvi_253 (x2 + 1) hE _ _ hP hS ls (lv_sub hl [1, 0] rfl)
set_option maxRecDepth 100000 in
set_option maxHeartbeats 4000000 in
theorem qX12_runsTrial_40 {p : Program} {l : Launch} {e : Env} {s : State} {m : MethodId} {args : Array Value} {below : List Frame} {meth : Method} {c : Code} {Z : ZC} {mth : Int32} {mto : Int32} {mrw : Nat → Int64} {mta : Nat → Int32} {mtp : Int32} {mat : Int32} {mtt : Int32} {mun : Int32} {mde : Int32} {men : Int32} {mfa : Nat → Int32} {mac : Nat → Int32} {mfi : Nat → Int32} {mse : Nat → Int32} {mtd : Nat → Int32} {mra : Int32} {mkp : Nat → Int32} {N : Nat} {mme' : Nat → Int32} {mco' : Nat → Int32} {mcn' : Nat → Int32} {mvi' : Int32} (F : CallFix p m c cX12_runsTrial 3 s args bigW RX12) (hr : meth.sig.returnType = none) (hlk : meth.locks = false) (C : KM Z s) : ∀ n : Nat, ∀ (mme : Nat → Int32) (mco : Nat → Int32) (mcn : Nat → Int32) (mvi : Int32) (x1 : Int32), fX12_runsTrial_40 N mde n mme mco mcn mvi x1 = some (mme', mco', mcn', mvi') → ∀ (H : Heap) (locs : List Loc), PM Z mth mto mrw mta mtp mat mtt mme mun mde mco mcn mvi men mfa mac mfi mse mtd mra mkp H → va_S (AM Z) s.heap H locs → ∀ ls : Array Slot, lv_has ls 3 [(0, .ref (mA Z 0)), (1, .int x1)] → W p l e (rmk 204 4840) s m args below meth c H locs 0 0 (MQ below (Qv (KM Z) (AM Z) (PM Z mth mto mrw mta mtp mat mtt mme' mun mde mco' mcn' mvi' men mfa mac mfi mse mtd mra mkp)) args s 0 0 (AM Z)) (F0 m 40 ls []) := by
  intro n
  induction n with
  | zero => intro mme mco mcn mvi x1 hE; cases hE
  | succ n h40 =>
    intro mme mco mcn mvi x1 hE H locs hP hS ls hl
    have hE : fX12_runsTrial_40b N mde (fX12_runsTrial_40 N mde n) mme mco mcn mvi x1 = some (mme', mco', mcn', mvi') := hE
    refine lv_iload_n F.1 F.2.1 dX12_runsTrial_40 rfl (lv_at hl 1 rfl) ?_
    refine lv_aload_n F.1 F.2.1 dX12_runsTrial_41 rfl (lv_at hl 0 rfl) ?_
    obtain ⟨r246, hc, hE⟩ := bnd1_some hE
    refine aft_i (run_V (rest := [.int x1]) F (kX12_listed hc) (okM Z) C hS lkX12_97 ⟨Nat.le_of_ble_eq_true rfl, Nat.le_of_ble_eq_true rfl⟩ (rvM C hP) hP rfl hl.1 rfl (lv_room (Nat.le_of_ble_eq_true rfl)) dX12_runsTrial_42 ⟨Nat.zero_le _, Nat.zero_le _⟩) hS (fun H locs hP hS => ?_)
    refine lv_icmp_ge (tgt := 83) F.1 F.2.1 dX12_runsTrial_45 (by decide) (fun hc => ?_) (fun hc => ?_)
    · have hE := ifp hE hc
      refine lv_iconst (v := 0) F.1 F.2.1 dX12_runsTrial_83 (by decide) ?_
      refine lv_istore_n (lv' := [(2, .int 0), (0, .ref (mA Z 0)), (1, .int x1)]) F.1 F.2.1 dX12_runsTrial_84 rfl hl (by decide) rfl (fun ls hl => ?_)
      exact qX12_runsTrial_85 F hr hlk C N mme mco mcn mvi 0 hE _ _ hP hS ls (lv_sub hl [1, 0] rfl)
    · have hE := ifn hE hc
      refine lv_aload_n F.1 F.2.1 dX12_runsTrial_48 rfl (lv_at hl 0 rfl) ?_
      refine lv_iload_n F.1 F.2.1 dX12_runsTrial_49 rfl (lv_at hl 1 rfl) ?_
      obtain ⟨r247, hc, hE⟩ := bnd1_some hE
      refine aft_i (run_V (rest := []) F (kX12_onList hc) (okM Z) C hS lkX12_100 ⟨Nat.le_of_ble_eq_true rfl, Nat.le_of_ble_eq_true rfl⟩ (rvM C hP) hP rfl hl.1 rfl (lv_room (Nat.le_of_ble_eq_true rfl)) dX12_runsTrial_50 ⟨Nat.zero_le _, Nat.zero_le _⟩) hS (fun H locs hP hS => ?_)
      refine lv_istore_n (lv' := [(2, .int r247), (0, .ref (mA Z 0)), (1, .int x1)]) F.1 F.2.1 dX12_runsTrial_53 rfl hl (by decide) rfl (fun ls hl => ?_)
      refine lv_aload_n F.1 F.2.1 dX12_runsTrial_54 rfl (lv_at hl 1 rfl) ?_
      refine lv_iload_n F.1 F.2.1 dX12_runsTrial_55 rfl (lv_at hl 0 rfl) ?_
      refine lv_bipush (v := 6) F.1 F.2.1 dX12_runsTrial_56 (by decide) ?_
      obtain ⟨r248, hc, hE⟩ := bnd1_some hE
      refine aft_i (run_V (rest := []) F (kX12_of hc) (okM Z) C hS lkX12_91 ⟨Nat.le_of_ble_eq_true rfl, Nat.le_of_ble_eq_true rfl⟩ (rvM C hP) hP rfl hl.1 rfl (lv_room (Nat.le_of_ble_eq_true rfl)) dX12_runsTrial_58 ⟨Nat.zero_le _, Nat.zero_le _⟩) hS (fun H locs hP hS => ?_)
      refine lv_if_ne (tgt := 72) F.1 F.2.1 dX12_runsTrial_61 (by decide) (fun hc => ?_) (fun hc => ?_)
      · have hE := ifn hE hc
        refine lv_aload_n F.1 F.2.1 dX12_runsTrial_72 rfl (lv_at hl 1 rfl) ?_
        refine lv_iload_n F.1 F.2.1 dX12_runsTrial_73 rfl (lv_at hl 0 rfl) ?_
        obtain ⟨mme_249, mco_249, mvi_249, hc, hE⟩ := bnd3_some hE
        refine aft_v (run_V (rest := []) F (kX12_grays hc) (okM Z) C hS lkX12_158 ⟨Nat.le_of_ble_eq_true rfl, Nat.le_of_ble_eq_true rfl⟩ (rvM C hP) hP rfl hl.1 rfl (lv_room (Nat.le_of_ble_eq_true rfl)) dX12_runsTrial_74 ⟨Nat.zero_le _, Nat.zero_le _⟩) hS (fun H locs hP hS => ?_)
        refine lv_iinc (v := x1 + 1) (lv' := [(1, .int (x1 + 1)), (2, .int r247), (0, .ref (mA Z 0))]) F.1 F.2.1 dX12_runsTrial_77 hl (k := 2) rfl rfl (by decide) rfl (fun ls hl => ?_)
        refine lv_goto (tgt := 40) F.1 F.2.1 dX12_runsTrial_80 (by decide) ?_
        exact h40 mme_249 mco_249 mcn mvi_249 (x1 + 1) hE _ _ hP hS ls (lv_sub hl [2, 0] rfl)
      · have hE := ifp hE hc
        refine lv_aload_n F.1 F.2.1 dX12_runsTrial_64 rfl (lv_at hl 1 rfl) ?_
        refine lv_iload_n F.1 F.2.1 dX12_runsTrial_65 rfl (lv_at hl 2 rfl) ?_
        obtain ⟨mme_250, hc, hE⟩ := bnd1_some hE
        refine aft_v (run_V (rest := []) F (kX12_goesOffList hc) (okM Z) C hS lkX12_115 ⟨Nat.le_of_ble_eq_true rfl, Nat.le_of_ble_eq_true rfl⟩ (rvM C hP) hP rfl hl.1 rfl (lv_room (Nat.le_of_ble_eq_true rfl)) dX12_runsTrial_66 ⟨Nat.zero_le _, Nat.zero_le _⟩) hS (fun H locs hP hS => ?_)
        refine lv_goto (tgt := 80) F.1 F.2.1 dX12_runsTrial_69 (by decide) ?_
        refine lv_goto (tgt := 40) F.1 F.2.1 dX12_runsTrial_80 (by decide) ?_
        exact h40 mme_250 mco mcn mvi x1 hE _ _ hP hS ls (lv_sub hl [1, 2] rfl)
set_option maxRecDepth 100000 in
set_option maxHeartbeats 4000000 in
theorem qX12_runsTrial_7 {p : Program} {l : Launch} {e : Env} {s : State} {m : MethodId} {args : Array Value} {below : List Frame} {meth : Method} {c : Code} {Z : ZC} {mth : Int32} {mto : Int32} {mrw : Nat → Int64} {mta : Nat → Int32} {mtp : Int32} {mat : Int32} {mtt : Int32} {mun : Int32} {mde : Int32} {men : Int32} {mfa : Nat → Int32} {mac : Nat → Int32} {mfi : Nat → Int32} {mse : Nat → Int32} {mtd : Nat → Int32} {mra : Int32} {mkp : Nat → Int32} {N : Nat} {mme' : Nat → Int32} {mco' : Nat → Int32} {mcn' : Nat → Int32} {mvi' : Int32} (F : CallFix p m c cX12_runsTrial 3 s args bigW RX12) (hr : meth.sig.returnType = none) (hlk : meth.locks = false) (C : KM Z s) : ∀ n : Nat, ∀ (mme : Nat → Int32) (mco : Nat → Int32) (mcn : Nat → Int32) (mvi : Int32) (x1 : Int32), fX12_runsTrial_7 N mde n mme mco mcn mvi x1 = some (mme', mco', mcn', mvi') → ∀ (H : Heap) (locs : List Loc), PM Z mth mto mrw mta mtp mat mtt mme mun mde mco mcn mvi men mfa mac mfi mse mtd mra mkp H → va_S (AM Z) s.heap H locs → ∀ ls : Array Slot, lv_has ls 3 [(0, .ref (mA Z 0)), (1, .int x1)] → W p l e (rmk 204 4840) s m args below meth c H locs 0 0 (MQ below (Qv (KM Z) (AM Z) (PM Z mth mto mrw mta mtp mat mtt mme' mun mde mco' mcn' mvi' men mfa mac mfi mse mtd mra mkp)) args s 0 0 (AM Z)) (F0 m 7 ls []) := by
  intro n
  induction n with
  | zero => intro mme mco mcn mvi x1 hE; cases hE
  | succ n h7 =>
    intro mme mco mcn mvi x1 hE H locs hP hS ls hl
    have hE : fX12_runsTrial_7b N mde (fX12_runsTrial_7 N mde n) mme mco mcn mvi x1 = some (mme', mco', mcn', mvi') := hE
    refine lv_iload_n F.1 F.2.1 dX12_runsTrial_7 rfl (lv_at hl 1 rfl) ?_
    refine lv_bipush (v := 24) F.1 F.2.1 dX12_runsTrial_8 (by decide) ?_
    refine lv_icmp_ge (tgt := 38) F.1 F.2.1 dX12_runsTrial_10 (by decide) (fun hc => ?_) (fun hc => ?_)
    · have hE := ifp hE hc
      refine lv_iconst (v := 0) F.1 F.2.1 dX12_runsTrial_38 (by decide) ?_
      refine lv_istore_n (lv' := [(1, .int 0), (0, .ref (mA Z 0))]) F.1 F.2.1 dX12_runsTrial_39 rfl hl (by decide) rfl (fun ls hl => ?_)
      exact qX12_runsTrial_40 F hr hlk C N mme mco mcn mvi 0 hE _ _ hP hS ls (lv_sub hl [1, 0] rfl)
    · have hE := ifn hE hc
      refine lv_aload_n F.1 F.2.1 dX12_runsTrial_13 rfl (lv_at hl 0 rfl) ?_
      refine gX12_56 F C hP dX12_runsTrial_14 ?_
      refine lv_iload_n F.1 F.2.1 dX12_runsTrial_17 rfl (lv_at hl 1 rfl) ?_
      refine lv_iconst (v := 0) F.1 F.2.1 dX12_runsTrial_18 (by decide) ?_
      obtain ⟨hi, hE⟩ := grd_some hE
      obtain ⟨mco_243, emco_243, hE⟩ := lt_some hE
      refine sm4 F C hP hi hS emco_243.symm dX12_runsTrial_19 (fun H locs hP hS => ?_)
      refine lv_aload_n F.1 F.2.1 dX12_runsTrial_20 rfl (lv_at hl 0 rfl) ?_
      refine gX12_59 F C hP dX12_runsTrial_21 ?_
      refine lv_iload_n F.1 F.2.1 dX12_runsTrial_24 rfl (lv_at hl 1 rfl) ?_
      refine lv_aload_n F.1 F.2.1 dX12_runsTrial_25 rfl (lv_at hl 0 rfl) ?_
      refine lv_iload_n F.1 F.2.1 dX12_runsTrial_26 rfl (lv_at hl 1 rfl) ?_
      refine lv_iconst (v := 5) F.1 F.2.1 dX12_runsTrial_27 (by decide) ?_
      obtain ⟨r244, hc, hE⟩ := bnd1_some hE
      refine aft_i (run_V (rest := [.int x1, .ref (mA Z 5)]) F (kX12_of hc) (okM Z) C hS lkX12_91 ⟨Nat.le_of_ble_eq_true rfl, Nat.le_of_ble_eq_true rfl⟩ (rvM C hP) hP rfl hl.1 rfl (lv_room (Nat.le_of_ble_eq_true rfl)) dX12_runsTrial_28 ⟨Nat.zero_le _, Nat.zero_le _⟩) hS (fun H locs hP hS => ?_)
      obtain ⟨hi, hE⟩ := grd_some hE
      obtain ⟨mcn_245, emcn_245, hE⟩ := lt_some hE
      refine sm5 F C hP hi hS emcn_245.symm dX12_runsTrial_31 (fun H locs hP hS => ?_)
      refine lv_iinc (v := x1 + 1) (lv' := [(1, .int (x1 + 1)), (0, .ref (mA Z 0))]) F.1 F.2.1 dX12_runsTrial_32 hl (k := 1) rfl rfl (by decide) rfl (fun ls hl => ?_)
      refine lv_goto (tgt := 7) F.1 F.2.1 dX12_runsTrial_35 (by decide) ?_
      exact h7 mme mco_243 mcn_245 mvi (x1 + 1) hE _ _ hP hS ls (lv_sub hl [1, 0] rfl)
set_option maxRecDepth 100000 in
set_option maxHeartbeats 4000000 in
theorem kX12_runsTrial {l : Launch} {Z : ZC} {mth : Int32} {mto : Int32} {mrw : Nat → Int64} {mta : Nat → Int32} {mtp : Int32} {mat : Int32} {mtt : Int32} {mme : Nat → Int32} {mun : Int32} {mde : Int32} {mco : Nat → Int32} {mcn : Nat → Int32} {mvi : Int32} {men : Int32} {mfa : Nat → Int32} {mac : Nat → Int32} {mfi : Nat → Int32} {mse : Nat → Int32} {mtd : Nat → Int32} {mra : Int32} {mkp : Nat → Int32} {N : Nat} {mme' : Nat → Int32} {mco' : Nat → Int32} {mcn' : Nat → Int32} {mvi' : Int32} (hE : fX12_runsTrial N mme mde mco mcn mvi = some (mme', mco', mcn', mvi')) : Mg l yX12_runsTrial cX12_runsTrial 3 none (rmk 204 4840) (KM Z) (AM Z) [.ref (mA Z 0)] (PM Z mth mto mrw mta mtp mat mtt mme mun mde mco mcn mvi men mfa mac mfi mse mtd mra mkp) (Qv (KM Z) (AM Z) (PM Z mth mto mrw mta mtp mat mtt mme' mun mde mco' mcn' mvi' men mfa mac mfi mse mtd mra mkp)) := by
  refine Mg.start (lv := [(0, .ref (mA Z 0))]) (by decide) rfl (Nat.le_of_ble_eq_true rfl) rfl ?_
  intro p e s m below meth c F hr hlk C hP ls hl
  have hS : va_S (AM Z) s.heap s.heap [] := va_S.rf
  unfold fX12_runsTrial at hE
  refine lv_aload_n F.1 F.2.1 dX12_runsTrial_0 rfl (lv_at hl 0 rfl) ?_
  refine lv_iconst (v := 0) F.1 F.2.1 dX12_runsTrial_1 (by decide) ?_
  refine pX12_152 F C hP hS rfl dX12_runsTrial_2 (fun H locs hP hS => ?_)
  refine lv_iconst (v := 0) F.1 F.2.1 dX12_runsTrial_5 (by decide) ?_
  refine lv_istore_n (lv' := [(1, .int 0), (0, .ref (mA Z 0))]) F.1 F.2.1 dX12_runsTrial_6 rfl hl (by decide) rfl (fun ls hl => ?_)
  exact qX12_runsTrial_7 F hr hlk C N mme mco mcn 0 0 hE _ _ hP hS ls (lv_sub hl [1, 0] rfl)
set_option maxRecDepth 100000 in
set_option maxHeartbeats 4000000 in
theorem kX12_isActed {l : Launch} {Z : ZC} {mth : Int32} {mto : Int32} {mrw : Nat → Int64} {mta : Nat → Int32} {mtp : Int32} {mat : Int32} {mtt : Int32} {mme : Nat → Int32} {mun : Int32} {mde : Int32} {mco : Nat → Int32} {mcn : Nat → Int32} {mvi : Int32} {men : Int32} {mfa : Nat → Int32} {mac : Nat → Int32} {mfi : Nat → Int32} {mse : Nat → Int32} {mtd : Nat → Int32} {mra : Int32} {mkp : Nat → Int32} {N : Nat} {mme' : Nat → Int32} {mco' : Nat → Int32} {mcn' : Nat → Int32} {mvi' : Int32} (hE : fX12_isActed N mme mde mco mcn mvi = some (mme', mco', mcn', mvi')) : Mg l yX12_isActed cX12_isActed 1 none (rmk 205 4862) (KM Z) (AM Z) [.ref (mA Z 0)] (PM Z mth mto mrw mta mtp mat mtt mme mun mde mco mcn mvi men mfa mac mfi mse mtd mra mkp) (Qv (KM Z) (AM Z) (PM Z mth mto mrw mta mtp mat mtt mme' mun mde mco' mcn' mvi' men mfa mac mfi mse mtd mra mkp)) := by
  refine Mg.start (lv := [(0, .ref (mA Z 0))]) (by decide) rfl (Nat.le_of_ble_eq_true rfl) rfl ?_
  intro p e s m below meth c F hr hlk C hP ls hl
  have hS : va_S (AM Z) s.heap s.heap [] := va_S.rf
  unfold fX12_isActed at hE
  refine lv_aload_n F.1 F.2.1 dX12_isActed_0 rfl (lv_at hl 0 rfl) ?_
  obtain ⟨r263, hc, hE⟩ := bnd1_some hE
  refine aft_i (run_V (rest := []) F (kX12_listed hc) (okM Z) C hS lkX12_97 ⟨Nat.le_of_ble_eq_true rfl, Nat.le_of_ble_eq_true rfl⟩ (rvM C hP) hP rfl hl.1 rfl (lv_room (Nat.le_of_ble_eq_true rfl)) dX12_isActed_1 ⟨Nat.zero_le _, Nat.zero_le _⟩) hS (fun H locs hP hS => ?_)
  refine lv_aload_n F.1 F.2.1 dX12_isActed_4 rfl (lv_at hl 0 rfl) ?_
  refine gX12_53 F C hP dX12_isActed_5 ?_
  refine lv_aload_n F.1 F.2.1 dX12_isActed_8 rfl (lv_at hl 0 rfl) ?_
  refine gX12_85 F C hP dX12_isActed_9 ?_
  refine lv_iconst (v := 0) F.1 F.2.1 dX12_isActed_12 (by decide) ?_
  refine lv_iadd F.1 F.2.1 dX12_isActed_13 ?_
  obtain ⟨hi, hE⟩ := grd_some hE
  refine am3 F C hP hi dX12_isActed_14 ?_
  refine lv_icmp_lt (tgt := 22) F.1 F.2.1 dX12_isActed_15 (by decide) (fun hc => ?_) (fun hc => ?_)
  · have hE := ifp hE hc
    have w0 := Option.some.inj hE
    obtain ⟨g0, w1⟩ := Prod.mk.inj w0
    obtain ⟨g1, w2⟩ := Prod.mk.inj w1
    obtain ⟨g2, w3⟩ := Prod.mk.inj w2
    subst g0 g1 g2 w3
    exact ret_v F hr hlk hP hS dX12_isActed_22
  · have hE := ifn hE hc
    refine lv_aload_n F.1 F.2.1 dX12_isActed_18 rfl (lv_at hl 0 rfl) ?_
    obtain ⟨mme_264, mco_264, mcn_264, mvi_264, hc, hE⟩ := bnd4_some hE
    refine aft_v (run_V (rest := []) F (kX12_runsTrial hc) (okM Z) C hS lkX12_190 ⟨Nat.le_of_ble_eq_true rfl, Nat.le_of_ble_eq_true rfl⟩ (rvM C hP) hP rfl hl.1 rfl (lv_room (Nat.le_of_ble_eq_true rfl)) dX12_isActed_19 ⟨Nat.zero_le _, Nat.zero_le _⟩) hS (fun H locs hP hS => ?_)
    have w0 := Option.some.inj hE
    obtain ⟨g0, w1⟩ := Prod.mk.inj w0
    obtain ⟨g1, w2⟩ := Prod.mk.inj w1
    obtain ⟨g2, w3⟩ := Prod.mk.inj w2
    subst g0 g1 g2 w3
    exact ret_v F hr hlk hP hS dX12_isActed_22
set_option maxRecDepth 100000 in
set_option maxHeartbeats 4000000 in
theorem qX12_next_4 {p : Program} {l : Launch} {e : Env} {s : State} {m : MethodId} {args : Array Value} {below : List Frame} {meth : Method} {c : Code} {Z : ZC} {mth : Int32} {mto : Int32} {mrw : Nat → Int64} {mta : Nat → Int32} {mtp : Int32} {mat : Int32} {mtt : Int32} {mme : Nat → Int32} {mun : Int32} {mde : Int32} {mco : Nat → Int32} {mcn : Nat → Int32} {mvi : Int32} {men : Int32} {mfa : Nat → Int32} {mac : Nat → Int32} {mfi : Nat → Int32} {mse : Nat → Int32} {mtd : Nat → Int32} {mra : Int32} {mkp : Nat → Int32} {N : Nat} {p1 : Int32} {r' : Int32} (F : CallFix p m c cX12_next 4 s args bigW RX12) (hr : meth.sig.returnType = (some .int)) (hlk : meth.locks = false) (C : KM Z s) : ∀ n : Nat, ∀ (x2 : Int32) (x3 : Int32), fX12_next_4 N mme mde p1 n x2 x3 = some r' → ∀ (H : Heap) (locs : List Loc), PM Z mth mto mrw mta mtp mat mtt mme mun mde mco mcn mvi men mfa mac mfi mse mtd mra mkp H → va_S (AM Z) s.heap H locs → ∀ ls : Array Slot, lv_has ls 4 [(0, .ref (mA Z 0)), (1, .int p1), (2, .int x2), (3, .int x3)] → W p l e (rmk 2 44) s m args below meth c H locs 0 0 (MQ below (Qi (KM Z) (AM Z) (PM Z mth mto mrw mta mtp mat mtt mme mun mde mco mcn mvi men mfa mac mfi mse mtd mra mkp) r') args s 0 0 (AM Z)) (F0 m 4 ls []) := by
  intro n
  induction n with
  | zero => intro x2 x3 hE; cases hE
  | succ n h4 =>
    intro x2 x3 hE H locs hP hS ls hl
    have hE : fX12_next_4b N mme mde p1 (fX12_next_4 N mme mde p1 n) x2 x3 = some r' := hE
    refine lv_iload_n F.1 F.2.1 dX12_next_4 rfl (lv_at hl 3 rfl) ?_
    refine lv_aload_n F.1 F.2.1 dX12_next_5 rfl (lv_at hl 0 rfl) ?_
    refine lv_iload_n F.1 F.2.1 dX12_next_6 rfl (lv_at hl 1 rfl) ?_
    refine lv_iconst (v := 1) F.1 F.2.1 dX12_next_7 (by decide) ?_
    obtain ⟨r268, hc, hE⟩ := bnd1_some hE
    refine aft_i (run_V (rest := [.int x3]) F (kX12_of hc) (okM Z) C hS lkX12_91 ⟨Nat.le_of_ble_eq_true rfl, Nat.le_of_ble_eq_true rfl⟩ (rvM C hP) hP rfl hl.1 rfl (lv_room (Nat.le_of_ble_eq_true rfl)) dX12_next_8 ⟨Nat.zero_le _, Nat.zero_le _⟩) hS (fun H locs hP hS => ?_)
    refine lv_icmp_ge (tgt := 44) F.1 F.2.1 dX12_next_11 (by decide) (fun hc => ?_) (fun hc => ?_)
    · have hE := ifp hE hc
      refine lv_iload_n F.1 F.2.1 dX12_next_44 rfl (lv_at hl 2 rfl) ?_
      obtain rfl := Option.some.inj hE
      exact ret_i F hr hlk hP hS dX12_next_45
    · have hE := ifn hE hc
      refine lv_iload_n F.1 F.2.1 dX12_next_14 rfl (lv_at hl 2 rfl) ?_
      refine lv_aload_n F.1 F.2.1 dX12_next_15 rfl (lv_at hl 0 rfl) ?_
      refine lv_iload_n F.1 F.2.1 dX12_next_16 rfl (lv_at hl 1 rfl) ?_
      refine lv_iload_n F.1 F.2.1 dX12_next_17 rfl (lv_at hl 3 rfl) ?_
      obtain ⟨r269, hc, hE⟩ := bnd1_some hE
      refine aft_i (run_V (rest := [.int x2]) F (kX12_fieldOf hc) (okM Z) C hS lkX12_140 ⟨Nat.le_of_ble_eq_true rfl, Nat.le_of_ble_eq_true rfl⟩ (rvM C hP) hP rfl hl.1 rfl (lv_room (Nat.le_of_ble_eq_true rfl)) dX12_next_18 ⟨Nat.zero_le _, Nat.zero_le _⟩) hS (fun H locs hP hS => ?_)
      refine lv_if_lt (tgt := 35) F.1 F.2.1 dX12_next_21 (by decide) (fun hc => ?_) (fun hc => ?_)
      · have hE := ifp hE hc
        refine lv_iconst (v := 0) F.1 F.2.1 dX12_next_35 (by decide) ?_
        refine lv_ior F.1 F.2.1 dX12_next_36 ?_
        refine lv_istore_n (lv' := [(2, .int (x2 ||| 0)), (0, .ref (mA Z 0)), (1, .int p1), (3, .int x3)]) F.1 F.2.1 dX12_next_37 rfl hl (by decide) rfl (fun ls hl => ?_)
        refine lv_iinc (v := x3 + 1) (lv' := [(3, .int (x3 + 1)), (2, .int (x2 ||| 0)), (0, .ref (mA Z 0)), (1, .int p1)]) F.1 F.2.1 dX12_next_38 hl (k := 3) rfl rfl (by decide) rfl (fun ls hl => ?_)
        refine lv_goto (tgt := 4) F.1 F.2.1 dX12_next_41 (by decide) ?_
        exact h4 (x2 ||| 0) (x3 + 1) hE _ _ hP hS ls (lv_sub hl [2, 3, 1, 0] rfl)
      · have hE := ifn hE hc
        refine lv_iconst (v := 1) F.1 F.2.1 dX12_next_24 (by decide) ?_
        refine lv_aload_n F.1 F.2.1 dX12_next_25 rfl (lv_at hl 0 rfl) ?_
        refine lv_iload_n F.1 F.2.1 dX12_next_26 rfl (lv_at hl 1 rfl) ?_
        refine lv_iload_n F.1 F.2.1 dX12_next_27 rfl (lv_at hl 3 rfl) ?_
        obtain ⟨r270, hc, hE⟩ := bnd1_some hE
        refine aft_i (run_V (rest := [.int 1, .int x2]) F (kX12_fieldOf hc) (okM Z) C hS lkX12_140 ⟨Nat.le_of_ble_eq_true rfl, Nat.le_of_ble_eq_true rfl⟩ (rvM C hP) hP rfl hl.1 rfl (lv_room (Nat.le_of_ble_eq_true rfl)) dX12_next_28 ⟨Nat.zero_le _, Nat.zero_le _⟩) hS (fun H locs hP hS => ?_)
        refine rj_ishl F.1 F.2.1 dX12_next_31 ?_
        refine lv_goto (tgt := 36) F.1 F.2.1 dX12_next_32 (by decide) ?_
        refine lv_ior F.1 F.2.1 dX12_next_36 ?_
        refine lv_istore_n (lv' := [(2, .int (x2 ||| (jshl 1 r270))), (0, .ref (mA Z 0)), (1, .int p1), (3, .int x3)]) F.1 F.2.1 dX12_next_37 rfl hl (by decide) rfl (fun ls hl => ?_)
        refine lv_iinc (v := x3 + 1) (lv' := [(3, .int (x3 + 1)), (2, .int (x2 ||| (jshl 1 r270))), (0, .ref (mA Z 0)), (1, .int p1)]) F.1 F.2.1 dX12_next_38 hl (k := 3) rfl rfl (by decide) rfl (fun ls hl => ?_)
        refine lv_goto (tgt := 4) F.1 F.2.1 dX12_next_41 (by decide) ?_
        exact h4 (x2 ||| (jshl 1 r270)) (x3 + 1) hE _ _ hP hS ls (lv_sub hl [2, 3, 1, 0] rfl)
set_option maxRecDepth 100000 in
set_option maxHeartbeats 4000000 in
theorem kX12_next {l : Launch} {Z : ZC} {mth : Int32} {mto : Int32} {mrw : Nat → Int64} {mta : Nat → Int32} {mtp : Int32} {mat : Int32} {mtt : Int32} {mme : Nat → Int32} {mun : Int32} {mde : Int32} {mco : Nat → Int32} {mcn : Nat → Int32} {mvi : Int32} {men : Int32} {mfa : Nat → Int32} {mac : Nat → Int32} {mfi : Nat → Int32} {mse : Nat → Int32} {mtd : Nat → Int32} {mra : Int32} {mkp : Nat → Int32} {N : Nat} {p1 : Int32} {r' : Int32} (hE : fX12_next N mme mde p1 = some r') : Mg l yX12_next cX12_next 4 (some .int) (rmk 2 44) (KM Z) (AM Z) [.ref (mA Z 0), .int p1] (PM Z mth mto mrw mta mtp mat mtt mme mun mde mco mcn mvi men mfa mac mfi mse mtd mra mkp) (Qi (KM Z) (AM Z) (PM Z mth mto mrw mta mtp mat mtt mme mun mde mco mcn mvi men mfa mac mfi mse mtd mra mkp) r') := by
  refine Mg.start (lv := [(0, .ref (mA Z 0)), (1, .int p1)]) (by decide) rfl (Nat.le_of_ble_eq_true rfl) rfl ?_
  intro p e s m below meth c F hr hlk C hP ls hl
  have hS : va_S (AM Z) s.heap s.heap [] := va_S.rf
  unfold fX12_next at hE
  refine lv_iconst (v := 0) F.1 F.2.1 dX12_next_0 (by decide) ?_
  refine lv_istore_n (lv' := [(2, .int 0), (0, .ref (mA Z 0)), (1, .int p1)]) F.1 F.2.1 dX12_next_1 rfl hl (by decide) rfl (fun ls hl => ?_)
  refine lv_iconst (v := 0) F.1 F.2.1 dX12_next_2 (by decide) ?_
  refine lv_istore_n (lv' := [(3, .int 0), (2, .int 0), (0, .ref (mA Z 0)), (1, .int p1)]) F.1 F.2.1 dX12_next_3 rfl hl (by decide) rfl (fun ls hl => ?_)
  exact qX12_next_4 F hr hlk C N 0 0 hE _ _ hP hS ls (lv_sub hl [2, 3, 1, 0] rfl)
set_option maxRecDepth 100000 in
set_option maxHeartbeats 4000000 in
theorem qX12_reach_21 {p : Program} {l : Launch} {e : Env} {s : State} {m : MethodId} {args : Array Value} {below : List Frame} {meth : Method} {c : Code} {Z : ZC} {mth : Int32} {mto : Int32} {mrw : Nat → Int64} {mta : Nat → Int32} {mtp : Int32} {mat : Int32} {mtt : Int32} {mme : Nat → Int32} {mun : Int32} {mde : Int32} {mco : Nat → Int32} {mcn : Nat → Int32} {mvi : Int32} {men : Int32} {mfa : Nat → Int32} {mac : Nat → Int32} {mfi : Nat → Int32} {mse : Nat → Int32} {mtd : Nat → Int32} {mra : Int32} {mkp : Nat → Int32} {N : Nat} {p1 : Int32} {p2 : Int32} {r' : Int32} (F : CallFix p m c cX12_reach 6 s args bigW RX12) (hr : meth.sig.returnType = (some .int)) (hlk : meth.locks = false) (C : KM Z s) {k9 : Int32 → Int32 → Option (Int32)} (h9 : ∀ (x3 : Int32) (x4 : Int32), k9 x3 x4 = some r' → ∀ (H : Heap) (locs : List Loc), PM Z mth mto mrw mta mtp mat mtt mme mun mde mco mcn mvi men mfa mac mfi mse mtd mra mkp H → va_S (AM Z) s.heap H locs → ∀ ls : Array Slot, lv_has ls 6 [(0, .ref (mA Z 0)), (2, .int p2), (3, .int x3), (4, .int x4)] → W p l e (rmk 3 67) s m args below meth c H locs 0 0 (MQ below (Qi (KM Z) (AM Z) (PM Z mth mto mrw mta mtp mat mtt mme mun mde mco mcn mvi men mfa mac mfi mse mtd mra mkp) r') args s 0 0 (AM Z)) (F0 m 9 ls [])) : ∀ n : Nat, ∀ (x3 : Int32) (x4 : Int32) (x5 : Int32), fX12_reach_21 N mme mde p1 p2 k9 n x3 x4 x5 = some r' → ∀ (H : Heap) (locs : List Loc), PM Z mth mto mrw mta mtp mat mtt mme mun mde mco mcn mvi men mfa mac mfi mse mtd mra mkp H → va_S (AM Z) s.heap H locs → ∀ ls : Array Slot, lv_has ls 6 [(0, .ref (mA Z 0)), (2, .int p2), (3, .int x3), (4, .int x4), (5, .int x5)] → W p l e (rmk 3 67) s m args below meth c H locs 0 0 (MQ below (Qi (KM Z) (AM Z) (PM Z mth mto mrw mta mtp mat mtt mme mun mde mco mcn mvi men mfa mac mfi mse mtd mra mkp) r') args s 0 0 (AM Z)) (F0 m 21 ls []) := by
  intro n
  induction n with
  | zero => intro x3 x4 x5 hE; cases hE
  | succ n h21 =>
    intro x3 x4 x5 hE H locs hP hS ls hl
    have hE : fX12_reach_21b N mme mde p1 p2 k9 (fX12_reach_21 N mme mde p1 p2 k9 n) x3 x4 x5 = some r' := hE
    refine lv_iload F.1 F.2.1 dX12_reach_21 (lv_at hl 4 rfl) ?_
    refine lv_bipush (v := 24) F.1 F.2.1 dX12_reach_23 (by decide) ?_
    refine lv_icmp_ge (tgt := 61) F.1 F.2.1 dX12_reach_25 (by decide) (fun hc => ?_) (fun hc => ?_)
    · have hE := ifp hE hc
      refine lv_goto (tgt := 9) F.1 F.2.1 dX12_reach_61 (by decide) ?_
      exact h9 x3 x4 hE _ _ hP hS ls (lv_sub hl [0, 1, 2, 3] rfl)
    · have hE := ifn hE hc
      refine lv_iload_n F.1 F.2.1 dX12_reach_28 rfl (lv_at hl 2 rfl) ?_
      refine lv_iload F.1 F.2.1 dX12_reach_29 (lv_at hl 3 rfl) ?_
      refine lv_iload F.1 F.2.1 dX12_reach_31 (lv_at hl 4 rfl) ?_
      obtain ⟨r274, hc, hE⟩ := bnd1_some hE
      refine aft_i (run_S (rest := [.int x3]) F (kX12_has hc) (okM Z) C hS lkX12_171 ⟨Nat.le_of_ble_eq_true rfl, Nat.le_of_ble_eq_true rfl⟩ hP rfl hl.1 rfl (lv_room (Nat.le_of_ble_eq_true rfl)) dX12_reach_33 ⟨Nat.zero_le _, Nat.zero_le _⟩) hS (fun H locs hP hS => ?_)
      refine lv_if_eq (tgt := 52) F.1 F.2.1 dX12_reach_36 (by decide) (fun hc => ?_) (fun hc => ?_)
      · have hE := ifp hE hc
        refine lv_iconst (v := 0) F.1 F.2.1 dX12_reach_52 (by decide) ?_
        refine lv_ior F.1 F.2.1 dX12_reach_53 ?_
        refine lv_istore_n (lv' := [(3, .int (x3 ||| 0)), (0, .ref (mA Z 0)), (2, .int p2), (4, .int x4), (5, .int x5)]) F.1 F.2.1 dX12_reach_54 rfl hl (by decide) rfl (fun ls hl => ?_)
        refine lv_iinc (v := x5 + 1) (lv' := [(5, .int (x5 + 1)), (3, .int (x3 ||| 0)), (0, .ref (mA Z 0)), (2, .int p2), (4, .int x4)]) F.1 F.2.1 dX12_reach_55 hl (k := 4) rfl rfl (by decide) rfl (fun ls hl => ?_)
        refine lv_goto (tgt := 21) F.1 F.2.1 dX12_reach_58 (by decide) ?_
        exact h21 (x3 ||| 0) x4 (x5 + 1) hE _ _ hP hS ls (lv_sub hl [2, 3, 1, 4, 0] rfl)
      · have hE := ifn hE hc
        refine lv_aload_n F.1 F.2.1 dX12_reach_39 rfl (lv_at hl 0 rfl) ?_
        refine lv_iload F.1 F.2.1 dX12_reach_40 (lv_at hl 4 rfl) ?_
        obtain ⟨r275, hc, hE⟩ := bnd1_some hE
        refine aft_i (run_V (rest := [.int x3]) F (kX12_next hc) (okM Z) C hS lkX12_193 ⟨Nat.le_of_ble_eq_true rfl, Nat.le_of_ble_eq_true rfl⟩ (rvM C hP) hP rfl hl.1 rfl (lv_room (Nat.le_of_ble_eq_true rfl)) dX12_reach_42 ⟨Nat.zero_le _, Nat.zero_le _⟩) hS (fun H locs hP hS => ?_)
        refine lv_iload_n F.1 F.2.1 dX12_reach_45 rfl (lv_at hl 1 rfl) ?_
        refine lv_iconst (v := (-1)) F.1 F.2.1 dX12_reach_46 (by decide) ?_
        refine lv_ixor F.1 F.2.1 dX12_reach_47 ?_
        refine lv_iand F.1 F.2.1 dX12_reach_48 ?_
        refine lv_goto (tgt := 53) F.1 F.2.1 dX12_reach_49 (by decide) ?_
        refine lv_ior F.1 F.2.1 dX12_reach_53 ?_
        obtain ⟨v_276, ev_276, hE⟩ := lt_some hE
        refine lv_seti ev_276 ?_
        refine lv_istore_n (lv' := [(3, .int v_276), (0, .ref (mA Z 0)), (2, .int p2), (4, .int x4), (5, .int x5)]) F.1 F.2.1 dX12_reach_54 rfl hl (by decide) rfl (fun ls hl => ?_)
        refine lv_iinc (v := x5 + 1) (lv' := [(5, .int (x5 + 1)), (3, .int v_276), (0, .ref (mA Z 0)), (2, .int p2), (4, .int x4)]) F.1 F.2.1 dX12_reach_55 hl (k := 4) rfl rfl (by decide) rfl (fun ls hl => ?_)
        refine lv_goto (tgt := 21) F.1 F.2.1 dX12_reach_58 (by decide) ?_
        exact h21 v_276 x4 (x5 + 1) hE _ _ hP hS ls (lv_sub hl [2, 3, 1, 4, 0] rfl)
set_option maxRecDepth 100000 in
set_option maxHeartbeats 4000000 in
theorem qX12_reach_9 {p : Program} {l : Launch} {e : Env} {s : State} {m : MethodId} {args : Array Value} {below : List Frame} {meth : Method} {c : Code} {Z : ZC} {mth : Int32} {mto : Int32} {mrw : Nat → Int64} {mta : Nat → Int32} {mtp : Int32} {mat : Int32} {mtt : Int32} {mme : Nat → Int32} {mun : Int32} {mde : Int32} {mco : Nat → Int32} {mcn : Nat → Int32} {mvi : Int32} {men : Int32} {mfa : Nat → Int32} {mac : Nat → Int32} {mfi : Nat → Int32} {mse : Nat → Int32} {mtd : Nat → Int32} {mra : Int32} {mkp : Nat → Int32} {N : Nat} {p1 : Int32} {p2 : Int32} {r' : Int32} (F : CallFix p m c cX12_reach 6 s args bigW RX12) (hr : meth.sig.returnType = (some .int)) (hlk : meth.locks = false) (C : KM Z s) : ∀ n : Nat, ∀ (x3 : Int32) (x4 : Int32), fX12_reach_9 N mme mde p1 p2 n x3 x4 = some r' → ∀ (H : Heap) (locs : List Loc), PM Z mth mto mrw mta mtp mat mtt mme mun mde mco mcn mvi men mfa mac mfi mse mtd mra mkp H → va_S (AM Z) s.heap H locs → ∀ ls : Array Slot, lv_has ls 6 [(0, .ref (mA Z 0)), (2, .int p2), (3, .int x3), (4, .int x4)] → W p l e (rmk 3 67) s m args below meth c H locs 0 0 (MQ below (Qi (KM Z) (AM Z) (PM Z mth mto mrw mta mtp mat mtt mme mun mde mco mcn mvi men mfa mac mfi mse mtd mra mkp) r') args s 0 0 (AM Z)) (F0 m 9 ls []) := by
  intro n
  induction n with
  | zero => intro x3 x4 hE; cases hE
  | succ n h9 =>
    intro x3 x4 hE H locs hP hS ls hl
    have hE : fX12_reach_9b N mme mde p1 p2 (fX12_reach_9 N mme mde p1 p2 n) x3 x4 = some r' := hE
    refine lv_iload_n F.1 F.2.1 dX12_reach_9 rfl (lv_at hl 2 rfl) ?_
    refine lv_iload F.1 F.2.1 dX12_reach_10 (lv_at hl 3 rfl) ?_
    refine lv_icmp_eq (tgt := 64) F.1 F.2.1 dX12_reach_12 (by decide) (fun hc => ?_) (fun hc => ?_)
    · have hE := ifp hE hc
      refine lv_iload_n F.1 F.2.1 dX12_reach_64 rfl (lv_at hl 2 rfl) ?_
      obtain rfl := Option.some.inj hE
      exact ret_i F hr hlk hP hS dX12_reach_65
    · have hE := ifn hE hc
      refine lv_iload_n F.1 F.2.1 dX12_reach_15 rfl (lv_at hl 2 rfl) ?_
      refine lv_istore (lv' := [(4, .int x3), (0, .ref (mA Z 0)), (2, .int p2), (3, .int x3)]) F.1 F.2.1 dX12_reach_16 hl (by decide) rfl (fun ls hl => ?_)
      refine lv_iconst (v := 0) F.1 F.2.1 dX12_reach_18 (by decide) ?_
      refine lv_istore (lv' := [(5, .int 0), (4, .int x3), (0, .ref (mA Z 0)), (2, .int p2), (3, .int x3)]) F.1 F.2.1 dX12_reach_19 hl (by decide) rfl (fun ls hl => ?_)
      exact qX12_reach_21 F hr hlk C h9 N x3 x3 0 hE _ _ hP hS ls (lv_sub hl [2, 3, 4, 1, 0] rfl)
set_option maxRecDepth 100000 in
set_option maxHeartbeats 4000000 in
theorem kX12_reach {l : Launch} {Z : ZC} {mth : Int32} {mto : Int32} {mrw : Nat → Int64} {mta : Nat → Int32} {mtp : Int32} {mat : Int32} {mtt : Int32} {mme : Nat → Int32} {mun : Int32} {mde : Int32} {mco : Nat → Int32} {mcn : Nat → Int32} {mvi : Int32} {men : Int32} {mfa : Nat → Int32} {mac : Nat → Int32} {mfi : Nat → Int32} {mse : Nat → Int32} {mtd : Nat → Int32} {mra : Int32} {mkp : Nat → Int32} {N : Nat} {p1 : Int32} {p2 : Int32} {r' : Int32} (hE : fX12_reach N mme mde p1 p2 = some r') : Mg l yX12_reach cX12_reach 6 (some .int) (rmk 3 67) (KM Z) (AM Z) [.ref (mA Z 0), .int p1, .int p2] (PM Z mth mto mrw mta mtp mat mtt mme mun mde mco mcn mvi men mfa mac mfi mse mtd mra mkp) (Qi (KM Z) (AM Z) (PM Z mth mto mrw mta mtp mat mtt mme mun mde mco mcn mvi men mfa mac mfi mse mtd mra mkp) r') := by
  refine Mg.start (lv := [(0, .ref (mA Z 0)), (1, .int p1), (2, .int p2)]) (by decide) rfl (Nat.le_of_ble_eq_true rfl) rfl ?_
  intro p e s m below meth c F hr hlk C hP ls hl
  have hS : va_S (AM Z) s.heap s.heap [] := va_S.rf
  unfold fX12_reach at hE
  refine lv_iload_n F.1 F.2.1 dX12_reach_0 rfl (lv_at hl 1 rfl) ?_
  refine lv_iload_n F.1 F.2.1 dX12_reach_1 rfl (lv_at hl 2 rfl) ?_
  refine lv_iconst (v := (-1)) F.1 F.2.1 dX12_reach_2 (by decide) ?_
  refine lv_ixor F.1 F.2.1 dX12_reach_3 ?_
  refine lv_iand F.1 F.2.1 dX12_reach_4 ?_
  refine lv_istore_n (lv' := [(3, .int (p1 &&& (p2 ^^^ (-1)))), (0, .ref (mA Z 0)), (1, .int p1), (2, .int p2)]) F.1 F.2.1 dX12_reach_5 rfl hl (by decide) rfl (fun ls hl => ?_)
  refine lv_iconst (v := (-1)) F.1 F.2.1 dX12_reach_6 (by decide) ?_
  refine lv_istore (lv' := [(4, .int (-1)), (3, .int (p1 &&& (p2 ^^^ (-1)))), (0, .ref (mA Z 0)), (1, .int p1), (2, .int p2)]) F.1 F.2.1 dX12_reach_7 hl (by decide) rfl (fun ls hl => ?_)
  exact qX12_reach_9 F hr hlk C N (p1 &&& (p2 ^^^ (-1))) (-1) hE _ _ hP hS ls (lv_sub hl [2, 4, 1, 0] rfl)
set_option maxRecDepth 100000 in
set_option maxHeartbeats 4000000 in
theorem qX12_inRoots_37 {p : Program} {l : Launch} {e : Env} {s : State} {m : MethodId} {args : Array Value} {below : List Frame} {meth : Method} {c : Code} {Z : ZC} {mth : Int32} {mto : Int32} {mrw : Nat → Int64} {mta : Nat → Int32} {mtp : Int32} {mat : Int32} {mtt : Int32} {mme : Nat → Int32} {mun : Int32} {mde : Int32} {mco : Nat → Int32} {mcn : Nat → Int32} {mvi : Int32} {men : Int32} {mfa : Nat → Int32} {mac : Nat → Int32} {mfi : Nat → Int32} {mse : Nat → Int32} {mtd : Nat → Int32} {mra : Int32} {mkp : Nat → Int32} {N : Nat} {p1 : Int32} {r' : Int32} (F : CallFix p m c cX12_inRoots 4 s args bigW RX12) (hr : meth.sig.returnType = (some .int)) (hlk : meth.locks = false) (C : KM Z s) {k4 : Int32 → Int32 → Option (Int32)} (h4 : ∀ (x2 : Int32) (x3 : Int32), k4 x2 x3 = some r' → ∀ (H : Heap) (locs : List Loc), PM Z mth mto mrw mta mtp mat mtt mme mun mde mco mcn mvi men mfa mac mfi mse mtd mra mkp H → va_S (AM Z) s.heap H locs → ∀ ls : Array Slot, lv_has ls 4 [(0, .ref (mA Z 0)), (1, .int p1), (2, .int x2), (3, .int x3)] → W p l e (rmk 1 21) s m args below meth c H locs 0 0 (MQ below (Qi (KM Z) (AM Z) (PM Z mth mto mrw mta mtp mat mtt mme mun mde mco mcn mvi men mfa mac mfi mse mtd mra mkp) r') args s 0 0 (AM Z)) (F0 m 4 ls [])) : ∀ (x3 : Int32) (y0 : Int32), fX12_inRoots_37 N mme mde p1 k4 x3 y0 = some r' → ∀ (H : Heap) (locs : List Loc), PM Z mth mto mrw mta mtp mat mtt mme mun mde mco mcn mvi men mfa mac mfi mse mtd mra mkp H → va_S (AM Z) s.heap H locs → ∀ ls : Array Slot, lv_has ls 4 [(0, .ref (mA Z 0)), (1, .int p1), (3, .int x3)] → W p l e (rmk 1 21) s m args below meth c H locs 0 0 (MQ below (Qi (KM Z) (AM Z) (PM Z mth mto mrw mta mtp mat mtt mme mun mde mco mcn mvi men mfa mac mfi mse mtd mra mkp) r') args s 0 0 (AM Z)) (F0 m 37 ls [.int y0]) := by
  intro x3 y0 hE H locs hP hS ls hl
  unfold fX12_inRoots_37 at hE
  refine lv_iconst (v := 0) F.1 F.2.1 dX12_inRoots_37 (by decide) ?_
  refine lv_ior F.1 F.2.1 dX12_inRoots_38 ?_
  refine lv_istore_n (lv' := [(2, .int (y0 ||| 0)), (0, .ref (mA Z 0)), (1, .int p1), (3, .int x3)]) F.1 F.2.1 dX12_inRoots_39 rfl hl (by decide) rfl (fun ls hl => ?_)
  refine lv_iinc (v := x3 + 1) (lv' := [(3, .int (x3 + 1)), (2, .int (y0 ||| 0)), (0, .ref (mA Z 0)), (1, .int p1)]) F.1 F.2.1 dX12_inRoots_40 hl (k := 3) rfl rfl (by decide) rfl (fun ls hl => ?_)
  refine lv_goto (tgt := 4) F.1 F.2.1 dX12_inRoots_43 (by decide) ?_
  exact h4 (y0 ||| 0) (x3 + 1) hE _ _ hP hS ls (lv_sub hl [2, 3, 1, 0] rfl)
set_option maxRecDepth 100000 in
set_option maxHeartbeats 4000000 in
theorem qX12_inRoots_4 {p : Program} {l : Launch} {e : Env} {s : State} {m : MethodId} {args : Array Value} {below : List Frame} {meth : Method} {c : Code} {Z : ZC} {mth : Int32} {mto : Int32} {mrw : Nat → Int64} {mta : Nat → Int32} {mtp : Int32} {mat : Int32} {mtt : Int32} {mme : Nat → Int32} {mun : Int32} {mde : Int32} {mco : Nat → Int32} {mcn : Nat → Int32} {mvi : Int32} {men : Int32} {mfa : Nat → Int32} {mac : Nat → Int32} {mfi : Nat → Int32} {mse : Nat → Int32} {mtd : Nat → Int32} {mra : Int32} {mkp : Nat → Int32} {N : Nat} {p1 : Int32} {r' : Int32} (F : CallFix p m c cX12_inRoots 4 s args bigW RX12) (hr : meth.sig.returnType = (some .int)) (hlk : meth.locks = false) (C : KM Z s) : ∀ n : Nat, ∀ (x2 : Int32) (x3 : Int32), fX12_inRoots_4 N mme mde p1 n x2 x3 = some r' → ∀ (H : Heap) (locs : List Loc), PM Z mth mto mrw mta mtp mat mtt mme mun mde mco mcn mvi men mfa mac mfi mse mtd mra mkp H → va_S (AM Z) s.heap H locs → ∀ ls : Array Slot, lv_has ls 4 [(0, .ref (mA Z 0)), (1, .int p1), (2, .int x2), (3, .int x3)] → W p l e (rmk 1 21) s m args below meth c H locs 0 0 (MQ below (Qi (KM Z) (AM Z) (PM Z mth mto mrw mta mtp mat mtt mme mun mde mco mcn mvi men mfa mac mfi mse mtd mra mkp) r') args s 0 0 (AM Z)) (F0 m 4 ls []) := by
  intro n
  induction n with
  | zero => intro x2 x3 hE; cases hE
  | succ n h4 =>
    intro x2 x3 hE H locs hP hS ls hl
    have hE : fX12_inRoots_4b N mme mde p1 (fX12_inRoots_4 N mme mde p1 n) x2 x3 = some r' := hE
    refine lv_iload_n F.1 F.2.1 dX12_inRoots_4 rfl (lv_at hl 3 rfl) ?_
    refine lv_bipush (v := 6) F.1 F.2.1 dX12_inRoots_5 (by decide) ?_
    refine lv_icmp_ge (tgt := 46) F.1 F.2.1 dX12_inRoots_7 (by decide) (fun hc => ?_) (fun hc => ?_)
    · have hE := ifp hE hc
      refine lv_iload_n F.1 F.2.1 dX12_inRoots_46 rfl (lv_at hl 2 rfl) ?_
      obtain rfl := Option.some.inj hE
      exact ret_i F hr hlk hP hS dX12_inRoots_47
    · have hE := ifn hE hc
      refine lv_iload_n F.1 F.2.1 dX12_inRoots_10 rfl (lv_at hl 2 rfl) ?_
      refine lv_iload_n F.1 F.2.1 dX12_inRoots_11 rfl (lv_at hl 1 rfl) ?_
      refine lv_iload_n F.1 F.2.1 dX12_inRoots_12 rfl (lv_at hl 3 rfl) ?_
      obtain ⟨r280, hc, hE⟩ := bnd1_some hE
      refine aft_i (run_S (rest := [.int x2]) F (kX12_has hc) (okM Z) C hS lkX12_171 ⟨Nat.le_of_ble_eq_true rfl, Nat.le_of_ble_eq_true rfl⟩ hP rfl hl.1 rfl (lv_room (Nat.le_of_ble_eq_true rfl)) dX12_inRoots_13 ⟨Nat.zero_le _, Nat.zero_le _⟩) hS (fun H locs hP hS => ?_)
      refine lv_if_ne (tgt := 37) F.1 F.2.1 dX12_inRoots_16 (by decide) (fun hc => ?_) (fun hc => ?_)
      · have hE := ifn hE hc
        exact qX12_inRoots_37 F hr hlk C h4 x3 x2 hE _ _ hP hS ls (lv_sub hl [0, 1, 3] rfl)
      · have hE := ifp hE hc
        refine lv_aload_n F.1 F.2.1 dX12_inRoots_19 rfl (lv_at hl 0 rfl) ?_
        refine lv_iload_n F.1 F.2.1 dX12_inRoots_20 rfl (lv_at hl 3 rfl) ?_
        obtain ⟨r281, hc, hE⟩ := bnd1_some hE
        refine aft_i (run_V (rest := [.int x2]) F (kX12_rootOf hc) (okM Z) C hS lkX12_131 ⟨Nat.le_of_ble_eq_true rfl, Nat.le_of_ble_eq_true rfl⟩ (rvM C hP) hP rfl hl.1 rfl (lv_room (Nat.le_of_ble_eq_true rfl)) dX12_inRoots_21 ⟨Nat.zero_le _, Nat.zero_le _⟩) hS (fun H locs hP hS => ?_)
        refine lv_if_lt (tgt := 37) F.1 F.2.1 dX12_inRoots_24 (by decide) (fun hc => ?_) (fun hc => ?_)
        · have hE := ifp hE hc
          exact qX12_inRoots_37 F hr hlk C h4 x3 x2 hE _ _ hP hS ls (lv_sub hl [0, 1, 3] rfl)
        · have hE := ifn hE hc
          refine lv_iconst (v := 1) F.1 F.2.1 dX12_inRoots_27 (by decide) ?_
          refine lv_aload_n F.1 F.2.1 dX12_inRoots_28 rfl (lv_at hl 0 rfl) ?_
          refine lv_iload_n F.1 F.2.1 dX12_inRoots_29 rfl (lv_at hl 3 rfl) ?_
          obtain ⟨r282, hc, hE⟩ := bnd1_some hE
          refine aft_i (run_V (rest := [.int 1, .int x2]) F (kX12_rootOf hc) (okM Z) C hS lkX12_131 ⟨Nat.le_of_ble_eq_true rfl, Nat.le_of_ble_eq_true rfl⟩ (rvM C hP) hP rfl hl.1 rfl (lv_room (Nat.le_of_ble_eq_true rfl)) dX12_inRoots_30 ⟨Nat.zero_le _, Nat.zero_le _⟩) hS (fun H locs hP hS => ?_)
          refine rj_ishl F.1 F.2.1 dX12_inRoots_33 ?_
          refine lv_goto (tgt := 38) F.1 F.2.1 dX12_inRoots_34 (by decide) ?_
          refine lv_ior F.1 F.2.1 dX12_inRoots_38 ?_
          refine lv_istore_n (lv' := [(2, .int (x2 ||| (jshl 1 r282))), (0, .ref (mA Z 0)), (1, .int p1), (3, .int x3)]) F.1 F.2.1 dX12_inRoots_39 rfl hl (by decide) rfl (fun ls hl => ?_)
          refine lv_iinc (v := x3 + 1) (lv' := [(3, .int (x3 + 1)), (2, .int (x2 ||| (jshl 1 r282))), (0, .ref (mA Z 0)), (1, .int p1)]) F.1 F.2.1 dX12_inRoots_40 hl (k := 3) rfl rfl (by decide) rfl (fun ls hl => ?_)
          refine lv_goto (tgt := 4) F.1 F.2.1 dX12_inRoots_43 (by decide) ?_
          exact h4 (x2 ||| (jshl 1 r282)) (x3 + 1) hE _ _ hP hS ls (lv_sub hl [2, 3, 1, 0] rfl)
set_option maxRecDepth 100000 in
set_option maxHeartbeats 4000000 in
theorem kX12_inRoots {l : Launch} {Z : ZC} {mth : Int32} {mto : Int32} {mrw : Nat → Int64} {mta : Nat → Int32} {mtp : Int32} {mat : Int32} {mtt : Int32} {mme : Nat → Int32} {mun : Int32} {mde : Int32} {mco : Nat → Int32} {mcn : Nat → Int32} {mvi : Int32} {men : Int32} {mfa : Nat → Int32} {mac : Nat → Int32} {mfi : Nat → Int32} {mse : Nat → Int32} {mtd : Nat → Int32} {mra : Int32} {mkp : Nat → Int32} {N : Nat} {p1 : Int32} {r' : Int32} (hE : fX12_inRoots N mme mde p1 = some r') : Mg l yX12_inRoots cX12_inRoots 4 (some .int) (rmk 1 21) (KM Z) (AM Z) [.ref (mA Z 0), .int p1] (PM Z mth mto mrw mta mtp mat mtt mme mun mde mco mcn mvi men mfa mac mfi mse mtd mra mkp) (Qi (KM Z) (AM Z) (PM Z mth mto mrw mta mtp mat mtt mme mun mde mco mcn mvi men mfa mac mfi mse mtd mra mkp) r') := by
  refine Mg.start (lv := [(0, .ref (mA Z 0)), (1, .int p1)]) (by decide) rfl (Nat.le_of_ble_eq_true rfl) rfl ?_
  intro p e s m below meth c F hr hlk C hP ls hl
  have hS : va_S (AM Z) s.heap s.heap [] := va_S.rf
  unfold fX12_inRoots at hE
  refine lv_iconst (v := 0) F.1 F.2.1 dX12_inRoots_0 (by decide) ?_
  refine lv_istore_n (lv' := [(2, .int 0), (0, .ref (mA Z 0)), (1, .int p1)]) F.1 F.2.1 dX12_inRoots_1 rfl hl (by decide) rfl (fun ls hl => ?_)
  refine lv_iconst (v := 0) F.1 F.2.1 dX12_inRoots_2 (by decide) ?_
  refine lv_istore_n (lv' := [(3, .int 0), (2, .int 0), (0, .ref (mA Z 0)), (1, .int p1)]) F.1 F.2.1 dX12_inRoots_3 rfl hl (by decide) rfl (fun ls hl => ?_)
  exact qX12_inRoots_4 F hr hlk C N 0 0 hE _ _ hP hS ls (lv_sub hl [2, 3, 1, 0] rfl)
set_option maxRecDepth 100000 in
set_option maxHeartbeats 4000000 in
theorem kX12_reached {l : Launch} {Z : ZC} {mth : Int32} {mto : Int32} {mrw : Nat → Int64} {mta : Nat → Int32} {mtp : Int32} {mat : Int32} {mtt : Int32} {mme : Nat → Int32} {mun : Int32} {mde : Int32} {mco : Nat → Int32} {mcn : Nat → Int32} {mvi : Int32} {men : Int32} {mfa : Nat → Int32} {mac : Nat → Int32} {mfi : Nat → Int32} {mse : Nat → Int32} {mtd : Nat → Int32} {mra : Int32} {mkp : Nat → Int32} {N : Nat} {r' : Int32} (hE : fX12_reached N mme mde = some r') : Mg l yX12_reached cX12_reached 1 (some .int) (rmk 4 92) (KM Z) (AM Z) [.ref (mA Z 0)] (PM Z mth mto mrw mta mtp mat mtt mme mun mde mco mcn mvi men mfa mac mfi mse mtd mra mkp) (Qi (KM Z) (AM Z) (PM Z mth mto mrw mta mtp mat mtt mme mun mde mco mcn mvi men mfa mac mfi mse mtd mra mkp) r') := by
  refine Mg.start (lv := [(0, .ref (mA Z 0))]) (by decide) rfl (Nat.le_of_ble_eq_true rfl) rfl ?_
  intro p e s m below meth c F hr hlk C hP ls hl
  have hS : va_S (AM Z) s.heap s.heap [] := va_S.rf
  unfold fX12_reached at hE
  refine lv_aload_n F.1 F.2.1 dX12_reached_0 rfl (lv_at hl 0 rfl) ?_
  refine lv_aload_n F.1 F.2.1 dX12_reached_1 rfl (lv_at hl 0 rfl) ?_
  refine lv_iconst (v := 0) F.1 F.2.1 dX12_reached_2 (by decide) ?_
  obtain ⟨r285, hc, hE⟩ := bnd1_some hE
  refine aft_i (run_V (rest := [.ref (mA Z 0)]) F (kX12_inRoots hc) (okM Z) C hS lkX12_196 ⟨Nat.le_of_ble_eq_true rfl, Nat.le_of_ble_eq_true rfl⟩ (rvM C hP) hP rfl hl.1 rfl (lv_room (Nat.le_of_ble_eq_true rfl)) dX12_reached_3 ⟨Nat.zero_le _, Nat.zero_le _⟩) hS (fun H locs hP hS => ?_)
  refine lv_iconst (v := 0) F.1 F.2.1 dX12_reached_6 (by decide) ?_
  obtain ⟨r286, hc, hE⟩ := bnd1_some hE
  refine aft_i (run_V (rest := []) F (kX12_reach hc) (okM Z) C hS lkX12_199 ⟨Nat.le_of_ble_eq_true rfl, Nat.le_of_ble_eq_true rfl⟩ (rvM C hP) hP rfl hl.1 rfl (lv_room (Nat.le_of_ble_eq_true rfl)) dX12_reached_7 ⟨Nat.zero_le _, Nat.zero_le _⟩) hS (fun H locs hP hS => ?_)
  obtain rfl := Option.some.inj hE
  exact ret_i F hr hlk hP hS dX12_reached_10
set_option maxRecDepth 100000 in
set_option maxHeartbeats 4000000 in
theorem kX12_isReached {l : Launch} {Z : ZC} {mth : Int32} {mto : Int32} {mrw : Nat → Int64} {mta : Nat → Int32} {mtp : Int32} {mat : Int32} {mtt : Int32} {mme : Nat → Int32} {mun : Int32} {mde : Int32} {mco : Nat → Int32} {mcn : Nat → Int32} {mvi : Int32} {men : Int32} {mfa : Nat → Int32} {mac : Nat → Int32} {mfi : Nat → Int32} {mse : Nat → Int32} {mtd : Nat → Int32} {mra : Int32} {mkp : Nat → Int32} {N : Nat} {p1 : Int32} {r' : Int32} (hE : fX12_isReached N mme mde p1 = some r') : Mg l yX12_isReached cX12_isReached 2 (some .boolean) (rmk 5 112) (KM Z) (AM Z) [.ref (mA Z 0), .int p1] (PM Z mth mto mrw mta mtp mat mtt mme mun mde mco mcn mvi men mfa mac mfi mse mtd mra mkp) (Qi (KM Z) (AM Z) (PM Z mth mto mrw mta mtp mat mtt mme mun mde mco mcn mvi men mfa mac mfi mse mtd mra mkp) r') := by
  refine Mg.start (lv := [(0, .ref (mA Z 0)), (1, .int p1)]) (by decide) rfl (Nat.le_of_ble_eq_true rfl) rfl ?_
  intro p e s m below meth c F hr hlk C hP ls hl
  have hS : va_S (AM Z) s.heap s.heap [] := va_S.rf
  unfold fX12_isReached at hE
  refine lv_aload_n F.1 F.2.1 dX12_isReached_0 rfl (lv_at hl 0 rfl) ?_
  obtain ⟨r289, hc, hE⟩ := bnd1_some hE
  refine aft_i (run_V (rest := []) F (kX12_reached hc) (okM Z) C hS lkX12_202 ⟨Nat.le_of_ble_eq_true rfl, Nat.le_of_ble_eq_true rfl⟩ (rvM C hP) hP rfl hl.1 rfl (lv_room (Nat.le_of_ble_eq_true rfl)) dX12_isReached_1 ⟨Nat.zero_le _, Nat.zero_le _⟩) hS (fun H locs hP hS => ?_)
  refine lv_iload_n F.1 F.2.1 dX12_isReached_4 rfl (lv_at hl 1 rfl) ?_
  obtain ⟨r290, hc, hE⟩ := bnd1_some hE
  refine aft_i (run_S (rest := []) F (kX12_has hc) (okM Z) C hS lkX12_171 ⟨Nat.le_of_ble_eq_true rfl, Nat.le_of_ble_eq_true rfl⟩ hP rfl hl.1 rfl (lv_room (Nat.le_of_ble_eq_true rfl)) dX12_isReached_5 ⟨Nat.zero_le _, Nat.zero_le _⟩) hS (fun H locs hP hS => ?_)
  obtain ⟨hi, hE⟩ := grd_some hE
  obtain rfl := Option.some.inj hE
  exact ret_z F hr (isb_n hi) hlk hP hS dX12_isReached_8
set_option maxRecDepth 100000 in
set_option maxHeartbeats 4000000 in
theorem qX12_thereAll_4 {p : Program} {l : Launch} {e : Env} {s : State} {m : MethodId} {args : Array Value} {below : List Frame} {meth : Method} {c : Code} {Z : ZC} {mth : Int32} {mto : Int32} {mrw : Nat → Int64} {mta : Nat → Int32} {mtp : Int32} {mat : Int32} {mtt : Int32} {mme : Nat → Int32} {mun : Int32} {mde : Int32} {mco : Nat → Int32} {mcn : Nat → Int32} {mvi : Int32} {men : Int32} {mfa : Nat → Int32} {mac : Nat → Int32} {mfi : Nat → Int32} {mse : Nat → Int32} {mtd : Nat → Int32} {mra : Int32} {mkp : Nat → Int32} {N : Nat} {r' : Int32} (F : CallFix p m c cX12_thereAll 3 s args bigW RX12) (hr : meth.sig.returnType = (some .int)) (hlk : meth.locks = false) (C : KM Z s) : ∀ n : Nat, ∀ (x1 : Int32) (x2 : Int32), fX12_thereAll_4 N mme mde n x1 x2 = some r' → ∀ (H : Heap) (locs : List Loc), PM Z mth mto mrw mta mtp mat mtt mme mun mde mco mcn mvi men mfa mac mfi mse mtd mra mkp H → va_S (AM Z) s.heap H locs → ∀ ls : Array Slot, lv_has ls 3 [(0, .ref (mA Z 0)), (1, .int x1), (2, .int x2)] → W p l e (rmk 1 22) s m args below meth c H locs 0 0 (MQ below (Qi (KM Z) (AM Z) (PM Z mth mto mrw mta mtp mat mtt mme mun mde mco mcn mvi men mfa mac mfi mse mtd mra mkp) r') args s 0 0 (AM Z)) (F0 m 4 ls []) := by
  intro n
  induction n with
  | zero => intro x1 x2 hE; cases hE
  | succ n h4 =>
    intro x1 x2 hE H locs hP hS ls hl
    have hE : fX12_thereAll_4b N mme mde (fX12_thereAll_4 N mme mde n) x1 x2 = some r' := hE
    refine lv_iload_n F.1 F.2.1 dX12_thereAll_4 rfl (lv_at hl 2 rfl) ?_
    refine lv_bipush (v := 24) F.1 F.2.1 dX12_thereAll_5 (by decide) ?_
    refine lv_icmp_ge (tgt := 27) F.1 F.2.1 dX12_thereAll_7 (by decide) (fun hc => ?_) (fun hc => ?_)
    · have hE := ifp hE hc
      refine lv_iload_n F.1 F.2.1 dX12_thereAll_27 rfl (lv_at hl 1 rfl) ?_
      obtain rfl := Option.some.inj hE
      exact ret_i F hr hlk hP hS dX12_thereAll_28
    · have hE := ifn hE hc
      refine lv_iload_n F.1 F.2.1 dX12_thereAll_10 rfl (lv_at hl 1 rfl) ?_
      refine lv_aload_n F.1 F.2.1 dX12_thereAll_11 rfl (lv_at hl 0 rfl) ?_
      refine lv_iload_n F.1 F.2.1 dX12_thereAll_12 rfl (lv_at hl 2 rfl) ?_
      refine lv_iconst (v := 0) F.1 F.2.1 dX12_thereAll_13 (by decide) ?_
      obtain ⟨r292, hc, hE⟩ := bnd1_some hE
      refine aft_i (run_V (rest := [.int x1]) F (kX12_of hc) (okM Z) C hS lkX12_91 ⟨Nat.le_of_ble_eq_true rfl, Nat.le_of_ble_eq_true rfl⟩ (rvM C hP) hP rfl hl.1 rfl (lv_room (Nat.le_of_ble_eq_true rfl)) dX12_thereAll_14 ⟨Nat.zero_le _, Nat.zero_le _⟩) hS (fun H locs hP hS => ?_)
      refine lv_iload_n F.1 F.2.1 dX12_thereAll_17 rfl (lv_at hl 2 rfl) ?_
      refine rj_ishl F.1 F.2.1 dX12_thereAll_18 ?_
      refine lv_ior F.1 F.2.1 dX12_thereAll_19 ?_
      refine lv_istore_n (lv' := [(1, .int (x1 ||| (jshl r292 x2))), (0, .ref (mA Z 0)), (2, .int x2)]) F.1 F.2.1 dX12_thereAll_20 rfl hl (by decide) rfl (fun ls hl => ?_)
      refine lv_iinc (v := x2 + 1) (lv' := [(2, .int (x2 + 1)), (1, .int (x1 ||| (jshl r292 x2))), (0, .ref (mA Z 0))]) F.1 F.2.1 dX12_thereAll_21 hl (k := 2) rfl rfl (by decide) rfl (fun ls hl => ?_)
      refine lv_goto (tgt := 4) F.1 F.2.1 dX12_thereAll_24 (by decide) ?_
      exact h4 (x1 ||| (jshl r292 x2)) (x2 + 1) hE _ _ hP hS ls (lv_sub hl [2, 1, 0] rfl)
set_option maxRecDepth 100000 in
set_option maxHeartbeats 4000000 in
theorem kX12_thereAll {l : Launch} {Z : ZC} {mth : Int32} {mto : Int32} {mrw : Nat → Int64} {mta : Nat → Int32} {mtp : Int32} {mat : Int32} {mtt : Int32} {mme : Nat → Int32} {mun : Int32} {mde : Int32} {mco : Nat → Int32} {mcn : Nat → Int32} {mvi : Int32} {men : Int32} {mfa : Nat → Int32} {mac : Nat → Int32} {mfi : Nat → Int32} {mse : Nat → Int32} {mtd : Nat → Int32} {mra : Int32} {mkp : Nat → Int32} {N : Nat} {r' : Int32} (hE : fX12_thereAll N mme mde = some r') : Mg l yX12_thereAll cX12_thereAll 3 (some .int) (rmk 1 22) (KM Z) (AM Z) [.ref (mA Z 0)] (PM Z mth mto mrw mta mtp mat mtt mme mun mde mco mcn mvi men mfa mac mfi mse mtd mra mkp) (Qi (KM Z) (AM Z) (PM Z mth mto mrw mta mtp mat mtt mme mun mde mco mcn mvi men mfa mac mfi mse mtd mra mkp) r') := by
  refine Mg.start (lv := [(0, .ref (mA Z 0))]) (by decide) rfl (Nat.le_of_ble_eq_true rfl) rfl ?_
  intro p e s m below meth c F hr hlk C hP ls hl
  have hS : va_S (AM Z) s.heap s.heap [] := va_S.rf
  unfold fX12_thereAll at hE
  refine lv_iconst (v := 0) F.1 F.2.1 dX12_thereAll_0 (by decide) ?_
  refine lv_istore_n (lv' := [(1, .int 0), (0, .ref (mA Z 0))]) F.1 F.2.1 dX12_thereAll_1 rfl hl (by decide) rfl (fun ls hl => ?_)
  refine lv_iconst (v := 0) F.1 F.2.1 dX12_thereAll_2 (by decide) ?_
  refine lv_istore_n (lv' := [(2, .int 0), (1, .int 0), (0, .ref (mA Z 0))]) F.1 F.2.1 dX12_thereAll_3 rfl hl (by decide) rfl (fun ls hl => ?_)
  exact qX12_thereAll_4 F hr hlk C N 0 0 hE _ _ hP hS ls (lv_sub hl [2, 1, 0] rfl)
set_option maxRecDepth 100000 in
set_option maxHeartbeats 4000000 in
theorem qX12_makesOne_172 {p : Program} {l : Launch} {e : Env} {s : State} {m : MethodId} {args : Array Value} {below : List Frame} {meth : Method} {c : Code} {Z : ZC} {mth : Int32} {mto : Int32} {mrw : Nat → Int64} {mta : Nat → Int32} {mtp : Int32} {mat : Int32} {mtt : Int32} {mun : Int32} {mde : Int32} {men : Int32} {mfa : Nat → Int32} {mac : Nat → Int32} {mfi : Nat → Int32} {mse : Nat → Int32} {mtd : Nat → Int32} {mra : Int32} {mkp : Nat → Int32} {N : Nat} {p1 : Int32} {p2 : Int32} {p3 : Int32} {p4 : Int32} {r' : Int32} {mme' : Nat → Int32} {mco' : Nat → Int32} {mcn' : Nat → Int32} {mvi' : Int32} (F : CallFix p m c cX12_makesOne 7 s args bigW RX12) (hr : meth.sig.returnType = (some .int)) (hlk : meth.locks = false) (C : KM Z s) : ∀ (mme : Nat → Int32) (mco : Nat → Int32) (mcn : Nat → Int32) (mvi : Int32) (x5 : Int32), fX12_makesOne_172 N mde p1 p2 p3 p4 mme mco mcn mvi x5 = some (r', mme', mco', mcn', mvi') → ∀ (H : Heap) (locs : List Loc), PM Z mth mto mrw mta mtp mat mtt mme mun mde mco mcn mvi men mfa mac mfi mse mtd mra mkp H → va_S (AM Z) s.heap H locs → ∀ ls : Array Slot, lv_has ls 7 [(0, .ref (mA Z 0)), (4, .int p4), (5, .int x5)] → W p l e (rmk 206 4882) s m args below meth c H locs 0 0 (MQ below (Qi (KM Z) (AM Z) (PM Z mth mto mrw mta mtp mat mtt mme' mun mde mco' mcn' mvi' men mfa mac mfi mse mtd mra mkp) r') args s 0 0 (AM Z)) (F0 m 172 ls []) := by
  intro mme mco mcn mvi x5 hE H locs hP hS ls hl
  unfold fX12_makesOne_172 at hE
  refine lv_aload_n F.1 F.2.1 dX12_makesOne_172 rfl (lv_at hl 0 rfl) ?_
  refine lv_iconst (v := 0) F.1 F.2.1 dX12_makesOne_173 (by decide) ?_
  refine lv_iload F.1 F.2.1 dX12_makesOne_174 (lv_at hl 2 rfl) ?_
  obtain ⟨mme_322, hc, hE⟩ := bnd1_some hE
  refine aft_v (run_V (rest := []) F (kX12_logs hc) (okM Z) C hS lkX12_125 ⟨Nat.le_of_ble_eq_true rfl, Nat.le_of_ble_eq_true rfl⟩ (rvM C hP) hP rfl hl.1 rfl (lv_room (Nat.le_of_ble_eq_true rfl)) dX12_makesOne_176 ⟨Nat.zero_le _, Nat.zero_le _⟩) hS (fun H locs hP hS => ?_)
  refine lv_aload_n F.1 F.2.1 dX12_makesOne_179 rfl (lv_at hl 0 rfl) ?_
  refine lv_iload F.1 F.2.1 dX12_makesOne_180 (lv_at hl 1 rfl) ?_
  refine lv_iload F.1 F.2.1 dX12_makesOne_182 (lv_at hl 2 rfl) ?_
  obtain ⟨mme_323, hc, hE⟩ := bnd1_some hE
  refine aft_v (run_V (rest := []) F (kX12_laysRoot hc) (okM Z) C hS lkX12_128 ⟨Nat.le_of_ble_eq_true rfl, Nat.le_of_ble_eq_true rfl⟩ (rvM C hP) hP rfl hl.1 rfl (lv_room (Nat.le_of_ble_eq_true rfl)) dX12_makesOne_184 ⟨Nat.zero_le _, Nat.zero_le _⟩) hS (fun H locs hP hS => ?_)
  refine lv_aload_n F.1 F.2.1 dX12_makesOne_187 rfl (lv_at hl 0 rfl) ?_
  obtain ⟨mme_324, mco_324, mcn_324, mvi_324, hc, hE⟩ := bnd4_some hE
  refine aft_v (run_V (rest := []) F (kX12_isActed hc) (okM Z) C hS lkX12_213 ⟨Nat.le_of_ble_eq_true rfl, Nat.le_of_ble_eq_true rfl⟩ (rvM C hP) hP rfl hl.1 rfl (lv_room (Nat.le_of_ble_eq_true rfl)) dX12_makesOne_188 ⟨Nat.zero_le _, Nat.zero_le _⟩) hS (fun H locs hP hS => ?_)
  refine lv_iload F.1 F.2.1 dX12_makesOne_191 (lv_at hl 2 rfl) ?_
  have w0 := Option.some.inj hE
  obtain ⟨g0, w1⟩ := Prod.mk.inj w0
  obtain ⟨g1, w2⟩ := Prod.mk.inj w1
  obtain ⟨g2, w3⟩ := Prod.mk.inj w2
  obtain ⟨g3, w4⟩ := Prod.mk.inj w3
  subst g0 g1 g2 g3 w4
  exact ret_i F hr hlk hP hS dX12_makesOne_193
set_option maxRecDepth 100000 in
set_option maxHeartbeats 4000000 in
theorem qX12_makesOne_148 {p : Program} {l : Launch} {e : Env} {s : State} {m : MethodId} {args : Array Value} {below : List Frame} {meth : Method} {c : Code} {Z : ZC} {mth : Int32} {mto : Int32} {mrw : Nat → Int64} {mta : Nat → Int32} {mtp : Int32} {mat : Int32} {mtt : Int32} {mun : Int32} {mde : Int32} {men : Int32} {mfa : Nat → Int32} {mac : Nat → Int32} {mfi : Nat → Int32} {mse : Nat → Int32} {mtd : Nat → Int32} {mra : Int32} {mkp : Nat → Int32} {N : Nat} {p1 : Int32} {p2 : Int32} {p3 : Int32} {p4 : Int32} {r' : Int32} {mme' : Nat → Int32} {mco' : Nat → Int32} {mcn' : Nat → Int32} {mvi' : Int32} (F : CallFix p m c cX12_makesOne 7 s args bigW RX12) (hr : meth.sig.returnType = (some .int)) (hlk : meth.locks = false) (C : KM Z s) : ∀ n : Nat, ∀ (mme : Nat → Int32) (mco : Nat → Int32) (mcn : Nat → Int32) (mvi : Int32) (x5 : Int32) (x6 : Int32), fX12_makesOne_148 N mde p1 p2 p3 p4 n mme mco mcn mvi x5 x6 = some (r', mme', mco', mcn', mvi') → ∀ (H : Heap) (locs : List Loc), PM Z mth mto mrw mta mtp mat mtt mme mun mde mco mcn mvi men mfa mac mfi mse mtd mra mkp H → va_S (AM Z) s.heap H locs → ∀ ls : Array Slot, lv_has ls 7 [(0, .ref (mA Z 0)), (4, .int p4), (5, .int x5), (6, .int x6)] → W p l e (rmk 206 4882) s m args below meth c H locs 0 0 (MQ below (Qi (KM Z) (AM Z) (PM Z mth mto mrw mta mtp mat mtt mme' mun mde mco' mcn' mvi' men mfa mac mfi mse mtd mra mkp) r') args s 0 0 (AM Z)) (F0 m 148 ls []) := by
  intro n
  induction n with
  | zero => intro mme mco mcn mvi x5 x6 hE; cases hE
  | succ n h148 =>
    intro mme mco mcn mvi x5 x6 hE H locs hP hS ls hl
    have hE : fX12_makesOne_148b N mde p1 p2 p3 p4 (fX12_makesOne_148 N mde p1 p2 p3 p4 n) mme mco mcn mvi x5 x6 = some (r', mme', mco', mcn', mvi') := hE
    refine lv_iload F.1 F.2.1 dX12_makesOne_148 (lv_at hl 3 rfl) ?_
    refine lv_iconst (v := 4) F.1 F.2.1 dX12_makesOne_150 (by decide) ?_
    refine lv_icmp_ge (tgt := 172) F.1 F.2.1 dX12_makesOne_151 (by decide) (fun hc => ?_) (fun hc => ?_)
    · have hE := ifp hE hc
      exact qX12_makesOne_172 F hr hlk C mme mco mcn mvi x5 hE _ _ hP hS ls (lv_sub hl [0, 1, 2] rfl)
    · have hE := ifn hE hc
      refine lv_aload_n F.1 F.2.1 dX12_makesOne_154 rfl (lv_at hl 0 rfl) ?_
      refine lv_iload F.1 F.2.1 dX12_makesOne_155 (lv_at hl 2 rfl) ?_
      refine lv_bipush (v := 7) F.1 F.2.1 dX12_makesOne_157 (by decide) ?_
      refine lv_iload F.1 F.2.1 dX12_makesOne_159 (lv_at hl 3 rfl) ?_
      refine lv_iadd F.1 F.2.1 dX12_makesOne_161 ?_
      refine lv_iconst (v := (-1)) F.1 F.2.1 dX12_makesOne_162 (by decide) ?_
      obtain ⟨mme_321, hc, hE⟩ := bnd1_some hE
      refine aft_v (run_V (rest := []) F (kX12_puts hc) (okM Z) C hS lkX12_104 ⟨Nat.le_of_ble_eq_true rfl, Nat.le_of_ble_eq_true rfl⟩ (rvM C hP) hP rfl hl.1 rfl (lv_room (Nat.le_of_ble_eq_true rfl)) dX12_makesOne_163 ⟨Nat.zero_le _, Nat.zero_le _⟩) hS (fun H locs hP hS => ?_)
      refine lv_iinc (v := x6 + 1) (lv' := [(6, .int (x6 + 1)), (0, .ref (mA Z 0)), (4, .int p4), (5, .int x5)]) F.1 F.2.1 dX12_makesOne_166 hl (k := 3) rfl rfl (by decide) rfl (fun ls hl => ?_)
      refine lv_goto (tgt := 148) F.1 F.2.1 dX12_makesOne_169 (by decide) ?_
      exact h148 mme_321 mco mcn mvi x5 (x6 + 1) hE _ _ hP hS ls (lv_sub hl [1, 2, 3, 0] rfl)
set_option maxRecDepth 100000 in
set_option maxHeartbeats 4000000 in
theorem qX12_makesOne_78 {p : Program} {l : Launch} {e : Env} {s : State} {m : MethodId} {args : Array Value} {below : List Frame} {meth : Method} {c : Code} {Z : ZC} {mth : Int32} {mto : Int32} {mrw : Nat → Int64} {mta : Nat → Int32} {mtp : Int32} {mat : Int32} {mtt : Int32} {mun : Int32} {mde : Int32} {men : Int32} {mfa : Nat → Int32} {mac : Nat → Int32} {mfi : Nat → Int32} {mse : Nat → Int32} {mtd : Nat → Int32} {mra : Int32} {mkp : Nat → Int32} {N : Nat} {p1 : Int32} {p2 : Int32} {p3 : Int32} {p4 : Int32} {r' : Int32} {mme' : Nat → Int32} {mco' : Nat → Int32} {mcn' : Nat → Int32} {mvi' : Int32} (F : CallFix p m c cX12_makesOne 7 s args bigW RX12) (hr : meth.sig.returnType = (some .int)) (hlk : meth.locks = false) (C : KM Z s) : ∀ (mme : Nat → Int32) (mco : Nat → Int32) (mcn : Nat → Int32) (mvi : Int32) (x5 : Int32), fX12_makesOne_78 N mde p1 p2 p3 p4 mme mco mcn mvi x5 = some (r', mme', mco', mcn', mvi') → ∀ (H : Heap) (locs : List Loc), PM Z mth mto mrw mta mtp mat mtt mme mun mde mco mcn mvi men mfa mac mfi mse mtd mra mkp H → va_S (AM Z) s.heap H locs → ∀ ls : Array Slot, lv_has ls 7 [(0, .ref (mA Z 0)), (1, .int p1), (2, .int p2), (3, .int p3), (4, .int p4), (5, .int x5)] → W p l e (rmk 206 4882) s m args below meth c H locs 0 0 (MQ below (Qi (KM Z) (AM Z) (PM Z mth mto mrw mta mtp mat mtt mme' mun mde mco' mcn' mvi' men mfa mac mfi mse mtd mra mkp) r') args s 0 0 (AM Z)) (F0 m 78 ls []) := by
  intro mme mco mcn mvi x5 hE H locs hP hS ls hl
  unfold fX12_makesOne_78 at hE
  refine lv_iload F.1 F.2.1 dX12_makesOne_78 (lv_at hl 5 rfl) ?_
  refine lv_bipush (v := 24) F.1 F.2.1 dX12_makesOne_80 (by decide) ?_
  refine lv_icmp_ne (tgt := 88) F.1 F.2.1 dX12_makesOne_82 (by decide) (fun hc => ?_) (fun hc => ?_)
  · have hE := ifn hE hc
    refine lv_aload_n F.1 F.2.1 dX12_makesOne_88 rfl (lv_at hl 0 rfl) ?_
    refine lv_iload F.1 F.2.1 dX12_makesOne_89 (lv_at hl 5 rfl) ?_
    refine lv_iconst (v := 0) F.1 F.2.1 dX12_makesOne_91 (by decide) ?_
    refine lv_iconst (v := 1) F.1 F.2.1 dX12_makesOne_92 (by decide) ?_
    obtain ⟨mme_314, hc, hE⟩ := bnd1_some hE
    refine aft_v (run_V (rest := []) F (kX12_puts hc) (okM Z) C hS lkX12_104 ⟨Nat.le_of_ble_eq_true rfl, Nat.le_of_ble_eq_true rfl⟩ (rvM C hP) hP rfl hl.1 rfl (lv_room (Nat.le_of_ble_eq_true rfl)) dX12_makesOne_93 ⟨Nat.zero_le _, Nat.zero_le _⟩) hS (fun H locs hP hS => ?_)
    refine lv_aload_n F.1 F.2.1 dX12_makesOne_96 rfl (lv_at hl 0 rfl) ?_
    refine lv_iload F.1 F.2.1 dX12_makesOne_97 (lv_at hl 5 rfl) ?_
    refine lv_iconst (v := 1) F.1 F.2.1 dX12_makesOne_99 (by decide) ?_
    refine lv_iload_n F.1 F.2.1 dX12_makesOne_100 rfl (lv_at hl 1 rfl) ?_
    obtain ⟨mme_315, hc, hE⟩ := bnd1_some hE
    refine aft_v (run_V (rest := []) F (kX12_puts hc) (okM Z) C hS lkX12_104 ⟨Nat.le_of_ble_eq_true rfl, Nat.le_of_ble_eq_true rfl⟩ (rvM C hP) hP rfl hl.1 rfl (lv_room (Nat.le_of_ble_eq_true rfl)) dX12_makesOne_101 ⟨Nat.zero_le _, Nat.zero_le _⟩) hS (fun H locs hP hS => ?_)
    refine lv_aload_n F.1 F.2.1 dX12_makesOne_104 rfl (lv_at hl 0 rfl) ?_
    refine lv_iload F.1 F.2.1 dX12_makesOne_105 (lv_at hl 5 rfl) ?_
    refine lv_iconst (v := 2) F.1 F.2.1 dX12_makesOne_107 (by decide) ?_
    refine lv_iload_n F.1 F.2.1 dX12_makesOne_108 rfl (lv_at hl 2 rfl) ?_
    obtain ⟨mme_316, hc, hE⟩ := bnd1_some hE
    refine aft_v (run_V (rest := []) F (kX12_puts hc) (okM Z) C hS lkX12_104 ⟨Nat.le_of_ble_eq_true rfl, Nat.le_of_ble_eq_true rfl⟩ (rvM C hP) hP rfl hl.1 rfl (lv_room (Nat.le_of_ble_eq_true rfl)) dX12_makesOne_109 ⟨Nat.zero_le _, Nat.zero_le _⟩) hS (fun H locs hP hS => ?_)
    refine lv_aload_n F.1 F.2.1 dX12_makesOne_112 rfl (lv_at hl 0 rfl) ?_
    refine lv_iload F.1 F.2.1 dX12_makesOne_113 (lv_at hl 5 rfl) ?_
    refine lv_iconst (v := 3) F.1 F.2.1 dX12_makesOne_115 (by decide) ?_
    refine lv_iload_n F.1 F.2.1 dX12_makesOne_116 rfl (lv_at hl 3 rfl) ?_
    obtain ⟨mme_317, hc, hE⟩ := bnd1_some hE
    refine aft_v (run_V (rest := []) F (kX12_puts hc) (okM Z) C hS lkX12_104 ⟨Nat.le_of_ble_eq_true rfl, Nat.le_of_ble_eq_true rfl⟩ (rvM C hP) hP rfl hl.1 rfl (lv_room (Nat.le_of_ble_eq_true rfl)) dX12_makesOne_117 ⟨Nat.zero_le _, Nat.zero_le _⟩) hS (fun H locs hP hS => ?_)
    refine lv_aload_n F.1 F.2.1 dX12_makesOne_120 rfl (lv_at hl 0 rfl) ?_
    refine lv_iload F.1 F.2.1 dX12_makesOne_121 (lv_at hl 5 rfl) ?_
    refine lv_iconst (v := 4) F.1 F.2.1 dX12_makesOne_123 (by decide) ?_
    refine lv_iconst (v := 0) F.1 F.2.1 dX12_makesOne_124 (by decide) ?_
    obtain ⟨mme_318, hc, hE⟩ := bnd1_some hE
    refine aft_v (run_V (rest := []) F (kX12_puts hc) (okM Z) C hS lkX12_104 ⟨Nat.le_of_ble_eq_true rfl, Nat.le_of_ble_eq_true rfl⟩ (rvM C hP) hP rfl hl.1 rfl (lv_room (Nat.le_of_ble_eq_true rfl)) dX12_makesOne_125 ⟨Nat.zero_le _, Nat.zero_le _⟩) hS (fun H locs hP hS => ?_)
    refine lv_aload_n F.1 F.2.1 dX12_makesOne_128 rfl (lv_at hl 0 rfl) ?_
    refine lv_iload F.1 F.2.1 dX12_makesOne_129 (lv_at hl 5 rfl) ?_
    refine lv_iconst (v := 5) F.1 F.2.1 dX12_makesOne_131 (by decide) ?_
    refine lv_iconst (v := 0) F.1 F.2.1 dX12_makesOne_132 (by decide) ?_
    obtain ⟨mme_319, hc, hE⟩ := bnd1_some hE
    refine aft_v (run_V (rest := []) F (kX12_puts hc) (okM Z) C hS lkX12_104 ⟨Nat.le_of_ble_eq_true rfl, Nat.le_of_ble_eq_true rfl⟩ (rvM C hP) hP rfl hl.1 rfl (lv_room (Nat.le_of_ble_eq_true rfl)) dX12_makesOne_133 ⟨Nat.zero_le _, Nat.zero_le _⟩) hS (fun H locs hP hS => ?_)
    refine lv_aload_n F.1 F.2.1 dX12_makesOne_136 rfl (lv_at hl 0 rfl) ?_
    refine lv_iload F.1 F.2.1 dX12_makesOne_137 (lv_at hl 5 rfl) ?_
    refine lv_bipush (v := 6) F.1 F.2.1 dX12_makesOne_139 (by decide) ?_
    refine lv_iconst (v := 0) F.1 F.2.1 dX12_makesOne_141 (by decide) ?_
    obtain ⟨mme_320, hc, hE⟩ := bnd1_some hE
    refine aft_v (run_V (rest := []) F (kX12_puts hc) (okM Z) C hS lkX12_104 ⟨Nat.le_of_ble_eq_true rfl, Nat.le_of_ble_eq_true rfl⟩ (rvM C hP) hP rfl hl.1 rfl (lv_room (Nat.le_of_ble_eq_true rfl)) dX12_makesOne_142 ⟨Nat.zero_le _, Nat.zero_le _⟩) hS (fun H locs hP hS => ?_)
    refine lv_iconst (v := 0) F.1 F.2.1 dX12_makesOne_145 (by decide) ?_
    refine lv_istore (lv' := [(6, .int 0), (0, .ref (mA Z 0)), (1, .int p1), (2, .int p2), (3, .int p3), (4, .int p4), (5, .int x5)]) F.1 F.2.1 dX12_makesOne_146 hl (by decide) rfl (fun ls hl => ?_)
    exact qX12_makesOne_148 F hr hlk C N mme_320 mco mcn mvi x5 0 hE _ _ hP hS ls (lv_sub hl [1, 5, 6, 0] rfl)
  · have hE := ifp hE hc
    refine lv_bipush (v := (-2)) F.1 F.2.1 dX12_makesOne_85 (by decide) ?_
    have w0 := Option.some.inj hE
    obtain ⟨g0, w1⟩ := Prod.mk.inj w0
    obtain ⟨g1, w2⟩ := Prod.mk.inj w1
    obtain ⟨g2, w3⟩ := Prod.mk.inj w2
    obtain ⟨g3, w4⟩ := Prod.mk.inj w3
    subst g0 g1 g2 g3 w4
    exact ret_i F hr hlk hP hS dX12_makesOne_87
set_option maxRecDepth 100000 in
set_option maxHeartbeats 4000000 in
theorem qX12_makesOne_54 {p : Program} {l : Launch} {e : Env} {s : State} {m : MethodId} {args : Array Value} {below : List Frame} {meth : Method} {c : Code} {Z : ZC} {mth : Int32} {mto : Int32} {mrw : Nat → Int64} {mta : Nat → Int32} {mtp : Int32} {mat : Int32} {mtt : Int32} {mun : Int32} {mde : Int32} {men : Int32} {mfa : Nat → Int32} {mac : Nat → Int32} {mfi : Nat → Int32} {mse : Nat → Int32} {mtd : Nat → Int32} {mra : Int32} {mkp : Nat → Int32} {N : Nat} {p1 : Int32} {p2 : Int32} {p3 : Int32} {p4 : Int32} {r' : Int32} {mme' : Nat → Int32} {mco' : Nat → Int32} {mcn' : Nat → Int32} {mvi' : Int32} (F : CallFix p m c cX12_makesOne 7 s args bigW RX12) (hr : meth.sig.returnType = (some .int)) (hlk : meth.locks = false) (C : KM Z s) : ∀ n : Nat, ∀ (mme : Nat → Int32) (mco : Nat → Int32) (mcn : Nat → Int32) (mvi : Int32) (x5 : Int32), fX12_makesOne_54 N mde p1 p2 p3 p4 n mme mco mcn mvi x5 = some (r', mme', mco', mcn', mvi') → ∀ (H : Heap) (locs : List Loc), PM Z mth mto mrw mta mtp mat mtt mme mun mde mco mcn mvi men mfa mac mfi mse mtd mra mkp H → va_S (AM Z) s.heap H locs → ∀ ls : Array Slot, lv_has ls 7 [(0, .ref (mA Z 0)), (1, .int p1), (2, .int p2), (3, .int p3), (4, .int p4), (5, .int x5)] → W p l e (rmk 206 4882) s m args below meth c H locs 0 0 (MQ below (Qi (KM Z) (AM Z) (PM Z mth mto mrw mta mtp mat mtt mme' mun mde mco' mcn' mvi' men mfa mac mfi mse mtd mra mkp) r') args s 0 0 (AM Z)) (F0 m 54 ls []) := by
  intro n
  induction n with
  | zero => intro mme mco mcn mvi x5 hE; cases hE
  | succ n h54 =>
    intro mme mco mcn mvi x5 hE H locs hP hS ls hl
    have hE : fX12_makesOne_54b N mde p1 p2 p3 p4 (fX12_makesOne_54 N mde p1 p2 p3 p4 n) mme mco mcn mvi x5 = some (r', mme', mco', mcn', mvi') := hE
    refine lv_iload F.1 F.2.1 dX12_makesOne_54 (lv_at hl 5 rfl) ?_
    refine lv_bipush (v := 24) F.1 F.2.1 dX12_makesOne_56 (by decide) ?_
    refine lv_icmp_ge (tgt := 78) F.1 F.2.1 dX12_makesOne_58 (by decide) (fun hc => ?_) (fun hc => ?_)
    · have hE := ifp hE hc
      exact qX12_makesOne_78 F hr hlk C mme mco mcn mvi x5 hE _ _ hP hS ls (lv_sub hl [0, 1, 2, 3, 4, 5] rfl)
    · have hE := ifn hE hc
      refine lv_aload_n F.1 F.2.1 dX12_makesOne_61 rfl (lv_at hl 0 rfl) ?_
      refine lv_iload F.1 F.2.1 dX12_makesOne_62 (lv_at hl 5 rfl) ?_
      refine lv_iconst (v := 0) F.1 F.2.1 dX12_makesOne_64 (by decide) ?_
      obtain ⟨r313, hc, hE⟩ := bnd1_some hE
      refine aft_i (run_V (rest := []) F (kX12_of hc) (okM Z) C hS lkX12_91 ⟨Nat.le_of_ble_eq_true rfl, Nat.le_of_ble_eq_true rfl⟩ (rvM C hP) hP rfl hl.1 rfl (lv_room (Nat.le_of_ble_eq_true rfl)) dX12_makesOne_65 ⟨Nat.zero_le _, Nat.zero_le _⟩) hS (fun H locs hP hS => ?_)
      refine lv_iconst (v := 1) F.1 F.2.1 dX12_makesOne_68 (by decide) ?_
      refine lv_icmp_ne (tgt := 78) F.1 F.2.1 dX12_makesOne_69 (by decide) (fun hc => ?_) (fun hc => ?_)
      · have hE := ifn hE hc
        exact qX12_makesOne_78 F hr hlk C mme mco mcn mvi x5 hE _ _ hP hS ls (lv_sub hl [0, 1, 2, 3, 4, 5] rfl)
      · have hE := ifp hE hc
        refine lv_iinc (v := x5 + 1) (lv' := [(5, .int (x5 + 1)), (0, .ref (mA Z 0)), (1, .int p1), (2, .int p2), (3, .int p3), (4, .int p4)]) F.1 F.2.1 dX12_makesOne_72 hl (k := 5) rfl rfl (by decide) rfl (fun ls hl => ?_)
        refine lv_goto (tgt := 54) F.1 F.2.1 dX12_makesOne_75 (by decide) ?_
        exact h54 mme mco mcn mvi (x5 + 1) hE _ _ hP hS ls (lv_sub hl [1, 2, 3, 4, 5, 0] rfl)
set_option maxRecDepth 100000 in
set_option maxHeartbeats 4000000 in
theorem kX12_makesOne {l : Launch} {Z : ZC} {mth : Int32} {mto : Int32} {mrw : Nat → Int64} {mta : Nat → Int32} {mtp : Int32} {mat : Int32} {mtt : Int32} {mme : Nat → Int32} {mun : Int32} {mde : Int32} {mco : Nat → Int32} {mcn : Nat → Int32} {mvi : Int32} {men : Int32} {mfa : Nat → Int32} {mac : Nat → Int32} {mfi : Nat → Int32} {mse : Nat → Int32} {mtd : Nat → Int32} {mra : Int32} {mkp : Nat → Int32} {N : Nat} {p1 : Int32} {p2 : Int32} {p3 : Int32} {p4 : Int32} {r' : Int32} {mme' : Nat → Int32} {mco' : Nat → Int32} {mcn' : Nat → Int32} {mvi' : Int32} (hE : fX12_makesOne N mme mde mco mcn mvi p1 p2 p3 p4 = some (r', mme', mco', mcn', mvi')) : Mg l yX12_makesOne cX12_makesOne 7 (some .int) (rmk 206 4882) (KM Z) (AM Z) [.ref (mA Z 0), .int p1, .int p2, .int p3, .int p4] (PM Z mth mto mrw mta mtp mat mtt mme mun mde mco mcn mvi men mfa mac mfi mse mtd mra mkp) (Qi (KM Z) (AM Z) (PM Z mth mto mrw mta mtp mat mtt mme' mun mde mco' mcn' mvi' men mfa mac mfi mse mtd mra mkp) r') := by
  refine Mg.start (lv := [(0, .ref (mA Z 0)), (1, .int p1), (2, .int p2), (3, .int p3), (4, .int p4)]) (by decide) rfl (Nat.le_of_ble_eq_true rfl) rfl ?_
  intro p e s m below meth c F hr hlk C hP ls hl
  have hS : va_S (AM Z) s.heap s.heap [] := va_S.rf
  unfold fX12_makesOne at hE
  refine lv_iload_n F.1 F.2.1 dX12_makesOne_0 rfl (lv_at hl 1 rfl) ?_
  refine lv_i2l (v := p1.toInt64) F.1 F.2.1 dX12_makesOne_1 rfl ?_
  refine lv_lconst (v := 0) F.1 F.2.1 dX12_makesOne_2 (by decide) ?_
  refine lv_ldc2 (v := 4) F.1 F.2.1 F.2.2.2.1 (F.2.2.2.2 _ (bw_t 1080 (by decide +kernel) rfl)) dX12_makesOne_3 ?_
  obtain ⟨r309, hc, hE⟩ := bnd1_some hE
  refine aft_i (run_S (rest := []) F (kX12_in hc) (okM Z) C hS lkX12_21 ⟨Nat.le_of_ble_eq_true rfl, Nat.le_of_ble_eq_true rfl⟩ hP rfl hl.1 rfl (lv_room (Nat.le_of_ble_eq_true rfl)) dX12_makesOne_6 ⟨Nat.zero_le _, Nat.zero_le _⟩) hS (fun H locs hP hS => ?_)
  refine lv_if_eq (tgt := 49) F.1 F.2.1 dX12_makesOne_9 (by decide) (fun hc => ?_) (fun hc => ?_)
  · have hE := ifp hE hc
    refine lv_iconst (v := (-1)) F.1 F.2.1 dX12_makesOne_49 (by decide) ?_
    have w0 := Option.some.inj hE
    obtain ⟨g0, w1⟩ := Prod.mk.inj w0
    obtain ⟨g1, w2⟩ := Prod.mk.inj w1
    obtain ⟨g2, w3⟩ := Prod.mk.inj w2
    obtain ⟨g3, w4⟩ := Prod.mk.inj w3
    subst g0 g1 g2 g3 w4
    exact ret_i F hr hlk hP hS dX12_makesOne_50
  · have hE := ifn hE hc
    refine lv_iload_n F.1 F.2.1 dX12_makesOne_12 rfl (lv_at hl 2 rfl) ?_
    refine lv_i2l (v := p2.toInt64) F.1 F.2.1 dX12_makesOne_13 rfl ?_
    refine lv_lconst (v := 1) F.1 F.2.1 dX12_makesOne_14 (by decide) ?_
    refine lv_ldc2 (v := 9) F.1 F.2.1 F.2.2.2.1 (F.2.2.2.2 _ (bw_t 1081 (by decide +kernel) rfl)) dX12_makesOne_15 ?_
    obtain ⟨r310, hc, hE⟩ := bnd1_some hE
    refine aft_i (run_S (rest := []) F (kX12_in hc) (okM Z) C hS lkX12_21 ⟨Nat.le_of_ble_eq_true rfl, Nat.le_of_ble_eq_true rfl⟩ hP rfl hl.1 rfl (lv_room (Nat.le_of_ble_eq_true rfl)) dX12_makesOne_18 ⟨Nat.zero_le _, Nat.zero_le _⟩) hS (fun H locs hP hS => ?_)
    refine lv_if_eq (tgt := 49) F.1 F.2.1 dX12_makesOne_21 (by decide) (fun hc => ?_) (fun hc => ?_)
    · have hE := ifp hE hc
      refine lv_iconst (v := (-1)) F.1 F.2.1 dX12_makesOne_49 (by decide) ?_
      have w0 := Option.some.inj hE
      obtain ⟨g0, w1⟩ := Prod.mk.inj w0
      obtain ⟨g1, w2⟩ := Prod.mk.inj w1
      obtain ⟨g2, w3⟩ := Prod.mk.inj w2
      obtain ⟨g3, w4⟩ := Prod.mk.inj w3
      subst g0 g1 g2 g3 w4
      exact ret_i F hr hlk hP hS dX12_makesOne_50
    · have hE := ifn hE hc
      refine lv_iload_n F.1 F.2.1 dX12_makesOne_24 rfl (lv_at hl 3 rfl) ?_
      refine lv_i2l (v := p3.toInt64) F.1 F.2.1 dX12_makesOne_25 rfl ?_
      refine lv_lconst (v := 0) F.1 F.2.1 dX12_makesOne_26 (by decide) ?_
      refine lv_ldc2 (v := 7) F.1 F.2.1 F.2.2.2.1 (F.2.2.2.2 _ (bw_t 1082 (by decide +kernel) rfl)) dX12_makesOne_27 ?_
      obtain ⟨r311, hc, hE⟩ := bnd1_some hE
      refine aft_i (run_S (rest := []) F (kX12_in hc) (okM Z) C hS lkX12_21 ⟨Nat.le_of_ble_eq_true rfl, Nat.le_of_ble_eq_true rfl⟩ hP rfl hl.1 rfl (lv_room (Nat.le_of_ble_eq_true rfl)) dX12_makesOne_30 ⟨Nat.zero_le _, Nat.zero_le _⟩) hS (fun H locs hP hS => ?_)
      refine lv_if_eq (tgt := 49) F.1 F.2.1 dX12_makesOne_33 (by decide) (fun hc => ?_) (fun hc => ?_)
      · have hE := ifp hE hc
        refine lv_iconst (v := (-1)) F.1 F.2.1 dX12_makesOne_49 (by decide) ?_
        have w0 := Option.some.inj hE
        obtain ⟨g0, w1⟩ := Prod.mk.inj w0
        obtain ⟨g1, w2⟩ := Prod.mk.inj w1
        obtain ⟨g2, w3⟩ := Prod.mk.inj w2
        obtain ⟨g3, w4⟩ := Prod.mk.inj w3
        subst g0 g1 g2 g3 w4
        exact ret_i F hr hlk hP hS dX12_makesOne_50
      · have hE := ifn hE hc
        refine lv_iload F.1 F.2.1 dX12_makesOne_36 (lv_at hl 4 rfl) ?_
        refine lv_i2l (v := p4.toInt64) F.1 F.2.1 dX12_makesOne_38 rfl ?_
        refine lv_lconst (v := 0) F.1 F.2.1 dX12_makesOne_39 (by decide) ?_
        refine lv_ldc2 (v := 5) F.1 F.2.1 F.2.2.2.1 (F.2.2.2.2 _ (bw_t 1083 (by decide +kernel) rfl)) dX12_makesOne_40 ?_
        obtain ⟨r312, hc, hE⟩ := bnd1_some hE
        refine aft_i (run_S (rest := []) F (kX12_in hc) (okM Z) C hS lkX12_21 ⟨Nat.le_of_ble_eq_true rfl, Nat.le_of_ble_eq_true rfl⟩ hP rfl hl.1 rfl (lv_room (Nat.le_of_ble_eq_true rfl)) dX12_makesOne_43 ⟨Nat.zero_le _, Nat.zero_le _⟩) hS (fun H locs hP hS => ?_)
        refine lv_if_ne (tgt := 51) F.1 F.2.1 dX12_makesOne_46 (by decide) (fun hc => ?_) (fun hc => ?_)
        · have hE := ifn hE hc
          refine lv_iconst (v := 0) F.1 F.2.1 dX12_makesOne_51 (by decide) ?_
          refine lv_istore (lv' := [(5, .int 0), (0, .ref (mA Z 0)), (1, .int p1), (2, .int p2), (3, .int p3), (4, .int p4)]) F.1 F.2.1 dX12_makesOne_52 hl (by decide) rfl (fun ls hl => ?_)
          exact qX12_makesOne_54 F hr hlk C N mme mco mcn mvi 0 hE _ _ hP hS ls (lv_sub hl [1, 2, 3, 4, 5, 0] rfl)
        · have hE := ifp hE hc
          refine lv_iconst (v := (-1)) F.1 F.2.1 dX12_makesOne_49 (by decide) ?_
          have w0 := Option.some.inj hE
          obtain ⟨g0, w1⟩ := Prod.mk.inj w0
          obtain ⟨g1, w2⟩ := Prod.mk.inj w1
          obtain ⟨g2, w3⟩ := Prod.mk.inj w2
          obtain ⟨g3, w4⟩ := Prod.mk.inj w3
          subst g0 g1 g2 g3 w4
          exact ret_i F hr hlk hP hS dX12_makesOne_50
set_option maxRecDepth 100000 in
set_option maxHeartbeats 4000000 in
theorem kX12_isOther {l : Launch} {Z : ZC} {mth : Int32} {mto : Int32} {mrw : Nat → Int64} {mta : Nat → Int32} {mtp : Int32} {mat : Int32} {mtt : Int32} {mme : Nat → Int32} {mun : Int32} {mde : Int32} {mco : Nat → Int32} {mcn : Nat → Int32} {mvi : Int32} {men : Int32} {mfa : Nat → Int32} {mac : Nat → Int32} {mfi : Nat → Int32} {mse : Nat → Int32} {mtd : Nat → Int32} {mra : Int32} {mkp : Nat → Int32} {p1 : Int32} {r' : Int32} (hE : fX12_isOther mme mde p1 = some r') : Mg l yX12_isOther cX12_isOther 2 (some .boolean) (rmk 2 46) (KM Z) (AM Z) [.ref (mA Z 0), .int p1] (PM Z mth mto mrw mta mtp mat mtt mme mun mde mco mcn mvi men mfa mac mfi mse mtd mra mkp) (Qi (KM Z) (AM Z) (PM Z mth mto mrw mta mtp mat mtt mme mun mde mco mcn mvi men mfa mac mfi mse mtd mra mkp) r') := by
  refine Mg.start (lv := [(0, .ref (mA Z 0)), (1, .int p1)]) (by decide) rfl (Nat.le_of_ble_eq_true rfl) rfl ?_
  intro p e s m below meth c F hr hlk C hP ls hl
  have hS : va_S (AM Z) s.heap s.heap [] := va_S.rf
  unfold fX12_isOther at hE
  refine lv_iload_n F.1 F.2.1 dX12_isOther_0 rfl (lv_at hl 1 rfl) ?_
  refine lv_iconst (v := (-1)) F.1 F.2.1 dX12_isOther_1 (by decide) ?_
  refine lv_icmp_eq (tgt := 13) F.1 F.2.1 dX12_isOther_2 (by decide) (fun hc => ?_) (fun hc => ?_)
  · have hE := ifp hE hc
    refine lv_iconst (v := 1) F.1 F.2.1 dX12_isOther_13 (by decide) ?_
    refine lv_goto (tgt := 18) F.1 F.2.1 dX12_isOther_14 (by decide) ?_
    obtain rfl := Option.some.inj hE
    exact ret_z F hr rfl hlk hP hS dX12_isOther_18
  · have hE := ifn hE hc
    refine lv_aload_n F.1 F.2.1 dX12_isOther_5 rfl (lv_at hl 0 rfl) ?_
    refine lv_iload_n F.1 F.2.1 dX12_isOther_6 rfl (lv_at hl 1 rfl) ?_
    obtain ⟨r326, hc, hE⟩ := bnd1_some hE
    refine aft_i (run_V (rest := []) F (kX12_isThere hc) (okM Z) C hS lkX12_216 ⟨Nat.le_of_ble_eq_true rfl, Nat.le_of_ble_eq_true rfl⟩ (rvM C hP) hP rfl hl.1 rfl (lv_room (Nat.le_of_ble_eq_true rfl)) dX12_isOther_7 ⟨Nat.zero_le _, Nat.zero_le _⟩) hS (fun H locs hP hS => ?_)
    refine lv_if_eq (tgt := 17) F.1 F.2.1 dX12_isOther_10 (by decide) (fun hc => ?_) (fun hc => ?_)
    · have hE := ifp hE hc
      refine lv_iconst (v := 0) F.1 F.2.1 dX12_isOther_17 (by decide) ?_
      obtain rfl := Option.some.inj hE
      exact ret_z F hr rfl hlk hP hS dX12_isOther_18
    · have hE := ifn hE hc
      refine lv_iconst (v := 1) F.1 F.2.1 dX12_isOther_13 (by decide) ?_
      refine lv_goto (tgt := 18) F.1 F.2.1 dX12_isOther_14 (by decide) ?_
      obtain rfl := Option.some.inj hE
      exact ret_z F hr rfl hlk hP hS dX12_isOther_18
set_option maxRecDepth 100000 in
set_option maxHeartbeats 4000000 in
theorem qX12_setsOne_72 {p : Program} {l : Launch} {e : Env} {s : State} {m : MethodId} {args : Array Value} {below : List Frame} {meth : Method} {c : Code} {Z : ZC} {mth : Int32} {mto : Int32} {mrw : Nat → Int64} {mta : Nat → Int32} {mtp : Int32} {mat : Int32} {mtt : Int32} {mun : Int32} {mde : Int32} {men : Int32} {mfa : Nat → Int32} {mac : Nat → Int32} {mfi : Nat → Int32} {mse : Nat → Int32} {mtd : Nat → Int32} {mra : Int32} {mkp : Nat → Int32} {N : Nat} {p1 : Int32} {p2 : Int32} {p3 : Int32} {r' : Int32} {mme' : Nat → Int32} {mco' : Nat → Int32} {mcn' : Nat → Int32} {mvi' : Int32} (F : CallFix p m c cX12_setsOne 5 s args bigW RX12) (hr : meth.sig.returnType = (some .int)) (hlk : meth.locks = false) (C : KM Z s) : ∀ (mme : Nat → Int32) (mco : Nat → Int32) (mcn : Nat → Int32) (mvi : Int32), fX12_setsOne_72 N mde p1 p2 p3 mme mco mcn mvi = some (r', mme', mco', mcn', mvi') → ∀ (H : Heap) (locs : List Loc), PM Z mth mto mrw mta mtp mat mtt mme mun mde mco mcn mvi men mfa mac mfi mse mtd mra mkp H → va_S (AM Z) s.heap H locs → ∀ ls : Array Slot, lv_has ls 5 [(0, .ref (mA Z 0)), (1, .int p1), (2, .int p2), (3, .int p3)] → W p l e (rmk 206 4882) s m args below meth c H locs 0 0 (MQ below (Qi (KM Z) (AM Z) (PM Z mth mto mrw mta mtp mat mtt mme' mun mde mco' mcn' mvi' men mfa mac mfi mse mtd mra mkp) r') args s 0 0 (AM Z)) (F0 m 72 ls []) := by
  intro mme mco mcn mvi hE H locs hP hS ls hl
  unfold fX12_setsOne_72 at hE
  refine lv_aload_n F.1 F.2.1 dX12_setsOne_72 rfl (lv_at hl 0 rfl) ?_
  refine gX12_53 F C hP dX12_setsOne_73 ?_
  refine lv_aload_n F.1 F.2.1 dX12_setsOne_76 rfl (lv_at hl 0 rfl) ?_
  refine gX12_85 F C hP dX12_setsOne_77 ?_
  refine lv_iconst (v := 2) F.1 F.2.1 dX12_setsOne_80 (by decide) ?_
  refine lv_iadd F.1 F.2.1 dX12_setsOne_81 ?_
  obtain ⟨hi, hE⟩ := grd_some hE
  refine am3 F C hP hi dX12_setsOne_82 ?_
  obtain ⟨v_344, ev_344, hE⟩ := lt_some hE
  refine lv_seti ev_344 ?_
  refine lv_istore (lv' := [(4, .int v_344), (0, .ref (mA Z 0)), (1, .int p1), (2, .int p2), (3, .int p3)]) F.1 F.2.1 dX12_setsOne_83 hl (by decide) rfl (fun ls hl => ?_)
  refine lv_aload_n F.1 F.2.1 dX12_setsOne_85 rfl (lv_at hl 1 rfl) ?_
  refine lv_iload_n F.1 F.2.1 dX12_setsOne_86 rfl (lv_at hl 2 rfl) ?_
  refine lv_iload_n F.1 F.2.1 dX12_setsOne_87 rfl (lv_at hl 3 rfl) ?_
  refine lv_iload_n F.1 F.2.1 dX12_setsOne_88 rfl (lv_at hl 4 rfl) ?_
  obtain ⟨mme_345, hc, hE⟩ := bnd1_some hE
  refine aft_v (run_V (rest := []) F (kX12_laysField hc) (okM Z) C hS lkX12_146 ⟨Nat.le_of_ble_eq_true rfl, Nat.le_of_ble_eq_true rfl⟩ (rvM C hP) hP rfl hl.1 rfl (lv_room (Nat.le_of_ble_eq_true rfl)) dX12_setsOne_89 ⟨Nat.zero_le _, Nat.zero_le _⟩) hS (fun H locs hP hS => ?_)
  refine lv_aload_n F.1 F.2.1 dX12_setsOne_92 rfl (lv_at hl 1 rfl) ?_
  obtain ⟨mme_346, mco_346, mcn_346, mvi_346, hc, hE⟩ := bnd4_some hE
  refine aft_v (run_V (rest := []) F (kX12_isActed hc) (okM Z) C hS lkX12_213 ⟨Nat.le_of_ble_eq_true rfl, Nat.le_of_ble_eq_true rfl⟩ (rvM C hP) hP rfl hl.1 rfl (lv_room (Nat.le_of_ble_eq_true rfl)) dX12_setsOne_93 ⟨Nat.zero_le _, Nat.zero_le _⟩) hS (fun H locs hP hS => ?_)
  refine lv_aload_n F.1 F.2.1 dX12_setsOne_96 rfl (lv_at hl 1 rfl) ?_
  refine gX12_53 F C hP dX12_setsOne_97 ?_
  refine lv_aload_n F.1 F.2.1 dX12_setsOne_100 rfl (lv_at hl 1 rfl) ?_
  refine gX12_85 F C hP dX12_setsOne_101 ?_
  refine lv_iconst (v := 2) F.1 F.2.1 dX12_setsOne_104 (by decide) ?_
  refine lv_iadd F.1 F.2.1 dX12_setsOne_105 ?_
  obtain ⟨hi, hE⟩ := grd_some hE
  refine am3 F C hP hi dX12_setsOne_106 ?_
  refine lv_iload F.1 F.2.1 dX12_setsOne_107 (lv_at hl 0 rfl) ?_
  refine lv_isub F.1 F.2.1 dX12_setsOne_109 ?_
  have w0 := Option.some.inj hE
  obtain ⟨g0, w1⟩ := Prod.mk.inj w0
  obtain ⟨g1, w2⟩ := Prod.mk.inj w1
  obtain ⟨g2, w3⟩ := Prod.mk.inj w2
  obtain ⟨g3, w4⟩ := Prod.mk.inj w3
  subst g0 g1 g2 g3 w4
  exact ret_i F hr hlk hP hS dX12_setsOne_110
set_option maxRecDepth 100000 in
set_option maxHeartbeats 4000000 in
theorem kX12_setsOne {l : Launch} {Z : ZC} {mth : Int32} {mto : Int32} {mrw : Nat → Int64} {mta : Nat → Int32} {mtp : Int32} {mat : Int32} {mtt : Int32} {mme : Nat → Int32} {mun : Int32} {mde : Int32} {mco : Nat → Int32} {mcn : Nat → Int32} {mvi : Int32} {men : Int32} {mfa : Nat → Int32} {mac : Nat → Int32} {mfi : Nat → Int32} {mse : Nat → Int32} {mtd : Nat → Int32} {mra : Int32} {mkp : Nat → Int32} {N : Nat} {p1 : Int32} {p2 : Int32} {p3 : Int32} {r' : Int32} {mme' : Nat → Int32} {mco' : Nat → Int32} {mcn' : Nat → Int32} {mvi' : Int32} (hE : fX12_setsOne N mme mde mco mcn mvi p1 p2 p3 = some (r', mme', mco', mcn', mvi')) : Mg l yX12_setsOne cX12_setsOne 5 (some .int) (rmk 206 4882) (KM Z) (AM Z) [.ref (mA Z 0), .int p1, .int p2, .int p3] (PM Z mth mto mrw mta mtp mat mtt mme mun mde mco mcn mvi men mfa mac mfi mse mtd mra mkp) (Qi (KM Z) (AM Z) (PM Z mth mto mrw mta mtp mat mtt mme' mun mde mco' mcn' mvi' men mfa mac mfi mse mtd mra mkp) r') := by
  refine Mg.start (lv := [(0, .ref (mA Z 0)), (1, .int p1), (2, .int p2), (3, .int p3)]) (by decide) rfl (Nat.le_of_ble_eq_true rfl) rfl ?_
  intro p e s m below meth c F hr hlk C hP ls hl
  have hS : va_S (AM Z) s.heap s.heap [] := va_S.rf
  unfold fX12_setsOne at hE
  refine lv_aload_n F.1 F.2.1 dX12_setsOne_0 rfl (lv_at hl 0 rfl) ?_
  refine lv_iload_n F.1 F.2.1 dX12_setsOne_1 rfl (lv_at hl 1 rfl) ?_
  obtain ⟨r337, hc, hE⟩ := bnd1_some hE
  refine aft_i (run_V (rest := []) F (kX12_isThere hc) (okM Z) C hS lkX12_216 ⟨Nat.le_of_ble_eq_true rfl, Nat.le_of_ble_eq_true rfl⟩ (rvM C hP) hP rfl hl.1 rfl (lv_room (Nat.le_of_ble_eq_true rfl)) dX12_setsOne_2 ⟨Nat.zero_le _, Nat.zero_le _⟩) hS (fun H locs hP hS => ?_)
  refine lv_if_eq (tgt := 34) F.1 F.2.1 dX12_setsOne_5 (by decide) (fun hc => ?_) (fun hc => ?_)
  · have hE := ifp hE hc
    refine lv_iconst (v := (-1)) F.1 F.2.1 dX12_setsOne_34 (by decide) ?_
    have w0 := Option.some.inj hE
    obtain ⟨g0, w1⟩ := Prod.mk.inj w0
    obtain ⟨g1, w2⟩ := Prod.mk.inj w1
    obtain ⟨g2, w3⟩ := Prod.mk.inj w2
    obtain ⟨g3, w4⟩ := Prod.mk.inj w3
    subst g0 g1 g2 g3 w4
    exact ret_i F hr hlk hP hS dX12_setsOne_35
  · have hE := ifn hE hc
    refine lv_iload_n F.1 F.2.1 dX12_setsOne_8 rfl (lv_at hl 2 rfl) ?_
    refine lv_i2l (v := p2.toInt64) F.1 F.2.1 dX12_setsOne_9 rfl ?_
    refine lv_lconst (v := 0) F.1 F.2.1 dX12_setsOne_10 (by decide) ?_
    refine lv_aload_n F.1 F.2.1 dX12_setsOne_11 rfl (lv_at hl 0 rfl) ?_
    refine lv_iload_n F.1 F.2.1 dX12_setsOne_12 rfl (lv_at hl 1 rfl) ?_
    refine lv_iconst (v := 1) F.1 F.2.1 dX12_setsOne_13 (by decide) ?_
    obtain ⟨r338, hc, hE⟩ := bnd1_some hE
    refine aft_i (run_V (rest := [.long 0, .long p2.toInt64]) F (kX12_of hc) (okM Z) C hS lkX12_91 ⟨Nat.le_of_ble_eq_true rfl, Nat.le_of_ble_eq_true rfl⟩ (rvM C hP) hP rfl hl.1 rfl (lv_room (Nat.le_of_ble_eq_true rfl)) dX12_setsOne_14 ⟨Nat.zero_le _, Nat.zero_le _⟩) hS (fun H locs hP hS => ?_)
    refine lv_iconst (v := 1) F.1 F.2.1 dX12_setsOne_17 (by decide) ?_
    refine lv_isub F.1 F.2.1 dX12_setsOne_18 ?_
    refine lv_i2l (v := (r338 - 1).toInt64) F.1 F.2.1 dX12_setsOne_19 rfl ?_
    obtain ⟨r339, hc, hE⟩ := bnd1_some hE
    refine aft_i (run_S (rest := []) F (kX12_in hc) (okM Z) C hS lkX12_21 ⟨Nat.le_of_ble_eq_true rfl, Nat.le_of_ble_eq_true rfl⟩ hP rfl hl.1 rfl (lv_room (Nat.le_of_ble_eq_true rfl)) dX12_setsOne_20 ⟨Nat.zero_le _, Nat.zero_le _⟩) hS (fun H locs hP hS => ?_)
    refine lv_if_eq (tgt := 34) F.1 F.2.1 dX12_setsOne_23 (by decide) (fun hc => ?_) (fun hc => ?_)
    · have hE := ifp hE hc
      refine lv_iconst (v := (-1)) F.1 F.2.1 dX12_setsOne_34 (by decide) ?_
      have w0 := Option.some.inj hE
      obtain ⟨g0, w1⟩ := Prod.mk.inj w0
      obtain ⟨g1, w2⟩ := Prod.mk.inj w1
      obtain ⟨g2, w3⟩ := Prod.mk.inj w2
      obtain ⟨g3, w4⟩ := Prod.mk.inj w3
      subst g0 g1 g2 g3 w4
      exact ret_i F hr hlk hP hS dX12_setsOne_35
    · have hE := ifn hE hc
      refine lv_aload_n F.1 F.2.1 dX12_setsOne_26 rfl (lv_at hl 0 rfl) ?_
      refine lv_iload_n F.1 F.2.1 dX12_setsOne_27 rfl (lv_at hl 3 rfl) ?_
      obtain ⟨r340, hc, hE⟩ := bnd1_some hE
      refine aft_i (run_V (rest := []) F (kX12_isOther hc) (okM Z) C hS lkX12_219 ⟨Nat.le_of_ble_eq_true rfl, Nat.le_of_ble_eq_true rfl⟩ (rvM C hP) hP rfl hl.1 rfl (lv_room (Nat.le_of_ble_eq_true rfl)) dX12_setsOne_28 ⟨Nat.zero_le _, Nat.zero_le _⟩) hS (fun H locs hP hS => ?_)
      refine lv_if_ne (tgt := 36) F.1 F.2.1 dX12_setsOne_31 (by decide) (fun hc => ?_) (fun hc => ?_)
      · have hE := ifn hE hc
        refine lv_aload_n F.1 F.2.1 dX12_setsOne_36 rfl (lv_at hl 0 rfl) ?_
        refine lv_iload_n F.1 F.2.1 dX12_setsOne_37 rfl (lv_at hl 1 rfl) ?_
        refine lv_iload_n F.1 F.2.1 dX12_setsOne_38 rfl (lv_at hl 2 rfl) ?_
        obtain ⟨r341, hc, hE⟩ := bnd1_some hE
        refine aft_i (run_V (rest := []) F (kX12_fieldOf hc) (okM Z) C hS lkX12_140 ⟨Nat.le_of_ble_eq_true rfl, Nat.le_of_ble_eq_true rfl⟩ (rvM C hP) hP rfl hl.1 rfl (lv_room (Nat.le_of_ble_eq_true rfl)) dX12_setsOne_39 ⟨Nat.zero_le _, Nat.zero_le _⟩) hS (fun H locs hP hS => ?_)
        refine lv_iload_n F.1 F.2.1 dX12_setsOne_42 rfl (lv_at hl 3 rfl) ?_
        refine lv_icmp_ne (tgt := 49) F.1 F.2.1 dX12_setsOne_43 (by decide) (fun hc => ?_) (fun hc => ?_)
        · have hE := ifn hE hc
          refine lv_aload_n F.1 F.2.1 dX12_setsOne_49 rfl (lv_at hl 0 rfl) ?_
          refine lv_iload_n F.1 F.2.1 dX12_setsOne_50 rfl (lv_at hl 1 rfl) ?_
          obtain ⟨r342, hc, hE⟩ := bnd1_some hE
          refine aft_i (run_V (rest := []) F (kX12_isReached hc) (okM Z) C hS lkX12_222 ⟨Nat.le_of_ble_eq_true rfl, Nat.le_of_ble_eq_true rfl⟩ (rvM C hP) hP rfl hl.1 rfl (lv_room (Nat.le_of_ble_eq_true rfl)) dX12_setsOne_51 ⟨Nat.zero_le _, Nat.zero_le _⟩) hS (fun H locs hP hS => ?_)
          refine lv_if_eq (tgt := 69) F.1 F.2.1 dX12_setsOne_54 (by decide) (fun hc => ?_) (fun hc => ?_)
          · have hE := ifp hE hc
            refine lv_bipush (v := (-3)) F.1 F.2.1 dX12_setsOne_69 (by decide) ?_
            have w0 := Option.some.inj hE
            obtain ⟨g0, w1⟩ := Prod.mk.inj w0
            obtain ⟨g1, w2⟩ := Prod.mk.inj w1
            obtain ⟨g2, w3⟩ := Prod.mk.inj w2
            obtain ⟨g3, w4⟩ := Prod.mk.inj w3
            subst g0 g1 g2 g3 w4
            exact ret_i F hr hlk hP hS dX12_setsOne_71
          · have hE := ifn hE hc
            refine lv_iload_n F.1 F.2.1 dX12_setsOne_57 rfl (lv_at hl 3 rfl) ?_
            refine lv_if_lt (tgt := 72) F.1 F.2.1 dX12_setsOne_58 (by decide) (fun hc => ?_) (fun hc => ?_)
            · have hE := ifp hE hc
              exact qX12_setsOne_72 F hr hlk C mme mco mcn mvi hE _ _ hP hS ls (lv_sub hl [0, 1, 2, 3] rfl)
            · have hE := ifn hE hc
              refine lv_aload_n F.1 F.2.1 dX12_setsOne_61 rfl (lv_at hl 0 rfl) ?_
              refine lv_iload_n F.1 F.2.1 dX12_setsOne_62 rfl (lv_at hl 3 rfl) ?_
              obtain ⟨r343, hc, hE⟩ := bnd1_some hE
              refine aft_i (run_V (rest := []) F (kX12_isReached hc) (okM Z) C hS lkX12_222 ⟨Nat.le_of_ble_eq_true rfl, Nat.le_of_ble_eq_true rfl⟩ (rvM C hP) hP rfl hl.1 rfl (lv_room (Nat.le_of_ble_eq_true rfl)) dX12_setsOne_63 ⟨Nat.zero_le _, Nat.zero_le _⟩) hS (fun H locs hP hS => ?_)
              refine lv_if_ne (tgt := 72) F.1 F.2.1 dX12_setsOne_66 (by decide) (fun hc => ?_) (fun hc => ?_)
              · have hE := ifn hE hc
                exact qX12_setsOne_72 F hr hlk C mme mco mcn mvi hE _ _ hP hS ls (lv_sub hl [0, 1, 2, 3] rfl)
              · have hE := ifp hE hc
                refine lv_bipush (v := (-3)) F.1 F.2.1 dX12_setsOne_69 (by decide) ?_
                have w0 := Option.some.inj hE
                obtain ⟨g0, w1⟩ := Prod.mk.inj w0
                obtain ⟨g1, w2⟩ := Prod.mk.inj w1
                obtain ⟨g2, w3⟩ := Prod.mk.inj w2
                obtain ⟨g3, w4⟩ := Prod.mk.inj w3
                subst g0 g1 g2 g3 w4
                exact ret_i F hr hlk hP hS dX12_setsOne_71
        · have hE := ifp hE hc
          refine lv_bipush (v := (-2)) F.1 F.2.1 dX12_setsOne_46 (by decide) ?_
          have w0 := Option.some.inj hE
          obtain ⟨g0, w1⟩ := Prod.mk.inj w0
          obtain ⟨g1, w2⟩ := Prod.mk.inj w1
          obtain ⟨g2, w3⟩ := Prod.mk.inj w2
          obtain ⟨g3, w4⟩ := Prod.mk.inj w3
          subst g0 g1 g2 g3 w4
          exact ret_i F hr hlk hP hS dX12_setsOne_48
      · have hE := ifp hE hc
        refine lv_iconst (v := (-1)) F.1 F.2.1 dX12_setsOne_34 (by decide) ?_
        have w0 := Option.some.inj hE
        obtain ⟨g0, w1⟩ := Prod.mk.inj w0
        obtain ⟨g1, w2⟩ := Prod.mk.inj w1
        obtain ⟨g2, w3⟩ := Prod.mk.inj w2
        obtain ⟨g3, w4⟩ := Prod.mk.inj w3
        subst g0 g1 g2 g3 w4
        exact ret_i F hr hlk hP hS dX12_setsOne_35
set_option maxRecDepth 100000 in
set_option maxHeartbeats 4000000 in
theorem qX12_rootsOne_49 {p : Program} {l : Launch} {e : Env} {s : State} {m : MethodId} {args : Array Value} {below : List Frame} {meth : Method} {c : Code} {Z : ZC} {mth : Int32} {mto : Int32} {mrw : Nat → Int64} {mta : Nat → Int32} {mtp : Int32} {mat : Int32} {mtt : Int32} {mun : Int32} {mde : Int32} {men : Int32} {mfa : Nat → Int32} {mac : Nat → Int32} {mfi : Nat → Int32} {mse : Nat → Int32} {mtd : Nat → Int32} {mra : Int32} {mkp : Nat → Int32} {N : Nat} {p1 : Int32} {p2 : Int32} {r' : Int32} {mme' : Nat → Int32} {mco' : Nat → Int32} {mcn' : Nat → Int32} {mvi' : Int32} (F : CallFix p m c cX12_rootsOne 4 s args bigW RX12) (hr : meth.sig.returnType = (some .int)) (hlk : meth.locks = false) (C : KM Z s) : ∀ (mme : Nat → Int32) (mco : Nat → Int32) (mcn : Nat → Int32) (mvi : Int32), fX12_rootsOne_49 N mde p1 p2 mme mco mcn mvi = some (r', mme', mco', mcn', mvi') → ∀ (H : Heap) (locs : List Loc), PM Z mth mto mrw mta mtp mat mtt mme mun mde mco mcn mvi men mfa mac mfi mse mtd mra mkp H → va_S (AM Z) s.heap H locs → ∀ ls : Array Slot, lv_has ls 4 [(0, .ref (mA Z 0)), (1, .int p1), (2, .int p2)] → W p l e (rmk 206 4882) s m args below meth c H locs 0 0 (MQ below (Qi (KM Z) (AM Z) (PM Z mth mto mrw mta mtp mat mtt mme' mun mde mco' mcn' mvi' men mfa mac mfi mse mtd mra mkp) r') args s 0 0 (AM Z)) (F0 m 49 ls []) := by
  intro mme mco mcn mvi hE H locs hP hS ls hl
  unfold fX12_rootsOne_49 at hE
  refine lv_aload_n F.1 F.2.1 dX12_rootsOne_49 rfl (lv_at hl 0 rfl) ?_
  refine gX12_53 F C hP dX12_rootsOne_50 ?_
  refine lv_aload_n F.1 F.2.1 dX12_rootsOne_53 rfl (lv_at hl 0 rfl) ?_
  refine gX12_85 F C hP dX12_rootsOne_54 ?_
  refine lv_iconst (v := 2) F.1 F.2.1 dX12_rootsOne_57 (by decide) ?_
  refine lv_iadd F.1 F.2.1 dX12_rootsOne_58 ?_
  obtain ⟨hi, hE⟩ := grd_some hE
  refine am3 F C hP hi dX12_rootsOne_59 ?_
  obtain ⟨v_358, ev_358, hE⟩ := lt_some hE
  refine lv_seti ev_358 ?_
  refine lv_istore_n (lv' := [(3, .int v_358), (0, .ref (mA Z 0)), (1, .int p1), (2, .int p2)]) F.1 F.2.1 dX12_rootsOne_60 rfl hl (by decide) rfl (fun ls hl => ?_)
  refine lv_aload_n F.1 F.2.1 dX12_rootsOne_61 rfl (lv_at hl 1 rfl) ?_
  refine lv_iload_n F.1 F.2.1 dX12_rootsOne_62 rfl (lv_at hl 2 rfl) ?_
  refine lv_iload_n F.1 F.2.1 dX12_rootsOne_63 rfl (lv_at hl 3 rfl) ?_
  obtain ⟨mme_359, hc, hE⟩ := bnd1_some hE
  refine aft_v (run_V (rest := []) F (kX12_laysRoot hc) (okM Z) C hS lkX12_128 ⟨Nat.le_of_ble_eq_true rfl, Nat.le_of_ble_eq_true rfl⟩ (rvM C hP) hP rfl hl.1 rfl (lv_room (Nat.le_of_ble_eq_true rfl)) dX12_rootsOne_64 ⟨Nat.zero_le _, Nat.zero_le _⟩) hS (fun H locs hP hS => ?_)
  refine lv_aload_n F.1 F.2.1 dX12_rootsOne_67 rfl (lv_at hl 1 rfl) ?_
  obtain ⟨mme_360, mco_360, mcn_360, mvi_360, hc, hE⟩ := bnd4_some hE
  refine aft_v (run_V (rest := []) F (kX12_isActed hc) (okM Z) C hS lkX12_213 ⟨Nat.le_of_ble_eq_true rfl, Nat.le_of_ble_eq_true rfl⟩ (rvM C hP) hP rfl hl.1 rfl (lv_room (Nat.le_of_ble_eq_true rfl)) dX12_rootsOne_68 ⟨Nat.zero_le _, Nat.zero_le _⟩) hS (fun H locs hP hS => ?_)
  refine lv_aload_n F.1 F.2.1 dX12_rootsOne_71 rfl (lv_at hl 1 rfl) ?_
  refine gX12_53 F C hP dX12_rootsOne_72 ?_
  refine lv_aload_n F.1 F.2.1 dX12_rootsOne_75 rfl (lv_at hl 1 rfl) ?_
  refine gX12_85 F C hP dX12_rootsOne_76 ?_
  refine lv_iconst (v := 2) F.1 F.2.1 dX12_rootsOne_79 (by decide) ?_
  refine lv_iadd F.1 F.2.1 dX12_rootsOne_80 ?_
  obtain ⟨hi, hE⟩ := grd_some hE
  refine am3 F C hP hi dX12_rootsOne_81 ?_
  refine lv_iload_n F.1 F.2.1 dX12_rootsOne_82 rfl (lv_at hl 0 rfl) ?_
  refine lv_isub F.1 F.2.1 dX12_rootsOne_83 ?_
  have w0 := Option.some.inj hE
  obtain ⟨g0, w1⟩ := Prod.mk.inj w0
  obtain ⟨g1, w2⟩ := Prod.mk.inj w1
  obtain ⟨g2, w3⟩ := Prod.mk.inj w2
  obtain ⟨g3, w4⟩ := Prod.mk.inj w3
  subst g0 g1 g2 g3 w4
  exact ret_i F hr hlk hP hS dX12_rootsOne_84
set_option maxRecDepth 100000 in
set_option maxHeartbeats 4000000 in
theorem kX12_rootsOne {l : Launch} {Z : ZC} {mth : Int32} {mto : Int32} {mrw : Nat → Int64} {mta : Nat → Int32} {mtp : Int32} {mat : Int32} {mtt : Int32} {mme : Nat → Int32} {mun : Int32} {mde : Int32} {mco : Nat → Int32} {mcn : Nat → Int32} {mvi : Int32} {men : Int32} {mfa : Nat → Int32} {mac : Nat → Int32} {mfi : Nat → Int32} {mse : Nat → Int32} {mtd : Nat → Int32} {mra : Int32} {mkp : Nat → Int32} {N : Nat} {p1 : Int32} {p2 : Int32} {r' : Int32} {mme' : Nat → Int32} {mco' : Nat → Int32} {mcn' : Nat → Int32} {mvi' : Int32} (hE : fX12_rootsOne N mme mde mco mcn mvi p1 p2 = some (r', mme', mco', mcn', mvi')) : Mg l yX12_rootsOne cX12_rootsOne 4 (some .int) (rmk 206 4882) (KM Z) (AM Z) [.ref (mA Z 0), .int p1, .int p2] (PM Z mth mto mrw mta mtp mat mtt mme mun mde mco mcn mvi men mfa mac mfi mse mtd mra mkp) (Qi (KM Z) (AM Z) (PM Z mth mto mrw mta mtp mat mtt mme' mun mde mco' mcn' mvi' men mfa mac mfi mse mtd mra mkp) r') := by
  refine Mg.start (lv := [(0, .ref (mA Z 0)), (1, .int p1), (2, .int p2)]) (by decide) rfl (Nat.le_of_ble_eq_true rfl) rfl ?_
  intro p e s m below meth c F hr hlk C hP ls hl
  have hS : va_S (AM Z) s.heap s.heap [] := va_S.rf
  unfold fX12_rootsOne at hE
  refine lv_iload_n F.1 F.2.1 dX12_rootsOne_0 rfl (lv_at hl 1 rfl) ?_
  refine lv_i2l (v := p1.toInt64) F.1 F.2.1 dX12_rootsOne_1 rfl ?_
  refine lv_lconst (v := 0) F.1 F.2.1 dX12_rootsOne_2 (by decide) ?_
  refine lv_ldc2 (v := 5) F.1 F.2.1 F.2.2.2.1 (F.2.2.2.2 _ (bw_t 1083 (by decide +kernel) rfl)) dX12_rootsOne_3 ?_
  obtain ⟨r354, hc, hE⟩ := bnd1_some hE
  refine aft_i (run_S (rest := []) F (kX12_in hc) (okM Z) C hS lkX12_21 ⟨Nat.le_of_ble_eq_true rfl, Nat.le_of_ble_eq_true rfl⟩ hP rfl hl.1 rfl (lv_room (Nat.le_of_ble_eq_true rfl)) dX12_rootsOne_6 ⟨Nat.zero_le _, Nat.zero_le _⟩) hS (fun H locs hP hS => ?_)
  refine lv_if_eq (tgt := 20) F.1 F.2.1 dX12_rootsOne_9 (by decide) (fun hc => ?_) (fun hc => ?_)
  · have hE := ifp hE hc
    refine lv_iconst (v := (-1)) F.1 F.2.1 dX12_rootsOne_20 (by decide) ?_
    have w0 := Option.some.inj hE
    obtain ⟨g0, w1⟩ := Prod.mk.inj w0
    obtain ⟨g1, w2⟩ := Prod.mk.inj w1
    obtain ⟨g2, w3⟩ := Prod.mk.inj w2
    obtain ⟨g3, w4⟩ := Prod.mk.inj w3
    subst g0 g1 g2 g3 w4
    exact ret_i F hr hlk hP hS dX12_rootsOne_21
  · have hE := ifn hE hc
    refine lv_aload_n F.1 F.2.1 dX12_rootsOne_12 rfl (lv_at hl 0 rfl) ?_
    refine lv_iload_n F.1 F.2.1 dX12_rootsOne_13 rfl (lv_at hl 2 rfl) ?_
    obtain ⟨r355, hc, hE⟩ := bnd1_some hE
    refine aft_i (run_V (rest := []) F (kX12_isOther hc) (okM Z) C hS lkX12_219 ⟨Nat.le_of_ble_eq_true rfl, Nat.le_of_ble_eq_true rfl⟩ (rvM C hP) hP rfl hl.1 rfl (lv_room (Nat.le_of_ble_eq_true rfl)) dX12_rootsOne_14 ⟨Nat.zero_le _, Nat.zero_le _⟩) hS (fun H locs hP hS => ?_)
    refine lv_if_ne (tgt := 22) F.1 F.2.1 dX12_rootsOne_17 (by decide) (fun hc => ?_) (fun hc => ?_)
    · have hE := ifn hE hc
      refine lv_aload_n F.1 F.2.1 dX12_rootsOne_22 rfl (lv_at hl 0 rfl) ?_
      refine lv_iload_n F.1 F.2.1 dX12_rootsOne_23 rfl (lv_at hl 1 rfl) ?_
      obtain ⟨r356, hc, hE⟩ := bnd1_some hE
      refine aft_i (run_V (rest := []) F (kX12_rootOf hc) (okM Z) C hS lkX12_131 ⟨Nat.le_of_ble_eq_true rfl, Nat.le_of_ble_eq_true rfl⟩ (rvM C hP) hP rfl hl.1 rfl (lv_room (Nat.le_of_ble_eq_true rfl)) dX12_rootsOne_24 ⟨Nat.zero_le _, Nat.zero_le _⟩) hS (fun H locs hP hS => ?_)
      refine lv_iload_n F.1 F.2.1 dX12_rootsOne_27 rfl (lv_at hl 2 rfl) ?_
      refine lv_icmp_ne (tgt := 34) F.1 F.2.1 dX12_rootsOne_28 (by decide) (fun hc => ?_) (fun hc => ?_)
      · have hE := ifn hE hc
        refine lv_iload_n F.1 F.2.1 dX12_rootsOne_34 rfl (lv_at hl 2 rfl) ?_
        refine lv_if_lt (tgt := 49) F.1 F.2.1 dX12_rootsOne_35 (by decide) (fun hc => ?_) (fun hc => ?_)
        · have hE := ifp hE hc
          exact qX12_rootsOne_49 F hr hlk C mme mco mcn mvi hE _ _ hP hS ls (lv_sub hl [0, 1, 2] rfl)
        · have hE := ifn hE hc
          refine lv_aload_n F.1 F.2.1 dX12_rootsOne_38 rfl (lv_at hl 0 rfl) ?_
          refine lv_iload_n F.1 F.2.1 dX12_rootsOne_39 rfl (lv_at hl 2 rfl) ?_
          obtain ⟨r357, hc, hE⟩ := bnd1_some hE
          refine aft_i (run_V (rest := []) F (kX12_isReached hc) (okM Z) C hS lkX12_222 ⟨Nat.le_of_ble_eq_true rfl, Nat.le_of_ble_eq_true rfl⟩ (rvM C hP) hP rfl hl.1 rfl (lv_room (Nat.le_of_ble_eq_true rfl)) dX12_rootsOne_40 ⟨Nat.zero_le _, Nat.zero_le _⟩) hS (fun H locs hP hS => ?_)
          refine lv_if_ne (tgt := 49) F.1 F.2.1 dX12_rootsOne_43 (by decide) (fun hc => ?_) (fun hc => ?_)
          · have hE := ifn hE hc
            exact qX12_rootsOne_49 F hr hlk C mme mco mcn mvi hE _ _ hP hS ls (lv_sub hl [0, 1, 2] rfl)
          · have hE := ifp hE hc
            refine lv_bipush (v := (-3)) F.1 F.2.1 dX12_rootsOne_46 (by decide) ?_
            have w0 := Option.some.inj hE
            obtain ⟨g0, w1⟩ := Prod.mk.inj w0
            obtain ⟨g1, w2⟩ := Prod.mk.inj w1
            obtain ⟨g2, w3⟩ := Prod.mk.inj w2
            obtain ⟨g3, w4⟩ := Prod.mk.inj w3
            subst g0 g1 g2 g3 w4
            exact ret_i F hr hlk hP hS dX12_rootsOne_48
      · have hE := ifp hE hc
        refine lv_bipush (v := (-2)) F.1 F.2.1 dX12_rootsOne_31 (by decide) ?_
        have w0 := Option.some.inj hE
        obtain ⟨g0, w1⟩ := Prod.mk.inj w0
        obtain ⟨g1, w2⟩ := Prod.mk.inj w1
        obtain ⟨g2, w3⟩ := Prod.mk.inj w2
        obtain ⟨g3, w4⟩ := Prod.mk.inj w3
        subst g0 g1 g2 g3 w4
        exact ret_i F hr hlk hP hS dX12_rootsOne_33
    · have hE := ifp hE hc
      refine lv_iconst (v := (-1)) F.1 F.2.1 dX12_rootsOne_20 (by decide) ?_
      have w0 := Option.some.inj hE
      obtain ⟨g0, w1⟩ := Prod.mk.inj w0
      obtain ⟨g1, w2⟩ := Prod.mk.inj w1
      obtain ⟨g2, w3⟩ := Prod.mk.inj w2
      obtain ⟨g3, w4⟩ := Prod.mk.inj w3
      subst g0 g1 g2 g3 w4
      exact ret_i F hr hlk hP hS dX12_rootsOne_21
set_option maxRecDepth 100000 in
set_option maxHeartbeats 4000000 in
theorem qX12_weaksOne_52 {p : Program} {l : Launch} {e : Env} {s : State} {m : MethodId} {args : Array Value} {below : List Frame} {meth : Method} {c : Code} {Z : ZC} {mth : Int32} {mto : Int32} {mrw : Nat → Int64} {mta : Nat → Int32} {mtp : Int32} {mat : Int32} {mtt : Int32} {mun : Int32} {mde : Int32} {mco : Nat → Int32} {mcn : Nat → Int32} {mvi : Int32} {men : Int32} {mfa : Nat → Int32} {mac : Nat → Int32} {mfi : Nat → Int32} {mse : Nat → Int32} {mtd : Nat → Int32} {mra : Int32} {mkp : Nat → Int32} {N : Nat} {p1 : Int32} {p2 : Int32} {r' : Int32} {mme' : Nat → Int32} (F : CallFix p m c cX12_weaksOne 4 s args bigW RX12) (hr : meth.sig.returnType = (some .int)) (hlk : meth.locks = false) (C : KM Z s) : ∀ (mme : Nat → Int32) (x3 : Int32), fX12_weaksOne_52 N mde p1 p2 mme x3 = some (r', mme') → ∀ (H : Heap) (locs : List Loc), PM Z mth mto mrw mta mtp mat mtt mme mun mde mco mcn mvi men mfa mac mfi mse mtd mra mkp H → va_S (AM Z) s.heap H locs → ∀ ls : Array Slot, lv_has ls 4 [(0, .ref (mA Z 0)), (1, .int p1), (2, .int p2), (3, .int x3)] → W p l e (rmk 6 133) s m args below meth c H locs 0 0 (MQ below (Qi (KM Z) (AM Z) (PM Z mth mto mrw mta mtp mat mtt mme' mun mde mco mcn mvi men mfa mac mfi mse mtd mra mkp) r') args s 0 0 (AM Z)) (F0 m 52 ls []) := by
  intro mme x3 hE H locs hP hS ls hl
  unfold fX12_weaksOne_52 at hE
  refine lv_aload_n F.1 F.2.1 dX12_weaksOne_52 rfl (lv_at hl 0 rfl) ?_
  refine gX12_53 F C hP dX12_weaksOne_53 ?_
  refine lv_aload_n F.1 F.2.1 dX12_weaksOne_56 rfl (lv_at hl 0 rfl) ?_
  refine gX12_85 F C hP dX12_weaksOne_57 ?_
  refine lv_bipush (v := 39) F.1 F.2.1 dX12_weaksOne_60 (by decide) ?_
  refine lv_iadd F.1 F.2.1 dX12_weaksOne_62 ?_
  refine lv_iload_n F.1 F.2.1 dX12_weaksOne_63 rfl (lv_at hl 1 rfl) ?_
  refine lv_iadd F.1 F.2.1 dX12_weaksOne_64 ?_
  refine lv_iload_n F.1 F.2.1 dX12_weaksOne_65 rfl (lv_at hl 2 rfl) ?_
  obtain ⟨hi, hE⟩ := grd_some hE
  obtain ⟨mme_370, emme_370, hE⟩ := lt_some hE
  refine sm3 F C hP hi hS emme_370.symm dX12_weaksOne_66 (fun H locs hP hS => ?_)
  refine lv_iload_n F.1 F.2.1 dX12_weaksOne_67 rfl (lv_at hl 3 rfl) ?_
  have w0 := Option.some.inj hE
  obtain ⟨g0, w1⟩ := Prod.mk.inj w0
  subst g0 w1
  exact ret_i F hr hlk hP hS dX12_weaksOne_68
set_option maxRecDepth 100000 in
set_option maxHeartbeats 4000000 in
theorem kX12_weaksOne {l : Launch} {Z : ZC} {mth : Int32} {mto : Int32} {mrw : Nat → Int64} {mta : Nat → Int32} {mtp : Int32} {mat : Int32} {mtt : Int32} {mme : Nat → Int32} {mun : Int32} {mde : Int32} {mco : Nat → Int32} {mcn : Nat → Int32} {mvi : Int32} {men : Int32} {mfa : Nat → Int32} {mac : Nat → Int32} {mfi : Nat → Int32} {mse : Nat → Int32} {mtd : Nat → Int32} {mra : Int32} {mkp : Nat → Int32} {N : Nat} {p1 : Int32} {p2 : Int32} {r' : Int32} {mme' : Nat → Int32} (hE : fX12_weaksOne N mme mde p1 p2 = some (r', mme')) : Mg l yX12_weaksOne cX12_weaksOne 4 (some .int) (rmk 6 133) (KM Z) (AM Z) [.ref (mA Z 0), .int p1, .int p2] (PM Z mth mto mrw mta mtp mat mtt mme mun mde mco mcn mvi men mfa mac mfi mse mtd mra mkp) (Qi (KM Z) (AM Z) (PM Z mth mto mrw mta mtp mat mtt mme' mun mde mco mcn mvi men mfa mac mfi mse mtd mra mkp) r') := by
  refine Mg.start (lv := [(0, .ref (mA Z 0)), (1, .int p1), (2, .int p2)]) (by decide) rfl (Nat.le_of_ble_eq_true rfl) rfl ?_
  intro p e s m below meth c F hr hlk C hP ls hl
  have hS : va_S (AM Z) s.heap s.heap [] := va_S.rf
  unfold fX12_weaksOne at hE
  refine lv_iload_n F.1 F.2.1 dX12_weaksOne_0 rfl (lv_at hl 1 rfl) ?_
  refine lv_i2l (v := p1.toInt64) F.1 F.2.1 dX12_weaksOne_1 rfl ?_
  refine lv_lconst (v := 0) F.1 F.2.1 dX12_weaksOne_2 (by decide) ?_
  refine lv_ldc2 (v := 3) F.1 F.2.1 F.2.2.2.1 (F.2.2.2.2 _ (bw_t 1282 (by decide +kernel) rfl)) dX12_weaksOne_3 ?_
  obtain ⟨r366, hc, hE⟩ := bnd1_some hE
  refine aft_i (run_S (rest := []) F (kX12_in hc) (okM Z) C hS lkX12_21 ⟨Nat.le_of_ble_eq_true rfl, Nat.le_of_ble_eq_true rfl⟩ hP rfl hl.1 rfl (lv_room (Nat.le_of_ble_eq_true rfl)) dX12_weaksOne_6 ⟨Nat.zero_le _, Nat.zero_le _⟩) hS (fun H locs hP hS => ?_)
  refine lv_if_eq (tgt := 20) F.1 F.2.1 dX12_weaksOne_9 (by decide) (fun hc => ?_) (fun hc => ?_)
  · have hE := ifp hE hc
    refine lv_bipush (v := (-4)) F.1 F.2.1 dX12_weaksOne_20 (by decide) ?_
    have w0 := Option.some.inj hE
    obtain ⟨g0, w1⟩ := Prod.mk.inj w0
    subst g0 w1
    exact ret_i F hr hlk hP hS dX12_weaksOne_22
  · have hE := ifn hE hc
    refine lv_aload_n F.1 F.2.1 dX12_weaksOne_12 rfl (lv_at hl 0 rfl) ?_
    refine lv_iload_n F.1 F.2.1 dX12_weaksOne_13 rfl (lv_at hl 2 rfl) ?_
    obtain ⟨r367, hc, hE⟩ := bnd1_some hE
    refine aft_i (run_V (rest := []) F (kX12_isOther hc) (okM Z) C hS lkX12_219 ⟨Nat.le_of_ble_eq_true rfl, Nat.le_of_ble_eq_true rfl⟩ (rvM C hP) hP rfl hl.1 rfl (lv_room (Nat.le_of_ble_eq_true rfl)) dX12_weaksOne_14 ⟨Nat.zero_le _, Nat.zero_le _⟩) hS (fun H locs hP hS => ?_)
    refine lv_if_ne (tgt := 23) F.1 F.2.1 dX12_weaksOne_17 (by decide) (fun hc => ?_) (fun hc => ?_)
    · have hE := ifn hE hc
      refine lv_aload_n F.1 F.2.1 dX12_weaksOne_23 rfl (lv_at hl 0 rfl) ?_
      refine lv_iload_n F.1 F.2.1 dX12_weaksOne_24 rfl (lv_at hl 1 rfl) ?_
      obtain ⟨r368, hc, hE⟩ := bnd1_some hE
      refine aft_i (run_V (rest := []) F (kX12_weakOf hc) (okM Z) C hS lkX12_143 ⟨Nat.le_of_ble_eq_true rfl, Nat.le_of_ble_eq_true rfl⟩ (rvM C hP) hP rfl hl.1 rfl (lv_room (Nat.le_of_ble_eq_true rfl)) dX12_weaksOne_25 ⟨Nat.zero_le _, Nat.zero_le _⟩) hS (fun H locs hP hS => ?_)
      refine lv_istore_n (lv' := [(3, .int r368), (0, .ref (mA Z 0)), (1, .int p1), (2, .int p2)]) F.1 F.2.1 dX12_weaksOne_28 rfl hl (by decide) rfl (fun ls hl => ?_)
      refine lv_iload_n F.1 F.2.1 dX12_weaksOne_29 rfl (lv_at hl 0 rfl) ?_
      refine lv_iload_n F.1 F.2.1 dX12_weaksOne_30 rfl (lv_at hl 3 rfl) ?_
      refine lv_icmp_ne (tgt := 37) F.1 F.2.1 dX12_weaksOne_31 (by decide) (fun hc => ?_) (fun hc => ?_)
      · have hE := ifn hE hc
        refine lv_iload_n F.1 F.2.1 dX12_weaksOne_37 rfl (lv_at hl 3 rfl) ?_
        refine lv_if_lt (tgt := 52) F.1 F.2.1 dX12_weaksOne_38 (by decide) (fun hc => ?_) (fun hc => ?_)
        · have hE := ifp hE hc
          exact qX12_weaksOne_52 F hr hlk C mme r368 hE _ _ hP hS ls (lv_sub hl [1, 2, 3, 0] rfl)
        · have hE := ifn hE hc
          refine lv_aload_n F.1 F.2.1 dX12_weaksOne_41 rfl (lv_at hl 1 rfl) ?_
          refine lv_iload_n F.1 F.2.1 dX12_weaksOne_42 rfl (lv_at hl 3 rfl) ?_
          obtain ⟨r369, hc, hE⟩ := bnd1_some hE
          refine aft_i (run_V (rest := []) F (kX12_isReached hc) (okM Z) C hS lkX12_222 ⟨Nat.le_of_ble_eq_true rfl, Nat.le_of_ble_eq_true rfl⟩ (rvM C hP) hP rfl hl.1 rfl (lv_room (Nat.le_of_ble_eq_true rfl)) dX12_weaksOne_43 ⟨Nat.zero_le _, Nat.zero_le _⟩) hS (fun H locs hP hS => ?_)
          refine lv_if_ne (tgt := 52) F.1 F.2.1 dX12_weaksOne_46 (by decide) (fun hc => ?_) (fun hc => ?_)
          · have hE := ifn hE hc
            exact qX12_weaksOne_52 F hr hlk C mme r368 hE _ _ hP hS ls (lv_sub hl [1, 2, 3, 0] rfl)
          · have hE := ifp hE hc
            refine lv_bipush (v := (-3)) F.1 F.2.1 dX12_weaksOne_49 (by decide) ?_
            have w0 := Option.some.inj hE
            obtain ⟨g0, w1⟩ := Prod.mk.inj w0
            subst g0 w1
            exact ret_i F hr hlk hP hS dX12_weaksOne_51
      · have hE := ifp hE hc
        refine lv_bipush (v := (-2)) F.1 F.2.1 dX12_weaksOne_34 (by decide) ?_
        have w0 := Option.some.inj hE
        obtain ⟨g0, w1⟩ := Prod.mk.inj w0
        subst g0 w1
        exact ret_i F hr hlk hP hS dX12_weaksOne_36
    · have hE := ifp hE hc
      refine lv_bipush (v := (-4)) F.1 F.2.1 dX12_weaksOne_20 (by decide) ?_
      have w0 := Option.some.inj hE
      obtain ⟨g0, w1⟩ := Prod.mk.inj w0
      subst g0 w1
      exact ret_i F hr hlk hP hS dX12_weaksOne_22
set_option maxRecDepth 100000 in
set_option maxHeartbeats 4000000 in
theorem kX12_wakesOne {l : Launch} {Z : ZC} {mth : Int32} {mto : Int32} {mrw : Nat → Int64} {mta : Nat → Int32} {mtp : Int32} {mat : Int32} {mtt : Int32} {mme : Nat → Int32} {mun : Int32} {mde : Int32} {mco : Nat → Int32} {mcn : Nat → Int32} {mvi : Int32} {men : Int32} {mfa : Nat → Int32} {mac : Nat → Int32} {mfi : Nat → Int32} {mse : Nat → Int32} {mtd : Nat → Int32} {mra : Int32} {mkp : Nat → Int32} {N : Nat} {p1 : Int32} {p2 : Int32} {r' : Int32} {mme' : Nat → Int32} {mco' : Nat → Int32} {mcn' : Nat → Int32} {mvi' : Int32} (hE : fX12_wakesOne N mme mde mco mcn mvi p1 p2 = some (r', mme', mco', mcn', mvi')) : Mg l yX12_wakesOne cX12_wakesOne 5 (some .int) (rmk 206 4882) (KM Z) (AM Z) [.ref (mA Z 0), .int p1, .int p2] (PM Z mth mto mrw mta mtp mat mtt mme mun mde mco mcn mvi men mfa mac mfi mse mtd mra mkp) (Qi (KM Z) (AM Z) (PM Z mth mto mrw mta mtp mat mtt mme' mun mde mco' mcn' mvi' men mfa mac mfi mse mtd mra mkp) r') := by
  refine Mg.start (lv := [(0, .ref (mA Z 0)), (1, .int p1), (2, .int p2)]) (by decide) rfl (Nat.le_of_ble_eq_true rfl) rfl ?_
  intro p e s m below meth c F hr hlk C hP ls hl
  have hS : va_S (AM Z) s.heap s.heap [] := va_S.rf
  unfold fX12_wakesOne at hE
  refine lv_iload_n F.1 F.2.1 dX12_wakesOne_0 rfl (lv_at hl 1 rfl) ?_
  refine lv_i2l (v := p1.toInt64) F.1 F.2.1 dX12_wakesOne_1 rfl ?_
  refine lv_lconst (v := 0) F.1 F.2.1 dX12_wakesOne_2 (by decide) ?_
  refine lv_ldc2 (v := 3) F.1 F.2.1 F.2.2.2.1 (F.2.2.2.2 _ (bw_t 1282 (by decide +kernel) rfl)) dX12_wakesOne_3 ?_
  obtain ⟨r378, hc, hE⟩ := bnd1_some hE
  refine aft_i (run_S (rest := []) F (kX12_in hc) (okM Z) C hS lkX12_21 ⟨Nat.le_of_ble_eq_true rfl, Nat.le_of_ble_eq_true rfl⟩ hP rfl hl.1 rfl (lv_room (Nat.le_of_ble_eq_true rfl)) dX12_wakesOne_6 ⟨Nat.zero_le _, Nat.zero_le _⟩) hS (fun H locs hP hS => ?_)
  refine lv_if_eq (tgt := 24) F.1 F.2.1 dX12_wakesOne_9 (by decide) (fun hc => ?_) (fun hc => ?_)
  · have hE := ifp hE hc
    refine lv_iconst (v := (-1)) F.1 F.2.1 dX12_wakesOne_24 (by decide) ?_
    have w0 := Option.some.inj hE
    obtain ⟨g0, w1⟩ := Prod.mk.inj w0
    obtain ⟨g1, w2⟩ := Prod.mk.inj w1
    obtain ⟨g2, w3⟩ := Prod.mk.inj w2
    obtain ⟨g3, w4⟩ := Prod.mk.inj w3
    subst g0 g1 g2 g3 w4
    exact ret_i F hr hlk hP hS dX12_wakesOne_25
  · have hE := ifn hE hc
    refine lv_iload_n F.1 F.2.1 dX12_wakesOne_12 rfl (lv_at hl 2 rfl) ?_
    refine lv_i2l (v := p2.toInt64) F.1 F.2.1 dX12_wakesOne_13 rfl ?_
    refine lv_lconst (v := 0) F.1 F.2.1 dX12_wakesOne_14 (by decide) ?_
    refine lv_ldc2 (v := 5) F.1 F.2.1 F.2.2.2.1 (F.2.2.2.2 _ (bw_t 1083 (by decide +kernel) rfl)) dX12_wakesOne_15 ?_
    obtain ⟨r379, hc, hE⟩ := bnd1_some hE
    refine aft_i (run_S (rest := []) F (kX12_in hc) (okM Z) C hS lkX12_21 ⟨Nat.le_of_ble_eq_true rfl, Nat.le_of_ble_eq_true rfl⟩ hP rfl hl.1 rfl (lv_room (Nat.le_of_ble_eq_true rfl)) dX12_wakesOne_18 ⟨Nat.zero_le _, Nat.zero_le _⟩) hS (fun H locs hP hS => ?_)
    refine lv_if_ne (tgt := 26) F.1 F.2.1 dX12_wakesOne_21 (by decide) (fun hc => ?_) (fun hc => ?_)
    · have hE := ifn hE hc
      refine lv_aload_n F.1 F.2.1 dX12_wakesOne_26 rfl (lv_at hl 0 rfl) ?_
      refine lv_iload_n F.1 F.2.1 dX12_wakesOne_27 rfl (lv_at hl 1 rfl) ?_
      obtain ⟨r380, hc, hE⟩ := bnd1_some hE
      refine aft_i (run_V (rest := []) F (kX12_weakOf hc) (okM Z) C hS lkX12_143 ⟨Nat.le_of_ble_eq_true rfl, Nat.le_of_ble_eq_true rfl⟩ (rvM C hP) hP rfl hl.1 rfl (lv_room (Nat.le_of_ble_eq_true rfl)) dX12_wakesOne_28 ⟨Nat.zero_le _, Nat.zero_le _⟩) hS (fun H locs hP hS => ?_)
      refine lv_istore_n (lv' := [(3, .int r380), (0, .ref (mA Z 0)), (1, .int p1), (2, .int p2)]) F.1 F.2.1 dX12_wakesOne_31 rfl hl (by decide) rfl (fun ls hl => ?_)
      refine lv_iload_n F.1 F.2.1 dX12_wakesOne_32 rfl (lv_at hl 0 rfl) ?_
      refine lv_if_ge (tgt := 39) F.1 F.2.1 dX12_wakesOne_33 (by decide) (fun hc => ?_) (fun hc => ?_)
      · have hE := ifp hE hc
        refine lv_aload_n F.1 F.2.1 dX12_wakesOne_39 rfl (lv_at hl 1 rfl) ?_
        refine lv_iload_n F.1 F.2.1 dX12_wakesOne_40 rfl (lv_at hl 3 rfl) ?_
        obtain ⟨r381, hc, hE⟩ := bnd1_some hE
        refine aft_i (run_V (rest := []) F (kX12_rootOf hc) (okM Z) C hS lkX12_131 ⟨Nat.le_of_ble_eq_true rfl, Nat.le_of_ble_eq_true rfl⟩ (rvM C hP) hP rfl hl.1 rfl (lv_room (Nat.le_of_ble_eq_true rfl)) dX12_wakesOne_41 ⟨Nat.zero_le _, Nat.zero_le _⟩) hS (fun H locs hP hS => ?_)
        refine lv_iload_n F.1 F.2.1 dX12_wakesOne_44 rfl (lv_at hl 0 rfl) ?_
        refine lv_icmp_ne (tgt := 51) F.1 F.2.1 dX12_wakesOne_45 (by decide) (fun hc => ?_) (fun hc => ?_)
        · have hE := ifn hE hc
          refine lv_aload_n F.1 F.2.1 dX12_wakesOne_51 rfl (lv_at hl 1 rfl) ?_
          refine gX12_53 F C hP dX12_wakesOne_52 ?_
          refine lv_aload_n F.1 F.2.1 dX12_wakesOne_55 rfl (lv_at hl 1 rfl) ?_
          refine gX12_85 F C hP dX12_wakesOne_56 ?_
          refine lv_iconst (v := 2) F.1 F.2.1 dX12_wakesOne_59 (by decide) ?_
          refine lv_iadd F.1 F.2.1 dX12_wakesOne_60 ?_
          obtain ⟨hi, hE⟩ := grd_some hE
          refine am3 F C hP hi dX12_wakesOne_61 ?_
          obtain ⟨v_382, ev_382, hE⟩ := lt_some hE
          refine lv_seti ev_382 ?_
          refine lv_istore (lv' := [(4, .int v_382), (3, .int r380), (0, .ref (mA Z 0)), (1, .int p1), (2, .int p2)]) F.1 F.2.1 dX12_wakesOne_62 hl (by decide) rfl (fun ls hl => ?_)
          refine lv_aload_n F.1 F.2.1 dX12_wakesOne_64 rfl (lv_at hl 2 rfl) ?_
          refine lv_iload_n F.1 F.2.1 dX12_wakesOne_65 rfl (lv_at hl 4 rfl) ?_
          refine lv_iload_n F.1 F.2.1 dX12_wakesOne_66 rfl (lv_at hl 1 rfl) ?_
          obtain ⟨mme_383, hc, hE⟩ := bnd1_some hE
          refine aft_v (run_V (rest := []) F (kX12_laysRoot hc) (okM Z) C hS lkX12_128 ⟨Nat.le_of_ble_eq_true rfl, Nat.le_of_ble_eq_true rfl⟩ (rvM C hP) hP rfl hl.1 rfl (lv_room (Nat.le_of_ble_eq_true rfl)) dX12_wakesOne_67 ⟨Nat.zero_le _, Nat.zero_le _⟩) hS (fun H locs hP hS => ?_)
          refine lv_aload_n F.1 F.2.1 dX12_wakesOne_70 rfl (lv_at hl 2 rfl) ?_
          obtain ⟨mme_384, mco_384, mcn_384, mvi_384, hc, hE⟩ := bnd4_some hE
          refine aft_v (run_V (rest := []) F (kX12_isActed hc) (okM Z) C hS lkX12_213 ⟨Nat.le_of_ble_eq_true rfl, Nat.le_of_ble_eq_true rfl⟩ (rvM C hP) hP rfl hl.1 rfl (lv_room (Nat.le_of_ble_eq_true rfl)) dX12_wakesOne_71 ⟨Nat.zero_le _, Nat.zero_le _⟩) hS (fun H locs hP hS => ?_)
          refine lv_aload_n F.1 F.2.1 dX12_wakesOne_74 rfl (lv_at hl 2 rfl) ?_
          refine gX12_53 F C hP dX12_wakesOne_75 ?_
          refine lv_aload_n F.1 F.2.1 dX12_wakesOne_78 rfl (lv_at hl 2 rfl) ?_
          refine gX12_85 F C hP dX12_wakesOne_79 ?_
          refine lv_iconst (v := 2) F.1 F.2.1 dX12_wakesOne_82 (by decide) ?_
          refine lv_iadd F.1 F.2.1 dX12_wakesOne_83 ?_
          obtain ⟨hi, hE⟩ := grd_some hE
          refine am3 F C hP hi dX12_wakesOne_84 ?_
          refine lv_iload F.1 F.2.1 dX12_wakesOne_85 (lv_at hl 0 rfl) ?_
          refine lv_isub F.1 F.2.1 dX12_wakesOne_87 ?_
          have w0 := Option.some.inj hE
          obtain ⟨g0, w1⟩ := Prod.mk.inj w0
          obtain ⟨g1, w2⟩ := Prod.mk.inj w1
          obtain ⟨g2, w3⟩ := Prod.mk.inj w2
          obtain ⟨g3, w4⟩ := Prod.mk.inj w3
          subst g0 g1 g2 g3 w4
          exact ret_i F hr hlk hP hS dX12_wakesOne_88
        · have hE := ifp hE hc
          refine lv_bipush (v := (-2)) F.1 F.2.1 dX12_wakesOne_48 (by decide) ?_
          have w0 := Option.some.inj hE
          obtain ⟨g0, w1⟩ := Prod.mk.inj w0
          obtain ⟨g1, w2⟩ := Prod.mk.inj w1
          obtain ⟨g2, w3⟩ := Prod.mk.inj w2
          obtain ⟨g3, w4⟩ := Prod.mk.inj w3
          subst g0 g1 g2 g3 w4
          exact ret_i F hr hlk hP hS dX12_wakesOne_50
      · have hE := ifn hE hc
        refine lv_bipush (v := (-3)) F.1 F.2.1 dX12_wakesOne_36 (by decide) ?_
        have w0 := Option.some.inj hE
        obtain ⟨g0, w1⟩ := Prod.mk.inj w0
        obtain ⟨g1, w2⟩ := Prod.mk.inj w1
        obtain ⟨g2, w3⟩ := Prod.mk.inj w2
        obtain ⟨g3, w4⟩ := Prod.mk.inj w3
        subst g0 g1 g2 g3 w4
        exact ret_i F hr hlk hP hS dX12_wakesOne_38
    · have hE := ifp hE hc
      refine lv_iconst (v := (-1)) F.1 F.2.1 dX12_wakesOne_24 (by decide) ?_
      have w0 := Option.some.inj hE
      obtain ⟨g0, w1⟩ := Prod.mk.inj w0
      obtain ⟨g1, w2⟩ := Prod.mk.inj w1
      obtain ⟨g2, w3⟩ := Prod.mk.inj w2
      obtain ⟨g3, w4⟩ := Prod.mk.inj w3
      subst g0 g1 g2 g3 w4
      exact ret_i F hr hlk hP hS dX12_wakesOne_25
set_option maxRecDepth 100000 in
set_option maxHeartbeats 4000000 in
theorem kX12_freedMany {l : Launch} {Z : ZC} {mth : Int32} {mto : Int32} {mrw : Nat → Int64} {mta : Nat → Int32} {mtp : Int32} {mat : Int32} {mtt : Int32} {mme : Nat → Int32} {mun : Int32} {mde : Int32} {mco : Nat → Int32} {mcn : Nat → Int32} {mvi : Int32} {men : Int32} {mfa : Nat → Int32} {mac : Nat → Int32} {mfi : Nat → Int32} {mse : Nat → Int32} {mtd : Nat → Int32} {mra : Int32} {mkp : Nat → Int32} {r' : Int32} (hE : fX12_freedMany mme mde = some r') : Mg l yX12_freedMany cX12_freedMany 1 (some .int) (rmk 0 0) (KM Z) (AM Z) [.ref (mA Z 0)] (PM Z mth mto mrw mta mtp mat mtt mme mun mde mco mcn mvi men mfa mac mfi mse mtd mra mkp) (Qi (KM Z) (AM Z) (PM Z mth mto mrw mta mtp mat mtt mme mun mde mco mcn mvi men mfa mac mfi mse mtd mra mkp) r') := by
  refine Mg.start (lv := [(0, .ref (mA Z 0))]) (by decide) rfl (Nat.le_of_ble_eq_true rfl) rfl ?_
  intro p e s m below meth c F hr hlk C hP ls hl
  have hS : va_S (AM Z) s.heap s.heap [] := va_S.rf
  unfold fX12_freedMany at hE
  refine lv_aload_n F.1 F.2.1 dX12_freedMany_0 rfl (lv_at hl 0 rfl) ?_
  refine gX12_53 F C hP dX12_freedMany_1 ?_
  refine lv_aload_n F.1 F.2.1 dX12_freedMany_4 rfl (lv_at hl 0 rfl) ?_
  refine gX12_85 F C hP dX12_freedMany_5 ?_
  refine lv_iconst (v := 3) F.1 F.2.1 dX12_freedMany_8 (by decide) ?_
  refine lv_iadd F.1 F.2.1 dX12_freedMany_9 ?_
  refine lv_iconst (v := 1) F.1 F.2.1 dX12_freedMany_10 (by decide) ?_
  refine lv_iadd F.1 F.2.1 dX12_freedMany_11 ?_
  obtain ⟨hi, hE⟩ := grd_some hE
  refine am3 F C hP hi dX12_freedMany_12 ?_
  refine lv_aload_n F.1 F.2.1 dX12_freedMany_13 rfl (lv_at hl 0 rfl) ?_
  refine gX12_53 F C hP dX12_freedMany_14 ?_
  refine lv_aload_n F.1 F.2.1 dX12_freedMany_17 rfl (lv_at hl 0 rfl) ?_
  refine gX12_85 F C hP dX12_freedMany_18 ?_
  refine lv_iconst (v := 3) F.1 F.2.1 dX12_freedMany_21 (by decide) ?_
  refine lv_iadd F.1 F.2.1 dX12_freedMany_22 ?_
  refine lv_iconst (v := 2) F.1 F.2.1 dX12_freedMany_23 (by decide) ?_
  refine lv_iadd F.1 F.2.1 dX12_freedMany_24 ?_
  obtain ⟨hi, hE⟩ := grd_some hE
  refine am3 F C hP hi dX12_freedMany_25 ?_
  refine lv_iadd F.1 F.2.1 dX12_freedMany_26 ?_
  obtain rfl := Option.some.inj hE
  exact ret_i F hr hlk hP hS dX12_freedMany_27
set_option maxRecDepth 100000 in
set_option maxHeartbeats 4000000 in
theorem kX12_trialOne {l : Launch} {Z : ZC} {mth : Int32} {mto : Int32} {mrw : Nat → Int64} {mta : Nat → Int32} {mtp : Int32} {mat : Int32} {mtt : Int32} {mme : Nat → Int32} {mun : Int32} {mde : Int32} {mco : Nat → Int32} {mcn : Nat → Int32} {mvi : Int32} {men : Int32} {mfa : Nat → Int32} {mac : Nat → Int32} {mfi : Nat → Int32} {mse : Nat → Int32} {mtd : Nat → Int32} {mra : Int32} {mkp : Nat → Int32} {N : Nat} {r' : Int32} {mme' : Nat → Int32} {mco' : Nat → Int32} {mcn' : Nat → Int32} {mvi' : Int32} {men' : Int32} (hE : fX12_trialOne N mme mde mco mcn mvi men = some (r', mme', mco', mcn', mvi', men')) : Mg l yX12_trialOne cX12_trialOne 3 (some .int) (rmk 205 4862) (KM Z) (AM Z) [.ref (mA Z 0)] (PM Z mth mto mrw mta mtp mat mtt mme mun mde mco mcn mvi men mfa mac mfi mse mtd mra mkp) (Qi (KM Z) (AM Z) (PM Z mth mto mrw mta mtp mat mtt mme' mun mde mco' mcn' mvi' men' mfa mac mfi mse mtd mra mkp) r') := by
  refine Mg.start (lv := [(0, .ref (mA Z 0))]) (by decide) rfl (Nat.le_of_ble_eq_true rfl) rfl ?_
  intro p e s m below meth c F hr hlk C hP ls hl
  have hS : va_S (AM Z) s.heap s.heap [] := va_S.rf
  unfold fX12_trialOne at hE
  refine lv_aload_n F.1 F.2.1 dX12_trialOne_0 rfl (lv_at hl 0 rfl) ?_
  obtain ⟨r391, hc, hE⟩ := bnd1_some hE
  refine aft_i (run_V (rest := []) F (kX12_listed hc) (okM Z) C hS lkX12_97 ⟨Nat.le_of_ble_eq_true rfl, Nat.le_of_ble_eq_true rfl⟩ (rvM C hP) hP rfl hl.1 rfl (lv_room (Nat.le_of_ble_eq_true rfl)) dX12_trialOne_1 ⟨Nat.zero_le _, Nat.zero_le _⟩) hS (fun H locs hP hS => ?_)
  refine lv_if_ne (tgt := 10) F.1 F.2.1 dX12_trialOne_4 (by decide) (fun hc => ?_) (fun hc => ?_)
  · have hE := ifn hE hc
    refine lv_aload_n F.1 F.2.1 dX12_trialOne_10 rfl (lv_at hl 0 rfl) ?_
    obtain ⟨r392, hc, hE⟩ := bnd1_some hE
    refine aft_i (run_V (rest := []) F (kX12_freedMany hc) (okM Z) C hS lkX12_227 ⟨Nat.le_of_ble_eq_true rfl, Nat.le_of_ble_eq_true rfl⟩ (rvM C hP) hP rfl hl.1 rfl (lv_room (Nat.le_of_ble_eq_true rfl)) dX12_trialOne_11 ⟨Nat.zero_le _, Nat.zero_le _⟩) hS (fun H locs hP hS => ?_)
    refine lv_istore_n (lv' := [(1, .int r392), (0, .ref (mA Z 0))]) F.1 F.2.1 dX12_trialOne_14 rfl hl (by decide) rfl (fun ls hl => ?_)
    refine lv_aload_n F.1 F.2.1 dX12_trialOne_15 rfl (lv_at hl 1 rfl) ?_
    refine gX12_53 F C hP dX12_trialOne_16 ?_
    refine lv_aload_n F.1 F.2.1 dX12_trialOne_19 rfl (lv_at hl 1 rfl) ?_
    refine gX12_85 F C hP dX12_trialOne_20 ?_
    refine lv_iconst (v := 3) F.1 F.2.1 dX12_trialOne_23 (by decide) ?_
    refine lv_iadd F.1 F.2.1 dX12_trialOne_24 ?_
    refine lv_iconst (v := 3) F.1 F.2.1 dX12_trialOne_25 (by decide) ?_
    refine lv_iadd F.1 F.2.1 dX12_trialOne_26 ?_
    obtain ⟨hi, hE⟩ := grd_some hE
    refine am3 F C hP hi dX12_trialOne_27 ?_
    obtain ⟨v_393, ev_393, hE⟩ := lt_some hE
    refine lv_seti ev_393 ?_
    refine lv_istore_n (lv' := [(2, .int v_393), (1, .int r392), (0, .ref (mA Z 0))]) F.1 F.2.1 dX12_trialOne_28 rfl hl (by decide) rfl (fun ls hl => ?_)
    refine lv_aload_n F.1 F.2.1 dX12_trialOne_29 rfl (lv_at hl 2 rfl) ?_
    obtain ⟨mme_394, mco_394, mcn_394, mvi_394, hc, hE⟩ := bnd4_some hE
    refine aft_v (run_V (rest := []) F (kX12_runsTrial hc) (okM Z) C hS lkX12_190 ⟨Nat.le_of_ble_eq_true rfl, Nat.le_of_ble_eq_true rfl⟩ (rvM C hP) hP rfl hl.1 rfl (lv_room (Nat.le_of_ble_eq_true rfl)) dX12_trialOne_30 ⟨Nat.zero_le _, Nat.zero_le _⟩) hS (fun H locs hP hS => ?_)
    refine lv_aload_n F.1 F.2.1 dX12_trialOne_33 rfl (lv_at hl 2 rfl) ?_
    refine lv_aload_n F.1 F.2.1 dX12_trialOne_34 rfl (lv_at hl 2 rfl) ?_
    refine gX12_53 F C hP dX12_trialOne_35 ?_
    refine lv_aload_n F.1 F.2.1 dX12_trialOne_38 rfl (lv_at hl 2 rfl) ?_
    refine gX12_85 F C hP dX12_trialOne_39 ?_
    refine lv_iconst (v := 3) F.1 F.2.1 dX12_trialOne_42 (by decide) ?_
    refine lv_iadd F.1 F.2.1 dX12_trialOne_43 ?_
    refine lv_iconst (v := 3) F.1 F.2.1 dX12_trialOne_44 (by decide) ?_
    refine lv_iadd F.1 F.2.1 dX12_trialOne_45 ?_
    obtain ⟨hi, hE⟩ := grd_some hE
    refine am3 F C hP hi dX12_trialOne_46 ?_
    refine lv_iload_n F.1 F.2.1 dX12_trialOne_47 rfl (lv_at hl 0 rfl) ?_
    refine lv_isub F.1 F.2.1 dX12_trialOne_48 ?_
    obtain ⟨men_395, emen_395, hE⟩ := lt_some hE
    refine pX12_230 F C hP hS emen_395.symm dX12_trialOne_49 (fun H locs hP hS => ?_)
    refine lv_aload_n F.1 F.2.1 dX12_trialOne_52 rfl (lv_at hl 2 rfl) ?_
    obtain ⟨r396, hc, hE⟩ := bnd1_some hE
    refine aft_i (run_V (rest := []) F (kX12_freedMany hc) (okM Z) C hS lkX12_227 ⟨Nat.le_of_ble_eq_true rfl, Nat.le_of_ble_eq_true rfl⟩ (rvM C hP) hP rfl hl.1 rfl (lv_room (Nat.le_of_ble_eq_true rfl)) dX12_trialOne_53 ⟨Nat.zero_le _, Nat.zero_le _⟩) hS (fun H locs hP hS => ?_)
    refine lv_iload_n F.1 F.2.1 dX12_trialOne_56 rfl (lv_at hl 1 rfl) ?_
    refine lv_isub F.1 F.2.1 dX12_trialOne_57 ?_
    have w0 := Option.some.inj hE
    obtain ⟨g0, w1⟩ := Prod.mk.inj w0
    obtain ⟨g1, w2⟩ := Prod.mk.inj w1
    obtain ⟨g2, w3⟩ := Prod.mk.inj w2
    obtain ⟨g3, w4⟩ := Prod.mk.inj w3
    obtain ⟨g4, w5⟩ := Prod.mk.inj w4
    subst g0 g1 g2 g3 g4 w5
    exact ret_i F hr hlk hP hS dX12_trialOne_58
  · have hE := ifp hE hc
    refine lv_bipush (v := (-2)) F.1 F.2.1 dX12_trialOne_7 (by decide) ?_
    have w0 := Option.some.inj hE
    obtain ⟨g0, w1⟩ := Prod.mk.inj w0
    obtain ⟨g1, w2⟩ := Prod.mk.inj w1
    obtain ⟨g2, w3⟩ := Prod.mk.inj w2
    obtain ⟨g3, w4⟩ := Prod.mk.inj w3
    obtain ⟨g4, w5⟩ := Prod.mk.inj w4
    subst g0 g1 g2 g3 g4 w5
    exact ret_i F hr hlk hP hS dX12_trialOne_9
set_option maxRecDepth 100000 in
set_option maxHeartbeats 4000000 in
theorem kX12_entersBoth {l : Launch} {Z : ZC} {mth : Int32} {mto : Int32} {mrw : Nat → Int64} {mta : Nat → Int32} {mtp : Int32} {mat : Int32} {mtt : Int32} {mme : Nat → Int32} {mun : Int32} {mde : Int32} {mco : Nat → Int32} {mcn : Nat → Int32} {mvi : Int32} {men : Int32} {mfa : Nat → Int32} {mac : Nat → Int32} {mfi : Nat → Int32} {mse : Nat → Int32} {mtd : Nat → Int32} {mra : Int32} {mkp : Nat → Int32} {N : Nat} {p1 : Int32} {r' : Int32} {mto' : Int32} {mrw' : Nat → Int64} (hE : fX12_entersBoth N mto mrw mme mde p1 = some (r', mto', mrw')) : Mg l yX12_entersBoth cX12_entersBoth 2 (some .int) (rmk 2 44) (KM Z) (AM Z) [.ref (mA Z 0), .int p1] (PM Z mth mto mrw mta mtp mat mtt mme mun mde mco mcn mvi men mfa mac mfi mse mtd mra mkp) (Qi (KM Z) (AM Z) (PM Z mth mto' mrw' mta mtp mat mtt mme mun mde mco mcn mvi men mfa mac mfi mse mtd mra mkp) r') := by
  refine Mg.start (lv := [(0, .ref (mA Z 0)), (1, .int p1)]) (by decide) rfl (Nat.le_of_ble_eq_true rfl) rfl ?_
  intro p e s m below meth c F hr hlk C hP ls hl
  have hS : va_S (AM Z) s.heap s.heap [] := va_S.rf
  unfold fX12_entersBoth at hE
  refine lv_iload_n F.1 F.2.1 dX12_entersBoth_0 rfl (lv_at hl 1 rfl) ?_
  refine lv_if_lt (tgt := 30) F.1 F.2.1 dX12_entersBoth_1 (by decide) (fun hc => ?_) (fun hc => ?_)
  · have hE := ifp hE hc
    refine lv_iload_n F.1 F.2.1 dX12_entersBoth_30 rfl (lv_at hl 1 rfl) ?_
    have w0 := Option.some.inj hE
    obtain ⟨g0, w1⟩ := Prod.mk.inj w0
    obtain ⟨g1, w2⟩ := Prod.mk.inj w1
    subst g0 g1 w2
    exact ret_i F hr hlk hP hS dX12_entersBoth_31
  · have hE := ifn hE hc
    refine lv_aload_n F.1 F.2.1 dX12_entersBoth_4 rfl (lv_at hl 0 rfl) ?_
    refine lv_iconst (v := 0) F.1 F.2.1 dX12_entersBoth_5 (by decide) ?_
    refine pX12_11 F C hP hS rfl dX12_entersBoth_6 (fun H locs hP hS => ?_)
    refine lv_aload_n F.1 F.2.1 dX12_entersBoth_9 rfl (lv_at hl 0 rfl) ?_
    refine lv_aload_n F.1 F.2.1 dX12_entersBoth_10 rfl (lv_at hl 0 rfl) ?_
    obtain ⟨r402, hc, hE⟩ := bnd1_some hE
    refine aft_i (run_V (rest := [.ref (mA Z 0)]) F (kX12_thereAll hc) (okM Z) C hS lkX12_233 ⟨Nat.le_of_ble_eq_true rfl, Nat.le_of_ble_eq_true rfl⟩ (rvM C hP) hP rfl hl.1 rfl (lv_room (Nat.le_of_ble_eq_true rfl)) dX12_entersBoth_11 ⟨Nat.zero_le _, Nat.zero_le _⟩) hS (fun H locs hP hS => ?_)
    obtain ⟨r403, hc, hE⟩ := bnd1_some hE
    refine aft_i (run_S (rest := [.ref (mA Z 0)]) F (kX12_sizeOf hc) (okM Z) C hS lkX12_236 ⟨Nat.le_of_ble_eq_true rfl, Nat.le_of_ble_eq_true rfl⟩ hP rfl hl.1 rfl (lv_room (Nat.le_of_ble_eq_true rfl)) dX12_entersBoth_14 ⟨Nat.zero_le _, Nat.zero_le _⟩) hS (fun H locs hP hS => ?_)
    refine lv_i2l (v := r403.toInt64) F.1 F.2.1 dX12_entersBoth_17 rfl ?_
    obtain ⟨mto_404, mrw_404, hc, hE⟩ := bnd2_some hE
    refine aft_v (run_V (rest := []) F (kX12_enters hc) (okM Z) C hS lkX12_239 ⟨Nat.le_of_ble_eq_true rfl, Nat.le_of_ble_eq_true rfl⟩ (rvM C hP) hP rfl hl.1 rfl (lv_room (Nat.le_of_ble_eq_true rfl)) dX12_entersBoth_18 ⟨Nat.zero_le _, Nat.zero_le _⟩) hS (fun H locs hP hS => ?_)
    refine lv_aload_n F.1 F.2.1 dX12_entersBoth_21 rfl (lv_at hl 0 rfl) ?_
    refine lv_aload_n F.1 F.2.1 dX12_entersBoth_22 rfl (lv_at hl 0 rfl) ?_
    obtain ⟨r405, hc, hE⟩ := bnd1_some hE
    refine aft_i (run_V (rest := [.ref (mA Z 0)]) F (kX12_listed hc) (okM Z) C hS lkX12_97 ⟨Nat.le_of_ble_eq_true rfl, Nat.le_of_ble_eq_true rfl⟩ (rvM C hP) hP rfl hl.1 rfl (lv_room (Nat.le_of_ble_eq_true rfl)) dX12_entersBoth_23 ⟨Nat.zero_le _, Nat.zero_le _⟩) hS (fun H locs hP hS => ?_)
    refine lv_i2l (v := r405.toInt64) F.1 F.2.1 dX12_entersBoth_26 rfl ?_
    obtain ⟨mto_406, mrw_406, hc, hE⟩ := bnd2_some hE
    refine aft_v (run_V (rest := []) F (kX12_enters hc) (okM Z) C hS lkX12_239 ⟨Nat.le_of_ble_eq_true rfl, Nat.le_of_ble_eq_true rfl⟩ (rvM C hP) hP rfl hl.1 rfl (lv_room (Nat.le_of_ble_eq_true rfl)) dX12_entersBoth_27 ⟨Nat.zero_le _, Nat.zero_le _⟩) hS (fun H locs hP hS => ?_)
    refine lv_iload_n F.1 F.2.1 dX12_entersBoth_30 rfl (lv_at hl 1 rfl) ?_
    have w0 := Option.some.inj hE
    obtain ⟨g0, w1⟩ := Prod.mk.inj w0
    obtain ⟨g1, w2⟩ := Prod.mk.inj w1
    subst g0 g1 w2
    exact ret_i F hr hlk hP hS dX12_entersBoth_31
set_option maxRecDepth 100000 in
set_option maxHeartbeats 4000000 in
theorem kX12_done {l : Launch} {Z : ZC} {mth : Int32} {mto : Int32} {mrw : Nat → Int64} {mta : Nat → Int32} {mtp : Int32} {mat : Int32} {mtt : Int32} {mme : Nat → Int32} {mun : Int32} {mde : Int32} {mco : Nat → Int32} {mcn : Nat → Int32} {mvi : Int32} {men : Int32} {mfa : Nat → Int32} {mac : Nat → Int32} {mfi : Nat → Int32} {mse : Nat → Int32} {mtd : Nat → Int32} {mra : Int32} {mkp : Nat → Int32} {N : Nat} {p1 : Int32} {r' : Int32} {mme' : Nat → Int32} {mun' : Int32} (hE : fX12_done N mme mun p1 = some (r', mme', mun')) : Mg l yX12_done cX12_done 2 (some .int) (rmk 2 44) (KM Z) (AM Z) [.ref (mA Z 0), .int p1] (PM Z mth mto mrw mta mtp mat mtt mme mun mde mco mcn mvi men mfa mac mfi mse mtd mra mkp) (Qi (KM Z) (AM Z) (PM Z mth mto mrw mta mtp mat mtt mme' mun' mde mco mcn mvi men mfa mac mfi mse mtd mra mkp) r') := by
  refine Mg.start (lv := [(0, .ref (mA Z 0)), (1, .int p1)]) (by decide) rfl (Nat.le_of_ble_eq_true rfl) rfl ?_
  intro p e s m below meth c F hr hlk C hP ls hl
  have hS : va_S (AM Z) s.heap s.heap [] := va_S.rf
  unfold fX12_done at hE
  refine lv_iload_n F.1 F.2.1 dX12_done_0 rfl (lv_at hl 1 rfl) ?_
  refine lv_if_lt (tgt := 8) F.1 F.2.1 dX12_done_1 (by decide) (fun hc => ?_) (fun hc => ?_)
  · have hE := ifp hE hc
    refine lv_iload_n F.1 F.2.1 dX12_done_8 rfl (lv_at hl 1 rfl) ?_
    have w0 := Option.some.inj hE
    obtain ⟨g0, w1⟩ := Prod.mk.inj w0
    obtain ⟨g1, w2⟩ := Prod.mk.inj w1
    subst g0 g1 w2
    exact ret_i F hr hlk hP hS dX12_done_9
  · have hE := ifn hE hc
    refine lv_aload_n F.1 F.2.1 dX12_done_4 rfl (lv_at hl 0 rfl) ?_
    obtain ⟨mme_408, mun_408, hc, hE⟩ := bnd2_some hE
    refine aft_v (run_V (rest := []) F (kX12_lays hc) (okM Z) C hS lkX12_243 ⟨Nat.le_of_ble_eq_true rfl, Nat.le_of_ble_eq_true rfl⟩ (rvM C hP) hP rfl hl.1 rfl (lv_room (Nat.le_of_ble_eq_true rfl)) dX12_done_5 ⟨Nat.zero_le _, Nat.zero_le _⟩) hS (fun H locs hP hS => ?_)
    refine lv_iload_n F.1 F.2.1 dX12_done_8 rfl (lv_at hl 1 rfl) ?_
    have w0 := Option.some.inj hE
    obtain ⟨g0, w1⟩ := Prod.mk.inj w0
    obtain ⟨g1, w2⟩ := Prod.mk.inj w1
    subst g0 g1 w2
    exact ret_i F hr hlk hP hS dX12_done_9
set_option maxRecDepth 100000 in
set_option maxHeartbeats 4000000 in
theorem qX12_makes_54 {p : Program} {l : Launch} {e : Env} {s : State} {m : MethodId} {args : Array Value} {below : List Frame} {meth : Method} {c : Code} {Z : ZC} {mta : Nat → Int32} {mtp : Int32} {mat : Int32} {mtt : Int32} {mde : Int32} {men : Int32} {mfa : Nat → Int32} {mac : Nat → Int32} {mfi : Nat → Int32} {mse : Nat → Int32} {mtd : Nat → Int32} {mra : Int32} {mkp : Nat → Int32} {N : Nat} {p1 : Int32} {p2 : Int32} {p3 : Int32} {p4 : Int32} {r' : Int32} {mth' : Int32} {mto' : Int32} {mrw' : Nat → Int64} {mme' : Nat → Int32} {mun' : Int32} {mco' : Nat → Int32} {mcn' : Nat → Int32} {mvi' : Int32} (F : CallFix p m c cX12_makes 7 s args bigW RX12) (hr : meth.sig.returnType = (some .int)) (hlk : meth.locks = false) (C : KM Z s) : ∀ (mth : Int32) (mto : Int32) (mrw : Nat → Int64) (mme : Nat → Int32) (mun : Int32) (mco : Nat → Int32) (mcn : Nat → Int32) (mvi : Int32) (x6 : Int32), fX12_makes_54 N mde p1 p2 p3 p4 mth mto mrw mme mun mco mcn mvi x6 = some (r', mth', mto', mrw', mme', mun', mco', mcn', mvi') → ∀ (H : Heap) (locs : List Loc), PM Z mth mto mrw mta mtp mat mtt mme mun mde mco mcn mvi men mfa mac mfi mse mtd mra mkp H → va_S (AM Z) s.heap H locs → ∀ ls : Array Slot, lv_has ls 7 [(0, .ref (mA Z 0)), (6, .int x6)] → W p l e (rmk 207 4908) s m args below meth c H locs 0 0 (MQ below (Qi (KM Z) (AM Z) (PM Z mth' mto' mrw' mta mtp mat mtt mme' mun' mde mco' mcn' mvi' men mfa mac mfi mse mtd mra mkp) r') args s 0 0 (AM Z)) (F0 m 54 ls []) := by
  intro mth mto mrw mme mun mco mcn mvi x6 hE H locs hP hS ls hl
  unfold fX12_makes_54 at hE
  refine lv_aload_n F.1 F.2.1 dX12_makes_54 rfl (lv_at hl 0 rfl) ?_
  refine lv_iload F.1 F.2.1 dX12_makes_55 (lv_at hl 1 rfl) ?_
  obtain ⟨r418, mme_418, mun_418, hc, hE⟩ := bnd3_some hE
  refine aft_i (run_V (rest := []) F (kX12_done hc) (okM Z) C hS lkX12_250 ⟨Nat.le_of_ble_eq_true rfl, Nat.le_of_ble_eq_true rfl⟩ (rvM C hP) hP rfl hl.1 rfl (lv_room (Nat.le_of_ble_eq_true rfl)) dX12_makes_57 ⟨Nat.zero_le _, Nat.zero_le _⟩) hS (fun H locs hP hS => ?_)
  have w0 := Option.some.inj hE
  obtain ⟨g0, w1⟩ := Prod.mk.inj w0
  obtain ⟨g1, w2⟩ := Prod.mk.inj w1
  obtain ⟨g2, w3⟩ := Prod.mk.inj w2
  obtain ⟨g3, w4⟩ := Prod.mk.inj w3
  obtain ⟨g4, w5⟩ := Prod.mk.inj w4
  obtain ⟨g5, w6⟩ := Prod.mk.inj w5
  obtain ⟨g6, w7⟩ := Prod.mk.inj w6
  obtain ⟨g7, w8⟩ := Prod.mk.inj w7
  subst g0 g1 g2 g3 g4 g5 g6 g7 w8
  exact ret_i F hr hlk hP hS dX12_makes_60
set_option maxRecDepth 100000 in
set_option maxHeartbeats 4000000 in
theorem kX12_makes {l : Launch} {Z : ZC} {mth : Int32} {mto : Int32} {mrw : Nat → Int64} {mta : Nat → Int32} {mtp : Int32} {mat : Int32} {mtt : Int32} {mme : Nat → Int32} {mun : Int32} {mde : Int32} {mco : Nat → Int32} {mcn : Nat → Int32} {mvi : Int32} {men : Int32} {mfa : Nat → Int32} {mac : Nat → Int32} {mfi : Nat → Int32} {mse : Nat → Int32} {mtd : Nat → Int32} {mra : Int32} {mkp : Nat → Int32} {N : Nat} {p1 : Int32} {p2 : Int32} {p3 : Int32} {p4 : Int32} {r' : Int32} {mth' : Int32} {mto' : Int32} {mrw' : Nat → Int64} {mme' : Nat → Int32} {mun' : Int32} {mco' : Nat → Int32} {mcn' : Nat → Int32} {mvi' : Int32} (hE : fX12_makes N mth mto mrw mme mun mde mco mcn mvi p1 p2 p3 p4 = some (r', mth', mto', mrw', mme', mun', mco', mcn', mvi')) : Mg l yX12_makes cX12_makes 7 (some .int) (rmk 207 4908) (KM Z) (AM Z) [.ref (mA Z 0), .int p1, .int p2, .int p3, .int p4] (PM Z mth mto mrw mta mtp mat mtt mme mun mde mco mcn mvi men mfa mac mfi mse mtd mra mkp) (Qi (KM Z) (AM Z) (PM Z mth' mto' mrw' mta mtp mat mtt mme' mun' mde mco' mcn' mvi' men mfa mac mfi mse mtd mra mkp) r') := by
  refine Mg.start (lv := [(0, .ref (mA Z 0)), (1, .int p1), (2, .int p2), (3, .int p3), (4, .int p4)]) (by decide) rfl (Nat.le_of_ble_eq_true rfl) rfl ?_
  intro p e s m below meth c F hr hlk C hP ls hl
  have hS : va_S (AM Z) s.heap s.heap [] := va_S.rf
  unfold fX12_makes at hE
  refine lv_aload_n F.1 F.2.1 dX12_makes_0 rfl (lv_at hl 0 rfl) ?_
  refine lv_iconst (v := 0) F.1 F.2.1 dX12_makes_1 (by decide) ?_
  refine pX12_1 F C hP hS rfl dX12_makes_2 (fun H locs hP hS => ?_)
  refine lv_aload_n F.1 F.2.1 dX12_makes_5 rfl (lv_at hl 0 rfl) ?_
  refine lv_iconst (v := 0) F.1 F.2.1 dX12_makes_6 (by decide) ?_
  refine lv_iconst (v := 3) F.1 F.2.1 dX12_makes_7 (by decide) ?_
  obtain ⟨mme_414, hc, hE⟩ := bnd1_some hE
  refine aft_v (run_V (rest := []) F (kX12_copies hc) (okM Z) C hS lkX12_81 ⟨Nat.le_of_ble_eq_true rfl, Nat.le_of_ble_eq_true rfl⟩ (rvM C hP) hP rfl hl.1 rfl (lv_room (Nat.le_of_ble_eq_true rfl)) dX12_makes_8 ⟨Nat.zero_le _, Nat.zero_le _⟩) hS (fun H locs hP hS => ?_)
  refine lv_aload_n F.1 F.2.1 dX12_makes_11 rfl (lv_at hl 0 rfl) ?_
  refine gX12_53 F C hP dX12_makes_12 ?_
  refine lv_iconst (v := 2) F.1 F.2.1 dX12_makes_15 (by decide) ?_
  obtain ⟨hi, hE⟩ := grd_some hE
  refine am3 F C hP hi dX12_makes_16 ?_
  obtain ⟨v_415, ev_415, hE⟩ := lt_some hE
  refine lv_seti ev_415 ?_
  refine lv_istore (lv' := [(5, .int v_415), (0, .ref (mA Z 0)), (1, .int p1), (2, .int p2), (3, .int p3), (4, .int p4)]) F.1 F.2.1 dX12_makes_17 hl (by decide) rfl (fun ls hl => ?_)
  refine lv_aload_n F.1 F.2.1 dX12_makes_19 rfl (lv_at hl 1 rfl) ?_
  refine lv_iload_n F.1 F.2.1 dX12_makes_20 rfl (lv_at hl 2 rfl) ?_
  refine lv_iload_n F.1 F.2.1 dX12_makes_21 rfl (lv_at hl 3 rfl) ?_
  refine lv_iload_n F.1 F.2.1 dX12_makes_22 rfl (lv_at hl 4 rfl) ?_
  refine lv_iload F.1 F.2.1 dX12_makes_23 (lv_at hl 5 rfl) ?_
  obtain ⟨r416, mme_416, mco_416, mcn_416, mvi_416, hc, hE⟩ := bnd5_some hE
  refine aft_i (run_V (rest := []) F (kX12_makesOne hc) (okM Z) C hS lkX12_246 ⟨Nat.le_of_ble_eq_true rfl, Nat.le_of_ble_eq_true rfl⟩ (rvM C hP) hP rfl hl.1 rfl (lv_room (Nat.le_of_ble_eq_true rfl)) dX12_makes_25 ⟨Nat.zero_le _, Nat.zero_le _⟩) hS (fun H locs hP hS => ?_)
  refine lv_istore (lv' := [(6, .int r416), (5, .int v_415), (0, .ref (mA Z 0)), (1, .int p1), (2, .int p2), (3, .int p3), (4, .int p4)]) F.1 F.2.1 dX12_makes_28 hl (by decide) rfl (fun ls hl => ?_)
  refine lv_iload F.1 F.2.1 dX12_makes_30 (lv_at hl 0 rfl) ?_
  refine lv_if_lt (tgt := 54) F.1 F.2.1 dX12_makes_32 (by decide) (fun hc => ?_) (fun hc => ?_)
  · have hE := ifp hE hc
    exact qX12_makes_54 F hr hlk C 0 mto mrw mme_416 mun mco_416 mcn_416 mvi_416 r416 hE _ _ hP hS ls (lv_sub hl [2, 0] rfl)
  · have hE := ifn hE hc
    refine lv_aload_n F.1 F.2.1 dX12_makes_35 rfl (lv_at hl 2 rfl) ?_
    refine lv_iconst (v := 0) F.1 F.2.1 dX12_makes_36 (by decide) ?_
    refine pX12_11 F C hP hS rfl dX12_makes_37 (fun H locs hP hS => ?_)
    refine lv_aload_n F.1 F.2.1 dX12_makes_40 rfl (lv_at hl 2 rfl) ?_
    refine lv_aload_n F.1 F.2.1 dX12_makes_41 rfl (lv_at hl 2 rfl) ?_
    refine gX12_53 F C hP dX12_makes_42 ?_
    refine lv_iconst (v := 2) F.1 F.2.1 dX12_makes_45 (by decide) ?_
    obtain ⟨hi, hE⟩ := grd_some hE
    refine am3 F C hP hi dX12_makes_46 ?_
    refine lv_iload F.1 F.2.1 dX12_makes_47 (lv_at hl 1 rfl) ?_
    refine lv_isub F.1 F.2.1 dX12_makes_49 ?_
    refine lv_i2l (v := ((mme_416 (2 : Int32).toNatClampNeg) - v_415).toInt64) F.1 F.2.1 dX12_makes_50 rfl ?_
    obtain ⟨mto_417, mrw_417, hc, hE⟩ := bnd2_some hE
    refine aft_v (run_V (rest := []) F (kX12_enters hc) (okM Z) C hS lkX12_239 ⟨Nat.le_of_ble_eq_true rfl, Nat.le_of_ble_eq_true rfl⟩ (rvM C hP) hP rfl hl.1 rfl (lv_room (Nat.le_of_ble_eq_true rfl)) dX12_makes_51 ⟨Nat.zero_le _, Nat.zero_le _⟩) hS (fun H locs hP hS => ?_)
    exact qX12_makes_54 F hr hlk C 0 mto_417 mrw_417 mme_416 mun mco_416 mcn_416 mvi_416 r416 hE _ _ hP hS ls (lv_sub hl [2, 0] rfl)
set_option maxRecDepth 100000 in
set_option maxHeartbeats 4000000 in
theorem kX12_sets {l : Launch} {Z : ZC} {mth : Int32} {mto : Int32} {mrw : Nat → Int64} {mta : Nat → Int32} {mtp : Int32} {mat : Int32} {mtt : Int32} {mme : Nat → Int32} {mun : Int32} {mde : Int32} {mco : Nat → Int32} {mcn : Nat → Int32} {mvi : Int32} {men : Int32} {mfa : Nat → Int32} {mac : Nat → Int32} {mfi : Nat → Int32} {mse : Nat → Int32} {mtd : Nat → Int32} {mra : Int32} {mkp : Nat → Int32} {N : Nat} {p1 : Int32} {p2 : Int32} {p3 : Int32} {r' : Int32} {mth' : Int32} {mto' : Int32} {mrw' : Nat → Int64} {mme' : Nat → Int32} {mun' : Int32} {mco' : Nat → Int32} {mcn' : Nat → Int32} {mvi' : Int32} (hE : fX12_sets N mth mto mrw mme mun mde mco mcn mvi p1 p2 p3 = some (r', mth', mto', mrw', mme', mun', mco', mcn', mvi')) : Mg l yX12_sets cX12_sets 4 (some .int) (rmk 207 4906) (KM Z) (AM Z) [.ref (mA Z 0), .int p1, .int p2, .int p3] (PM Z mth mto mrw mta mtp mat mtt mme mun mde mco mcn mvi men mfa mac mfi mse mtd mra mkp) (Qi (KM Z) (AM Z) (PM Z mth' mto' mrw' mta mtp mat mtt mme' mun' mde mco' mcn' mvi' men mfa mac mfi mse mtd mra mkp) r') := by
  refine Mg.start (lv := [(0, .ref (mA Z 0)), (1, .int p1), (2, .int p2), (3, .int p3)]) (by decide) rfl (Nat.le_of_ble_eq_true rfl) rfl ?_
  intro p e s m below meth c F hr hlk C hP ls hl
  have hS : va_S (AM Z) s.heap s.heap [] := va_S.rf
  unfold fX12_sets at hE
  refine lv_aload_n F.1 F.2.1 dX12_sets_0 rfl (lv_at hl 0 rfl) ?_
  refine lv_iconst (v := 0) F.1 F.2.1 dX12_sets_1 (by decide) ?_
  refine pX12_1 F C hP hS rfl dX12_sets_2 (fun H locs hP hS => ?_)
  refine lv_aload_n F.1 F.2.1 dX12_sets_5 rfl (lv_at hl 0 rfl) ?_
  refine lv_iconst (v := 0) F.1 F.2.1 dX12_sets_6 (by decide) ?_
  refine lv_iconst (v := 3) F.1 F.2.1 dX12_sets_7 (by decide) ?_
  obtain ⟨mme_423, hc, hE⟩ := bnd1_some hE
  refine aft_v (run_V (rest := []) F (kX12_copies hc) (okM Z) C hS lkX12_81 ⟨Nat.le_of_ble_eq_true rfl, Nat.le_of_ble_eq_true rfl⟩ (rvM C hP) hP rfl hl.1 rfl (lv_room (Nat.le_of_ble_eq_true rfl)) dX12_sets_8 ⟨Nat.zero_le _, Nat.zero_le _⟩) hS (fun H locs hP hS => ?_)
  refine lv_aload_n F.1 F.2.1 dX12_sets_11 rfl (lv_at hl 0 rfl) ?_
  refine lv_aload_n F.1 F.2.1 dX12_sets_12 rfl (lv_at hl 0 rfl) ?_
  refine lv_aload_n F.1 F.2.1 dX12_sets_13 rfl (lv_at hl 0 rfl) ?_
  refine lv_iload_n F.1 F.2.1 dX12_sets_14 rfl (lv_at hl 1 rfl) ?_
  refine lv_iload_n F.1 F.2.1 dX12_sets_15 rfl (lv_at hl 2 rfl) ?_
  refine lv_iload_n F.1 F.2.1 dX12_sets_16 rfl (lv_at hl 3 rfl) ?_
  obtain ⟨r424, mme_424, mco_424, mcn_424, mvi_424, hc, hE⟩ := bnd5_some hE
  refine aft_i (run_V (rest := [.ref (mA Z 0), .ref (mA Z 0)]) F (kX12_setsOne hc) (okM Z) C hS lkX12_253 ⟨Nat.le_of_ble_eq_true rfl, Nat.le_of_ble_eq_true rfl⟩ (rvM C hP) hP rfl hl.1 rfl (lv_room (Nat.le_of_ble_eq_true rfl)) dX12_sets_17 ⟨Nat.zero_le _, Nat.zero_le _⟩) hS (fun H locs hP hS => ?_)
  obtain ⟨r425, mto_425, mrw_425, hc, hE⟩ := bnd3_some hE
  refine aft_i (run_V (rest := [.ref (mA Z 0)]) F (kX12_entersBoth hc) (okM Z) C hS lkX12_257 ⟨Nat.le_of_ble_eq_true rfl, Nat.le_of_ble_eq_true rfl⟩ (rvM C hP) hP rfl hl.1 rfl (lv_room (Nat.le_of_ble_eq_true rfl)) dX12_sets_20 ⟨Nat.zero_le _, Nat.zero_le _⟩) hS (fun H locs hP hS => ?_)
  obtain ⟨r426, mme_426, mun_426, hc, hE⟩ := bnd3_some hE
  refine aft_i (run_V (rest := []) F (kX12_done hc) (okM Z) C hS lkX12_250 ⟨Nat.le_of_ble_eq_true rfl, Nat.le_of_ble_eq_true rfl⟩ (rvM C hP) hP rfl hl.1 rfl (lv_room (Nat.le_of_ble_eq_true rfl)) dX12_sets_23 ⟨Nat.zero_le _, Nat.zero_le _⟩) hS (fun H locs hP hS => ?_)
  have w0 := Option.some.inj hE
  obtain ⟨g0, w1⟩ := Prod.mk.inj w0
  obtain ⟨g1, w2⟩ := Prod.mk.inj w1
  obtain ⟨g2, w3⟩ := Prod.mk.inj w2
  obtain ⟨g3, w4⟩ := Prod.mk.inj w3
  obtain ⟨g4, w5⟩ := Prod.mk.inj w4
  obtain ⟨g5, w6⟩ := Prod.mk.inj w5
  obtain ⟨g6, w7⟩ := Prod.mk.inj w6
  obtain ⟨g7, w8⟩ := Prod.mk.inj w7
  subst g0 g1 g2 g3 g4 g5 g6 g7 w8
  exact ret_i F hr hlk hP hS dX12_sets_26
set_option maxRecDepth 100000 in
set_option maxHeartbeats 4000000 in
theorem kX12_roots {l : Launch} {Z : ZC} {mth : Int32} {mto : Int32} {mrw : Nat → Int64} {mta : Nat → Int32} {mtp : Int32} {mat : Int32} {mtt : Int32} {mme : Nat → Int32} {mun : Int32} {mde : Int32} {mco : Nat → Int32} {mcn : Nat → Int32} {mvi : Int32} {men : Int32} {mfa : Nat → Int32} {mac : Nat → Int32} {mfi : Nat → Int32} {mse : Nat → Int32} {mtd : Nat → Int32} {mra : Int32} {mkp : Nat → Int32} {N : Nat} {p1 : Int32} {p2 : Int32} {r' : Int32} {mth' : Int32} {mto' : Int32} {mrw' : Nat → Int64} {mme' : Nat → Int32} {mun' : Int32} {mco' : Nat → Int32} {mcn' : Nat → Int32} {mvi' : Int32} (hE : fX12_roots N mth mto mrw mme mun mde mco mcn mvi p1 p2 = some (r', mth', mto', mrw', mme', mun', mco', mcn', mvi')) : Mg l yX12_roots cX12_roots 3 (some .int) (rmk 207 4905) (KM Z) (AM Z) [.ref (mA Z 0), .int p1, .int p2] (PM Z mth mto mrw mta mtp mat mtt mme mun mde mco mcn mvi men mfa mac mfi mse mtd mra mkp) (Qi (KM Z) (AM Z) (PM Z mth' mto' mrw' mta mtp mat mtt mme' mun' mde mco' mcn' mvi' men mfa mac mfi mse mtd mra mkp) r') := by
  refine Mg.start (lv := [(0, .ref (mA Z 0)), (1, .int p1), (2, .int p2)]) (by decide) rfl (Nat.le_of_ble_eq_true rfl) rfl ?_
  intro p e s m below meth c F hr hlk C hP ls hl
  have hS : va_S (AM Z) s.heap s.heap [] := va_S.rf
  unfold fX12_roots at hE
  refine lv_aload_n F.1 F.2.1 dX12_roots_0 rfl (lv_at hl 0 rfl) ?_
  refine lv_iconst (v := 0) F.1 F.2.1 dX12_roots_1 (by decide) ?_
  refine pX12_1 F C hP hS rfl dX12_roots_2 (fun H locs hP hS => ?_)
  refine lv_aload_n F.1 F.2.1 dX12_roots_5 rfl (lv_at hl 0 rfl) ?_
  refine lv_iconst (v := 0) F.1 F.2.1 dX12_roots_6 (by decide) ?_
  refine lv_iconst (v := 3) F.1 F.2.1 dX12_roots_7 (by decide) ?_
  obtain ⟨mme_431, hc, hE⟩ := bnd1_some hE
  refine aft_v (run_V (rest := []) F (kX12_copies hc) (okM Z) C hS lkX12_81 ⟨Nat.le_of_ble_eq_true rfl, Nat.le_of_ble_eq_true rfl⟩ (rvM C hP) hP rfl hl.1 rfl (lv_room (Nat.le_of_ble_eq_true rfl)) dX12_roots_8 ⟨Nat.zero_le _, Nat.zero_le _⟩) hS (fun H locs hP hS => ?_)
  refine lv_aload_n F.1 F.2.1 dX12_roots_11 rfl (lv_at hl 0 rfl) ?_
  refine lv_aload_n F.1 F.2.1 dX12_roots_12 rfl (lv_at hl 0 rfl) ?_
  refine lv_aload_n F.1 F.2.1 dX12_roots_13 rfl (lv_at hl 0 rfl) ?_
  refine lv_iload_n F.1 F.2.1 dX12_roots_14 rfl (lv_at hl 1 rfl) ?_
  refine lv_iload_n F.1 F.2.1 dX12_roots_15 rfl (lv_at hl 2 rfl) ?_
  obtain ⟨r432, mme_432, mco_432, mcn_432, mvi_432, hc, hE⟩ := bnd5_some hE
  refine aft_i (run_V (rest := [.ref (mA Z 0), .ref (mA Z 0)]) F (kX12_rootsOne hc) (okM Z) C hS lkX12_260 ⟨Nat.le_of_ble_eq_true rfl, Nat.le_of_ble_eq_true rfl⟩ (rvM C hP) hP rfl hl.1 rfl (lv_room (Nat.le_of_ble_eq_true rfl)) dX12_roots_16 ⟨Nat.zero_le _, Nat.zero_le _⟩) hS (fun H locs hP hS => ?_)
  obtain ⟨r433, mto_433, mrw_433, hc, hE⟩ := bnd3_some hE
  refine aft_i (run_V (rest := [.ref (mA Z 0)]) F (kX12_entersBoth hc) (okM Z) C hS lkX12_257 ⟨Nat.le_of_ble_eq_true rfl, Nat.le_of_ble_eq_true rfl⟩ (rvM C hP) hP rfl hl.1 rfl (lv_room (Nat.le_of_ble_eq_true rfl)) dX12_roots_19 ⟨Nat.zero_le _, Nat.zero_le _⟩) hS (fun H locs hP hS => ?_)
  obtain ⟨r434, mme_434, mun_434, hc, hE⟩ := bnd3_some hE
  refine aft_i (run_V (rest := []) F (kX12_done hc) (okM Z) C hS lkX12_250 ⟨Nat.le_of_ble_eq_true rfl, Nat.le_of_ble_eq_true rfl⟩ (rvM C hP) hP rfl hl.1 rfl (lv_room (Nat.le_of_ble_eq_true rfl)) dX12_roots_22 ⟨Nat.zero_le _, Nat.zero_le _⟩) hS (fun H locs hP hS => ?_)
  have w0 := Option.some.inj hE
  obtain ⟨g0, w1⟩ := Prod.mk.inj w0
  obtain ⟨g1, w2⟩ := Prod.mk.inj w1
  obtain ⟨g2, w3⟩ := Prod.mk.inj w2
  obtain ⟨g3, w4⟩ := Prod.mk.inj w3
  obtain ⟨g4, w5⟩ := Prod.mk.inj w4
  obtain ⟨g5, w6⟩ := Prod.mk.inj w5
  obtain ⟨g6, w7⟩ := Prod.mk.inj w6
  obtain ⟨g7, w8⟩ := Prod.mk.inj w7
  subst g0 g1 g2 g3 g4 g5 g6 g7 w8
  exact ret_i F hr hlk hP hS dX12_roots_25
set_option maxRecDepth 100000 in
set_option maxHeartbeats 4000000 in
theorem kX12_weaks {l : Launch} {Z : ZC} {mth : Int32} {mto : Int32} {mrw : Nat → Int64} {mta : Nat → Int32} {mtp : Int32} {mat : Int32} {mtt : Int32} {mme : Nat → Int32} {mun : Int32} {mde : Int32} {mco : Nat → Int32} {mcn : Nat → Int32} {mvi : Int32} {men : Int32} {mfa : Nat → Int32} {mac : Nat → Int32} {mfi : Nat → Int32} {mse : Nat → Int32} {mtd : Nat → Int32} {mra : Int32} {mkp : Nat → Int32} {N : Nat} {p1 : Int32} {p2 : Int32} {r' : Int32} {mth' : Int32} {mme' : Nat → Int32} {mun' : Int32} (hE : fX12_weaks N mth mme mun mde p1 p2 = some (r', mth', mme', mun')) : Mg l yX12_weaks cX12_weaks 4 (some .int) (rmk 7 156) (KM Z) (AM Z) [.ref (mA Z 0), .int p1, .int p2] (PM Z mth mto mrw mta mtp mat mtt mme mun mde mco mcn mvi men mfa mac mfi mse mtd mra mkp) (Qi (KM Z) (AM Z) (PM Z mth' mto mrw mta mtp mat mtt mme' mun' mde mco mcn mvi men mfa mac mfi mse mtd mra mkp) r') := by
  refine Mg.start (lv := [(0, .ref (mA Z 0)), (1, .int p1), (2, .int p2)]) (by decide) rfl (Nat.le_of_ble_eq_true rfl) rfl ?_
  intro p e s m below meth c F hr hlk C hP ls hl
  have hS : va_S (AM Z) s.heap s.heap [] := va_S.rf
  unfold fX12_weaks at hE
  refine lv_aload_n F.1 F.2.1 dX12_weaks_0 rfl (lv_at hl 0 rfl) ?_
  refine lv_iconst (v := 0) F.1 F.2.1 dX12_weaks_1 (by decide) ?_
  refine pX12_1 F C hP hS rfl dX12_weaks_2 (fun H locs hP hS => ?_)
  refine lv_aload_n F.1 F.2.1 dX12_weaks_5 rfl (lv_at hl 0 rfl) ?_
  refine lv_iconst (v := 0) F.1 F.2.1 dX12_weaks_6 (by decide) ?_
  refine lv_iconst (v := 3) F.1 F.2.1 dX12_weaks_7 (by decide) ?_
  obtain ⟨mme_438, hc, hE⟩ := bnd1_some hE
  refine aft_v (run_V (rest := []) F (kX12_copies hc) (okM Z) C hS lkX12_81 ⟨Nat.le_of_ble_eq_true rfl, Nat.le_of_ble_eq_true rfl⟩ (rvM C hP) hP rfl hl.1 rfl (lv_room (Nat.le_of_ble_eq_true rfl)) dX12_weaks_8 ⟨Nat.zero_le _, Nat.zero_le _⟩) hS (fun H locs hP hS => ?_)
  refine lv_aload_n F.1 F.2.1 dX12_weaks_11 rfl (lv_at hl 0 rfl) ?_
  refine lv_iload_n F.1 F.2.1 dX12_weaks_12 rfl (lv_at hl 1 rfl) ?_
  refine lv_iload_n F.1 F.2.1 dX12_weaks_13 rfl (lv_at hl 2 rfl) ?_
  obtain ⟨r439, mme_439, hc, hE⟩ := bnd2_some hE
  refine aft_i (run_V (rest := []) F (kX12_weaksOne hc) (okM Z) C hS lkX12_263 ⟨Nat.le_of_ble_eq_true rfl, Nat.le_of_ble_eq_true rfl⟩ (rvM C hP) hP rfl hl.1 rfl (lv_room (Nat.le_of_ble_eq_true rfl)) dX12_weaks_14 ⟨Nat.zero_le _, Nat.zero_le _⟩) hS (fun H locs hP hS => ?_)
  refine lv_istore_n (lv' := [(3, .int r439), (0, .ref (mA Z 0)), (1, .int p1), (2, .int p2)]) F.1 F.2.1 dX12_weaks_17 rfl hl (by decide) rfl (fun ls hl => ?_)
  refine lv_iload_n F.1 F.2.1 dX12_weaks_18 rfl (lv_at hl 0 rfl) ?_
  refine lv_iconst (v := (-1)) F.1 F.2.1 dX12_weaks_19 (by decide) ?_
  refine lv_icmp_lt (tgt := 27) F.1 F.2.1 dX12_weaks_20 (by decide) (fun hc => ?_) (fun hc => ?_)
  · have hE := ifp hE hc
    refine lv_iload_n F.1 F.2.1 dX12_weaks_27 rfl (lv_at hl 0 rfl) ?_
    have w0 := Option.some.inj hE
    obtain ⟨g0, w1⟩ := Prod.mk.inj w0
    obtain ⟨g1, w2⟩ := Prod.mk.inj w1
    obtain ⟨g2, w3⟩ := Prod.mk.inj w2
    subst g0 g1 g2 w3
    exact ret_i F hr hlk hP hS dX12_weaks_28
  · have hE := ifn hE hc
    refine lv_aload_n F.1 F.2.1 dX12_weaks_23 rfl (lv_at hl 1 rfl) ?_
    obtain ⟨mme_440, mun_440, hc, hE⟩ := bnd2_some hE
    refine aft_v (run_V (rest := []) F (kX12_lays hc) (okM Z) C hS lkX12_243 ⟨Nat.le_of_ble_eq_true rfl, Nat.le_of_ble_eq_true rfl⟩ (rvM C hP) hP rfl hl.1 rfl (lv_room (Nat.le_of_ble_eq_true rfl)) dX12_weaks_24 ⟨Nat.zero_le _, Nat.zero_le _⟩) hS (fun H locs hP hS => ?_)
    refine lv_iload_n F.1 F.2.1 dX12_weaks_27 rfl (lv_at hl 0 rfl) ?_
    have w0 := Option.some.inj hE
    obtain ⟨g0, w1⟩ := Prod.mk.inj w0
    obtain ⟨g1, w2⟩ := Prod.mk.inj w1
    obtain ⟨g2, w3⟩ := Prod.mk.inj w2
    subst g0 g1 g2 w3
    exact ret_i F hr hlk hP hS dX12_weaks_28
set_option maxRecDepth 100000 in
set_option maxHeartbeats 4000000 in
theorem kX12_wakes {l : Launch} {Z : ZC} {mth : Int32} {mto : Int32} {mrw : Nat → Int64} {mta : Nat → Int32} {mtp : Int32} {mat : Int32} {mtt : Int32} {mme : Nat → Int32} {mun : Int32} {mde : Int32} {mco : Nat → Int32} {mcn : Nat → Int32} {mvi : Int32} {men : Int32} {mfa : Nat → Int32} {mac : Nat → Int32} {mfi : Nat → Int32} {mse : Nat → Int32} {mtd : Nat → Int32} {mra : Int32} {mkp : Nat → Int32} {N : Nat} {p1 : Int32} {p2 : Int32} {r' : Int32} {mth' : Int32} {mto' : Int32} {mrw' : Nat → Int64} {mme' : Nat → Int32} {mun' : Int32} {mco' : Nat → Int32} {mcn' : Nat → Int32} {mvi' : Int32} (hE : fX12_wakes N mth mto mrw mme mun mde mco mcn mvi p1 p2 = some (r', mth', mto', mrw', mme', mun', mco', mcn', mvi')) : Mg l yX12_wakes cX12_wakes 3 (some .int) (rmk 207 4906) (KM Z) (AM Z) [.ref (mA Z 0), .int p1, .int p2] (PM Z mth mto mrw mta mtp mat mtt mme mun mde mco mcn mvi men mfa mac mfi mse mtd mra mkp) (Qi (KM Z) (AM Z) (PM Z mth' mto' mrw' mta mtp mat mtt mme' mun' mde mco' mcn' mvi' men mfa mac mfi mse mtd mra mkp) r') := by
  refine Mg.start (lv := [(0, .ref (mA Z 0)), (1, .int p1), (2, .int p2)]) (by decide) rfl (Nat.le_of_ble_eq_true rfl) rfl ?_
  intro p e s m below meth c F hr hlk C hP ls hl
  have hS : va_S (AM Z) s.heap s.heap [] := va_S.rf
  unfold fX12_wakes at hE
  refine lv_aload_n F.1 F.2.1 dX12_wakes_0 rfl (lv_at hl 0 rfl) ?_
  refine lv_iconst (v := 0) F.1 F.2.1 dX12_wakes_1 (by decide) ?_
  refine pX12_1 F C hP hS rfl dX12_wakes_2 (fun H locs hP hS => ?_)
  refine lv_aload_n F.1 F.2.1 dX12_wakes_5 rfl (lv_at hl 0 rfl) ?_
  refine lv_iconst (v := 0) F.1 F.2.1 dX12_wakes_6 (by decide) ?_
  refine lv_iconst (v := 3) F.1 F.2.1 dX12_wakes_7 (by decide) ?_
  obtain ⟨mme_445, hc, hE⟩ := bnd1_some hE
  refine aft_v (run_V (rest := []) F (kX12_copies hc) (okM Z) C hS lkX12_81 ⟨Nat.le_of_ble_eq_true rfl, Nat.le_of_ble_eq_true rfl⟩ (rvM C hP) hP rfl hl.1 rfl (lv_room (Nat.le_of_ble_eq_true rfl)) dX12_wakes_8 ⟨Nat.zero_le _, Nat.zero_le _⟩) hS (fun H locs hP hS => ?_)
  refine lv_aload_n F.1 F.2.1 dX12_wakes_11 rfl (lv_at hl 0 rfl) ?_
  refine lv_aload_n F.1 F.2.1 dX12_wakes_12 rfl (lv_at hl 0 rfl) ?_
  refine lv_aload_n F.1 F.2.1 dX12_wakes_13 rfl (lv_at hl 0 rfl) ?_
  refine lv_iload_n F.1 F.2.1 dX12_wakes_14 rfl (lv_at hl 1 rfl) ?_
  refine lv_iload_n F.1 F.2.1 dX12_wakes_15 rfl (lv_at hl 2 rfl) ?_
  obtain ⟨r446, mme_446, mco_446, mcn_446, mvi_446, hc, hE⟩ := bnd5_some hE
  refine aft_i (run_V (rest := [.ref (mA Z 0), .ref (mA Z 0)]) F (kX12_wakesOne hc) (okM Z) C hS lkX12_266 ⟨Nat.le_of_ble_eq_true rfl, Nat.le_of_ble_eq_true rfl⟩ (rvM C hP) hP rfl hl.1 rfl (lv_room (Nat.le_of_ble_eq_true rfl)) dX12_wakes_16 ⟨Nat.zero_le _, Nat.zero_le _⟩) hS (fun H locs hP hS => ?_)
  obtain ⟨r447, mto_447, mrw_447, hc, hE⟩ := bnd3_some hE
  refine aft_i (run_V (rest := [.ref (mA Z 0)]) F (kX12_entersBoth hc) (okM Z) C hS lkX12_257 ⟨Nat.le_of_ble_eq_true rfl, Nat.le_of_ble_eq_true rfl⟩ (rvM C hP) hP rfl hl.1 rfl (lv_room (Nat.le_of_ble_eq_true rfl)) dX12_wakes_19 ⟨Nat.zero_le _, Nat.zero_le _⟩) hS (fun H locs hP hS => ?_)
  obtain ⟨r448, mme_448, mun_448, hc, hE⟩ := bnd3_some hE
  refine aft_i (run_V (rest := []) F (kX12_done hc) (okM Z) C hS lkX12_250 ⟨Nat.le_of_ble_eq_true rfl, Nat.le_of_ble_eq_true rfl⟩ (rvM C hP) hP rfl hl.1 rfl (lv_room (Nat.le_of_ble_eq_true rfl)) dX12_wakes_22 ⟨Nat.zero_le _, Nat.zero_le _⟩) hS (fun H locs hP hS => ?_)
  have w0 := Option.some.inj hE
  obtain ⟨g0, w1⟩ := Prod.mk.inj w0
  obtain ⟨g1, w2⟩ := Prod.mk.inj w1
  obtain ⟨g2, w3⟩ := Prod.mk.inj w2
  obtain ⟨g3, w4⟩ := Prod.mk.inj w3
  obtain ⟨g4, w5⟩ := Prod.mk.inj w4
  obtain ⟨g5, w6⟩ := Prod.mk.inj w5
  obtain ⟨g6, w7⟩ := Prod.mk.inj w6
  obtain ⟨g7, w8⟩ := Prod.mk.inj w7
  subst g0 g1 g2 g3 g4 g5 g6 g7 w8
  exact ret_i F hr hlk hP hS dX12_wakes_25
set_option maxRecDepth 100000 in
set_option maxHeartbeats 4000000 in
theorem qX12_trial_43 {p : Program} {l : Launch} {e : Env} {s : State} {m : MethodId} {args : Array Value} {below : List Frame} {meth : Method} {c : Code} {Z : ZC} {mta : Nat → Int32} {mtp : Int32} {mat : Int32} {mtt : Int32} {mde : Int32} {mfa : Nat → Int32} {mac : Nat → Int32} {mfi : Nat → Int32} {mse : Nat → Int32} {mtd : Nat → Int32} {mra : Int32} {mkp : Nat → Int32} {N : Nat} {r' : Int32} {mth' : Int32} {mto' : Int32} {mrw' : Nat → Int64} {mme' : Nat → Int32} {mun' : Int32} {mco' : Nat → Int32} {mcn' : Nat → Int32} {mvi' : Int32} {men' : Int32} (F : CallFix p m c cX12_trial 2 s args bigW RX12) (hr : meth.sig.returnType = (some .int)) (hlk : meth.locks = false) (C : KM Z s) : ∀ (mth : Int32) (mto : Int32) (mrw : Nat → Int64) (mme : Nat → Int32) (mun : Int32) (mco : Nat → Int32) (mcn : Nat → Int32) (mvi : Int32) (men : Int32) (x1 : Int32), fX12_trial_43 N mde mth mto mrw mme mun mco mcn mvi men x1 = some (r', mth', mto', mrw', mme', mun', mco', mcn', mvi', men') → ∀ (H : Heap) (locs : List Loc), PM Z mth mto mrw mta mtp mat mtt mme mun mde mco mcn mvi men mfa mac mfi mse mtd mra mkp H → va_S (AM Z) s.heap H locs → ∀ ls : Array Slot, lv_has ls 2 [(0, .ref (mA Z 0)), (1, .int x1)] → W p l e (rmk 206 4884) s m args below meth c H locs 0 0 (MQ below (Qi (KM Z) (AM Z) (PM Z mth' mto' mrw' mta mtp mat mtt mme' mun' mde mco' mcn' mvi' men' mfa mac mfi mse mtd mra mkp) r') args s 0 0 (AM Z)) (F0 m 43 ls []) := by
  intro mth mto mrw mme mun mco mcn mvi men x1 hE H locs hP hS ls hl
  unfold fX12_trial_43 at hE
  refine lv_aload_n F.1 F.2.1 dX12_trial_43 rfl (lv_at hl 0 rfl) ?_
  refine lv_iload_n F.1 F.2.1 dX12_trial_44 rfl (lv_at hl 1 rfl) ?_
  obtain ⟨r458, mme_458, mun_458, hc, hE⟩ := bnd3_some hE
  refine aft_i (run_V (rest := []) F (kX12_done hc) (okM Z) C hS lkX12_250 ⟨Nat.le_of_ble_eq_true rfl, Nat.le_of_ble_eq_true rfl⟩ (rvM C hP) hP rfl hl.1 rfl (lv_room (Nat.le_of_ble_eq_true rfl)) dX12_trial_45 ⟨Nat.zero_le _, Nat.zero_le _⟩) hS (fun H locs hP hS => ?_)
  have w0 := Option.some.inj hE
  obtain ⟨g0, w1⟩ := Prod.mk.inj w0
  obtain ⟨g1, w2⟩ := Prod.mk.inj w1
  obtain ⟨g2, w3⟩ := Prod.mk.inj w2
  obtain ⟨g3, w4⟩ := Prod.mk.inj w3
  obtain ⟨g4, w5⟩ := Prod.mk.inj w4
  obtain ⟨g5, w6⟩ := Prod.mk.inj w5
  obtain ⟨g6, w7⟩ := Prod.mk.inj w6
  obtain ⟨g7, w8⟩ := Prod.mk.inj w7
  obtain ⟨g8, w9⟩ := Prod.mk.inj w8
  subst g0 g1 g2 g3 g4 g5 g6 g7 g8 w9
  exact ret_i F hr hlk hP hS dX12_trial_48
set_option maxRecDepth 100000 in
set_option maxHeartbeats 4000000 in
theorem kX12_trial {l : Launch} {Z : ZC} {mth : Int32} {mto : Int32} {mrw : Nat → Int64} {mta : Nat → Int32} {mtp : Int32} {mat : Int32} {mtt : Int32} {mme : Nat → Int32} {mun : Int32} {mde : Int32} {mco : Nat → Int32} {mcn : Nat → Int32} {mvi : Int32} {men : Int32} {mfa : Nat → Int32} {mac : Nat → Int32} {mfi : Nat → Int32} {mse : Nat → Int32} {mtd : Nat → Int32} {mra : Int32} {mkp : Nat → Int32} {N : Nat} {r' : Int32} {mth' : Int32} {mto' : Int32} {mrw' : Nat → Int64} {mme' : Nat → Int32} {mun' : Int32} {mco' : Nat → Int32} {mcn' : Nat → Int32} {mvi' : Int32} {men' : Int32} (hE : fX12_trial N mth mto mrw mme mun mde mco mcn mvi men = some (r', mth', mto', mrw', mme', mun', mco', mcn', mvi', men')) : Mg l yX12_trial cX12_trial 2 (some .int) (rmk 206 4884) (KM Z) (AM Z) [.ref (mA Z 0)] (PM Z mth mto mrw mta mtp mat mtt mme mun mde mco mcn mvi men mfa mac mfi mse mtd mra mkp) (Qi (KM Z) (AM Z) (PM Z mth' mto' mrw' mta mtp mat mtt mme' mun' mde mco' mcn' mvi' men' mfa mac mfi mse mtd mra mkp) r') := by
  refine Mg.start (lv := [(0, .ref (mA Z 0))]) (by decide) rfl (Nat.le_of_ble_eq_true rfl) rfl ?_
  intro p e s m below meth c F hr hlk C hP ls hl
  have hS : va_S (AM Z) s.heap s.heap [] := va_S.rf
  unfold fX12_trial at hE
  refine lv_aload_n F.1 F.2.1 dX12_trial_0 rfl (lv_at hl 0 rfl) ?_
  refine lv_iconst (v := 0) F.1 F.2.1 dX12_trial_1 (by decide) ?_
  refine pX12_1 F C hP hS rfl dX12_trial_2 (fun H locs hP hS => ?_)
  refine lv_aload_n F.1 F.2.1 dX12_trial_5 rfl (lv_at hl 0 rfl) ?_
  refine lv_iconst (v := 0) F.1 F.2.1 dX12_trial_6 (by decide) ?_
  refine lv_iconst (v := 3) F.1 F.2.1 dX12_trial_7 (by decide) ?_
  obtain ⟨mme_454, hc, hE⟩ := bnd1_some hE
  refine aft_v (run_V (rest := []) F (kX12_copies hc) (okM Z) C hS lkX12_81 ⟨Nat.le_of_ble_eq_true rfl, Nat.le_of_ble_eq_true rfl⟩ (rvM C hP) hP rfl hl.1 rfl (lv_room (Nat.le_of_ble_eq_true rfl)) dX12_trial_8 ⟨Nat.zero_le _, Nat.zero_le _⟩) hS (fun H locs hP hS => ?_)
  refine lv_aload_n F.1 F.2.1 dX12_trial_11 rfl (lv_at hl 0 rfl) ?_
  obtain ⟨r455, mme_455, mco_455, mcn_455, mvi_455, men_455, hc, hE⟩ := bnd6_some hE
  refine aft_i (run_V (rest := []) F (kX12_trialOne hc) (okM Z) C hS lkX12_269 ⟨Nat.le_of_ble_eq_true rfl, Nat.le_of_ble_eq_true rfl⟩ (rvM C hP) hP rfl hl.1 rfl (lv_room (Nat.le_of_ble_eq_true rfl)) dX12_trial_12 ⟨Nat.zero_le _, Nat.zero_le _⟩) hS (fun H locs hP hS => ?_)
  refine lv_istore_n (lv' := [(1, .int r455), (0, .ref (mA Z 0))]) F.1 F.2.1 dX12_trial_15 rfl hl (by decide) rfl (fun ls hl => ?_)
  refine lv_iload_n F.1 F.2.1 dX12_trial_16 rfl (lv_at hl 0 rfl) ?_
  refine lv_if_lt (tgt := 43) F.1 F.2.1 dX12_trial_17 (by decide) (fun hc => ?_) (fun hc => ?_)
  · have hE := ifp hE hc
    exact qX12_trial_43 F hr hlk C 0 mto mrw mme_455 mun mco_455 mcn_455 mvi_455 men_455 r455 hE _ _ hP hS ls (lv_sub hl [1, 0] rfl)
  · have hE := ifn hE hc
    refine lv_aload_n F.1 F.2.1 dX12_trial_20 rfl (lv_at hl 1 rfl) ?_
    refine lv_iconst (v := 0) F.1 F.2.1 dX12_trial_21 (by decide) ?_
    refine pX12_11 F C hP hS rfl dX12_trial_22 (fun H locs hP hS => ?_)
    refine lv_aload_n F.1 F.2.1 dX12_trial_25 rfl (lv_at hl 1 rfl) ?_
    refine lv_aload_n F.1 F.2.1 dX12_trial_26 rfl (lv_at hl 1 rfl) ?_
    refine gX12_230 F C hP dX12_trial_27 ?_
    refine lv_i2l (v := men_455.toInt64) F.1 F.2.1 dX12_trial_30 rfl ?_
    obtain ⟨mto_456, mrw_456, hc, hE⟩ := bnd2_some hE
    refine aft_v (run_V (rest := []) F (kX12_enters hc) (okM Z) C hS lkX12_239 ⟨Nat.le_of_ble_eq_true rfl, Nat.le_of_ble_eq_true rfl⟩ (rvM C hP) hP rfl hl.1 rfl (lv_room (Nat.le_of_ble_eq_true rfl)) dX12_trial_31 ⟨Nat.zero_le _, Nat.zero_le _⟩) hS (fun H locs hP hS => ?_)
    refine lv_aload_n F.1 F.2.1 dX12_trial_34 rfl (lv_at hl 1 rfl) ?_
    refine lv_aload_n F.1 F.2.1 dX12_trial_35 rfl (lv_at hl 1 rfl) ?_
    refine gX12_152 F C hP dX12_trial_36 ?_
    refine lv_i2l (v := mvi_455.toInt64) F.1 F.2.1 dX12_trial_39 rfl ?_
    obtain ⟨mto_457, mrw_457, hc, hE⟩ := bnd2_some hE
    refine aft_v (run_V (rest := []) F (kX12_enters hc) (okM Z) C hS lkX12_239 ⟨Nat.le_of_ble_eq_true rfl, Nat.le_of_ble_eq_true rfl⟩ (rvM C hP) hP rfl hl.1 rfl (lv_room (Nat.le_of_ble_eq_true rfl)) dX12_trial_40 ⟨Nat.zero_le _, Nat.zero_le _⟩) hS (fun H locs hP hS => ?_)
    exact qX12_trial_43 F hr hlk C 0 mto_457 mrw_457 mme_455 mun mco_455 mcn_455 mvi_455 men_455 r455 hE _ _ hP hS ls (lv_sub hl [1, 0] rfl)
set_option maxRecDepth 100000 in
set_option maxHeartbeats 4000000 in
theorem kX12_limit {l : Launch} {Z : ZC} {mth : Int32} {mto : Int32} {mrw : Nat → Int64} {mta : Nat → Int32} {mtp : Int32} {mat : Int32} {mtt : Int32} {mme : Nat → Int32} {mun : Int32} {mde : Int32} {mco : Nat → Int32} {mcn : Nat → Int32} {mvi : Int32} {men : Int32} {mfa : Nat → Int32} {mac : Nat → Int32} {mfi : Nat → Int32} {mse : Nat → Int32} {mtd : Nat → Int32} {mra : Int32} {mkp : Nat → Int32} {N : Nat} {p1 : Int32} {r' : Int32} {mth' : Int32} {mme' : Nat → Int32} {mun' : Int32} (hE : fX12_limit N mth mme mun p1 = some (r', mth', mme', mun')) : Mg l yX12_limit cX12_limit 3 (some .int) (rmk 3 65) (KM Z) (AM Z) [.ref (mA Z 0), .int p1] (PM Z mth mto mrw mta mtp mat mtt mme mun mde mco mcn mvi men mfa mac mfi mse mtd mra mkp) (Qi (KM Z) (AM Z) (PM Z mth' mto mrw mta mtp mat mtt mme' mun' mde mco mcn mvi men mfa mac mfi mse mtd mra mkp) r') := by
  refine Mg.start (lv := [(0, .ref (mA Z 0)), (1, .int p1)]) (by decide) rfl (Nat.le_of_ble_eq_true rfl) rfl ?_
  intro p e s m below meth c F hr hlk C hP ls hl
  have hS : va_S (AM Z) s.heap s.heap [] := va_S.rf
  unfold fX12_limit at hE
  refine lv_aload_n F.1 F.2.1 dX12_limit_0 rfl (lv_at hl 0 rfl) ?_
  refine lv_iconst (v := 0) F.1 F.2.1 dX12_limit_1 (by decide) ?_
  refine pX12_1 F C hP hS rfl dX12_limit_2 (fun H locs hP hS => ?_)
  refine lv_iload_n F.1 F.2.1 dX12_limit_5 rfl (lv_at hl 1 rfl) ?_
  refine lv_i2l (v := p1.toInt64) F.1 F.2.1 dX12_limit_6 rfl ?_
  refine lv_lconst (v := 1) F.1 F.2.1 dX12_limit_7 (by decide) ?_
  refine lv_ldc2 (v := 24) F.1 F.2.1 F.2.2.2.1 (F.2.2.2.2 _ (bw_t 1307 (by decide +kernel) rfl)) dX12_limit_8 ?_
  obtain ⟨r464, hc, hE⟩ := bnd1_some hE
  refine aft_i (run_S (rest := []) F (kX12_in hc) (okM Z) C hS lkX12_21 ⟨Nat.le_of_ble_eq_true rfl, Nat.le_of_ble_eq_true rfl⟩ hP rfl hl.1 rfl (lv_room (Nat.le_of_ble_eq_true rfl)) dX12_limit_11 ⟨Nat.zero_le _, Nat.zero_le _⟩) hS (fun H locs hP hS => ?_)
  refine lv_if_ne (tgt := 19) F.1 F.2.1 dX12_limit_14 (by decide) (fun hc => ?_) (fun hc => ?_)
  · have hE := ifn hE hc
    refine lv_aload_n F.1 F.2.1 dX12_limit_19 rfl (lv_at hl 0 rfl) ?_
    refine gX12_53 F C hP dX12_limit_20 ?_
    refine lv_iconst (v := 0) F.1 F.2.1 dX12_limit_23 (by decide) ?_
    obtain ⟨hi, hE⟩ := grd_some hE
    refine am3 F C hP hi dX12_limit_24 ?_
    obtain ⟨v_465, ev_465, hE⟩ := lt_some hE
    refine lv_seti ev_465 ?_
    refine lv_istore_n (lv' := [(2, .int v_465), (0, .ref (mA Z 0)), (1, .int p1)]) F.1 F.2.1 dX12_limit_25 rfl hl (by decide) rfl (fun ls hl => ?_)
    refine lv_iload_n F.1 F.2.1 dX12_limit_26 rfl (lv_at hl 0 rfl) ?_
    refine lv_iload_n F.1 F.2.1 dX12_limit_27 rfl (lv_at hl 2 rfl) ?_
    refine lv_icmp_ne (tgt := 34) F.1 F.2.1 dX12_limit_28 (by decide) (fun hc => ?_) (fun hc => ?_)
    · have hE := ifn hE hc
      refine lv_aload_n F.1 F.2.1 dX12_limit_34 rfl (lv_at hl 1 rfl) ?_
      refine lv_iconst (v := 0) F.1 F.2.1 dX12_limit_35 (by decide) ?_
      refine lv_iconst (v := 3) F.1 F.2.1 dX12_limit_36 (by decide) ?_
      obtain ⟨mme_466, hc, hE⟩ := bnd1_some hE
      refine aft_v (run_V (rest := []) F (kX12_copies hc) (okM Z) C hS lkX12_81 ⟨Nat.le_of_ble_eq_true rfl, Nat.le_of_ble_eq_true rfl⟩ (rvM C hP) hP rfl hl.1 rfl (lv_room (Nat.le_of_ble_eq_true rfl)) dX12_limit_37 ⟨Nat.zero_le _, Nat.zero_le _⟩) hS (fun H locs hP hS => ?_)
      refine lv_aload_n F.1 F.2.1 dX12_limit_40 rfl (lv_at hl 1 rfl) ?_
      refine gX12_53 F C hP dX12_limit_41 ?_
      refine lv_iconst (v := 0) F.1 F.2.1 dX12_limit_44 (by decide) ?_
      refine lv_iload_n F.1 F.2.1 dX12_limit_45 rfl (lv_at hl 2 rfl) ?_
      obtain ⟨hi, hE⟩ := grd_some hE
      obtain ⟨mme_467, emme_467, hE⟩ := lt_some hE
      refine sm3 F C hP hi hS emme_467.symm dX12_limit_46 (fun H locs hP hS => ?_)
      refine lv_aload_n F.1 F.2.1 dX12_limit_47 rfl (lv_at hl 1 rfl) ?_
      refine lv_iload_n F.1 F.2.1 dX12_limit_48 rfl (lv_at hl 0 rfl) ?_
      obtain ⟨r468, mme_468, mun_468, hc, hE⟩ := bnd3_some hE
      refine aft_i (run_V (rest := []) F (kX12_done hc) (okM Z) C hS lkX12_250 ⟨Nat.le_of_ble_eq_true rfl, Nat.le_of_ble_eq_true rfl⟩ (rvM C hP) hP rfl hl.1 rfl (lv_room (Nat.le_of_ble_eq_true rfl)) dX12_limit_49 ⟨Nat.zero_le _, Nat.zero_le _⟩) hS (fun H locs hP hS => ?_)
      have w0 := Option.some.inj hE
      obtain ⟨g0, w1⟩ := Prod.mk.inj w0
      obtain ⟨g1, w2⟩ := Prod.mk.inj w1
      obtain ⟨g2, w3⟩ := Prod.mk.inj w2
      subst g0 g1 g2 w3
      exact ret_i F hr hlk hP hS dX12_limit_52
    · have hE := ifp hE hc
      refine lv_bipush (v := (-2)) F.1 F.2.1 dX12_limit_31 (by decide) ?_
      have w0 := Option.some.inj hE
      obtain ⟨g0, w1⟩ := Prod.mk.inj w0
      obtain ⟨g1, w2⟩ := Prod.mk.inj w1
      obtain ⟨g2, w3⟩ := Prod.mk.inj w2
      subst g0 g1 g2 w3
      exact ret_i F hr hlk hP hS dX12_limit_33
  · have hE := ifp hE hc
    refine lv_iconst (v := (-1)) F.1 F.2.1 dX12_limit_17 (by decide) ?_
    have w0 := Option.some.inj hE
    obtain ⟨g0, w1⟩ := Prod.mk.inj w0
    obtain ⟨g1, w2⟩ := Prod.mk.inj w1
    obtain ⟨g2, w3⟩ := Prod.mk.inj w2
    subst g0 g1 g2 w3
    exact ret_i F hr hlk hP hS dX12_limit_18
set_option maxRecDepth 100000 in
set_option maxHeartbeats 4000000 in
theorem qX12_object_26 {p : Program} {l : Launch} {e : Env} {s : State} {m : MethodId} {args : Array Value} {below : List Frame} {meth : Method} {c : Code} {Z : ZC} {mto : Int32} {mrw : Nat → Int64} {mta : Nat → Int32} {mtp : Int32} {mat : Int32} {mtt : Int32} {mme : Nat → Int32} {mun : Int32} {mde : Int32} {mco : Nat → Int32} {mcn : Nat → Int32} {mvi : Int32} {men : Int32} {mfa : Nat → Int32} {mac : Nat → Int32} {mfi : Nat → Int32} {mse : Nat → Int32} {mtd : Nat → Int32} {mra : Int32} {mkp : Nat → Int32} {N : Nat} {p1 : Int32} {p2 : Int32} {r' : Int32} {mth' : Int32} (F : CallFix p m c cX12_object 3 s args bigW RX12) (hr : meth.sig.returnType = (some .int)) (hlk : meth.locks = false) (C : KM Z s) : ∀ (mth : Int32) (y0 : Int32), fX12_object_26 N mme mde p1 p2 mth y0 = some (r', mth') → ∀ (H : Heap) (locs : List Loc), PM Z mth mto mrw mta mtp mat mtt mme mun mde mco mcn mvi men mfa mac mfi mse mtd mra mkp H → va_S (AM Z) s.heap H locs → ∀ ls : Array Slot, lv_has ls 3 [(0, .ref (mA Z 0)), (1, .int p1), (2, .int p2)] → W p l e (rmk 6 133) s m args below meth c H locs 0 0 (MQ below (Qi (KM Z) (AM Z) (PM Z mth' mto mrw mta mtp mat mtt mme mun mde mco mcn mvi men mfa mac mfi mse mtd mra mkp) r') args s 0 0 (AM Z)) (F0 m 26 ls [.int y0, .ref (mA Z 0)]) := by
  intro mth y0 hE H locs hP hS ls hl
  unfold fX12_object_26 at hE
  obtain ⟨r483, hc, hE⟩ := bnd1_some hE
  refine aft_i (run_S (rest := [.ref (mA Z 0)]) F (kX12_flag hc) (okM Z) C hS lkX12_167 ⟨Nat.le_of_ble_eq_true rfl, Nat.le_of_ble_eq_true rfl⟩ hP rfl hl.1 rfl (lv_room (Nat.le_of_ble_eq_true rfl)) dX12_object_26 ⟨Nat.zero_le _, Nat.zero_le _⟩) hS (fun H locs hP hS => ?_)
  refine pX12_1 F C hP hS rfl dX12_object_29 (fun H locs hP hS => ?_)
  refine lv_aload_n F.1 F.2.1 dX12_object_32 rfl (lv_at hl 0 rfl) ?_
  refine gX12_1 F C hP dX12_object_33 ?_
  refine lv_iconst (v := 1) F.1 F.2.1 dX12_object_36 (by decide) ?_
  refine lv_icmp_ne (tgt := 42) F.1 F.2.1 dX12_object_37 (by decide) (fun hc => ?_) (fun hc => ?_)
  · have hE := ifn hE hc
    refine lv_iload_n F.1 F.2.1 dX12_object_42 rfl (lv_at hl 2 rfl) ?_
    by_cases hc0 : p2 = 0
    · have hE := ifp hE hc0
      refine lv_tableIn (tgt := 80) (off := 37) F.1 F.2.1 dX12_object_43 (by rw [hc0]; decide) (by rw [hc0]; decide) (by rw [hc0]; rfl) (by decide) ?_
      refine lv_aload_n F.1 F.2.1 dX12_object_80 rfl (lv_at hl 0 rfl) ?_
      refine lv_iload_n F.1 F.2.1 dX12_object_81 rfl (lv_at hl 1 rfl) ?_
      refine lv_iconst (v := 5) F.1 F.2.1 dX12_object_82 (by decide) ?_
      obtain ⟨r484, hc, hE⟩ := bnd1_some hE
      refine aft_i (run_V (rest := []) F (kX12_of hc) (okM Z) C hS lkX12_91 ⟨Nat.le_of_ble_eq_true rfl, Nat.le_of_ble_eq_true rfl⟩ (rvM C hP) hP rfl hl.1 rfl (lv_room (Nat.le_of_ble_eq_true rfl)) dX12_object_83 ⟨Nat.zero_le _, Nat.zero_le _⟩) hS (fun H locs hP hS => ?_)
      have w0 := Option.some.inj hE
      obtain ⟨g0, w1⟩ := Prod.mk.inj w0
      subst g0 w1
      exact ret_i F hr hlk hP hS dX12_object_86
    have hE := ifn hE hc0
    by_cases hc1 : p2 = 1
    · have hE := ifp hE hc1
      refine lv_tableIn (tgt := 87) (off := 44) F.1 F.2.1 dX12_object_43 (by rw [hc1]; decide) (by rw [hc1]; decide) (by rw [hc1]; rfl) (by decide) ?_
      refine lv_aload_n F.1 F.2.1 dX12_object_87 rfl (lv_at hl 0 rfl) ?_
      refine lv_iload_n F.1 F.2.1 dX12_object_88 rfl (lv_at hl 1 rfl) ?_
      refine lv_iconst (v := 1) F.1 F.2.1 dX12_object_89 (by decide) ?_
      obtain ⟨r485, hc, hE⟩ := bnd1_some hE
      refine aft_i (run_V (rest := []) F (kX12_of hc) (okM Z) C hS lkX12_91 ⟨Nat.le_of_ble_eq_true rfl, Nat.le_of_ble_eq_true rfl⟩ (rvM C hP) hP rfl hl.1 rfl (lv_room (Nat.le_of_ble_eq_true rfl)) dX12_object_90 ⟨Nat.zero_le _, Nat.zero_le _⟩) hS (fun H locs hP hS => ?_)
      have w0 := Option.some.inj hE
      obtain ⟨g0, w1⟩ := Prod.mk.inj w0
      subst g0 w1
      exact ret_i F hr hlk hP hS dX12_object_93
    have hE := ifn hE hc1
    by_cases hc2 : p2 = 2
    · have hE := ifp hE hc2
      refine lv_tableIn (tgt := 94) (off := 51) F.1 F.2.1 dX12_object_43 (by rw [hc2]; decide) (by rw [hc2]; decide) (by rw [hc2]; rfl) (by decide) ?_
      refine lv_aload_n F.1 F.2.1 dX12_object_94 rfl (lv_at hl 0 rfl) ?_
      refine lv_iload_n F.1 F.2.1 dX12_object_95 rfl (lv_at hl 1 rfl) ?_
      refine lv_iconst (v := 2) F.1 F.2.1 dX12_object_96 (by decide) ?_
      obtain ⟨r486, hc, hE⟩ := bnd1_some hE
      refine aft_i (run_V (rest := []) F (kX12_of hc) (okM Z) C hS lkX12_91 ⟨Nat.le_of_ble_eq_true rfl, Nat.le_of_ble_eq_true rfl⟩ (rvM C hP) hP rfl hl.1 rfl (lv_room (Nat.le_of_ble_eq_true rfl)) dX12_object_97 ⟨Nat.zero_le _, Nat.zero_le _⟩) hS (fun H locs hP hS => ?_)
      have w0 := Option.some.inj hE
      obtain ⟨g0, w1⟩ := Prod.mk.inj w0
      subst g0 w1
      exact ret_i F hr hlk hP hS dX12_object_100
    have hE := ifn hE hc2
    by_cases hc3 : p2 = 3
    · have hE := ifp hE hc3
      refine lv_tableIn (tgt := 101) (off := 58) F.1 F.2.1 dX12_object_43 (by rw [hc3]; decide) (by rw [hc3]; decide) (by rw [hc3]; rfl) (by decide) ?_
      refine lv_aload_n F.1 F.2.1 dX12_object_101 rfl (lv_at hl 0 rfl) ?_
      refine lv_iload_n F.1 F.2.1 dX12_object_102 rfl (lv_at hl 1 rfl) ?_
      refine lv_iconst (v := 3) F.1 F.2.1 dX12_object_103 (by decide) ?_
      obtain ⟨r487, hc, hE⟩ := bnd1_some hE
      refine aft_i (run_V (rest := []) F (kX12_of hc) (okM Z) C hS lkX12_91 ⟨Nat.le_of_ble_eq_true rfl, Nat.le_of_ble_eq_true rfl⟩ (rvM C hP) hP rfl hl.1 rfl (lv_room (Nat.le_of_ble_eq_true rfl)) dX12_object_104 ⟨Nat.zero_le _, Nat.zero_le _⟩) hS (fun H locs hP hS => ?_)
      have w0 := Option.some.inj hE
      obtain ⟨g0, w1⟩ := Prod.mk.inj w0
      subst g0 w1
      exact ret_i F hr hlk hP hS dX12_object_107
    have hE := ifn hE hc3
    by_cases hc4 : p2 = 4
    · have hE := ifp hE hc4
      refine lv_tableIn (tgt := 108) (off := 65) F.1 F.2.1 dX12_object_43 (by rw [hc4]; decide) (by rw [hc4]; decide) (by rw [hc4]; rfl) (by decide) ?_
      refine lv_aload_n F.1 F.2.1 dX12_object_108 rfl (lv_at hl 0 rfl) ?_
      refine lv_iload_n F.1 F.2.1 dX12_object_109 rfl (lv_at hl 1 rfl) ?_
      refine lv_iconst (v := 4) F.1 F.2.1 dX12_object_110 (by decide) ?_
      obtain ⟨r488, hc, hE⟩ := bnd1_some hE
      refine aft_i (run_V (rest := []) F (kX12_of hc) (okM Z) C hS lkX12_91 ⟨Nat.le_of_ble_eq_true rfl, Nat.le_of_ble_eq_true rfl⟩ (rvM C hP) hP rfl hl.1 rfl (lv_room (Nat.le_of_ble_eq_true rfl)) dX12_object_111 ⟨Nat.zero_le _, Nat.zero_le _⟩) hS (fun H locs hP hS => ?_)
      have w0 := Option.some.inj hE
      obtain ⟨g0, w1⟩ := Prod.mk.inj w0
      subst g0 w1
      exact ret_i F hr hlk hP hS dX12_object_114
    have hE := ifn hE hc4
    by_cases hc5 : p2 = 5
    · have hE := ifp hE hc5
      refine lv_tableIn (tgt := 115) (off := 72) F.1 F.2.1 dX12_object_43 (by rw [hc5]; decide) (by rw [hc5]; decide) (by rw [hc5]; rfl) (by decide) ?_
      refine lv_aload_n F.1 F.2.1 dX12_object_115 rfl (lv_at hl 0 rfl) ?_
      refine lv_iload_n F.1 F.2.1 dX12_object_116 rfl (lv_at hl 1 rfl) ?_
      obtain ⟨r489, hc, hE⟩ := bnd1_some hE
      refine aft_i (run_V (rest := []) F (kX12_placeOnList hc) (okM Z) C hS lkX12_108 ⟨Nat.le_of_ble_eq_true rfl, Nat.le_of_ble_eq_true rfl⟩ (rvM C hP) hP rfl hl.1 rfl (lv_room (Nat.le_of_ble_eq_true rfl)) dX12_object_117 ⟨Nat.zero_le _, Nat.zero_le _⟩) hS (fun H locs hP hS => ?_)
      refine lv_if_ge (tgt := 127) F.1 F.2.1 dX12_object_120 (by decide) (fun hc => ?_) (fun hc => ?_)
      · have hE := ifp hE hc
        refine lv_aload_n F.1 F.2.1 dX12_object_127 rfl (lv_at hl 0 rfl) ?_
        refine lv_iload_n F.1 F.2.1 dX12_object_128 rfl (lv_at hl 1 rfl) ?_
        refine lv_bipush (v := 6) F.1 F.2.1 dX12_object_129 (by decide) ?_
        obtain ⟨r490, hc, hE⟩ := bnd1_some hE
        refine aft_i (run_V (rest := []) F (kX12_of hc) (okM Z) C hS lkX12_91 ⟨Nat.le_of_ble_eq_true rfl, Nat.le_of_ble_eq_true rfl⟩ (rvM C hP) hP rfl hl.1 rfl (lv_room (Nat.le_of_ble_eq_true rfl)) dX12_object_131 ⟨Nat.zero_le _, Nat.zero_le _⟩) hS (fun H locs hP hS => ?_)
        refine lv_iconst (v := 1) F.1 F.2.1 dX12_object_134 (by decide) ?_
        refine lv_icmp_ne (tgt := 142) F.1 F.2.1 dX12_object_135 (by decide) (fun hc => ?_) (fun hc => ?_)
        · have hE := ifn hE hc
          refine lv_iconst (v := 2) F.1 F.2.1 dX12_object_142 (by decide) ?_
          have w0 := Option.some.inj hE
          obtain ⟨g0, w1⟩ := Prod.mk.inj w0
          subst g0 w1
          exact ret_i F hr hlk hP hS dX12_object_143
        · have hE := ifp hE hc
          refine lv_iconst (v := 1) F.1 F.2.1 dX12_object_138 (by decide) ?_
          refine lv_goto (tgt := 143) F.1 F.2.1 dX12_object_139 (by decide) ?_
          have w0 := Option.some.inj hE
          obtain ⟨g0, w1⟩ := Prod.mk.inj w0
          subst g0 w1
          exact ret_i F hr hlk hP hS dX12_object_143
      · have hE := ifn hE hc
        refine lv_iconst (v := 0) F.1 F.2.1 dX12_object_123 (by decide) ?_
        refine lv_goto (tgt := 143) F.1 F.2.1 dX12_object_124 (by decide) ?_
        have w0 := Option.some.inj hE
        obtain ⟨g0, w1⟩ := Prod.mk.inj w0
        subst g0 w1
        exact ret_i F hr hlk hP hS dX12_object_143
    have hE := ifn hE hc5
    refine lv_tableOut (tgt := 144) F.1 F.2.1 dX12_object_43 (by have g0 : ¬ (p2).toInt = 0 := sw_ne hc0; have g1 : ¬ (p2).toInt = 1 := sw_ne hc1; have g2 : ¬ (p2).toInt = 2 := sw_ne hc2; have g3 : ¬ (p2).toInt = 3 := sw_ne hc3; have g4 : ¬ (p2).toInt = 4 := sw_ne hc4; have g5 : ¬ (p2).toInt = 5 := sw_ne hc5; omega) (by decide) ?_
    refine lv_aload_n F.1 F.2.1 dX12_object_144 rfl (lv_at hl 0 rfl) ?_
    refine lv_iload_n F.1 F.2.1 dX12_object_145 rfl (lv_at hl 1 rfl) ?_
    obtain ⟨r491, hc, hE⟩ := bnd1_some hE
    refine aft_i (run_V (rest := []) F (kX12_isReached hc) (okM Z) C hS lkX12_222 ⟨Nat.le_of_ble_eq_true rfl, Nat.le_of_ble_eq_true rfl⟩ (rvM C hP) hP rfl hl.1 rfl (lv_room (Nat.le_of_ble_eq_true rfl)) dX12_object_146 ⟨Nat.zero_le _, Nat.zero_le _⟩) hS (fun H locs hP hS => ?_)
    obtain ⟨r492, hc, hE⟩ := bnd1_some hE
    refine aft_i (run_S (rest := []) F (kX12_flag hc) (okM Z) C hS lkX12_167 ⟨Nat.le_of_ble_eq_true rfl, Nat.le_of_ble_eq_true rfl⟩ hP rfl hl.1 rfl (lv_room (Nat.le_of_ble_eq_true rfl)) dX12_object_149 ⟨Nat.zero_le _, Nat.zero_le _⟩) hS (fun H locs hP hS => ?_)
    have w0 := Option.some.inj hE
    obtain ⟨g0, w1⟩ := Prod.mk.inj w0
    subst g0 w1
    exact ret_i F hr hlk hP hS dX12_object_152
  · have hE := ifp hE hc
    refine lv_iconst (v := 0) F.1 F.2.1 dX12_object_40 (by decide) ?_
    have w0 := Option.some.inj hE
    obtain ⟨g0, w1⟩ := Prod.mk.inj w0
    subst g0 w1
    exact ret_i F hr hlk hP hS dX12_object_41
set_option maxRecDepth 100000 in
set_option maxHeartbeats 4000000 in
theorem qX12_object_21 {p : Program} {l : Launch} {e : Env} {s : State} {m : MethodId} {args : Array Value} {below : List Frame} {meth : Method} {c : Code} {Z : ZC} {mto : Int32} {mrw : Nat → Int64} {mta : Nat → Int32} {mtp : Int32} {mat : Int32} {mtt : Int32} {mme : Nat → Int32} {mun : Int32} {mde : Int32} {mco : Nat → Int32} {mcn : Nat → Int32} {mvi : Int32} {men : Int32} {mfa : Nat → Int32} {mac : Nat → Int32} {mfi : Nat → Int32} {mse : Nat → Int32} {mtd : Nat → Int32} {mra : Int32} {mkp : Nat → Int32} {N : Nat} {p1 : Int32} {p2 : Int32} {r' : Int32} {mth' : Int32} (F : CallFix p m c cX12_object 3 s args bigW RX12) (hr : meth.sig.returnType = (some .int)) (hlk : meth.locks = false) (C : KM Z s) : ∀ (mth : Int32), fX12_object_21 N mme mde p1 p2 mth = some (r', mth') → ∀ (H : Heap) (locs : List Loc), PM Z mth mto mrw mta mtp mat mtt mme mun mde mco mcn mvi men mfa mac mfi mse mtd mra mkp H → va_S (AM Z) s.heap H locs → ∀ ls : Array Slot, lv_has ls 3 [(0, .ref (mA Z 0)), (1, .int p1), (2, .int p2)] → W p l e (rmk 6 133) s m args below meth c H locs 0 0 (MQ below (Qi (KM Z) (AM Z) (PM Z mth' mto mrw mta mtp mat mtt mme mun mde mco mcn mvi men mfa mac mfi mse mtd mra mkp) r') args s 0 0 (AM Z)) (F0 m 21 ls [.ref (mA Z 0)]) := by
  intro mth hE H locs hP hS ls hl
  unfold fX12_object_21 at hE
  refine lv_iconst (v := 1) F.1 F.2.1 dX12_object_21 (by decide) ?_
  refine lv_goto (tgt := 26) F.1 F.2.1 dX12_object_22 (by decide) ?_
  exact qX12_object_26 F hr hlk C mth 1 hE _ _ hP hS ls (lv_sub hl [0, 1, 2] rfl)
set_option maxRecDepth 100000 in
set_option maxHeartbeats 4000000 in
theorem kX12_object {l : Launch} {Z : ZC} {mth : Int32} {mto : Int32} {mrw : Nat → Int64} {mta : Nat → Int32} {mtp : Int32} {mat : Int32} {mtt : Int32} {mme : Nat → Int32} {mun : Int32} {mde : Int32} {mco : Nat → Int32} {mcn : Nat → Int32} {mvi : Int32} {men : Int32} {mfa : Nat → Int32} {mac : Nat → Int32} {mfi : Nat → Int32} {mse : Nat → Int32} {mtd : Nat → Int32} {mra : Int32} {mkp : Nat → Int32} {N : Nat} {p1 : Int32} {p2 : Int32} {r' : Int32} {mth' : Int32} (hE : fX12_object N mth mme mde p1 p2 = some (r', mth')) : Mg l yX12_object cX12_object 3 (some .int) (rmk 6 133) (KM Z) (AM Z) [.ref (mA Z 0), .int p1, .int p2] (PM Z mth mto mrw mta mtp mat mtt mme mun mde mco mcn mvi men mfa mac mfi mse mtd mra mkp) (Qi (KM Z) (AM Z) (PM Z mth' mto mrw mta mtp mat mtt mme mun mde mco mcn mvi men mfa mac mfi mse mtd mra mkp) r') := by
  refine Mg.start (lv := [(0, .ref (mA Z 0)), (1, .int p1), (2, .int p2)]) (by decide) rfl (Nat.le_of_ble_eq_true rfl) rfl ?_
  intro p e s m below meth c F hr hlk C hP ls hl
  have hS : va_S (AM Z) s.heap s.heap [] := va_S.rf
  unfold fX12_object at hE
  refine lv_aload_n F.1 F.2.1 dX12_object_0 rfl (lv_at hl 0 rfl) ?_
  refine lv_aload_n F.1 F.2.1 dX12_object_1 rfl (lv_at hl 0 rfl) ?_
  refine lv_iload_n F.1 F.2.1 dX12_object_2 rfl (lv_at hl 1 rfl) ?_
  obtain ⟨r481, hc, hE⟩ := bnd1_some hE
  refine aft_i (run_V (rest := [.ref (mA Z 0)]) F (kX12_isThere hc) (okM Z) C hS lkX12_216 ⟨Nat.le_of_ble_eq_true rfl, Nat.le_of_ble_eq_true rfl⟩ (rvM C hP) hP rfl hl.1 rfl (lv_room (Nat.le_of_ble_eq_true rfl)) dX12_object_3 ⟨Nat.zero_le _, Nat.zero_le _⟩) hS (fun H locs hP hS => ?_)
  refine lv_if_eq (tgt := 21) F.1 F.2.1 dX12_object_6 (by decide) (fun hc => ?_) (fun hc => ?_)
  · have hE := ifp hE hc
    exact qX12_object_21 F hr hlk C mth hE _ _ hP hS ls (lv_sub hl [0, 1, 2] rfl)
  · have hE := ifn hE hc
    refine lv_iload_n F.1 F.2.1 dX12_object_9 rfl (lv_at hl 2 rfl) ?_
    refine lv_i2l (v := p2.toInt64) F.1 F.2.1 dX12_object_10 rfl ?_
    refine lv_lconst (v := 0) F.1 F.2.1 dX12_object_11 (by decide) ?_
    refine lv_ldc2 (v := 6) F.1 F.2.1 F.2.2.2.1 (F.2.2.2.2 _ (bw_t 1312 (by decide +kernel) rfl)) dX12_object_12 ?_
    obtain ⟨r482, hc, hE⟩ := bnd1_some hE
    refine aft_i (run_S (rest := [.ref (mA Z 0)]) F (kX12_in hc) (okM Z) C hS lkX12_21 ⟨Nat.le_of_ble_eq_true rfl, Nat.le_of_ble_eq_true rfl⟩ hP rfl hl.1 rfl (lv_room (Nat.le_of_ble_eq_true rfl)) dX12_object_15 ⟨Nat.zero_le _, Nat.zero_le _⟩) hS (fun H locs hP hS => ?_)
    refine lv_if_ne (tgt := 25) F.1 F.2.1 dX12_object_18 (by decide) (fun hc => ?_) (fun hc => ?_)
    · have hE := ifn hE hc
      refine lv_iconst (v := 0) F.1 F.2.1 dX12_object_25 (by decide) ?_
      exact qX12_object_26 F hr hlk C mth 0 hE _ _ hP hS ls (lv_sub hl [0, 1, 2] rfl)
    · have hE := ifp hE hc
      exact qX12_object_21 F hr hlk C mth hE _ _ hP hS ls (lv_sub hl [0, 1, 2] rfl)
set_option maxRecDepth 100000 in
set_option maxHeartbeats 4000000 in
theorem qX12_field_32 {p : Program} {l : Launch} {e : Env} {s : State} {m : MethodId} {args : Array Value} {below : List Frame} {meth : Method} {c : Code} {Z : ZC} {mto : Int32} {mrw : Nat → Int64} {mta : Nat → Int32} {mtp : Int32} {mat : Int32} {mtt : Int32} {mme : Nat → Int32} {mun : Int32} {mde : Int32} {mco : Nat → Int32} {mcn : Nat → Int32} {mvi : Int32} {men : Int32} {mfa : Nat → Int32} {mac : Nat → Int32} {mfi : Nat → Int32} {mse : Nat → Int32} {mtd : Nat → Int32} {mra : Int32} {mkp : Nat → Int32} {p1 : Int32} {p2 : Int32} {r' : Int32} {mth' : Int32} (F : CallFix p m c cX12_field 3 s args bigW RX12) (hr : meth.sig.returnType = (some .int)) (hlk : meth.locks = false) (C : KM Z s) : ∀ (mth : Int32) (y0 : Int32), fX12_field_32 mme mde p1 p2 mth y0 = some (r', mth') → ∀ (H : Heap) (locs : List Loc), PM Z mth mto mrw mta mtp mat mtt mme mun mde mco mcn mvi men mfa mac mfi mse mtd mra mkp H → va_S (AM Z) s.heap H locs → ∀ ls : Array Slot, lv_has ls 3 [(0, .ref (mA Z 0)), (1, .int p1), (2, .int p2)] → W p l e (rmk 2 46) s m args below meth c H locs 0 0 (MQ below (Qi (KM Z) (AM Z) (PM Z mth' mto mrw mta mtp mat mtt mme mun mde mco mcn mvi men mfa mac mfi mse mtd mra mkp) r') args s 0 0 (AM Z)) (F0 m 32 ls [.int y0, .ref (mA Z 0)]) := by
  intro mth y0 hE H locs hP hS ls hl
  unfold fX12_field_32 at hE
  obtain ⟨r501, hc, hE⟩ := bnd1_some hE
  refine aft_i (run_S (rest := [.ref (mA Z 0)]) F (kX12_flag hc) (okM Z) C hS lkX12_167 ⟨Nat.le_of_ble_eq_true rfl, Nat.le_of_ble_eq_true rfl⟩ hP rfl hl.1 rfl (lv_room (Nat.le_of_ble_eq_true rfl)) dX12_field_32 ⟨Nat.zero_le _, Nat.zero_le _⟩) hS (fun H locs hP hS => ?_)
  refine pX12_1 F C hP hS rfl dX12_field_35 (fun H locs hP hS => ?_)
  refine lv_aload_n F.1 F.2.1 dX12_field_38 rfl (lv_at hl 0 rfl) ?_
  refine gX12_1 F C hP dX12_field_39 ?_
  refine lv_iconst (v := 1) F.1 F.2.1 dX12_field_42 (by decide) ?_
  refine lv_icmp_ne (tgt := 50) F.1 F.2.1 dX12_field_43 (by decide) (fun hc => ?_) (fun hc => ?_)
  · have hE := ifn hE hc
    refine lv_aload_n F.1 F.2.1 dX12_field_50 rfl (lv_at hl 0 rfl) ?_
    refine lv_iload_n F.1 F.2.1 dX12_field_51 rfl (lv_at hl 1 rfl) ?_
    refine lv_iload_n F.1 F.2.1 dX12_field_52 rfl (lv_at hl 2 rfl) ?_
    obtain ⟨r502, hc, hE⟩ := bnd1_some hE
    refine aft_i (run_V (rest := []) F (kX12_fieldOf hc) (okM Z) C hS lkX12_140 ⟨Nat.le_of_ble_eq_true rfl, Nat.le_of_ble_eq_true rfl⟩ (rvM C hP) hP rfl hl.1 rfl (lv_room (Nat.le_of_ble_eq_true rfl)) dX12_field_53 ⟨Nat.zero_le _, Nat.zero_le _⟩) hS (fun H locs hP hS => ?_)
    have w0 := Option.some.inj hE
    obtain ⟨g0, w1⟩ := Prod.mk.inj w0
    subst g0 w1
    exact ret_i F hr hlk hP hS dX12_field_56
  · have hE := ifp hE hc
    refine lv_iconst (v := 0) F.1 F.2.1 dX12_field_46 (by decide) ?_
    refine lv_goto (tgt := 56) F.1 F.2.1 dX12_field_47 (by decide) ?_
    have w0 := Option.some.inj hE
    obtain ⟨g0, w1⟩ := Prod.mk.inj w0
    subst g0 w1
    exact ret_i F hr hlk hP hS dX12_field_56
set_option maxRecDepth 100000 in
set_option maxHeartbeats 4000000 in
theorem qX12_field_27 {p : Program} {l : Launch} {e : Env} {s : State} {m : MethodId} {args : Array Value} {below : List Frame} {meth : Method} {c : Code} {Z : ZC} {mto : Int32} {mrw : Nat → Int64} {mta : Nat → Int32} {mtp : Int32} {mat : Int32} {mtt : Int32} {mme : Nat → Int32} {mun : Int32} {mde : Int32} {mco : Nat → Int32} {mcn : Nat → Int32} {mvi : Int32} {men : Int32} {mfa : Nat → Int32} {mac : Nat → Int32} {mfi : Nat → Int32} {mse : Nat → Int32} {mtd : Nat → Int32} {mra : Int32} {mkp : Nat → Int32} {p1 : Int32} {p2 : Int32} {r' : Int32} {mth' : Int32} (F : CallFix p m c cX12_field 3 s args bigW RX12) (hr : meth.sig.returnType = (some .int)) (hlk : meth.locks = false) (C : KM Z s) : ∀ (mth : Int32), fX12_field_27 mme mde p1 p2 mth = some (r', mth') → ∀ (H : Heap) (locs : List Loc), PM Z mth mto mrw mta mtp mat mtt mme mun mde mco mcn mvi men mfa mac mfi mse mtd mra mkp H → va_S (AM Z) s.heap H locs → ∀ ls : Array Slot, lv_has ls 3 [(0, .ref (mA Z 0)), (1, .int p1), (2, .int p2)] → W p l e (rmk 2 46) s m args below meth c H locs 0 0 (MQ below (Qi (KM Z) (AM Z) (PM Z mth' mto mrw mta mtp mat mtt mme mun mde mco mcn mvi men mfa mac mfi mse mtd mra mkp) r') args s 0 0 (AM Z)) (F0 m 27 ls [.ref (mA Z 0)]) := by
  intro mth hE H locs hP hS ls hl
  unfold fX12_field_27 at hE
  refine lv_iconst (v := 1) F.1 F.2.1 dX12_field_27 (by decide) ?_
  refine lv_goto (tgt := 32) F.1 F.2.1 dX12_field_28 (by decide) ?_
  exact qX12_field_32 F hr hlk C mth 1 hE _ _ hP hS ls (lv_sub hl [0, 1, 2] rfl)
set_option maxRecDepth 100000 in
set_option maxHeartbeats 4000000 in
theorem kX12_field {l : Launch} {Z : ZC} {mth : Int32} {mto : Int32} {mrw : Nat → Int64} {mta : Nat → Int32} {mtp : Int32} {mat : Int32} {mtt : Int32} {mme : Nat → Int32} {mun : Int32} {mde : Int32} {mco : Nat → Int32} {mcn : Nat → Int32} {mvi : Int32} {men : Int32} {mfa : Nat → Int32} {mac : Nat → Int32} {mfi : Nat → Int32} {mse : Nat → Int32} {mtd : Nat → Int32} {mra : Int32} {mkp : Nat → Int32} {p1 : Int32} {p2 : Int32} {r' : Int32} {mth' : Int32} (hE : fX12_field mth mme mde p1 p2 = some (r', mth')) : Mg l yX12_field cX12_field 3 (some .int) (rmk 2 46) (KM Z) (AM Z) [.ref (mA Z 0), .int p1, .int p2] (PM Z mth mto mrw mta mtp mat mtt mme mun mde mco mcn mvi men mfa mac mfi mse mtd mra mkp) (Qi (KM Z) (AM Z) (PM Z mth' mto mrw mta mtp mat mtt mme mun mde mco mcn mvi men mfa mac mfi mse mtd mra mkp) r') := by
  refine Mg.start (lv := [(0, .ref (mA Z 0)), (1, .int p1), (2, .int p2)]) (by decide) rfl (Nat.le_of_ble_eq_true rfl) rfl ?_
  intro p e s m below meth c F hr hlk C hP ls hl
  have hS : va_S (AM Z) s.heap s.heap [] := va_S.rf
  unfold fX12_field at hE
  refine lv_aload_n F.1 F.2.1 dX12_field_0 rfl (lv_at hl 0 rfl) ?_
  refine lv_aload_n F.1 F.2.1 dX12_field_1 rfl (lv_at hl 0 rfl) ?_
  refine lv_iload_n F.1 F.2.1 dX12_field_2 rfl (lv_at hl 1 rfl) ?_
  obtain ⟨r498, hc, hE⟩ := bnd1_some hE
  refine aft_i (run_V (rest := [.ref (mA Z 0)]) F (kX12_isThere hc) (okM Z) C hS lkX12_216 ⟨Nat.le_of_ble_eq_true rfl, Nat.le_of_ble_eq_true rfl⟩ (rvM C hP) hP rfl hl.1 rfl (lv_room (Nat.le_of_ble_eq_true rfl)) dX12_field_3 ⟨Nat.zero_le _, Nat.zero_le _⟩) hS (fun H locs hP hS => ?_)
  refine lv_if_eq (tgt := 27) F.1 F.2.1 dX12_field_6 (by decide) (fun hc => ?_) (fun hc => ?_)
  · have hE := ifp hE hc
    exact qX12_field_27 F hr hlk C mth hE _ _ hP hS ls (lv_sub hl [0, 1, 2] rfl)
  · have hE := ifn hE hc
    refine lv_iload_n F.1 F.2.1 dX12_field_9 rfl (lv_at hl 2 rfl) ?_
    refine lv_i2l (v := p2.toInt64) F.1 F.2.1 dX12_field_10 rfl ?_
    refine lv_lconst (v := 0) F.1 F.2.1 dX12_field_11 (by decide) ?_
    refine lv_aload_n F.1 F.2.1 dX12_field_12 rfl (lv_at hl 0 rfl) ?_
    refine lv_iload_n F.1 F.2.1 dX12_field_13 rfl (lv_at hl 1 rfl) ?_
    refine lv_iconst (v := 1) F.1 F.2.1 dX12_field_14 (by decide) ?_
    obtain ⟨r499, hc, hE⟩ := bnd1_some hE
    refine aft_i (run_V (rest := [.long 0, .long p2.toInt64, .ref (mA Z 0)]) F (kX12_of hc) (okM Z) C hS lkX12_91 ⟨Nat.le_of_ble_eq_true rfl, Nat.le_of_ble_eq_true rfl⟩ (rvM C hP) hP rfl hl.1 rfl (lv_room (Nat.le_of_ble_eq_true rfl)) dX12_field_15 ⟨Nat.zero_le _, Nat.zero_le _⟩) hS (fun H locs hP hS => ?_)
    refine lv_iconst (v := 1) F.1 F.2.1 dX12_field_18 (by decide) ?_
    refine lv_isub F.1 F.2.1 dX12_field_19 ?_
    refine lv_i2l (v := (r499 - 1).toInt64) F.1 F.2.1 dX12_field_20 rfl ?_
    obtain ⟨r500, hc, hE⟩ := bnd1_some hE
    refine aft_i (run_S (rest := [.ref (mA Z 0)]) F (kX12_in hc) (okM Z) C hS lkX12_21 ⟨Nat.le_of_ble_eq_true rfl, Nat.le_of_ble_eq_true rfl⟩ hP rfl hl.1 rfl (lv_room (Nat.le_of_ble_eq_true rfl)) dX12_field_21 ⟨Nat.zero_le _, Nat.zero_le _⟩) hS (fun H locs hP hS => ?_)
    refine lv_if_ne (tgt := 31) F.1 F.2.1 dX12_field_24 (by decide) (fun hc => ?_) (fun hc => ?_)
    · have hE := ifn hE hc
      refine lv_iconst (v := 0) F.1 F.2.1 dX12_field_31 (by decide) ?_
      exact qX12_field_32 F hr hlk C mth 0 hE _ _ hP hS ls (lv_sub hl [0, 1, 2] rfl)
    · have hE := ifp hE hc
      exact qX12_field_27 F hr hlk C mth hE _ _ hP hS ls (lv_sub hl [0, 1, 2] rfl)
set_option maxRecDepth 100000 in
set_option maxHeartbeats 4000000 in
theorem qX12_root_18 {p : Program} {l : Launch} {e : Env} {s : State} {m : MethodId} {args : Array Value} {below : List Frame} {meth : Method} {c : Code} {Z : ZC} {mto : Int32} {mrw : Nat → Int64} {mta : Nat → Int32} {mtp : Int32} {mat : Int32} {mtt : Int32} {mme : Nat → Int32} {mun : Int32} {mde : Int32} {mco : Nat → Int32} {mcn : Nat → Int32} {mvi : Int32} {men : Int32} {mfa : Nat → Int32} {mac : Nat → Int32} {mfi : Nat → Int32} {mse : Nat → Int32} {mtd : Nat → Int32} {mra : Int32} {mkp : Nat → Int32} {p1 : Int32} {r' : Int32} {mth' : Int32} (F : CallFix p m c cX12_root 2 s args bigW RX12) (hr : meth.sig.returnType = (some .int)) (hlk : meth.locks = false) (C : KM Z s) : ∀ (mth : Int32) (y0 : Int32), fX12_root_18 mme p1 mth y0 = some (r', mth') → ∀ (H : Heap) (locs : List Loc), PM Z mth mto mrw mta mtp mat mtt mme mun mde mco mcn mvi men mfa mac mfi mse mtd mra mkp H → va_S (AM Z) s.heap H locs → ∀ ls : Array Slot, lv_has ls 2 [(0, .ref (mA Z 0)), (1, .int p1)] → W p l e (rmk 1 25) s m args below meth c H locs 0 0 (MQ below (Qi (KM Z) (AM Z) (PM Z mth' mto mrw mta mtp mat mtt mme mun mde mco mcn mvi men mfa mac mfi mse mtd mra mkp) r') args s 0 0 (AM Z)) (F0 m 18 ls [.int y0, .ref (mA Z 0)]) := by
  intro mth y0 hE H locs hP hS ls hl
  unfold fX12_root_18 at hE
  obtain ⟨r506, hc, hE⟩ := bnd1_some hE
  refine aft_i (run_S (rest := [.ref (mA Z 0)]) F (kX12_flag hc) (okM Z) C hS lkX12_167 ⟨Nat.le_of_ble_eq_true rfl, Nat.le_of_ble_eq_true rfl⟩ hP rfl hl.1 rfl (lv_room (Nat.le_of_ble_eq_true rfl)) dX12_root_18 ⟨Nat.zero_le _, Nat.zero_le _⟩) hS (fun H locs hP hS => ?_)
  refine pX12_1 F C hP hS rfl dX12_root_21 (fun H locs hP hS => ?_)
  refine lv_aload_n F.1 F.2.1 dX12_root_24 rfl (lv_at hl 0 rfl) ?_
  refine gX12_1 F C hP dX12_root_25 ?_
  refine lv_iconst (v := 1) F.1 F.2.1 dX12_root_28 (by decide) ?_
  refine lv_icmp_ne (tgt := 36) F.1 F.2.1 dX12_root_29 (by decide) (fun hc => ?_) (fun hc => ?_)
  · have hE := ifn hE hc
    refine lv_aload_n F.1 F.2.1 dX12_root_36 rfl (lv_at hl 0 rfl) ?_
    refine gX12_53 F C hP dX12_root_37 ?_
    refine lv_bipush (v := 33) F.1 F.2.1 dX12_root_40 (by decide) ?_
    refine lv_iload_n F.1 F.2.1 dX12_root_42 rfl (lv_at hl 1 rfl) ?_
    refine lv_iadd F.1 F.2.1 dX12_root_43 ?_
    obtain ⟨hi, hE⟩ := grd_some hE
    refine am3 F C hP hi dX12_root_44 ?_
    have w0 := Option.some.inj hE
    obtain ⟨g0, w1⟩ := Prod.mk.inj w0
    subst g0 w1
    exact ret_i F hr hlk hP hS dX12_root_45
  · have hE := ifp hE hc
    refine lv_iconst (v := 0) F.1 F.2.1 dX12_root_32 (by decide) ?_
    refine lv_goto (tgt := 45) F.1 F.2.1 dX12_root_33 (by decide) ?_
    have w0 := Option.some.inj hE
    obtain ⟨g0, w1⟩ := Prod.mk.inj w0
    subst g0 w1
    exact ret_i F hr hlk hP hS dX12_root_45
set_option maxRecDepth 100000 in
set_option maxHeartbeats 4000000 in
theorem kX12_root {l : Launch} {Z : ZC} {mth : Int32} {mto : Int32} {mrw : Nat → Int64} {mta : Nat → Int32} {mtp : Int32} {mat : Int32} {mtt : Int32} {mme : Nat → Int32} {mun : Int32} {mde : Int32} {mco : Nat → Int32} {mcn : Nat → Int32} {mvi : Int32} {men : Int32} {mfa : Nat → Int32} {mac : Nat → Int32} {mfi : Nat → Int32} {mse : Nat → Int32} {mtd : Nat → Int32} {mra : Int32} {mkp : Nat → Int32} {p1 : Int32} {r' : Int32} {mth' : Int32} (hE : fX12_root mth mme p1 = some (r', mth')) : Mg l yX12_root cX12_root 2 (some .int) (rmk 1 25) (KM Z) (AM Z) [.ref (mA Z 0), .int p1] (PM Z mth mto mrw mta mtp mat mtt mme mun mde mco mcn mvi men mfa mac mfi mse mtd mra mkp) (Qi (KM Z) (AM Z) (PM Z mth' mto mrw mta mtp mat mtt mme mun mde mco mcn mvi men mfa mac mfi mse mtd mra mkp) r') := by
  refine Mg.start (lv := [(0, .ref (mA Z 0)), (1, .int p1)]) (by decide) rfl (Nat.le_of_ble_eq_true rfl) rfl ?_
  intro p e s m below meth c F hr hlk C hP ls hl
  have hS : va_S (AM Z) s.heap s.heap [] := va_S.rf
  unfold fX12_root at hE
  refine lv_aload_n F.1 F.2.1 dX12_root_0 rfl (lv_at hl 0 rfl) ?_
  refine lv_iload_n F.1 F.2.1 dX12_root_1 rfl (lv_at hl 1 rfl) ?_
  refine lv_i2l (v := p1.toInt64) F.1 F.2.1 dX12_root_2 rfl ?_
  refine lv_lconst (v := 0) F.1 F.2.1 dX12_root_3 (by decide) ?_
  refine lv_ldc2 (v := 9) F.1 F.2.1 F.2.2.2.1 (F.2.2.2.2 _ (bw_t 1081 (by decide +kernel) rfl)) dX12_root_4 ?_
  obtain ⟨r505, hc, hE⟩ := bnd1_some hE
  refine aft_i (run_S (rest := [.ref (mA Z 0)]) F (kX12_in hc) (okM Z) C hS lkX12_21 ⟨Nat.le_of_ble_eq_true rfl, Nat.le_of_ble_eq_true rfl⟩ hP rfl hl.1 rfl (lv_room (Nat.le_of_ble_eq_true rfl)) dX12_root_7 ⟨Nat.zero_le _, Nat.zero_le _⟩) hS (fun H locs hP hS => ?_)
  refine lv_if_ne (tgt := 17) F.1 F.2.1 dX12_root_10 (by decide) (fun hc => ?_) (fun hc => ?_)
  · have hE := ifn hE hc
    refine lv_iconst (v := 0) F.1 F.2.1 dX12_root_17 (by decide) ?_
    exact qX12_root_18 F hr hlk C mth 0 hE _ _ hP hS ls (lv_sub hl [0, 1] rfl)
  · have hE := ifp hE hc
    refine lv_iconst (v := 1) F.1 F.2.1 dX12_root_13 (by decide) ?_
    refine lv_goto (tgt := 18) F.1 F.2.1 dX12_root_14 (by decide) ?_
    exact qX12_root_18 F hr hlk C mth 1 hE _ _ hP hS ls (lv_sub hl [0, 1] rfl)
set_option maxRecDepth 100000 in
set_option maxHeartbeats 4000000 in
theorem qX12_weights_4 {p : Program} {l : Launch} {e : Env} {s : State} {m : MethodId} {args : Array Value} {below : List Frame} {meth : Method} {c : Code} {Z : ZC} {mth : Int32} {mto : Int32} {mrw : Nat → Int64} {mta : Nat → Int32} {mtp : Int32} {mat : Int32} {mtt : Int32} {mme : Nat → Int32} {mun : Int32} {mde : Int32} {mco : Nat → Int32} {mcn : Nat → Int32} {mvi : Int32} {men : Int32} {mfa : Nat → Int32} {mac : Nat → Int32} {mfi : Nat → Int32} {mse : Nat → Int32} {mtd : Nat → Int32} {mra : Int32} {mkp : Nat → Int32} {N : Nat} {p1 : Int32} {r' : Int32} (F : CallFix p m c cX12_weights 4 s args bigW RX12) (hr : meth.sig.returnType = (some .int)) (hlk : meth.locks = false) (C : KM Z s) : ∀ n : Nat, ∀ (x2 : Int32) (x3 : Int32), fX12_weights_4 N mme mde p1 n x2 x3 = some r' → ∀ (H : Heap) (locs : List Loc), PM Z mth mto mrw mta mtp mat mtt mme mun mde mco mcn mvi men mfa mac mfi mse mtd mra mkp H → va_S (AM Z) s.heap H locs → ∀ ls : Array Slot, lv_has ls 4 [(0, .ref (mA Z 0)), (1, .int p1), (2, .int x2), (3, .int x3)] → W p l e (rmk 1 22) s m args below meth c H locs 0 0 (MQ below (Qi (KM Z) (AM Z) (PM Z mth mto mrw mta mtp mat mtt mme mun mde mco mcn mvi men mfa mac mfi mse mtd mra mkp) r') args s 0 0 (AM Z)) (F0 m 4 ls []) := by
  intro n
  induction n with
  | zero => intro x2 x3 hE; cases hE
  | succ n h4 =>
    intro x2 x3 hE H locs hP hS ls hl
    have hE : fX12_weights_4b N mme mde p1 (fX12_weights_4 N mme mde p1 n) x2 x3 = some r' := hE
    refine lv_iload_n F.1 F.2.1 dX12_weights_4 rfl (lv_at hl 3 rfl) ?_
    refine lv_bipush (v := 24) F.1 F.2.1 dX12_weights_5 (by decide) ?_
    refine lv_icmp_ge (tgt := 37) F.1 F.2.1 dX12_weights_7 (by decide) (fun hc => ?_) (fun hc => ?_)
    · have hE := ifp hE hc
      refine lv_iload_n F.1 F.2.1 dX12_weights_37 rfl (lv_at hl 2 rfl) ?_
      obtain rfl := Option.some.inj hE
      exact ret_i F hr hlk hP hS dX12_weights_38
    · have hE := ifn hE hc
      refine lv_iload_n F.1 F.2.1 dX12_weights_10 rfl (lv_at hl 2 rfl) ?_
      refine lv_iload_n F.1 F.2.1 dX12_weights_11 rfl (lv_at hl 1 rfl) ?_
      refine lv_iload_n F.1 F.2.1 dX12_weights_12 rfl (lv_at hl 3 rfl) ?_
      obtain ⟨r509, hc, hE⟩ := bnd1_some hE
      refine aft_i (run_S (rest := [.int x2]) F (kX12_has hc) (okM Z) C hS lkX12_171 ⟨Nat.le_of_ble_eq_true rfl, Nat.le_of_ble_eq_true rfl⟩ hP rfl hl.1 rfl (lv_room (Nat.le_of_ble_eq_true rfl)) dX12_weights_13 ⟨Nat.zero_le _, Nat.zero_le _⟩) hS (fun H locs hP hS => ?_)
      refine lv_if_eq (tgt := 28) F.1 F.2.1 dX12_weights_16 (by decide) (fun hc => ?_) (fun hc => ?_)
      · have hE := ifp hE hc
        refine lv_iconst (v := 0) F.1 F.2.1 dX12_weights_28 (by decide) ?_
        refine lv_iadd F.1 F.2.1 dX12_weights_29 ?_
        refine lv_istore_n (lv' := [(2, .int (x2 + 0)), (0, .ref (mA Z 0)), (1, .int p1), (3, .int x3)]) F.1 F.2.1 dX12_weights_30 rfl hl (by decide) rfl (fun ls hl => ?_)
        refine lv_iinc (v := x3 + 1) (lv' := [(3, .int (x3 + 1)), (2, .int (x2 + 0)), (0, .ref (mA Z 0)), (1, .int p1)]) F.1 F.2.1 dX12_weights_31 hl (k := 3) rfl rfl (by decide) rfl (fun ls hl => ?_)
        refine lv_goto (tgt := 4) F.1 F.2.1 dX12_weights_34 (by decide) ?_
        exact h4 (x2 + 0) (x3 + 1) hE _ _ hP hS ls (lv_sub hl [2, 3, 1, 0] rfl)
      · have hE := ifn hE hc
        refine lv_aload_n F.1 F.2.1 dX12_weights_19 rfl (lv_at hl 0 rfl) ?_
        refine lv_iload_n F.1 F.2.1 dX12_weights_20 rfl (lv_at hl 3 rfl) ?_
        refine lv_iconst (v := 2) F.1 F.2.1 dX12_weights_21 (by decide) ?_
        obtain ⟨r510, hc, hE⟩ := bnd1_some hE
        refine aft_i (run_V (rest := [.int x2]) F (kX12_of hc) (okM Z) C hS lkX12_91 ⟨Nat.le_of_ble_eq_true rfl, Nat.le_of_ble_eq_true rfl⟩ (rvM C hP) hP rfl hl.1 rfl (lv_room (Nat.le_of_ble_eq_true rfl)) dX12_weights_22 ⟨Nat.zero_le _, Nat.zero_le _⟩) hS (fun H locs hP hS => ?_)
        refine lv_goto (tgt := 29) F.1 F.2.1 dX12_weights_25 (by decide) ?_
        refine lv_iadd F.1 F.2.1 dX12_weights_29 ?_
        refine lv_istore_n (lv' := [(2, .int (x2 + r510)), (0, .ref (mA Z 0)), (1, .int p1), (3, .int x3)]) F.1 F.2.1 dX12_weights_30 rfl hl (by decide) rfl (fun ls hl => ?_)
        refine lv_iinc (v := x3 + 1) (lv' := [(3, .int (x3 + 1)), (2, .int (x2 + r510)), (0, .ref (mA Z 0)), (1, .int p1)]) F.1 F.2.1 dX12_weights_31 hl (k := 3) rfl rfl (by decide) rfl (fun ls hl => ?_)
        refine lv_goto (tgt := 4) F.1 F.2.1 dX12_weights_34 (by decide) ?_
        exact h4 (x2 + r510) (x3 + 1) hE _ _ hP hS ls (lv_sub hl [2, 3, 1, 0] rfl)
set_option maxRecDepth 100000 in
set_option maxHeartbeats 4000000 in
theorem kX12_weights {l : Launch} {Z : ZC} {mth : Int32} {mto : Int32} {mrw : Nat → Int64} {mta : Nat → Int32} {mtp : Int32} {mat : Int32} {mtt : Int32} {mme : Nat → Int32} {mun : Int32} {mde : Int32} {mco : Nat → Int32} {mcn : Nat → Int32} {mvi : Int32} {men : Int32} {mfa : Nat → Int32} {mac : Nat → Int32} {mfi : Nat → Int32} {mse : Nat → Int32} {mtd : Nat → Int32} {mra : Int32} {mkp : Nat → Int32} {N : Nat} {p1 : Int32} {r' : Int32} (hE : fX12_weights N mme mde p1 = some r') : Mg l yX12_weights cX12_weights 4 (some .int) (rmk 1 22) (KM Z) (AM Z) [.ref (mA Z 0), .int p1] (PM Z mth mto mrw mta mtp mat mtt mme mun mde mco mcn mvi men mfa mac mfi mse mtd mra mkp) (Qi (KM Z) (AM Z) (PM Z mth mto mrw mta mtp mat mtt mme mun mde mco mcn mvi men mfa mac mfi mse mtd mra mkp) r') := by
  refine Mg.start (lv := [(0, .ref (mA Z 0)), (1, .int p1)]) (by decide) rfl (Nat.le_of_ble_eq_true rfl) rfl ?_
  intro p e s m below meth c F hr hlk C hP ls hl
  have hS : va_S (AM Z) s.heap s.heap [] := va_S.rf
  unfold fX12_weights at hE
  refine lv_iconst (v := 0) F.1 F.2.1 dX12_weights_0 (by decide) ?_
  refine lv_istore_n (lv' := [(2, .int 0), (0, .ref (mA Z 0)), (1, .int p1)]) F.1 F.2.1 dX12_weights_1 rfl hl (by decide) rfl (fun ls hl => ?_)
  refine lv_iconst (v := 0) F.1 F.2.1 dX12_weights_2 (by decide) ?_
  refine lv_istore_n (lv' := [(3, .int 0), (2, .int 0), (0, .ref (mA Z 0)), (1, .int p1)]) F.1 F.2.1 dX12_weights_3 rfl hl (by decide) rfl (fun ls hl => ?_)
  exact qX12_weights_4 F hr hlk C N 0 0 hE _ _ hP hS ls (lv_sub hl [2, 3, 1, 0] rfl)
set_option maxRecDepth 100000 in
set_option maxHeartbeats 4000000 in
theorem qX12_suspects_4 {p : Program} {l : Launch} {e : Env} {s : State} {m : MethodId} {args : Array Value} {below : List Frame} {meth : Method} {c : Code} {Z : ZC} {mth : Int32} {mto : Int32} {mrw : Nat → Int64} {mta : Nat → Int32} {mtp : Int32} {mat : Int32} {mtt : Int32} {mme : Nat → Int32} {mun : Int32} {mde : Int32} {mco : Nat → Int32} {mcn : Nat → Int32} {mvi : Int32} {men : Int32} {mfa : Nat → Int32} {mac : Nat → Int32} {mfi : Nat → Int32} {mse : Nat → Int32} {mtd : Nat → Int32} {mra : Int32} {mkp : Nat → Int32} {N : Nat} {r' : Int32} (F : CallFix p m c cX12_suspects 3 s args bigW RX12) (hr : meth.sig.returnType = (some .int)) (hlk : meth.locks = false) (C : KM Z s) : ∀ n : Nat, ∀ (x1 : Int32) (x2 : Int32), fX12_suspects_4 N mme mde n x1 x2 = some r' → ∀ (H : Heap) (locs : List Loc), PM Z mth mto mrw mta mtp mat mtt mme mun mde mco mcn mvi men mfa mac mfi mse mtd mra mkp H → va_S (AM Z) s.heap H locs → ∀ ls : Array Slot, lv_has ls 3 [(0, .ref (mA Z 0)), (1, .int x1), (2, .int x2)] → W p l e (rmk 1 21) s m args below meth c H locs 0 0 (MQ below (Qi (KM Z) (AM Z) (PM Z mth mto mrw mta mtp mat mtt mme mun mde mco mcn mvi men mfa mac mfi mse mtd mra mkp) r') args s 0 0 (AM Z)) (F0 m 4 ls []) := by
  intro n
  induction n with
  | zero => intro x1 x2 hE; cases hE
  | succ n h4 =>
    intro x1 x2 hE H locs hP hS ls hl
    have hE : fX12_suspects_4b N mme mde (fX12_suspects_4 N mme mde n) x1 x2 = some r' := hE
    refine lv_iload_n F.1 F.2.1 dX12_suspects_4 rfl (lv_at hl 2 rfl) ?_
    refine lv_aload_n F.1 F.2.1 dX12_suspects_5 rfl (lv_at hl 0 rfl) ?_
    obtain ⟨r513, hc, hE⟩ := bnd1_some hE
    refine aft_i (run_V (rest := [.int x2]) F (kX12_listed hc) (okM Z) C hS lkX12_97 ⟨Nat.le_of_ble_eq_true rfl, Nat.le_of_ble_eq_true rfl⟩ (rvM C hP) hP rfl hl.1 rfl (lv_room (Nat.le_of_ble_eq_true rfl)) dX12_suspects_6 ⟨Nat.zero_le _, Nat.zero_le _⟩) hS (fun H locs hP hS => ?_)
    refine lv_icmp_ge (tgt := 28) F.1 F.2.1 dX12_suspects_9 (by decide) (fun hc => ?_) (fun hc => ?_)
    · have hE := ifp hE hc
      refine lv_iload_n F.1 F.2.1 dX12_suspects_28 rfl (lv_at hl 1 rfl) ?_
      obtain rfl := Option.some.inj hE
      exact ret_i F hr hlk hP hS dX12_suspects_29
    · have hE := ifn hE hc
      refine lv_iload_n F.1 F.2.1 dX12_suspects_12 rfl (lv_at hl 1 rfl) ?_
      refine lv_iconst (v := 1) F.1 F.2.1 dX12_suspects_13 (by decide) ?_
      refine lv_aload_n F.1 F.2.1 dX12_suspects_14 rfl (lv_at hl 0 rfl) ?_
      refine lv_iload_n F.1 F.2.1 dX12_suspects_15 rfl (lv_at hl 2 rfl) ?_
      obtain ⟨r514, hc, hE⟩ := bnd1_some hE
      refine aft_i (run_V (rest := [.int 1, .int x1]) F (kX12_onList hc) (okM Z) C hS lkX12_100 ⟨Nat.le_of_ble_eq_true rfl, Nat.le_of_ble_eq_true rfl⟩ (rvM C hP) hP rfl hl.1 rfl (lv_room (Nat.le_of_ble_eq_true rfl)) dX12_suspects_16 ⟨Nat.zero_le _, Nat.zero_le _⟩) hS (fun H locs hP hS => ?_)
      refine rj_ishl F.1 F.2.1 dX12_suspects_19 ?_
      refine lv_ior F.1 F.2.1 dX12_suspects_20 ?_
      refine lv_istore_n (lv' := [(1, .int (x1 ||| (jshl 1 r514))), (0, .ref (mA Z 0)), (2, .int x2)]) F.1 F.2.1 dX12_suspects_21 rfl hl (by decide) rfl (fun ls hl => ?_)
      refine lv_iinc (v := x2 + 1) (lv' := [(2, .int (x2 + 1)), (1, .int (x1 ||| (jshl 1 r514))), (0, .ref (mA Z 0))]) F.1 F.2.1 dX12_suspects_22 hl (k := 2) rfl rfl (by decide) rfl (fun ls hl => ?_)
      refine lv_goto (tgt := 4) F.1 F.2.1 dX12_suspects_25 (by decide) ?_
      exact h4 (x1 ||| (jshl 1 r514)) (x2 + 1) hE _ _ hP hS ls (lv_sub hl [2, 1, 0] rfl)
set_option maxRecDepth 100000 in
set_option maxHeartbeats 4000000 in
theorem kX12_suspects {l : Launch} {Z : ZC} {mth : Int32} {mto : Int32} {mrw : Nat → Int64} {mta : Nat → Int32} {mtp : Int32} {mat : Int32} {mtt : Int32} {mme : Nat → Int32} {mun : Int32} {mde : Int32} {mco : Nat → Int32} {mcn : Nat → Int32} {mvi : Int32} {men : Int32} {mfa : Nat → Int32} {mac : Nat → Int32} {mfi : Nat → Int32} {mse : Nat → Int32} {mtd : Nat → Int32} {mra : Int32} {mkp : Nat → Int32} {N : Nat} {r' : Int32} (hE : fX12_suspects N mme mde = some r') : Mg l yX12_suspects cX12_suspects 3 (some .int) (rmk 1 21) (KM Z) (AM Z) [.ref (mA Z 0)] (PM Z mth mto mrw mta mtp mat mtt mme mun mde mco mcn mvi men mfa mac mfi mse mtd mra mkp) (Qi (KM Z) (AM Z) (PM Z mth mto mrw mta mtp mat mtt mme mun mde mco mcn mvi men mfa mac mfi mse mtd mra mkp) r') := by
  refine Mg.start (lv := [(0, .ref (mA Z 0))]) (by decide) rfl (Nat.le_of_ble_eq_true rfl) rfl ?_
  intro p e s m below meth c F hr hlk C hP ls hl
  have hS : va_S (AM Z) s.heap s.heap [] := va_S.rf
  unfold fX12_suspects at hE
  refine lv_iconst (v := 0) F.1 F.2.1 dX12_suspects_0 (by decide) ?_
  refine lv_istore_n (lv' := [(1, .int 0), (0, .ref (mA Z 0))]) F.1 F.2.1 dX12_suspects_1 rfl hl (by decide) rfl (fun ls hl => ?_)
  refine lv_iconst (v := 0) F.1 F.2.1 dX12_suspects_2 (by decide) ?_
  refine lv_istore_n (lv' := [(2, .int 0), (1, .int 0), (0, .ref (mA Z 0))]) F.1 F.2.1 dX12_suspects_3 rfl hl (by decide) rfl (fun ls hl => ?_)
  exact qX12_suspects_4 F hr hlk C N 0 0 hE _ _ hP hS ls (lv_sub hl [2, 1, 0] rfl)
set_option maxRecDepth 100000 in
set_option maxHeartbeats 4000000 in
theorem qX12_all_64 {p : Program} {l : Launch} {e : Env} {s : State} {m : MethodId} {args : Array Value} {below : List Frame} {meth : Method} {c : Code} {Z : ZC} {mta : Nat → Int32} {mtp : Int32} {mat : Int32} {mtt : Int32} {mme : Nat → Int32} {mun : Int32} {mde : Int32} {mco : Nat → Int32} {mcn : Nat → Int32} {mvi : Int32} {men : Int32} {mfa : Nat → Int32} {mac : Nat → Int32} {mfi : Nat → Int32} {mse : Nat → Int32} {mtd : Nat → Int32} {mra : Int32} {mkp : Nat → Int32} {N : Nat} {p1 : Int32} {r' : Int32} {mth' : Int32} {mto' : Int32} {mrw' : Nat → Int64} (F : CallFix p m c cX12_all 4 s args bigW RX12) (hr : meth.sig.returnType = (some .int)) (hlk : meth.locks = false) (C : KM Z s) : ∀ (mth : Int32) (mto : Int32) (mrw : Nat → Int64) (y0 : Int32), fX12_all_64 N mme mde p1 mth mto mrw y0 = some (r', mth', mto', mrw') → ∀ (H : Heap) (locs : List Loc), PM Z mth mto mrw mta mtp mat mtt mme mun mde mco mcn mvi men mfa mac mfi mse mtd mra mkp H → va_S (AM Z) s.heap H locs → ∀ ls : Array Slot, lv_has ls 4 [(0, .ref (mA Z 0))] → W p l e (rmk 5 112) s m args below meth c H locs 0 0 (MQ below (Qi (KM Z) (AM Z) (PM Z mth' mto' mrw' mta mtp mat mtt mme mun mde mco mcn mvi men mfa mac mfi mse mtd mra mkp) r') args s 0 0 (AM Z)) (F0 m 64 ls [.int y0]) := by
  intro mth mto mrw y0 hE H locs hP hS ls hl
  unfold fX12_all_64 at hE
  refine lv_istore_n (lv' := [(3, .int y0), (0, .ref (mA Z 0))]) F.1 F.2.1 dX12_all_64 rfl hl (by decide) rfl (fun ls hl => ?_)
  refine lv_aload_n F.1 F.2.1 dX12_all_65 rfl (lv_at hl 1 rfl) ?_
  refine lv_iconst (v := 0) F.1 F.2.1 dX12_all_66 (by decide) ?_
  refine pX12_11 F C hP hS rfl dX12_all_67 (fun H locs hP hS => ?_)
  refine lv_aload_n F.1 F.2.1 dX12_all_70 rfl (lv_at hl 1 rfl) ?_
  refine lv_aload_n F.1 F.2.1 dX12_all_71 rfl (lv_at hl 1 rfl) ?_
  refine lv_iload_n F.1 F.2.1 dX12_all_72 rfl (lv_at hl 0 rfl) ?_
  obtain ⟨r527, hc, hE⟩ := bnd1_some hE
  refine aft_i (run_V (rest := [.ref (mA Z 0)]) F (kX12_weights hc) (okM Z) C hS lkX12_279 ⟨Nat.le_of_ble_eq_true rfl, Nat.le_of_ble_eq_true rfl⟩ (rvM C hP) hP rfl hl.1 rfl (lv_room (Nat.le_of_ble_eq_true rfl)) dX12_all_73 ⟨Nat.zero_le _, Nat.zero_le _⟩) hS (fun H locs hP hS => ?_)
  refine lv_i2l (v := r527.toInt64) F.1 F.2.1 dX12_all_76 rfl ?_
  obtain ⟨mto_528, mrw_528, hc, hE⟩ := bnd2_some hE
  refine aft_v (run_V (rest := []) F (kX12_enters hc) (okM Z) C hS lkX12_239 ⟨Nat.le_of_ble_eq_true rfl, Nat.le_of_ble_eq_true rfl⟩ (rvM C hP) hP rfl hl.1 rfl (lv_room (Nat.le_of_ble_eq_true rfl)) dX12_all_77 ⟨Nat.zero_le _, Nat.zero_le _⟩) hS (fun H locs hP hS => ?_)
  refine lv_iload_n F.1 F.2.1 dX12_all_80 rfl (lv_at hl 0 rfl) ?_
  have w0 := Option.some.inj hE
  obtain ⟨g0, w1⟩ := Prod.mk.inj w0
  obtain ⟨g1, w2⟩ := Prod.mk.inj w1
  obtain ⟨g2, w3⟩ := Prod.mk.inj w2
  subst g0 g1 g2 w3
  exact ret_i F hr hlk hP hS dX12_all_81
set_option maxRecDepth 100000 in
set_option maxHeartbeats 4000000 in
theorem kX12_all {l : Launch} {Z : ZC} {mth : Int32} {mto : Int32} {mrw : Nat → Int64} {mta : Nat → Int32} {mtp : Int32} {mat : Int32} {mtt : Int32} {mme : Nat → Int32} {mun : Int32} {mde : Int32} {mco : Nat → Int32} {mcn : Nat → Int32} {mvi : Int32} {men : Int32} {mfa : Nat → Int32} {mac : Nat → Int32} {mfi : Nat → Int32} {mse : Nat → Int32} {mtd : Nat → Int32} {mra : Int32} {mkp : Nat → Int32} {N : Nat} {p1 : Int32} {r' : Int32} {mth' : Int32} {mto' : Int32} {mrw' : Nat → Int64} (hE : fX12_all N mth mto mrw mme mde p1 = some (r', mth', mto', mrw')) : Mg l yX12_all cX12_all 4 (some .int) (rmk 5 112) (KM Z) (AM Z) [.ref (mA Z 0), .int p1] (PM Z mth mto mrw mta mtp mat mtt mme mun mde mco mcn mvi men mfa mac mfi mse mtd mra mkp) (Qi (KM Z) (AM Z) (PM Z mth' mto' mrw' mta mtp mat mtt mme mun mde mco mcn mvi men mfa mac mfi mse mtd mra mkp) r') := by
  refine Mg.start (lv := [(0, .ref (mA Z 0)), (1, .int p1)]) (by decide) rfl (Nat.le_of_ble_eq_true rfl) rfl ?_
  intro p e s m below meth c F hr hlk C hP ls hl
  have hS : va_S (AM Z) s.heap s.heap [] := va_S.rf
  unfold fX12_all at hE
  refine lv_aload_n F.1 F.2.1 dX12_all_0 rfl (lv_at hl 0 rfl) ?_
  refine lv_iconst (v := 0) F.1 F.2.1 dX12_all_1 (by decide) ?_
  refine pX12_1 F C hP hS rfl dX12_all_2 (fun H locs hP hS => ?_)
  refine lv_iload_n F.1 F.2.1 dX12_all_5 rfl (lv_at hl 1 rfl) ?_
  refine lv_i2l (v := p1.toInt64) F.1 F.2.1 dX12_all_6 rfl ?_
  refine lv_lconst (v := 0) F.1 F.2.1 dX12_all_7 (by decide) ?_
  refine lv_ldc2 (v := 3) F.1 F.2.1 F.2.2.2.1 (F.2.2.2.2 _ (bw_t 1282 (by decide +kernel) rfl)) dX12_all_8 ?_
  obtain ⟨r522, hc, hE⟩ := bnd1_some hE
  refine aft_i (run_S (rest := []) F (kX12_in hc) (okM Z) C hS lkX12_21 ⟨Nat.le_of_ble_eq_true rfl, Nat.le_of_ble_eq_true rfl⟩ hP rfl hl.1 rfl (lv_room (Nat.le_of_ble_eq_true rfl)) dX12_all_11 ⟨Nat.zero_le _, Nat.zero_le _⟩) hS (fun H locs hP hS => ?_)
  refine lv_if_ne (tgt := 19) F.1 F.2.1 dX12_all_14 (by decide) (fun hc => ?_) (fun hc => ?_)
  · have hE := ifn hE hc
    refine lv_aload_n F.1 F.2.1 dX12_all_19 rfl (lv_at hl 0 rfl) ?_
    obtain ⟨r523, hc, hE⟩ := bnd1_some hE
    refine aft_i (run_V (rest := []) F (kX12_thereAll hc) (okM Z) C hS lkX12_233 ⟨Nat.le_of_ble_eq_true rfl, Nat.le_of_ble_eq_true rfl⟩ (rvM C hP) hP rfl hl.1 rfl (lv_room (Nat.le_of_ble_eq_true rfl)) dX12_all_20 ⟨Nat.zero_le _, Nat.zero_le _⟩) hS (fun H locs hP hS => ?_)
    refine lv_istore_n (lv' := [(2, .int r523), (0, .ref (mA Z 0)), (1, .int p1)]) F.1 F.2.1 dX12_all_23 rfl hl (by decide) rfl (fun ls hl => ?_)
    refine lv_iload_n F.1 F.2.1 dX12_all_24 rfl (lv_at hl 2 rfl) ?_
    refine lv_if_ne (tgt := 32) F.1 F.2.1 dX12_all_25 (by decide) (fun hc => ?_) (fun hc => ?_)
    · have hE := ifn hE hc
      refine lv_iload_n F.1 F.2.1 dX12_all_32 rfl (lv_at hl 2 rfl) ?_
      refine lv_iconst (v := 1) F.1 F.2.1 dX12_all_33 (by decide) ?_
      refine lv_icmp_ne (tgt := 44) F.1 F.2.1 dX12_all_34 (by decide) (fun hc => ?_) (fun hc => ?_)
      · have hE := ifn hE hc
        refine lv_iload_n F.1 F.2.1 dX12_all_44 rfl (lv_at hl 2 rfl) ?_
        refine lv_iconst (v := 2) F.1 F.2.1 dX12_all_45 (by decide) ?_
        refine lv_icmp_ne (tgt := 60) F.1 F.2.1 dX12_all_46 (by decide) (fun hc => ?_) (fun hc => ?_)
        · have hE := ifn hE hc
          refine lv_aload_n F.1 F.2.1 dX12_all_60 rfl (lv_at hl 1 rfl) ?_
          obtain ⟨r524, hc, hE⟩ := bnd1_some hE
          refine aft_i (run_V (rest := []) F (kX12_suspects hc) (okM Z) C hS lkX12_276 ⟨Nat.le_of_ble_eq_true rfl, Nat.le_of_ble_eq_true rfl⟩ (rvM C hP) hP rfl hl.1 rfl (lv_room (Nat.le_of_ble_eq_true rfl)) dX12_all_61 ⟨Nat.zero_le _, Nat.zero_le _⟩) hS (fun H locs hP hS => ?_)
          exact qX12_all_64 F hr hlk C 0 mto mrw r524 hE _ _ hP hS ls (lv_sub hl [1] rfl)
        · have hE := ifp hE hc
          refine lv_iload_n F.1 F.2.1 dX12_all_49 rfl (lv_at hl 0 rfl) ?_
          refine lv_aload_n F.1 F.2.1 dX12_all_50 rfl (lv_at hl 1 rfl) ?_
          obtain ⟨r525, hc, hE⟩ := bnd1_some hE
          refine aft_i (run_V (rest := [.int r523]) F (kX12_reached hc) (okM Z) C hS lkX12_202 ⟨Nat.le_of_ble_eq_true rfl, Nat.le_of_ble_eq_true rfl⟩ (rvM C hP) hP rfl hl.1 rfl (lv_room (Nat.le_of_ble_eq_true rfl)) dX12_all_51 ⟨Nat.zero_le _, Nat.zero_le _⟩) hS (fun H locs hP hS => ?_)
          refine lv_iconst (v := (-1)) F.1 F.2.1 dX12_all_54 (by decide) ?_
          refine lv_ixor F.1 F.2.1 dX12_all_55 ?_
          refine lv_iand F.1 F.2.1 dX12_all_56 ?_
          refine lv_goto (tgt := 64) F.1 F.2.1 dX12_all_57 (by decide) ?_
          exact qX12_all_64 F hr hlk C 0 mto mrw (r523 &&& (r525 ^^^ (-1))) hE _ _ hP hS ls (lv_sub hl [1] rfl)
      · have hE := ifp hE hc
        refine lv_aload_n F.1 F.2.1 dX12_all_37 rfl (lv_at hl 1 rfl) ?_
        obtain ⟨r526, hc, hE⟩ := bnd1_some hE
        refine aft_i (run_V (rest := []) F (kX12_reached hc) (okM Z) C hS lkX12_202 ⟨Nat.le_of_ble_eq_true rfl, Nat.le_of_ble_eq_true rfl⟩ (rvM C hP) hP rfl hl.1 rfl (lv_room (Nat.le_of_ble_eq_true rfl)) dX12_all_38 ⟨Nat.zero_le _, Nat.zero_le _⟩) hS (fun H locs hP hS => ?_)
        refine lv_goto (tgt := 64) F.1 F.2.1 dX12_all_41 (by decide) ?_
        exact qX12_all_64 F hr hlk C 0 mto mrw r526 hE _ _ hP hS ls (lv_sub hl [1] rfl)
    · have hE := ifp hE hc
      refine lv_iload_n F.1 F.2.1 dX12_all_28 rfl (lv_at hl 0 rfl) ?_
      refine lv_goto (tgt := 64) F.1 F.2.1 dX12_all_29 (by decide) ?_
      exact qX12_all_64 F hr hlk C 0 mto mrw r523 hE _ _ hP hS ls (lv_sub hl [1] rfl)
  · have hE := ifp hE hc
    refine lv_iconst (v := (-1)) F.1 F.2.1 dX12_all_17 (by decide) ?_
    have w0 := Option.some.inj hE
    obtain ⟨g0, w1⟩ := Prod.mk.inj w0
    obtain ⟨g1, w2⟩ := Prod.mk.inj w1
    obtain ⟨g2, w3⟩ := Prod.mk.inj w2
    subst g0 g1 g2 w3
    exact ret_i F hr hlk hP hS dX12_all_18
set_option maxRecDepth 100000 in
set_option maxHeartbeats 4000000 in
theorem qX12_list_12 {p : Program} {l : Launch} {e : Env} {s : State} {m : MethodId} {args : Array Value} {below : List Frame} {meth : Method} {c : Code} {Z : ZC} {mta : Nat → Int32} {mtp : Int32} {mat : Int32} {mtt : Int32} {mme : Nat → Int32} {mun : Int32} {mde : Int32} {mco : Nat → Int32} {mcn : Nat → Int32} {mvi : Int32} {men : Int32} {mfa : Nat → Int32} {mac : Nat → Int32} {mfi : Nat → Int32} {mse : Nat → Int32} {mtd : Nat → Int32} {mra : Int32} {mkp : Nat → Int32} {N : Nat} {r' : Int32} {mth' : Int32} {mto' : Int32} {mrw' : Nat → Int64} (F : CallFix p m c cX12_list 2 s args bigW RX12) (hr : meth.sig.returnType = (some .int)) (hlk : meth.locks = false) (C : KM Z s) : ∀ n : Nat, ∀ (mth : Int32) (mto : Int32) (mrw : Nat → Int64) (x1 : Int32), fX12_list_12 N mme mde n mth mto mrw x1 = some (r', mth', mto', mrw') → ∀ (H : Heap) (locs : List Loc), PM Z mth mto mrw mta mtp mat mtt mme mun mde mco mcn mvi men mfa mac mfi mse mtd mra mkp H → va_S (AM Z) s.heap H locs → ∀ ls : Array Slot, lv_has ls 2 [(0, .ref (mA Z 0)), (1, .int x1)] → W p l e (rmk 1 22) s m args below meth c H locs 0 0 (MQ below (Qi (KM Z) (AM Z) (PM Z mth' mto' mrw' mta mtp mat mtt mme mun mde mco mcn mvi men mfa mac mfi mse mtd mra mkp) r') args s 0 0 (AM Z)) (F0 m 12 ls []) := by
  intro n
  induction n with
  | zero => intro mth mto mrw x1 hE; cases hE
  | succ n h12 =>
    intro mth mto mrw x1 hE H locs hP hS ls hl
    have hE : fX12_list_12b N mme mde (fX12_list_12 N mme mde n) mth mto mrw x1 = some (r', mth', mto', mrw') := hE
    refine lv_iload_n F.1 F.2.1 dX12_list_12 rfl (lv_at hl 1 rfl) ?_
    refine lv_aload_n F.1 F.2.1 dX12_list_13 rfl (lv_at hl 0 rfl) ?_
    obtain ⟨r532, hc, hE⟩ := bnd1_some hE
    refine aft_i (run_V (rest := [.int x1]) F (kX12_listed hc) (okM Z) C hS lkX12_97 ⟨Nat.le_of_ble_eq_true rfl, Nat.le_of_ble_eq_true rfl⟩ (rvM C hP) hP rfl hl.1 rfl (lv_room (Nat.le_of_ble_eq_true rfl)) dX12_list_14 ⟨Nat.zero_le _, Nat.zero_le _⟩) hS (fun H locs hP hS => ?_)
    refine lv_icmp_ge (tgt := 36) F.1 F.2.1 dX12_list_17 (by decide) (fun hc => ?_) (fun hc => ?_)
    · have hE := ifp hE hc
      refine lv_aload_n F.1 F.2.1 dX12_list_36 rfl (lv_at hl 0 rfl) ?_
      refine gX12_11 F C hP dX12_list_37 ?_
      have w0 := Option.some.inj hE
      obtain ⟨g0, w1⟩ := Prod.mk.inj w0
      obtain ⟨g1, w2⟩ := Prod.mk.inj w1
      obtain ⟨g2, w3⟩ := Prod.mk.inj w2
      subst g0 g1 g2 w3
      exact ret_i F hr hlk hP hS dX12_list_40
    · have hE := ifn hE hc
      refine lv_aload_n F.1 F.2.1 dX12_list_20 rfl (lv_at hl 0 rfl) ?_
      refine lv_aload_n F.1 F.2.1 dX12_list_21 rfl (lv_at hl 0 rfl) ?_
      refine lv_iload_n F.1 F.2.1 dX12_list_22 rfl (lv_at hl 1 rfl) ?_
      obtain ⟨r533, hc, hE⟩ := bnd1_some hE
      refine aft_i (run_V (rest := [.ref (mA Z 0)]) F (kX12_onList hc) (okM Z) C hS lkX12_100 ⟨Nat.le_of_ble_eq_true rfl, Nat.le_of_ble_eq_true rfl⟩ (rvM C hP) hP rfl hl.1 rfl (lv_room (Nat.le_of_ble_eq_true rfl)) dX12_list_23 ⟨Nat.zero_le _, Nat.zero_le _⟩) hS (fun H locs hP hS => ?_)
      refine lv_i2l (v := r533.toInt64) F.1 F.2.1 dX12_list_26 rfl ?_
      obtain ⟨mto_534, mrw_534, hc, hE⟩ := bnd2_some hE
      refine aft_v (run_V (rest := []) F (kX12_enters hc) (okM Z) C hS lkX12_239 ⟨Nat.le_of_ble_eq_true rfl, Nat.le_of_ble_eq_true rfl⟩ (rvM C hP) hP rfl hl.1 rfl (lv_room (Nat.le_of_ble_eq_true rfl)) dX12_list_27 ⟨Nat.zero_le _, Nat.zero_le _⟩) hS (fun H locs hP hS => ?_)
      refine lv_iinc (v := x1 + 1) (lv' := [(1, .int (x1 + 1)), (0, .ref (mA Z 0))]) F.1 F.2.1 dX12_list_30 hl (k := 1) rfl rfl (by decide) rfl (fun ls hl => ?_)
      refine lv_goto (tgt := 12) F.1 F.2.1 dX12_list_33 (by decide) ?_
      exact h12 mth mto_534 mrw_534 (x1 + 1) hE _ _ hP hS ls (lv_sub hl [1, 0] rfl)
set_option maxRecDepth 100000 in
set_option maxHeartbeats 4000000 in
theorem kX12_list {l : Launch} {Z : ZC} {mth : Int32} {mto : Int32} {mrw : Nat → Int64} {mta : Nat → Int32} {mtp : Int32} {mat : Int32} {mtt : Int32} {mme : Nat → Int32} {mun : Int32} {mde : Int32} {mco : Nat → Int32} {mcn : Nat → Int32} {mvi : Int32} {men : Int32} {mfa : Nat → Int32} {mac : Nat → Int32} {mfi : Nat → Int32} {mse : Nat → Int32} {mtd : Nat → Int32} {mra : Int32} {mkp : Nat → Int32} {N : Nat} {r' : Int32} {mth' : Int32} {mto' : Int32} {mrw' : Nat → Int64} (hE : fX12_list N mth mto mrw mme mde = some (r', mth', mto', mrw')) : Mg l yX12_list cX12_list 2 (some .int) (rmk 1 22) (KM Z) (AM Z) [.ref (mA Z 0)] (PM Z mth mto mrw mta mtp mat mtt mme mun mde mco mcn mvi men mfa mac mfi mse mtd mra mkp) (Qi (KM Z) (AM Z) (PM Z mth' mto' mrw' mta mtp mat mtt mme mun mde mco mcn mvi men mfa mac mfi mse mtd mra mkp) r') := by
  refine Mg.start (lv := [(0, .ref (mA Z 0))]) (by decide) rfl (Nat.le_of_ble_eq_true rfl) rfl ?_
  intro p e s m below meth c F hr hlk C hP ls hl
  have hS : va_S (AM Z) s.heap s.heap [] := va_S.rf
  unfold fX12_list at hE
  refine lv_aload_n F.1 F.2.1 dX12_list_0 rfl (lv_at hl 0 rfl) ?_
  refine lv_iconst (v := 0) F.1 F.2.1 dX12_list_1 (by decide) ?_
  refine pX12_1 F C hP hS rfl dX12_list_2 (fun H locs hP hS => ?_)
  refine lv_aload_n F.1 F.2.1 dX12_list_5 rfl (lv_at hl 0 rfl) ?_
  refine lv_iconst (v := 0) F.1 F.2.1 dX12_list_6 (by decide) ?_
  refine pX12_11 F C hP hS rfl dX12_list_7 (fun H locs hP hS => ?_)
  refine lv_iconst (v := 0) F.1 F.2.1 dX12_list_10 (by decide) ?_
  refine lv_istore_n (lv' := [(1, .int 0), (0, .ref (mA Z 0))]) F.1 F.2.1 dX12_list_11 rfl hl (by decide) rfl (fun ls hl => ?_)
  exact qX12_list_12 F hr hlk C N 0 0 mrw 0 hE _ _ hP hS ls (lv_sub hl [1, 0] rfl)
set_option maxRecDepth 100000 in
set_option maxHeartbeats 4000000 in
theorem qX12_holders_155 {p : Program} {l : Launch} {e : Env} {s : State} {m : MethodId} {args : Array Value} {below : List Frame} {meth : Method} {c : Code} {Z : ZC} {mta : Nat → Int32} {mtp : Int32} {mat : Int32} {mtt : Int32} {mme : Nat → Int32} {mun : Int32} {mde : Int32} {mco : Nat → Int32} {mcn : Nat → Int32} {mvi : Int32} {men : Int32} {mfa : Nat → Int32} {mac : Nat → Int32} {mfi : Nat → Int32} {mse : Nat → Int32} {mtd : Nat → Int32} {mra : Int32} {mkp : Nat → Int32} {N : Nat} {p1 : Int32} {r' : Int32} {mth' : Int32} {mto' : Int32} {mrw' : Nat → Int64} (F : CallFix p m c cX12_holders 6 s args bigW RX12) (hr : meth.sig.returnType = (some .int)) (hlk : meth.locks = false) (C : KM Z s) : ∀ (mth : Int32) (mto : Int32) (mrw : Nat → Int64) (x2 : Int32) (x3 : Int32) (x4 : Int32), fX12_holders_155 N mme mde p1 mth mto mrw x2 x3 x4 = some (r', mth', mto', mrw') → ∀ (H : Heap) (locs : List Loc), PM Z mth mto mrw mta mtp mat mtt mme mun mde mco mcn mvi men mfa mac mfi mse mtd mra mkp H → va_S (AM Z) s.heap H locs → ∀ ls : Array Slot, lv_has ls 6 [(0, .ref (mA Z 0)), (2, .int x2), (3, .int x3), (4, .int x4)] → W p l e (rmk 3 67) s m args below meth c H locs 0 0 (MQ below (Qi (KM Z) (AM Z) (PM Z mth' mto' mrw' mta mtp mat mtt mme mun mde mco mcn mvi men mfa mac mfi mse mtd mra mkp) r') args s 0 0 (AM Z)) (F0 m 155 ls []) := by
  intro mth mto mrw x2 x3 x4 hE H locs hP hS ls hl
  unfold fX12_holders_155 at hE
  refine lv_aload_n F.1 F.2.1 dX12_holders_155 rfl (lv_at hl 0 rfl) ?_
  refine lv_iconst (v := 0) F.1 F.2.1 dX12_holders_156 (by decide) ?_
  refine pX12_11 F C hP hS rfl dX12_holders_157 (fun H locs hP hS => ?_)
  refine lv_aload_n F.1 F.2.1 dX12_holders_160 rfl (lv_at hl 0 rfl) ?_
  refine lv_iload_n F.1 F.2.1 dX12_holders_161 rfl (lv_at hl 2 rfl) ?_
  refine lv_i2l (v := x3.toInt64) F.1 F.2.1 dX12_holders_162 rfl ?_
  obtain ⟨mto_554, mrw_554, hc, hE⟩ := bnd2_some hE
  refine aft_v (run_V (rest := []) F (kX12_enters hc) (okM Z) C hS lkX12_239 ⟨Nat.le_of_ble_eq_true rfl, Nat.le_of_ble_eq_true rfl⟩ (rvM C hP) hP rfl hl.1 rfl (lv_room (Nat.le_of_ble_eq_true rfl)) dX12_holders_163 ⟨Nat.zero_le _, Nat.zero_le _⟩) hS (fun H locs hP hS => ?_)
  refine lv_aload_n F.1 F.2.1 dX12_holders_166 rfl (lv_at hl 0 rfl) ?_
  refine lv_iload F.1 F.2.1 dX12_holders_167 (lv_at hl 3 rfl) ?_
  refine lv_i2l (v := x4.toInt64) F.1 F.2.1 dX12_holders_169 rfl ?_
  obtain ⟨mto_555, mrw_555, hc, hE⟩ := bnd2_some hE
  refine aft_v (run_V (rest := []) F (kX12_enters hc) (okM Z) C hS lkX12_239 ⟨Nat.le_of_ble_eq_true rfl, Nat.le_of_ble_eq_true rfl⟩ (rvM C hP) hP rfl hl.1 rfl (lv_room (Nat.le_of_ble_eq_true rfl)) dX12_holders_170 ⟨Nat.zero_le _, Nat.zero_le _⟩) hS (fun H locs hP hS => ?_)
  refine lv_iload_n F.1 F.2.1 dX12_holders_173 rfl (lv_at hl 1 rfl) ?_
  have w0 := Option.some.inj hE
  obtain ⟨g0, w1⟩ := Prod.mk.inj w0
  obtain ⟨g1, w2⟩ := Prod.mk.inj w1
  obtain ⟨g2, w3⟩ := Prod.mk.inj w2
  subst g0 g1 g2 w3
  exact ret_i F hr hlk hP hS dX12_holders_174
set_option maxRecDepth 100000 in
set_option maxHeartbeats 4000000 in
theorem qX12_holders_140 {p : Program} {l : Launch} {e : Env} {s : State} {m : MethodId} {args : Array Value} {below : List Frame} {meth : Method} {c : Code} {Z : ZC} {mta : Nat → Int32} {mtp : Int32} {mat : Int32} {mtt : Int32} {mme : Nat → Int32} {mun : Int32} {mde : Int32} {mco : Nat → Int32} {mcn : Nat → Int32} {mvi : Int32} {men : Int32} {mfa : Nat → Int32} {mac : Nat → Int32} {mfi : Nat → Int32} {mse : Nat → Int32} {mtd : Nat → Int32} {mra : Int32} {mkp : Nat → Int32} {N : Nat} {p1 : Int32} {r' : Int32} {mth' : Int32} {mto' : Int32} {mrw' : Nat → Int64} (F : CallFix p m c cX12_holders 6 s args bigW RX12) (hr : meth.sig.returnType = (some .int)) (hlk : meth.locks = false) (C : KM Z s) {k117 : Int32 → Int32 → (Nat → Int64) → Int32 → Int32 → Int32 → Int32 → Option (Int32 × Int32 × Int32 × (Nat → Int64))} (h117 : ∀ (mth : Int32) (mto : Int32) (mrw : Nat → Int64) (x2 : Int32) (x3 : Int32) (x4 : Int32) (x5 : Int32), k117 mth mto mrw x2 x3 x4 x5 = some (r', mth', mto', mrw') → ∀ (H : Heap) (locs : List Loc), PM Z mth mto mrw mta mtp mat mtt mme mun mde mco mcn mvi men mfa mac mfi mse mtd mra mkp H → va_S (AM Z) s.heap H locs → ∀ ls : Array Slot, lv_has ls 6 [(0, .ref (mA Z 0)), (1, .int p1), (2, .int x2), (3, .int x3), (4, .int x4), (5, .int x5)] → W p l e (rmk 3 67) s m args below meth c H locs 0 0 (MQ below (Qi (KM Z) (AM Z) (PM Z mth' mto' mrw' mta mtp mat mtt mme mun mde mco mcn mvi men mfa mac mfi mse mtd mra mkp) r') args s 0 0 (AM Z)) (F0 m 117 ls [])) : ∀ (mth : Int32) (mto : Int32) (mrw : Nat → Int64) (x2 : Int32) (x3 : Int32) (x5 : Int32) (y0 : Int32) (y1 : Int32), fX12_holders_140 N mme mde p1 k117 mth mto mrw x2 x3 x5 y0 y1 = some (r', mth', mto', mrw') → ∀ (H : Heap) (locs : List Loc), PM Z mth mto mrw mta mtp mat mtt mme mun mde mco mcn mvi men mfa mac mfi mse mtd mra mkp H → va_S (AM Z) s.heap H locs → ∀ ls : Array Slot, lv_has ls 6 [(0, .ref (mA Z 0)), (1, .int p1), (2, .int x2), (3, .int x3), (5, .int x5)] → W p l e (rmk 3 67) s m args below meth c H locs 0 0 (MQ below (Qi (KM Z) (AM Z) (PM Z mth' mto' mrw' mta mtp mat mtt mme mun mde mco mcn mvi men mfa mac mfi mse mtd mra mkp) r') args s 0 0 (AM Z)) (F0 m 140 ls [.int y0, .int y1]) := by
  intro mth mto mrw x2 x3 x5 y0 y1 hE H locs hP hS ls hl
  unfold fX12_holders_140 at hE
  obtain ⟨r556, hc, hE⟩ := bnd1_some hE
  refine aft_i (run_S (rest := [.int y1]) F (kX12_flag hc) (okM Z) C hS lkX12_167 ⟨Nat.le_of_ble_eq_true rfl, Nat.le_of_ble_eq_true rfl⟩ hP rfl hl.1 rfl (lv_room (Nat.le_of_ble_eq_true rfl)) dX12_holders_140 ⟨Nat.zero_le _, Nat.zero_le _⟩) hS (fun H locs hP hS => ?_)
  refine lv_iload F.1 F.2.1 dX12_holders_143 (lv_at hl 4 rfl) ?_
  refine rj_ishl F.1 F.2.1 dX12_holders_145 ?_
  refine lv_ior F.1 F.2.1 dX12_holders_146 ?_
  refine lv_istore (lv' := [(4, .int (y1 ||| (jshl r556 x5))), (0, .ref (mA Z 0)), (1, .int p1), (2, .int x2), (3, .int x3), (5, .int x5)]) F.1 F.2.1 dX12_holders_147 hl (by decide) rfl (fun ls hl => ?_)
  refine lv_iinc (v := x5 + 1) (lv' := [(5, .int (x5 + 1)), (4, .int (y1 ||| (jshl r556 x5))), (0, .ref (mA Z 0)), (1, .int p1), (2, .int x2), (3, .int x3)]) F.1 F.2.1 dX12_holders_149 hl (k := 5) rfl rfl (by decide) rfl (fun ls hl => ?_)
  refine lv_goto (tgt := 117) F.1 F.2.1 dX12_holders_152 (by decide) ?_
  exact h117 mth mto mrw x2 x3 (y1 ||| (jshl r556 x5)) (x5 + 1) hE _ _ hP hS ls (lv_sub hl [2, 3, 4, 5, 1, 0] rfl)
set_option maxRecDepth 100000 in
set_option maxHeartbeats 4000000 in
theorem qX12_holders_117 {p : Program} {l : Launch} {e : Env} {s : State} {m : MethodId} {args : Array Value} {below : List Frame} {meth : Method} {c : Code} {Z : ZC} {mta : Nat → Int32} {mtp : Int32} {mat : Int32} {mtt : Int32} {mme : Nat → Int32} {mun : Int32} {mde : Int32} {mco : Nat → Int32} {mcn : Nat → Int32} {mvi : Int32} {men : Int32} {mfa : Nat → Int32} {mac : Nat → Int32} {mfi : Nat → Int32} {mse : Nat → Int32} {mtd : Nat → Int32} {mra : Int32} {mkp : Nat → Int32} {N : Nat} {p1 : Int32} {r' : Int32} {mth' : Int32} {mto' : Int32} {mrw' : Nat → Int64} (F : CallFix p m c cX12_holders 6 s args bigW RX12) (hr : meth.sig.returnType = (some .int)) (hlk : meth.locks = false) (C : KM Z s) : ∀ n : Nat, ∀ (mth : Int32) (mto : Int32) (mrw : Nat → Int64) (x2 : Int32) (x3 : Int32) (x4 : Int32) (x5 : Int32), fX12_holders_117 N mme mde p1 n mth mto mrw x2 x3 x4 x5 = some (r', mth', mto', mrw') → ∀ (H : Heap) (locs : List Loc), PM Z mth mto mrw mta mtp mat mtt mme mun mde mco mcn mvi men mfa mac mfi mse mtd mra mkp H → va_S (AM Z) s.heap H locs → ∀ ls : Array Slot, lv_has ls 6 [(0, .ref (mA Z 0)), (1, .int p1), (2, .int x2), (3, .int x3), (4, .int x4), (5, .int x5)] → W p l e (rmk 3 67) s m args below meth c H locs 0 0 (MQ below (Qi (KM Z) (AM Z) (PM Z mth' mto' mrw' mta mtp mat mtt mme mun mde mco mcn mvi men mfa mac mfi mse mtd mra mkp) r') args s 0 0 (AM Z)) (F0 m 117 ls []) := by
  intro n
  induction n with
  | zero => intro mth mto mrw x2 x3 x4 x5 hE; cases hE
  | succ n h117 =>
    intro mth mto mrw x2 x3 x4 x5 hE H locs hP hS ls hl
    have hE : fX12_holders_117b N mme mde p1 (fX12_holders_117 N mme mde p1 n) mth mto mrw x2 x3 x4 x5 = some (r', mth', mto', mrw') := hE
    refine lv_iload F.1 F.2.1 dX12_holders_117 (lv_at hl 5 rfl) ?_
    refine lv_iconst (v := 4) F.1 F.2.1 dX12_holders_119 (by decide) ?_
    refine lv_icmp_ge (tgt := 155) F.1 F.2.1 dX12_holders_120 (by decide) (fun hc => ?_) (fun hc => ?_)
    · have hE := ifp hE hc
      exact qX12_holders_155 F hr hlk C mth mto mrw x2 x3 x4 hE _ _ hP hS ls (lv_sub hl [0, 2, 3, 4] rfl)
    · have hE := ifn hE hc
      refine lv_iload F.1 F.2.1 dX12_holders_123 (lv_at hl 4 rfl) ?_
      refine lv_aload_n F.1 F.2.1 dX12_holders_125 rfl (lv_at hl 0 rfl) ?_
      refine lv_iload F.1 F.2.1 dX12_holders_126 (lv_at hl 5 rfl) ?_
      obtain ⟨r552, hc, hE⟩ := bnd1_some hE
      refine aft_i (run_V (rest := [.int x4]) F (kX12_weakOf hc) (okM Z) C hS lkX12_143 ⟨Nat.le_of_ble_eq_true rfl, Nat.le_of_ble_eq_true rfl⟩ (rvM C hP) hP rfl hl.1 rfl (lv_room (Nat.le_of_ble_eq_true rfl)) dX12_holders_128 ⟨Nat.zero_le _, Nat.zero_le _⟩) hS (fun H locs hP hS => ?_)
      refine lv_iload_n F.1 F.2.1 dX12_holders_131 rfl (lv_at hl 1 rfl) ?_
      refine lv_icmp_ne (tgt := 139) F.1 F.2.1 dX12_holders_132 (by decide) (fun hc => ?_) (fun hc => ?_)
      · have hE := ifn hE hc
        refine lv_iconst (v := 0) F.1 F.2.1 dX12_holders_139 (by decide) ?_
        exact qX12_holders_140 F hr hlk C h117 mth mto mrw x2 x3 x5 0 x4 hE _ _ hP hS ls (lv_sub hl [0, 1, 2, 3, 5] rfl)
      · have hE := ifp hE hc
        refine lv_iconst (v := 1) F.1 F.2.1 dX12_holders_135 (by decide) ?_
        refine lv_goto (tgt := 140) F.1 F.2.1 dX12_holders_136 (by decide) ?_
        exact qX12_holders_140 F hr hlk C h117 mth mto mrw x2 x3 x5 1 x4 hE _ _ hP hS ls (lv_sub hl [0, 1, 2, 3, 5] rfl)
set_option maxRecDepth 100000 in
set_option maxHeartbeats 4000000 in
theorem qX12_holders_100 {p : Program} {l : Launch} {e : Env} {s : State} {m : MethodId} {args : Array Value} {below : List Frame} {meth : Method} {c : Code} {Z : ZC} {mta : Nat → Int32} {mtp : Int32} {mat : Int32} {mtt : Int32} {mme : Nat → Int32} {mun : Int32} {mde : Int32} {mco : Nat → Int32} {mcn : Nat → Int32} {mvi : Int32} {men : Int32} {mfa : Nat → Int32} {mac : Nat → Int32} {mfi : Nat → Int32} {mse : Nat → Int32} {mtd : Nat → Int32} {mra : Int32} {mkp : Nat → Int32} {N : Nat} {p1 : Int32} {r' : Int32} {mth' : Int32} {mto' : Int32} {mrw' : Nat → Int64} (F : CallFix p m c cX12_holders 6 s args bigW RX12) (hr : meth.sig.returnType = (some .int)) (hlk : meth.locks = false) (C : KM Z s) {k77 : Int32 → Int32 → (Nat → Int64) → Int32 → Int32 → Int32 → Int32 → Option (Int32 × Int32 × Int32 × (Nat → Int64))} (h77 : ∀ (mth : Int32) (mto : Int32) (mrw : Nat → Int64) (x2 : Int32) (x3 : Int32) (x4 : Int32) (x5 : Int32), k77 mth mto mrw x2 x3 x4 x5 = some (r', mth', mto', mrw') → ∀ (H : Heap) (locs : List Loc), PM Z mth mto mrw mta mtp mat mtt mme mun mde mco mcn mvi men mfa mac mfi mse mtd mra mkp H → va_S (AM Z) s.heap H locs → ∀ ls : Array Slot, lv_has ls 6 [(0, .ref (mA Z 0)), (1, .int p1), (2, .int x2), (3, .int x3), (4, .int x4), (5, .int x5)] → W p l e (rmk 3 67) s m args below meth c H locs 0 0 (MQ below (Qi (KM Z) (AM Z) (PM Z mth' mto' mrw' mta mtp mat mtt mme mun mde mco mcn mvi men mfa mac mfi mse mtd mra mkp) r') args s 0 0 (AM Z)) (F0 m 77 ls [])) : ∀ (mth : Int32) (mto : Int32) (mrw : Nat → Int64) (x2 : Int32) (x4 : Int32) (x5 : Int32) (y0 : Int32) (y1 : Int32), fX12_holders_100 N mme mde p1 k77 mth mto mrw x2 x4 x5 y0 y1 = some (r', mth', mto', mrw') → ∀ (H : Heap) (locs : List Loc), PM Z mth mto mrw mta mtp mat mtt mme mun mde mco mcn mvi men mfa mac mfi mse mtd mra mkp H → va_S (AM Z) s.heap H locs → ∀ ls : Array Slot, lv_has ls 6 [(0, .ref (mA Z 0)), (1, .int p1), (2, .int x2), (4, .int x4), (5, .int x5)] → W p l e (rmk 3 67) s m args below meth c H locs 0 0 (MQ below (Qi (KM Z) (AM Z) (PM Z mth' mto' mrw' mta mtp mat mtt mme mun mde mco mcn mvi men mfa mac mfi mse mtd mra mkp) r') args s 0 0 (AM Z)) (F0 m 100 ls [.int y0, .int y1]) := by
  intro mth mto mrw x2 x4 x5 y0 y1 hE H locs hP hS ls hl
  unfold fX12_holders_100 at hE
  obtain ⟨r553, hc, hE⟩ := bnd1_some hE
  refine aft_i (run_S (rest := [.int y1]) F (kX12_flag hc) (okM Z) C hS lkX12_167 ⟨Nat.le_of_ble_eq_true rfl, Nat.le_of_ble_eq_true rfl⟩ hP rfl hl.1 rfl (lv_room (Nat.le_of_ble_eq_true rfl)) dX12_holders_100 ⟨Nat.zero_le _, Nat.zero_le _⟩) hS (fun H locs hP hS => ?_)
  refine lv_iload F.1 F.2.1 dX12_holders_103 (lv_at hl 4 rfl) ?_
  refine rj_ishl F.1 F.2.1 dX12_holders_105 ?_
  refine lv_ior F.1 F.2.1 dX12_holders_106 ?_
  refine lv_istore_n (lv' := [(3, .int (y1 ||| (jshl r553 x5))), (0, .ref (mA Z 0)), (1, .int p1), (2, .int x2), (4, .int x4), (5, .int x5)]) F.1 F.2.1 dX12_holders_107 rfl hl (by decide) rfl (fun ls hl => ?_)
  refine lv_iinc (v := x5 + 1) (lv' := [(5, .int (x5 + 1)), (3, .int (y1 ||| (jshl r553 x5))), (0, .ref (mA Z 0)), (1, .int p1), (2, .int x2), (4, .int x4)]) F.1 F.2.1 dX12_holders_108 hl (k := 5) rfl rfl (by decide) rfl (fun ls hl => ?_)
  refine lv_goto (tgt := 77) F.1 F.2.1 dX12_holders_111 (by decide) ?_
  exact h77 mth mto mrw x2 (y1 ||| (jshl r553 x5)) x4 (x5 + 1) hE _ _ hP hS ls (lv_sub hl [2, 3, 4, 1, 5, 0] rfl)
set_option maxRecDepth 100000 in
set_option maxHeartbeats 4000000 in
theorem qX12_holders_77 {p : Program} {l : Launch} {e : Env} {s : State} {m : MethodId} {args : Array Value} {below : List Frame} {meth : Method} {c : Code} {Z : ZC} {mta : Nat → Int32} {mtp : Int32} {mat : Int32} {mtt : Int32} {mme : Nat → Int32} {mun : Int32} {mde : Int32} {mco : Nat → Int32} {mcn : Nat → Int32} {mvi : Int32} {men : Int32} {mfa : Nat → Int32} {mac : Nat → Int32} {mfi : Nat → Int32} {mse : Nat → Int32} {mtd : Nat → Int32} {mra : Int32} {mkp : Nat → Int32} {N : Nat} {p1 : Int32} {r' : Int32} {mth' : Int32} {mto' : Int32} {mrw' : Nat → Int64} (F : CallFix p m c cX12_holders 6 s args bigW RX12) (hr : meth.sig.returnType = (some .int)) (hlk : meth.locks = false) (C : KM Z s) : ∀ n : Nat, ∀ (mth : Int32) (mto : Int32) (mrw : Nat → Int64) (x2 : Int32) (x3 : Int32) (x4 : Int32) (x5 : Int32), fX12_holders_77 N mme mde p1 n mth mto mrw x2 x3 x4 x5 = some (r', mth', mto', mrw') → ∀ (H : Heap) (locs : List Loc), PM Z mth mto mrw mta mtp mat mtt mme mun mde mco mcn mvi men mfa mac mfi mse mtd mra mkp H → va_S (AM Z) s.heap H locs → ∀ ls : Array Slot, lv_has ls 6 [(0, .ref (mA Z 0)), (1, .int p1), (2, .int x2), (3, .int x3), (4, .int x4), (5, .int x5)] → W p l e (rmk 3 67) s m args below meth c H locs 0 0 (MQ below (Qi (KM Z) (AM Z) (PM Z mth' mto' mrw' mta mtp mat mtt mme mun mde mco mcn mvi men mfa mac mfi mse mtd mra mkp) r') args s 0 0 (AM Z)) (F0 m 77 ls []) := by
  intro n
  induction n with
  | zero => intro mth mto mrw x2 x3 x4 x5 hE; cases hE
  | succ n h77 =>
    intro mth mto mrw x2 x3 x4 x5 hE H locs hP hS ls hl
    have hE : fX12_holders_77b N mme mde p1 (fX12_holders_77 N mme mde p1 n) mth mto mrw x2 x3 x4 x5 = some (r', mth', mto', mrw') := hE
    refine lv_iload F.1 F.2.1 dX12_holders_77 (lv_at hl 5 rfl) ?_
    refine lv_bipush (v := 6) F.1 F.2.1 dX12_holders_79 (by decide) ?_
    refine lv_icmp_ge (tgt := 114) F.1 F.2.1 dX12_holders_81 (by decide) (fun hc => ?_) (fun hc => ?_)
    · have hE := ifp hE hc
      refine lv_iconst (v := 0) F.1 F.2.1 dX12_holders_114 (by decide) ?_
      refine lv_istore (lv' := [(5, .int 0), (0, .ref (mA Z 0)), (1, .int p1), (2, .int x2), (3, .int x3), (4, .int x4)]) F.1 F.2.1 dX12_holders_115 hl (by decide) rfl (fun ls hl => ?_)
      exact qX12_holders_117 F hr hlk C N mth mto mrw x2 x3 x4 0 hE _ _ hP hS ls (lv_sub hl [1, 2, 3, 4, 5, 0] rfl)
    · have hE := ifn hE hc
      refine lv_iload_n F.1 F.2.1 dX12_holders_84 rfl (lv_at hl 3 rfl) ?_
      refine lv_aload_n F.1 F.2.1 dX12_holders_85 rfl (lv_at hl 0 rfl) ?_
      refine lv_iload F.1 F.2.1 dX12_holders_86 (lv_at hl 5 rfl) ?_
      obtain ⟨r550, hc, hE⟩ := bnd1_some hE
      refine aft_i (run_V (rest := [.int x3]) F (kX12_rootOf hc) (okM Z) C hS lkX12_131 ⟨Nat.le_of_ble_eq_true rfl, Nat.le_of_ble_eq_true rfl⟩ (rvM C hP) hP rfl hl.1 rfl (lv_room (Nat.le_of_ble_eq_true rfl)) dX12_holders_88 ⟨Nat.zero_le _, Nat.zero_le _⟩) hS (fun H locs hP hS => ?_)
      refine lv_iload_n F.1 F.2.1 dX12_holders_91 rfl (lv_at hl 1 rfl) ?_
      refine lv_icmp_ne (tgt := 99) F.1 F.2.1 dX12_holders_92 (by decide) (fun hc => ?_) (fun hc => ?_)
      · have hE := ifn hE hc
        refine lv_iconst (v := 0) F.1 F.2.1 dX12_holders_99 (by decide) ?_
        exact qX12_holders_100 F hr hlk C h77 mth mto mrw x2 x4 x5 0 x3 hE _ _ hP hS ls (lv_sub hl [0, 1, 2, 4, 5] rfl)
      · have hE := ifp hE hc
        refine lv_iconst (v := 1) F.1 F.2.1 dX12_holders_95 (by decide) ?_
        refine lv_goto (tgt := 100) F.1 F.2.1 dX12_holders_96 (by decide) ?_
        exact qX12_holders_100 F hr hlk C h77 mth mto mrw x2 x4 x5 1 x3 hE _ _ hP hS ls (lv_sub hl [0, 1, 2, 4, 5] rfl)
set_option maxRecDepth 100000 in
set_option maxHeartbeats 4000000 in
theorem qX12_holders_60 {p : Program} {l : Launch} {e : Env} {s : State} {m : MethodId} {args : Array Value} {below : List Frame} {meth : Method} {c : Code} {Z : ZC} {mta : Nat → Int32} {mtp : Int32} {mat : Int32} {mtt : Int32} {mme : Nat → Int32} {mun : Int32} {mde : Int32} {mco : Nat → Int32} {mcn : Nat → Int32} {mvi : Int32} {men : Int32} {mfa : Nat → Int32} {mac : Nat → Int32} {mfi : Nat → Int32} {mse : Nat → Int32} {mtd : Nat → Int32} {mra : Int32} {mkp : Nat → Int32} {N : Nat} {p1 : Int32} {r' : Int32} {mth' : Int32} {mto' : Int32} {mrw' : Nat → Int64} (F : CallFix p m c cX12_holders 6 s args bigW RX12) (hr : meth.sig.returnType = (some .int)) (hlk : meth.locks = false) (C : KM Z s) {k25 : Int32 → Int32 → (Nat → Int64) → Int32 → Int32 → Int32 → Int32 → Option (Int32 × Int32 × Int32 × (Nat → Int64))} (h25 : ∀ (mth : Int32) (mto : Int32) (mrw : Nat → Int64) (x2 : Int32) (x3 : Int32) (x4 : Int32) (x5 : Int32), k25 mth mto mrw x2 x3 x4 x5 = some (r', mth', mto', mrw') → ∀ (H : Heap) (locs : List Loc), PM Z mth mto mrw mta mtp mat mtt mme mun mde mco mcn mvi men mfa mac mfi mse mtd mra mkp H → va_S (AM Z) s.heap H locs → ∀ ls : Array Slot, lv_has ls 6 [(0, .ref (mA Z 0)), (1, .int p1), (2, .int x2), (3, .int x3), (4, .int x4), (5, .int x5)] → W p l e (rmk 3 67) s m args below meth c H locs 0 0 (MQ below (Qi (KM Z) (AM Z) (PM Z mth' mto' mrw' mta mtp mat mtt mme mun mde mco mcn mvi men mfa mac mfi mse mtd mra mkp) r') args s 0 0 (AM Z)) (F0 m 25 ls [])) : ∀ (mth : Int32) (mto : Int32) (mrw : Nat → Int64) (x3 : Int32) (x4 : Int32) (x5 : Int32) (y0 : Int32) (y1 : Int32), fX12_holders_60 N mme mde p1 k25 mth mto mrw x3 x4 x5 y0 y1 = some (r', mth', mto', mrw') → ∀ (H : Heap) (locs : List Loc), PM Z mth mto mrw mta mtp mat mtt mme mun mde mco mcn mvi men mfa mac mfi mse mtd mra mkp H → va_S (AM Z) s.heap H locs → ∀ ls : Array Slot, lv_has ls 6 [(0, .ref (mA Z 0)), (1, .int p1), (3, .int x3), (4, .int x4), (5, .int x5)] → W p l e (rmk 3 67) s m args below meth c H locs 0 0 (MQ below (Qi (KM Z) (AM Z) (PM Z mth' mto' mrw' mta mtp mat mtt mme mun mde mco mcn mvi men mfa mac mfi mse mtd mra mkp) r') args s 0 0 (AM Z)) (F0 m 60 ls [.int y0, .int y1]) := by
  intro mth mto mrw x3 x4 x5 y0 y1 hE H locs hP hS ls hl
  unfold fX12_holders_60 at hE
  obtain ⟨r551, hc, hE⟩ := bnd1_some hE
  refine aft_i (run_S (rest := [.int y1]) F (kX12_flag hc) (okM Z) C hS lkX12_167 ⟨Nat.le_of_ble_eq_true rfl, Nat.le_of_ble_eq_true rfl⟩ hP rfl hl.1 rfl (lv_room (Nat.le_of_ble_eq_true rfl)) dX12_holders_60 ⟨Nat.zero_le _, Nat.zero_le _⟩) hS (fun H locs hP hS => ?_)
  refine lv_iload F.1 F.2.1 dX12_holders_63 (lv_at hl 4 rfl) ?_
  refine rj_ishl F.1 F.2.1 dX12_holders_65 ?_
  refine lv_ior F.1 F.2.1 dX12_holders_66 ?_
  refine lv_istore_n (lv' := [(2, .int (y1 ||| (jshl r551 x5))), (0, .ref (mA Z 0)), (1, .int p1), (3, .int x3), (4, .int x4), (5, .int x5)]) F.1 F.2.1 dX12_holders_67 rfl hl (by decide) rfl (fun ls hl => ?_)
  refine lv_iinc (v := x5 + 1) (lv' := [(5, .int (x5 + 1)), (2, .int (y1 ||| (jshl r551 x5))), (0, .ref (mA Z 0)), (1, .int p1), (3, .int x3), (4, .int x4)]) F.1 F.2.1 dX12_holders_68 hl (k := 5) rfl rfl (by decide) rfl (fun ls hl => ?_)
  refine lv_goto (tgt := 25) F.1 F.2.1 dX12_holders_71 (by decide) ?_
  exact h25 mth mto mrw (y1 ||| (jshl r551 x5)) x3 x4 (x5 + 1) hE _ _ hP hS ls (lv_sub hl [2, 3, 1, 4, 5, 0] rfl)
set_option maxRecDepth 100000 in
set_option maxHeartbeats 4000000 in
theorem qX12_holders_59 {p : Program} {l : Launch} {e : Env} {s : State} {m : MethodId} {args : Array Value} {below : List Frame} {meth : Method} {c : Code} {Z : ZC} {mta : Nat → Int32} {mtp : Int32} {mat : Int32} {mtt : Int32} {mme : Nat → Int32} {mun : Int32} {mde : Int32} {mco : Nat → Int32} {mcn : Nat → Int32} {mvi : Int32} {men : Int32} {mfa : Nat → Int32} {mac : Nat → Int32} {mfi : Nat → Int32} {mse : Nat → Int32} {mtd : Nat → Int32} {mra : Int32} {mkp : Nat → Int32} {N : Nat} {p1 : Int32} {r' : Int32} {mth' : Int32} {mto' : Int32} {mrw' : Nat → Int64} (F : CallFix p m c cX12_holders 6 s args bigW RX12) (hr : meth.sig.returnType = (some .int)) (hlk : meth.locks = false) (C : KM Z s) {k25 : Int32 → Int32 → (Nat → Int64) → Int32 → Int32 → Int32 → Int32 → Option (Int32 × Int32 × Int32 × (Nat → Int64))} (h25 : ∀ (mth : Int32) (mto : Int32) (mrw : Nat → Int64) (x2 : Int32) (x3 : Int32) (x4 : Int32) (x5 : Int32), k25 mth mto mrw x2 x3 x4 x5 = some (r', mth', mto', mrw') → ∀ (H : Heap) (locs : List Loc), PM Z mth mto mrw mta mtp mat mtt mme mun mde mco mcn mvi men mfa mac mfi mse mtd mra mkp H → va_S (AM Z) s.heap H locs → ∀ ls : Array Slot, lv_has ls 6 [(0, .ref (mA Z 0)), (1, .int p1), (2, .int x2), (3, .int x3), (4, .int x4), (5, .int x5)] → W p l e (rmk 3 67) s m args below meth c H locs 0 0 (MQ below (Qi (KM Z) (AM Z) (PM Z mth' mto' mrw' mta mtp mat mtt mme mun mde mco mcn mvi men mfa mac mfi mse mtd mra mkp) r') args s 0 0 (AM Z)) (F0 m 25 ls [])) : ∀ (mth : Int32) (mto : Int32) (mrw : Nat → Int64) (x3 : Int32) (x4 : Int32) (x5 : Int32) (y0 : Int32), fX12_holders_59 N mme mde p1 k25 mth mto mrw x3 x4 x5 y0 = some (r', mth', mto', mrw') → ∀ (H : Heap) (locs : List Loc), PM Z mth mto mrw mta mtp mat mtt mme mun mde mco mcn mvi men mfa mac mfi mse mtd mra mkp H → va_S (AM Z) s.heap H locs → ∀ ls : Array Slot, lv_has ls 6 [(0, .ref (mA Z 0)), (1, .int p1), (3, .int x3), (4, .int x4), (5, .int x5)] → W p l e (rmk 3 67) s m args below meth c H locs 0 0 (MQ below (Qi (KM Z) (AM Z) (PM Z mth' mto' mrw' mta mtp mat mtt mme mun mde mco mcn mvi men mfa mac mfi mse mtd mra mkp) r') args s 0 0 (AM Z)) (F0 m 59 ls [.int y0]) := by
  intro mth mto mrw x3 x4 x5 y0 hE H locs hP hS ls hl
  unfold fX12_holders_59 at hE
  refine lv_iconst (v := 0) F.1 F.2.1 dX12_holders_59 (by decide) ?_
  exact qX12_holders_60 F hr hlk C h25 mth mto mrw x3 x4 x5 0 y0 hE _ _ hP hS ls (lv_sub hl [0, 1, 2, 3, 4] rfl)
set_option maxRecDepth 100000 in
set_option maxHeartbeats 4000000 in
theorem qX12_holders_25 {p : Program} {l : Launch} {e : Env} {s : State} {m : MethodId} {args : Array Value} {below : List Frame} {meth : Method} {c : Code} {Z : ZC} {mta : Nat → Int32} {mtp : Int32} {mat : Int32} {mtt : Int32} {mme : Nat → Int32} {mun : Int32} {mde : Int32} {mco : Nat → Int32} {mcn : Nat → Int32} {mvi : Int32} {men : Int32} {mfa : Nat → Int32} {mac : Nat → Int32} {mfi : Nat → Int32} {mse : Nat → Int32} {mtd : Nat → Int32} {mra : Int32} {mkp : Nat → Int32} {N : Nat} {p1 : Int32} {r' : Int32} {mth' : Int32} {mto' : Int32} {mrw' : Nat → Int64} (F : CallFix p m c cX12_holders 6 s args bigW RX12) (hr : meth.sig.returnType = (some .int)) (hlk : meth.locks = false) (C : KM Z s) : ∀ n : Nat, ∀ (mth : Int32) (mto : Int32) (mrw : Nat → Int64) (x2 : Int32) (x3 : Int32) (x4 : Int32) (x5 : Int32), fX12_holders_25 N mme mde p1 n mth mto mrw x2 x3 x4 x5 = some (r', mth', mto', mrw') → ∀ (H : Heap) (locs : List Loc), PM Z mth mto mrw mta mtp mat mtt mme mun mde mco mcn mvi men mfa mac mfi mse mtd mra mkp H → va_S (AM Z) s.heap H locs → ∀ ls : Array Slot, lv_has ls 6 [(0, .ref (mA Z 0)), (1, .int p1), (2, .int x2), (3, .int x3), (4, .int x4), (5, .int x5)] → W p l e (rmk 3 67) s m args below meth c H locs 0 0 (MQ below (Qi (KM Z) (AM Z) (PM Z mth' mto' mrw' mta mtp mat mtt mme mun mde mco mcn mvi men mfa mac mfi mse mtd mra mkp) r') args s 0 0 (AM Z)) (F0 m 25 ls []) := by
  intro n
  induction n with
  | zero => intro mth mto mrw x2 x3 x4 x5 hE; cases hE
  | succ n h25 =>
    intro mth mto mrw x2 x3 x4 x5 hE H locs hP hS ls hl
    have hE : fX12_holders_25b N mme mde p1 (fX12_holders_25 N mme mde p1 n) mth mto mrw x2 x3 x4 x5 = some (r', mth', mto', mrw') := hE
    refine lv_iload F.1 F.2.1 dX12_holders_25 (lv_at hl 5 rfl) ?_
    refine lv_bipush (v := 24) F.1 F.2.1 dX12_holders_27 (by decide) ?_
    refine lv_icmp_ge (tgt := 74) F.1 F.2.1 dX12_holders_29 (by decide) (fun hc => ?_) (fun hc => ?_)
    · have hE := ifp hE hc
      refine lv_iconst (v := 0) F.1 F.2.1 dX12_holders_74 (by decide) ?_
      refine lv_istore (lv' := [(5, .int 0), (0, .ref (mA Z 0)), (1, .int p1), (2, .int x2), (3, .int x3), (4, .int x4)]) F.1 F.2.1 dX12_holders_75 hl (by decide) rfl (fun ls hl => ?_)
      exact qX12_holders_77 F hr hlk C N mth mto mrw x2 x3 x4 0 hE _ _ hP hS ls (lv_sub hl [1, 2, 3, 4, 5, 0] rfl)
    · have hE := ifn hE hc
      refine lv_iload_n F.1 F.2.1 dX12_holders_32 rfl (lv_at hl 2 rfl) ?_
      refine lv_aload_n F.1 F.2.1 dX12_holders_33 rfl (lv_at hl 0 rfl) ?_
      refine lv_iload F.1 F.2.1 dX12_holders_34 (lv_at hl 5 rfl) ?_
      obtain ⟨r547, hc, hE⟩ := bnd1_some hE
      refine aft_i (run_V (rest := [.int x2]) F (kX12_isThere hc) (okM Z) C hS lkX12_216 ⟨Nat.le_of_ble_eq_true rfl, Nat.le_of_ble_eq_true rfl⟩ (rvM C hP) hP rfl hl.1 rfl (lv_room (Nat.le_of_ble_eq_true rfl)) dX12_holders_36 ⟨Nat.zero_le _, Nat.zero_le _⟩) hS (fun H locs hP hS => ?_)
      refine lv_if_eq (tgt := 59) F.1 F.2.1 dX12_holders_39 (by decide) (fun hc => ?_) (fun hc => ?_)
      · have hE := ifp hE hc
        exact qX12_holders_59 F hr hlk C h25 mth mto mrw x3 x4 x5 x2 hE _ _ hP hS ls (lv_sub hl [0, 1, 3, 4, 5] rfl)
      · have hE := ifn hE hc
        refine lv_aload_n F.1 F.2.1 dX12_holders_42 rfl (lv_at hl 0 rfl) ?_
        refine lv_iload F.1 F.2.1 dX12_holders_43 (lv_at hl 5 rfl) ?_
        obtain ⟨r548, hc, hE⟩ := bnd1_some hE
        refine aft_i (run_V (rest := [.int x2]) F (kX12_next hc) (okM Z) C hS lkX12_193 ⟨Nat.le_of_ble_eq_true rfl, Nat.le_of_ble_eq_true rfl⟩ (rvM C hP) hP rfl hl.1 rfl (lv_room (Nat.le_of_ble_eq_true rfl)) dX12_holders_45 ⟨Nat.zero_le _, Nat.zero_le _⟩) hS (fun H locs hP hS => ?_)
        refine lv_iload_n F.1 F.2.1 dX12_holders_48 rfl (lv_at hl 1 rfl) ?_
        obtain ⟨r549, hc, hE⟩ := bnd1_some hE
        refine aft_i (run_S (rest := [.int x2]) F (kX12_has hc) (okM Z) C hS lkX12_171 ⟨Nat.le_of_ble_eq_true rfl, Nat.le_of_ble_eq_true rfl⟩ hP rfl hl.1 rfl (lv_room (Nat.le_of_ble_eq_true rfl)) dX12_holders_49 ⟨Nat.zero_le _, Nat.zero_le _⟩) hS (fun H locs hP hS => ?_)
        refine lv_if_eq (tgt := 59) F.1 F.2.1 dX12_holders_52 (by decide) (fun hc => ?_) (fun hc => ?_)
        · have hE := ifp hE hc
          exact qX12_holders_59 F hr hlk C h25 mth mto mrw x3 x4 x5 x2 hE _ _ hP hS ls (lv_sub hl [0, 1, 3, 4, 5] rfl)
        · have hE := ifn hE hc
          refine lv_iconst (v := 1) F.1 F.2.1 dX12_holders_55 (by decide) ?_
          refine lv_goto (tgt := 60) F.1 F.2.1 dX12_holders_56 (by decide) ?_
          exact qX12_holders_60 F hr hlk C h25 mth mto mrw x3 x4 x5 1 x2 hE _ _ hP hS ls (lv_sub hl [0, 1, 3, 4, 5] rfl)
set_option maxRecDepth 100000 in
set_option maxHeartbeats 4000000 in
theorem kX12_holders {l : Launch} {Z : ZC} {mth : Int32} {mto : Int32} {mrw : Nat → Int64} {mta : Nat → Int32} {mtp : Int32} {mat : Int32} {mtt : Int32} {mme : Nat → Int32} {mun : Int32} {mde : Int32} {mco : Nat → Int32} {mcn : Nat → Int32} {mvi : Int32} {men : Int32} {mfa : Nat → Int32} {mac : Nat → Int32} {mfi : Nat → Int32} {mse : Nat → Int32} {mtd : Nat → Int32} {mra : Int32} {mkp : Nat → Int32} {N : Nat} {p1 : Int32} {r' : Int32} {mth' : Int32} {mto' : Int32} {mrw' : Nat → Int64} (hE : fX12_holders N mth mto mrw mme mde p1 = some (r', mth', mto', mrw')) : Mg l yX12_holders cX12_holders 6 (some .int) (rmk 3 67) (KM Z) (AM Z) [.ref (mA Z 0), .int p1] (PM Z mth mto mrw mta mtp mat mtt mme mun mde mco mcn mvi men mfa mac mfi mse mtd mra mkp) (Qi (KM Z) (AM Z) (PM Z mth' mto' mrw' mta mtp mat mtt mme mun mde mco mcn mvi men mfa mac mfi mse mtd mra mkp) r') := by
  refine Mg.start (lv := [(0, .ref (mA Z 0)), (1, .int p1)]) (by decide) rfl (Nat.le_of_ble_eq_true rfl) rfl ?_
  intro p e s m below meth c F hr hlk C hP ls hl
  have hS : va_S (AM Z) s.heap s.heap [] := va_S.rf
  unfold fX12_holders at hE
  refine lv_aload_n F.1 F.2.1 dX12_holders_0 rfl (lv_at hl 0 rfl) ?_
  refine lv_iconst (v := 0) F.1 F.2.1 dX12_holders_1 (by decide) ?_
  refine pX12_1 F C hP hS rfl dX12_holders_2 (fun H locs hP hS => ?_)
  refine lv_aload_n F.1 F.2.1 dX12_holders_5 rfl (lv_at hl 0 rfl) ?_
  refine lv_iload_n F.1 F.2.1 dX12_holders_6 rfl (lv_at hl 1 rfl) ?_
  obtain ⟨r546, hc, hE⟩ := bnd1_some hE
  refine aft_i (run_V (rest := []) F (kX12_isThere hc) (okM Z) C hS lkX12_216 ⟨Nat.le_of_ble_eq_true rfl, Nat.le_of_ble_eq_true rfl⟩ (rvM C hP) hP rfl hl.1 rfl (lv_room (Nat.le_of_ble_eq_true rfl)) dX12_holders_7 ⟨Nat.zero_le _, Nat.zero_le _⟩) hS (fun H locs hP hS => ?_)
  refine lv_if_ne (tgt := 15) F.1 F.2.1 dX12_holders_10 (by decide) (fun hc => ?_) (fun hc => ?_)
  · have hE := ifn hE hc
    refine lv_iconst (v := 0) F.1 F.2.1 dX12_holders_15 (by decide) ?_
    refine lv_istore_n (lv' := [(2, .int 0), (0, .ref (mA Z 0)), (1, .int p1)]) F.1 F.2.1 dX12_holders_16 rfl hl (by decide) rfl (fun ls hl => ?_)
    refine lv_iconst (v := 0) F.1 F.2.1 dX12_holders_17 (by decide) ?_
    refine lv_istore_n (lv' := [(3, .int 0), (2, .int 0), (0, .ref (mA Z 0)), (1, .int p1)]) F.1 F.2.1 dX12_holders_18 rfl hl (by decide) rfl (fun ls hl => ?_)
    refine lv_iconst (v := 0) F.1 F.2.1 dX12_holders_19 (by decide) ?_
    refine lv_istore (lv' := [(4, .int 0), (3, .int 0), (2, .int 0), (0, .ref (mA Z 0)), (1, .int p1)]) F.1 F.2.1 dX12_holders_20 hl (by decide) rfl (fun ls hl => ?_)
    refine lv_iconst (v := 0) F.1 F.2.1 dX12_holders_22 (by decide) ?_
    refine lv_istore (lv' := [(5, .int 0), (4, .int 0), (3, .int 0), (2, .int 0), (0, .ref (mA Z 0)), (1, .int p1)]) F.1 F.2.1 dX12_holders_23 hl (by decide) rfl (fun ls hl => ?_)
    exact qX12_holders_25 F hr hlk C N 0 mto mrw 0 0 0 0 hE _ _ hP hS ls (lv_sub hl [4, 5, 3, 2, 1, 0] rfl)
  · have hE := ifp hE hc
    refine lv_iconst (v := (-1)) F.1 F.2.1 dX12_holders_13 (by decide) ?_
    have w0 := Option.some.inj hE
    obtain ⟨g0, w1⟩ := Prod.mk.inj w0
    obtain ⟨g1, w2⟩ := Prod.mk.inj w1
    obtain ⟨g2, w3⟩ := Prod.mk.inj w2
    subst g0 g1 g2 w3
    exact ret_i F hr hlk hP hS dX12_holders_14
set_option maxRecDepth 100000 in
set_option maxHeartbeats 4000000 in
theorem qX12_measures_50 {p : Program} {l : Launch} {e : Env} {s : State} {m : MethodId} {args : Array Value} {below : List Frame} {meth : Method} {c : Code} {Z : ZC} {mth : Int32} {mto : Int32} {mrw : Nat → Int64} {mta : Nat → Int32} {mtp : Int32} {mat : Int32} {mtt : Int32} {mme : Nat → Int32} {mun : Int32} {mde : Int32} {mco : Nat → Int32} {mcn : Nat → Int32} {mvi : Int32} {men : Int32} {mac : Nat → Int32} {mfi : Nat → Int32} {mse : Nat → Int32} {mtd : Nat → Int32} {mra : Int32} {mkp : Nat → Int32} {N : Nat} {p1 : Int32} {mfa' : Nat → Int32} (F : CallFix p m c cX12_measures 6 s args bigW RX12) (hr : meth.sig.returnType = none) (hlk : meth.locks = false) (C : KM Z s) {k33 : (Nat → Int32) → Int32 → Option ((Nat → Int32))} (h33 : ∀ (mfa : Nat → Int32) (x2 : Int32), k33 mfa x2 = some mfa' → ∀ (H : Heap) (locs : List Loc), PM Z mth mto mrw mta mtp mat mtt mme mun mde mco mcn mvi men mfa mac mfi mse mtd mra mkp H → va_S (AM Z) s.heap H locs → ∀ ls : Array Slot, lv_has ls 6 [(0, .ref (mA Z 0)), (2, .int x2)] → W p l e (rmk 2 46) s m args below meth c H locs 0 0 (MQ below (Qv (KM Z) (AM Z) (PM Z mth mto mrw mta mtp mat mtt mme mun mde mco mcn mvi men mfa' mac mfi mse mtd mra mkp)) args s 0 0 (AM Z)) (F0 m 33 ls [])) {k41 : (Nat → Int32) → Int32 → Int32 → Option ((Nat → Int32))} (h41 : ∀ (mfa : Nat → Int32) (x2 : Int32) (x3 : Int32), k41 mfa x2 x3 = some mfa' → ∀ (H : Heap) (locs : List Loc), PM Z mth mto mrw mta mtp mat mtt mme mun mde mco mcn mvi men mfa mac mfi mse mtd mra mkp H → va_S (AM Z) s.heap H locs → ∀ ls : Array Slot, lv_has ls 6 [(0, .ref (mA Z 0)), (2, .int x2), (3, .int x3)] → W p l e (rmk 2 46) s m args below meth c H locs 0 0 (MQ below (Qv (KM Z) (AM Z) (PM Z mth mto mrw mta mtp mat mtt mme mun mde mco mcn mvi men mfa' mac mfi mse mtd mra mkp)) args s 0 0 (AM Z)) (F0 m 41 ls [])) : ∀ n : Nat, ∀ (mfa : Nat → Int32) (x2 : Int32) (x3 : Int32) (x4 : Int32), fX12_measures_50 N mme mde p1 k33 k41 n mfa x2 x3 x4 = some mfa' → ∀ (H : Heap) (locs : List Loc), PM Z mth mto mrw mta mtp mat mtt mme mun mde mco mcn mvi men mfa mac mfi mse mtd mra mkp H → va_S (AM Z) s.heap H locs → ∀ ls : Array Slot, lv_has ls 6 [(0, .ref (mA Z 0)), (2, .int x2), (3, .int x3), (4, .int x4)] → W p l e (rmk 2 46) s m args below meth c H locs 0 0 (MQ below (Qv (KM Z) (AM Z) (PM Z mth mto mrw mta mtp mat mtt mme mun mde mco mcn mvi men mfa' mac mfi mse mtd mra mkp)) args s 0 0 (AM Z)) (F0 m 50 ls []) := by
  intro n
  induction n with
  | zero => intro mfa x2 x3 x4 hE; cases hE
  | succ n h50 =>
    intro mfa x2 x3 x4 hE H locs hP hS ls hl
    have hE : fX12_measures_50b N mme mde p1 k33 k41 (fX12_measures_50 N mme mde p1 k33 k41 n) mfa x2 x3 x4 = some mfa' := hE
    refine lv_iload F.1 F.2.1 dX12_measures_50 (lv_at hl 3 rfl) ?_
    refine lv_aload_n F.1 F.2.1 dX12_measures_52 rfl (lv_at hl 0 rfl) ?_
    refine lv_iload_n F.1 F.2.1 dX12_measures_53 rfl (lv_at hl 2 rfl) ?_
    refine lv_iconst (v := 1) F.1 F.2.1 dX12_measures_54 (by decide) ?_
    obtain ⟨r565, hc, hE⟩ := bnd1_some hE
    refine aft_i (run_V (rest := [.int x4]) F (kX12_of hc) (okM Z) C hS lkX12_91 ⟨Nat.le_of_ble_eq_true rfl, Nat.le_of_ble_eq_true rfl⟩ (rvM C hP) hP rfl hl.1 rfl (lv_room (Nat.le_of_ble_eq_true rfl)) dX12_measures_55 ⟨Nat.zero_le _, Nat.zero_le _⟩) hS (fun H locs hP hS => ?_)
    refine lv_icmp_ge (tgt := 124) F.1 F.2.1 dX12_measures_58 (by decide) (fun hc => ?_) (fun hc => ?_)
    · have hE := ifp hE hc
      refine lv_iinc (v := x3 + 1) (lv' := [(3, .int (x3 + 1)), (0, .ref (mA Z 0)), (2, .int x2), (4, .int x4)]) F.1 F.2.1 dX12_measures_124 hl (k := 2) rfl rfl (by decide) rfl (fun ls hl => ?_)
      refine lv_goto (tgt := 41) F.1 F.2.1 dX12_measures_127 (by decide) ?_
      exact h41 mfa x2 (x3 + 1) hE _ _ hP hS ls (lv_sub hl [1, 2, 0] rfl)
    · have hE := ifn hE hc
      refine lv_aload_n F.1 F.2.1 dX12_measures_61 rfl (lv_at hl 0 rfl) ?_
      refine lv_iload_n F.1 F.2.1 dX12_measures_62 rfl (lv_at hl 2 rfl) ?_
      obtain ⟨r566, hc, hE⟩ := bnd1_some hE
      refine aft_i (run_V (rest := []) F (kX12_isThere hc) (okM Z) C hS lkX12_216 ⟨Nat.le_of_ble_eq_true rfl, Nat.le_of_ble_eq_true rfl⟩ (rvM C hP) hP rfl hl.1 rfl (lv_room (Nat.le_of_ble_eq_true rfl)) dX12_measures_63 ⟨Nat.zero_le _, Nat.zero_le _⟩) hS (fun H locs hP hS => ?_)
      refine lv_if_eq (tgt := 124) F.1 F.2.1 dX12_measures_66 (by decide) (fun hc => ?_) (fun hc => ?_)
      · have hE := ifp hE hc
        refine lv_iinc (v := x3 + 1) (lv' := [(3, .int (x3 + 1)), (0, .ref (mA Z 0)), (2, .int x2), (4, .int x4)]) F.1 F.2.1 dX12_measures_124 hl (k := 2) rfl rfl (by decide) rfl (fun ls hl => ?_)
        refine lv_goto (tgt := 41) F.1 F.2.1 dX12_measures_127 (by decide) ?_
        exact h41 mfa x2 (x3 + 1) hE _ _ hP hS ls (lv_sub hl [1, 2, 0] rfl)
      · have hE := ifn hE hc
        refine lv_aload_n F.1 F.2.1 dX12_measures_69 rfl (lv_at hl 0 rfl) ?_
        refine lv_iload_n F.1 F.2.1 dX12_measures_70 rfl (lv_at hl 2 rfl) ?_
        refine lv_iload F.1 F.2.1 dX12_measures_71 (lv_at hl 3 rfl) ?_
        obtain ⟨r567, hc, hE⟩ := bnd1_some hE
        refine aft_i (run_V (rest := []) F (kX12_fieldOf hc) (okM Z) C hS lkX12_140 ⟨Nat.le_of_ble_eq_true rfl, Nat.le_of_ble_eq_true rfl⟩ (rvM C hP) hP rfl hl.1 rfl (lv_room (Nat.le_of_ble_eq_true rfl)) dX12_measures_73 ⟨Nat.zero_le _, Nat.zero_le _⟩) hS (fun H locs hP hS => ?_)
        refine lv_istore (lv' := [(5, .int r567), (0, .ref (mA Z 0)), (2, .int x2), (3, .int x3), (4, .int x4)]) F.1 F.2.1 dX12_measures_76 hl (by decide) rfl (fun ls hl => ?_)
        refine lv_iload F.1 F.2.1 dX12_measures_78 (lv_at hl 0 rfl) ?_
        refine lv_if_lt (tgt := 118) F.1 F.2.1 dX12_measures_80 (by decide) (fun hc => ?_) (fun hc => ?_)
        · have hE := ifp hE hc
          refine lv_iinc (v := x4 + 1) (lv' := [(4, .int (x4 + 1)), (5, .int r567), (0, .ref (mA Z 0)), (2, .int x2), (3, .int x3)]) F.1 F.2.1 dX12_measures_118 hl (k := 4) rfl rfl (by decide) rfl (fun ls hl => ?_)
          refine lv_goto (tgt := 50) F.1 F.2.1 dX12_measures_121 (by decide) ?_
          exact h50 mfa x2 x3 (x4 + 1) hE _ _ hP hS ls (lv_sub hl [2, 3, 4, 0] rfl)
        · have hE := ifn hE hc
          refine lv_aload_n F.1 F.2.1 dX12_measures_83 rfl (lv_at hl 1 rfl) ?_
          refine gX12_62 F C hP dX12_measures_84 ?_
          refine lv_iload F.1 F.2.1 dX12_measures_87 (lv_at hl 0 rfl) ?_
          obtain ⟨hi, hE⟩ := grd_some hE
          refine am6 F C hP hi dX12_measures_89 ?_
          refine lv_iconst (v := 1) F.1 F.2.1 dX12_measures_90 (by decide) ?_
          refine lv_iadd F.1 F.2.1 dX12_measures_91 ?_
          refine lv_aload_n F.1 F.2.1 dX12_measures_92 rfl (lv_at hl 1 rfl) ?_
          refine gX12_62 F C hP dX12_measures_93 ?_
          refine lv_iload_n F.1 F.2.1 dX12_measures_96 rfl (lv_at hl 3 rfl) ?_
          obtain ⟨hi, hE⟩ := grd_some hE
          refine am6 F C hP hi dX12_measures_97 ?_
          refine lv_icmp_ge (tgt := 118) F.1 F.2.1 dX12_measures_98 (by decide) (fun hc => ?_) (fun hc => ?_)
          · have hE := ifp hE hc
            refine lv_iinc (v := x4 + 1) (lv' := [(4, .int (x4 + 1)), (5, .int r567), (0, .ref (mA Z 0)), (2, .int x2), (3, .int x3)]) F.1 F.2.1 dX12_measures_118 hl (k := 4) rfl rfl (by decide) rfl (fun ls hl => ?_)
            refine lv_goto (tgt := 50) F.1 F.2.1 dX12_measures_121 (by decide) ?_
            exact h50 mfa x2 x3 (x4 + 1) hE _ _ hP hS ls (lv_sub hl [2, 3, 4, 0] rfl)
          · have hE := ifn hE hc
            refine lv_aload_n F.1 F.2.1 dX12_measures_101 rfl (lv_at hl 1 rfl) ?_
            refine gX12_62 F C hP dX12_measures_102 ?_
            refine lv_iload_n F.1 F.2.1 dX12_measures_105 rfl (lv_at hl 3 rfl) ?_
            refine lv_aload_n F.1 F.2.1 dX12_measures_106 rfl (lv_at hl 1 rfl) ?_
            refine gX12_62 F C hP dX12_measures_107 ?_
            refine lv_iload F.1 F.2.1 dX12_measures_110 (lv_at hl 0 rfl) ?_
            obtain ⟨hi, hE⟩ := grd_some hE
            refine am6 F C hP hi dX12_measures_112 ?_
            refine lv_iconst (v := 1) F.1 F.2.1 dX12_measures_113 (by decide) ?_
            refine lv_iadd F.1 F.2.1 dX12_measures_114 ?_
            obtain ⟨hi, hE⟩ := grd_some hE
            obtain ⟨mfa_568, emfa_568, hE⟩ := lt_some hE
            refine sm6 F C hP hi hS emfa_568.symm dX12_measures_115 (fun H locs hP hS => ?_)
            refine lv_iconst (v := 1) F.1 F.2.1 dX12_measures_116 (by decide) ?_
            refine lv_istore_n (lv' := [(2, .int 1), (5, .int r567), (0, .ref (mA Z 0)), (3, .int x3), (4, .int x4)]) F.1 F.2.1 dX12_measures_117 rfl hl (by decide) rfl (fun ls hl => ?_)
            refine lv_iinc (v := x4 + 1) (lv' := [(4, .int (x4 + 1)), (2, .int 1), (5, .int r567), (0, .ref (mA Z 0)), (3, .int x3)]) F.1 F.2.1 dX12_measures_118 hl (k := 4) rfl rfl (by decide) rfl (fun ls hl => ?_)
            refine lv_goto (tgt := 50) F.1 F.2.1 dX12_measures_121 (by decide) ?_
            exact h50 mfa_568 1 x3 (x4 + 1) hE _ _ hP hS ls (lv_sub hl [3, 1, 4, 0] rfl)
set_option maxRecDepth 100000 in
set_option maxHeartbeats 4000000 in
theorem qX12_measures_41 {p : Program} {l : Launch} {e : Env} {s : State} {m : MethodId} {args : Array Value} {below : List Frame} {meth : Method} {c : Code} {Z : ZC} {mth : Int32} {mto : Int32} {mrw : Nat → Int64} {mta : Nat → Int32} {mtp : Int32} {mat : Int32} {mtt : Int32} {mme : Nat → Int32} {mun : Int32} {mde : Int32} {mco : Nat → Int32} {mcn : Nat → Int32} {mvi : Int32} {men : Int32} {mac : Nat → Int32} {mfi : Nat → Int32} {mse : Nat → Int32} {mtd : Nat → Int32} {mra : Int32} {mkp : Nat → Int32} {N : Nat} {p1 : Int32} {mfa' : Nat → Int32} (F : CallFix p m c cX12_measures 6 s args bigW RX12) (hr : meth.sig.returnType = none) (hlk : meth.locks = false) (C : KM Z s) {k33 : (Nat → Int32) → Int32 → Option ((Nat → Int32))} (h33 : ∀ (mfa : Nat → Int32) (x2 : Int32), k33 mfa x2 = some mfa' → ∀ (H : Heap) (locs : List Loc), PM Z mth mto mrw mta mtp mat mtt mme mun mde mco mcn mvi men mfa mac mfi mse mtd mra mkp H → va_S (AM Z) s.heap H locs → ∀ ls : Array Slot, lv_has ls 6 [(0, .ref (mA Z 0)), (2, .int x2)] → W p l e (rmk 2 46) s m args below meth c H locs 0 0 (MQ below (Qv (KM Z) (AM Z) (PM Z mth mto mrw mta mtp mat mtt mme mun mde mco mcn mvi men mfa' mac mfi mse mtd mra mkp)) args s 0 0 (AM Z)) (F0 m 33 ls [])) : ∀ n : Nat, ∀ (mfa : Nat → Int32) (x2 : Int32) (x3 : Int32), fX12_measures_41 N mme mde p1 k33 n mfa x2 x3 = some mfa' → ∀ (H : Heap) (locs : List Loc), PM Z mth mto mrw mta mtp mat mtt mme mun mde mco mcn mvi men mfa mac mfi mse mtd mra mkp H → va_S (AM Z) s.heap H locs → ∀ ls : Array Slot, lv_has ls 6 [(0, .ref (mA Z 0)), (2, .int x2), (3, .int x3)] → W p l e (rmk 2 46) s m args below meth c H locs 0 0 (MQ below (Qv (KM Z) (AM Z) (PM Z mth mto mrw mta mtp mat mtt mme mun mde mco mcn mvi men mfa' mac mfi mse mtd mra mkp)) args s 0 0 (AM Z)) (F0 m 41 ls []) := by
  intro n
  induction n with
  | zero => intro mfa x2 x3 hE; cases hE
  | succ n h41 =>
    intro mfa x2 x3 hE H locs hP hS ls hl
    have hE : fX12_measures_41b N mme mde p1 k33 (fX12_measures_41 N mme mde p1 k33 n) mfa x2 x3 = some mfa' := hE
    refine lv_iload_n F.1 F.2.1 dX12_measures_41 rfl (lv_at hl 2 rfl) ?_
    refine lv_bipush (v := 24) F.1 F.2.1 dX12_measures_42 (by decide) ?_
    refine lv_icmp_ge (tgt := 130) F.1 F.2.1 dX12_measures_44 (by decide) (fun hc => ?_) (fun hc => ?_)
    · have hE := ifp hE hc
      refine lv_goto (tgt := 33) F.1 F.2.1 dX12_measures_130 (by decide) ?_
      exact h33 mfa x2 hE _ _ hP hS ls (lv_sub hl [0, 1] rfl)
    · have hE := ifn hE hc
      refine lv_iconst (v := 0) F.1 F.2.1 dX12_measures_47 (by decide) ?_
      refine lv_istore (lv' := [(4, .int 0), (0, .ref (mA Z 0)), (2, .int x2), (3, .int x3)]) F.1 F.2.1 dX12_measures_48 hl (by decide) rfl (fun ls hl => ?_)
      exact qX12_measures_50 F hr hlk C h33 h41 N mfa x2 x3 0 hE _ _ hP hS ls (lv_sub hl [1, 2, 3, 0] rfl)
set_option maxRecDepth 100000 in
set_option maxHeartbeats 4000000 in
theorem qX12_measures_33 {p : Program} {l : Launch} {e : Env} {s : State} {m : MethodId} {args : Array Value} {below : List Frame} {meth : Method} {c : Code} {Z : ZC} {mth : Int32} {mto : Int32} {mrw : Nat → Int64} {mta : Nat → Int32} {mtp : Int32} {mat : Int32} {mtt : Int32} {mme : Nat → Int32} {mun : Int32} {mde : Int32} {mco : Nat → Int32} {mcn : Nat → Int32} {mvi : Int32} {men : Int32} {mac : Nat → Int32} {mfi : Nat → Int32} {mse : Nat → Int32} {mtd : Nat → Int32} {mra : Int32} {mkp : Nat → Int32} {N : Nat} {p1 : Int32} {mfa' : Nat → Int32} (F : CallFix p m c cX12_measures 6 s args bigW RX12) (hr : meth.sig.returnType = none) (hlk : meth.locks = false) (C : KM Z s) : ∀ n : Nat, ∀ (mfa : Nat → Int32) (x2 : Int32), fX12_measures_33 N mme mde p1 n mfa x2 = some mfa' → ∀ (H : Heap) (locs : List Loc), PM Z mth mto mrw mta mtp mat mtt mme mun mde mco mcn mvi men mfa mac mfi mse mtd mra mkp H → va_S (AM Z) s.heap H locs → ∀ ls : Array Slot, lv_has ls 6 [(0, .ref (mA Z 0)), (2, .int x2)] → W p l e (rmk 2 46) s m args below meth c H locs 0 0 (MQ below (Qv (KM Z) (AM Z) (PM Z mth mto mrw mta mtp mat mtt mme mun mde mco mcn mvi men mfa' mac mfi mse mtd mra mkp)) args s 0 0 (AM Z)) (F0 m 33 ls []) := by
  intro n
  induction n with
  | zero => intro mfa x2 hE; cases hE
  | succ n h33 =>
    intro mfa x2 hE H locs hP hS ls hl
    have hE : fX12_measures_33b N mme mde p1 (fX12_measures_33 N mme mde p1 n) mfa x2 = some mfa' := hE
    refine lv_iload_n F.1 F.2.1 dX12_measures_33 rfl (lv_at hl 1 rfl) ?_
    refine lv_if_eq (tgt := 133) F.1 F.2.1 dX12_measures_34 (by decide) (fun hc => ?_) (fun hc => ?_)
    · have hE := ifp hE hc
      obtain rfl := Option.some.inj hE
      exact ret_v F hr hlk hP hS dX12_measures_133
    · have hE := ifn hE hc
      refine lv_iconst (v := 0) F.1 F.2.1 dX12_measures_37 (by decide) ?_
      refine lv_istore_n (lv' := [(2, .int 0), (0, .ref (mA Z 0))]) F.1 F.2.1 dX12_measures_38 rfl hl (by decide) rfl (fun ls hl => ?_)
      refine lv_iconst (v := 0) F.1 F.2.1 dX12_measures_39 (by decide) ?_
      refine lv_istore_n (lv' := [(3, .int 0), (2, .int 0), (0, .ref (mA Z 0))]) F.1 F.2.1 dX12_measures_40 rfl hl (by decide) rfl (fun ls hl => ?_)
      exact qX12_measures_41 F hr hlk C h33 N mfa 0 0 hE _ _ hP hS ls (lv_sub hl [2, 1, 0] rfl)
set_option maxRecDepth 100000 in
set_option maxHeartbeats 4000000 in
theorem qX12_measures_2 {p : Program} {l : Launch} {e : Env} {s : State} {m : MethodId} {args : Array Value} {below : List Frame} {meth : Method} {c : Code} {Z : ZC} {mth : Int32} {mto : Int32} {mrw : Nat → Int64} {mta : Nat → Int32} {mtp : Int32} {mat : Int32} {mtt : Int32} {mme : Nat → Int32} {mun : Int32} {mde : Int32} {mco : Nat → Int32} {mcn : Nat → Int32} {mvi : Int32} {men : Int32} {mac : Nat → Int32} {mfi : Nat → Int32} {mse : Nat → Int32} {mtd : Nat → Int32} {mra : Int32} {mkp : Nat → Int32} {N : Nat} {p1 : Int32} {mfa' : Nat → Int32} (F : CallFix p m c cX12_measures 6 s args bigW RX12) (hr : meth.sig.returnType = none) (hlk : meth.locks = false) (C : KM Z s) : ∀ n : Nat, ∀ (mfa : Nat → Int32) (x2 : Int32), fX12_measures_2 N mme mde p1 n mfa x2 = some mfa' → ∀ (H : Heap) (locs : List Loc), PM Z mth mto mrw mta mtp mat mtt mme mun mde mco mcn mvi men mfa mac mfi mse mtd mra mkp H → va_S (AM Z) s.heap H locs → ∀ ls : Array Slot, lv_has ls 6 [(0, .ref (mA Z 0)), (1, .int p1), (2, .int x2)] → W p l e (rmk 2 46) s m args below meth c H locs 0 0 (MQ below (Qv (KM Z) (AM Z) (PM Z mth mto mrw mta mtp mat mtt mme mun mde mco mcn mvi men mfa' mac mfi mse mtd mra mkp)) args s 0 0 (AM Z)) (F0 m 2 ls []) := by
  intro n
  induction n with
  | zero => intro mfa x2 hE; cases hE
  | succ n h2 =>
    intro mfa x2 hE H locs hP hS ls hl
    have hE : fX12_measures_2b N mme mde p1 (fX12_measures_2 N mme mde p1 n) mfa x2 = some mfa' := hE
    refine lv_iload_n F.1 F.2.1 dX12_measures_2 rfl (lv_at hl 2 rfl) ?_
    refine lv_bipush (v := 24) F.1 F.2.1 dX12_measures_3 (by decide) ?_
    refine lv_icmp_ge (tgt := 31) F.1 F.2.1 dX12_measures_5 (by decide) (fun hc => ?_) (fun hc => ?_)
    · have hE := ifp hE hc
      refine lv_iconst (v := 1) F.1 F.2.1 dX12_measures_31 (by decide) ?_
      refine lv_istore_n (lv' := [(2, .int 1), (0, .ref (mA Z 0)), (1, .int p1)]) F.1 F.2.1 dX12_measures_32 rfl hl (by decide) rfl (fun ls hl => ?_)
      exact qX12_measures_33 F hr hlk C N mfa 1 hE _ _ hP hS ls (lv_sub hl [1, 0] rfl)
    · have hE := ifn hE hc
      refine lv_aload_n F.1 F.2.1 dX12_measures_8 rfl (lv_at hl 0 rfl) ?_
      refine gX12_62 F C hP dX12_measures_9 ?_
      refine lv_iload_n F.1 F.2.1 dX12_measures_12 rfl (lv_at hl 2 rfl) ?_
      refine lv_iload_n F.1 F.2.1 dX12_measures_13 rfl (lv_at hl 2 rfl) ?_
      refine lv_iload_n F.1 F.2.1 dX12_measures_14 rfl (lv_at hl 1 rfl) ?_
      refine lv_icmp_ne (tgt := 22) F.1 F.2.1 dX12_measures_15 (by decide) (fun hc => ?_) (fun hc => ?_)
      · have hE := ifn hE hc
        refine lv_bipush (v := 100) F.1 F.2.1 dX12_measures_22 (by decide) ?_
        obtain ⟨hi, hE⟩ := grd_some hE
        obtain ⟨mfa_563, emfa_563, hE⟩ := lt_some hE
        refine sm6 F C hP hi hS emfa_563.symm dX12_measures_24 (fun H locs hP hS => ?_)
        refine lv_iinc (v := x2 + 1) (lv' := [(2, .int (x2 + 1)), (0, .ref (mA Z 0)), (1, .int p1)]) F.1 F.2.1 dX12_measures_25 hl (k := 2) rfl rfl (by decide) rfl (fun ls hl => ?_)
        refine lv_goto (tgt := 2) F.1 F.2.1 dX12_measures_28 (by decide) ?_
        exact h2 mfa_563 (x2 + 1) hE _ _ hP hS ls (lv_sub hl [1, 2, 0] rfl)
      · have hE := ifp hE hc
        refine lv_iconst (v := 1) F.1 F.2.1 dX12_measures_18 (by decide) ?_
        refine lv_goto (tgt := 24) F.1 F.2.1 dX12_measures_19 (by decide) ?_
        obtain ⟨hi, hE⟩ := grd_some hE
        obtain ⟨mfa_564, emfa_564, hE⟩ := lt_some hE
        refine sm6 F C hP hi hS emfa_564.symm dX12_measures_24 (fun H locs hP hS => ?_)
        refine lv_iinc (v := x2 + 1) (lv' := [(2, .int (x2 + 1)), (0, .ref (mA Z 0)), (1, .int p1)]) F.1 F.2.1 dX12_measures_25 hl (k := 2) rfl rfl (by decide) rfl (fun ls hl => ?_)
        refine lv_goto (tgt := 2) F.1 F.2.1 dX12_measures_28 (by decide) ?_
        exact h2 mfa_564 (x2 + 1) hE _ _ hP hS ls (lv_sub hl [1, 2, 0] rfl)
set_option maxRecDepth 100000 in
set_option maxHeartbeats 4000000 in
theorem kX12_measures {l : Launch} {Z : ZC} {mth : Int32} {mto : Int32} {mrw : Nat → Int64} {mta : Nat → Int32} {mtp : Int32} {mat : Int32} {mtt : Int32} {mme : Nat → Int32} {mun : Int32} {mde : Int32} {mco : Nat → Int32} {mcn : Nat → Int32} {mvi : Int32} {men : Int32} {mfa : Nat → Int32} {mac : Nat → Int32} {mfi : Nat → Int32} {mse : Nat → Int32} {mtd : Nat → Int32} {mra : Int32} {mkp : Nat → Int32} {N : Nat} {p1 : Int32} {mfa' : Nat → Int32} (hE : fX12_measures N mme mde mfa p1 = some mfa') : Mg l yX12_measures cX12_measures 6 none (rmk 2 46) (KM Z) (AM Z) [.ref (mA Z 0), .int p1] (PM Z mth mto mrw mta mtp mat mtt mme mun mde mco mcn mvi men mfa mac mfi mse mtd mra mkp) (Qv (KM Z) (AM Z) (PM Z mth mto mrw mta mtp mat mtt mme mun mde mco mcn mvi men mfa' mac mfi mse mtd mra mkp)) := by
  refine Mg.start (lv := [(0, .ref (mA Z 0)), (1, .int p1)]) (by decide) rfl (Nat.le_of_ble_eq_true rfl) rfl ?_
  intro p e s m below meth c F hr hlk C hP ls hl
  have hS : va_S (AM Z) s.heap s.heap [] := va_S.rf
  unfold fX12_measures at hE
  refine lv_iconst (v := 0) F.1 F.2.1 dX12_measures_0 (by decide) ?_
  refine lv_istore_n (lv' := [(2, .int 0), (0, .ref (mA Z 0)), (1, .int p1)]) F.1 F.2.1 dX12_measures_1 rfl hl (by decide) rfl (fun ls hl => ?_)
  exact qX12_measures_2 F hr hlk C N mfa 0 hE _ _ hP hS ls (lv_sub hl [1, 2, 0] rfl)
set_option maxRecDepth 100000 in
set_option maxHeartbeats 4000000 in
theorem qX12_nearest_4 {p : Program} {l : Launch} {e : Env} {s : State} {m : MethodId} {args : Array Value} {below : List Frame} {meth : Method} {c : Code} {Z : ZC} {mth : Int32} {mto : Int32} {mrw : Nat → Int64} {mta : Nat → Int32} {mtp : Int32} {mat : Int32} {mtt : Int32} {mme : Nat → Int32} {mun : Int32} {mde : Int32} {mco : Nat → Int32} {mcn : Nat → Int32} {mvi : Int32} {men : Int32} {mfa : Nat → Int32} {mac : Nat → Int32} {mfi : Nat → Int32} {mse : Nat → Int32} {mtd : Nat → Int32} {mra : Int32} {mkp : Nat → Int32} {N : Nat} {p1 : Int32} {r' : Int32} (F : CallFix p m c cX12_nearest 4 s args bigW RX12) (hr : meth.sig.returnType = (some .int)) (hlk : meth.locks = false) (C : KM Z s) : ∀ n : Nat, ∀ (x2 : Int32) (x3 : Int32), fX12_nearest_4 N mfa p1 n x2 x3 = some r' → ∀ (H : Heap) (locs : List Loc), PM Z mth mto mrw mta mtp mat mtt mme mun mde mco mcn mvi men mfa mac mfi mse mtd mra mkp H → va_S (AM Z) s.heap H locs → ∀ ls : Array Slot, lv_has ls 4 [(0, .ref (mA Z 0)), (1, .int p1), (2, .int x2), (3, .int x3)] → W p l e (rmk 1 21) s m args below meth c H locs 0 0 (MQ below (Qi (KM Z) (AM Z) (PM Z mth mto mrw mta mtp mat mtt mme mun mde mco mcn mvi men mfa mac mfi mse mtd mra mkp) r') args s 0 0 (AM Z)) (F0 m 4 ls []) := by
  intro n
  induction n with
  | zero => intro x2 x3 hE; cases hE
  | succ n h4 =>
    intro x2 x3 hE H locs hP hS ls hl
    have hE : fX12_nearest_4b N mfa p1 (fX12_nearest_4 N mfa p1 n) x2 x3 = some r' := hE
    refine lv_iload_n F.1 F.2.1 dX12_nearest_4 rfl (lv_at hl 3 rfl) ?_
    refine lv_bipush (v := 24) F.1 F.2.1 dX12_nearest_5 (by decide) ?_
    refine lv_icmp_ge (tgt := 45) F.1 F.2.1 dX12_nearest_7 (by decide) (fun hc => ?_) (fun hc => ?_)
    · have hE := ifp hE hc
      refine lv_iload_n F.1 F.2.1 dX12_nearest_45 rfl (lv_at hl 2 rfl) ?_
      obtain rfl := Option.some.inj hE
      exact ret_i F hr hlk hP hS dX12_nearest_46
    · have hE := ifn hE hc
      refine lv_iload_n F.1 F.2.1 dX12_nearest_10 rfl (lv_at hl 1 rfl) ?_
      refine lv_iload_n F.1 F.2.1 dX12_nearest_11 rfl (lv_at hl 3 rfl) ?_
      obtain ⟨r570, hc, hE⟩ := bnd1_some hE
      refine aft_i (run_S (rest := []) F (kX12_has hc) (okM Z) C hS lkX12_171 ⟨Nat.le_of_ble_eq_true rfl, Nat.le_of_ble_eq_true rfl⟩ hP rfl hl.1 rfl (lv_room (Nat.le_of_ble_eq_true rfl)) dX12_nearest_12 ⟨Nat.zero_le _, Nat.zero_le _⟩) hS (fun H locs hP hS => ?_)
      refine lv_if_eq (tgt := 39) F.1 F.2.1 dX12_nearest_15 (by decide) (fun hc => ?_) (fun hc => ?_)
      · have hE := ifp hE hc
        refine lv_iinc (v := x3 + 1) (lv' := [(3, .int (x3 + 1)), (0, .ref (mA Z 0)), (1, .int p1), (2, .int x2)]) F.1 F.2.1 dX12_nearest_39 hl (k := 3) rfl rfl (by decide) rfl (fun ls hl => ?_)
        refine lv_goto (tgt := 4) F.1 F.2.1 dX12_nearest_42 (by decide) ?_
        exact h4 x2 (x3 + 1) hE _ _ hP hS ls (lv_sub hl [1, 2, 3, 0] rfl)
      · have hE := ifn hE hc
        refine lv_iload_n F.1 F.2.1 dX12_nearest_18 rfl (lv_at hl 2 rfl) ?_
        refine lv_if_lt (tgt := 37) F.1 F.2.1 dX12_nearest_19 (by decide) (fun hc => ?_) (fun hc => ?_)
        · have hE := ifp hE hc
          refine lv_iload_n F.1 F.2.1 dX12_nearest_37 rfl (lv_at hl 3 rfl) ?_
          refine lv_istore_n (lv' := [(2, .int x3), (0, .ref (mA Z 0)), (1, .int p1), (3, .int x3)]) F.1 F.2.1 dX12_nearest_38 rfl hl (by decide) rfl (fun ls hl => ?_)
          refine lv_iinc (v := x3 + 1) (lv' := [(3, .int (x3 + 1)), (2, .int x3), (0, .ref (mA Z 0)), (1, .int p1)]) F.1 F.2.1 dX12_nearest_39 hl (k := 3) rfl rfl (by decide) rfl (fun ls hl => ?_)
          refine lv_goto (tgt := 4) F.1 F.2.1 dX12_nearest_42 (by decide) ?_
          exact h4 x3 (x3 + 1) hE _ _ hP hS ls (lv_sub hl [2, 3, 1, 0] rfl)
        · have hE := ifn hE hc
          refine lv_aload_n F.1 F.2.1 dX12_nearest_22 rfl (lv_at hl 0 rfl) ?_
          refine gX12_62 F C hP dX12_nearest_23 ?_
          refine lv_iload_n F.1 F.2.1 dX12_nearest_26 rfl (lv_at hl 3 rfl) ?_
          obtain ⟨hi, hE⟩ := grd_some hE
          refine am6 F C hP hi dX12_nearest_27 ?_
          refine lv_aload_n F.1 F.2.1 dX12_nearest_28 rfl (lv_at hl 0 rfl) ?_
          refine gX12_62 F C hP dX12_nearest_29 ?_
          refine lv_iload_n F.1 F.2.1 dX12_nearest_32 rfl (lv_at hl 2 rfl) ?_
          obtain ⟨hi, hE⟩ := grd_some hE
          refine am6 F C hP hi dX12_nearest_33 ?_
          refine lv_icmp_ge (tgt := 39) F.1 F.2.1 dX12_nearest_34 (by decide) (fun hc => ?_) (fun hc => ?_)
          · have hE := ifp hE hc
            refine lv_iinc (v := x3 + 1) (lv' := [(3, .int (x3 + 1)), (0, .ref (mA Z 0)), (1, .int p1), (2, .int x2)]) F.1 F.2.1 dX12_nearest_39 hl (k := 3) rfl rfl (by decide) rfl (fun ls hl => ?_)
            refine lv_goto (tgt := 4) F.1 F.2.1 dX12_nearest_42 (by decide) ?_
            exact h4 x2 (x3 + 1) hE _ _ hP hS ls (lv_sub hl [1, 2, 3, 0] rfl)
          · have hE := ifn hE hc
            refine lv_iload_n F.1 F.2.1 dX12_nearest_37 rfl (lv_at hl 3 rfl) ?_
            refine lv_istore_n (lv' := [(2, .int x3), (0, .ref (mA Z 0)), (1, .int p1), (3, .int x3)]) F.1 F.2.1 dX12_nearest_38 rfl hl (by decide) rfl (fun ls hl => ?_)
            refine lv_iinc (v := x3 + 1) (lv' := [(3, .int (x3 + 1)), (2, .int x3), (0, .ref (mA Z 0)), (1, .int p1)]) F.1 F.2.1 dX12_nearest_39 hl (k := 3) rfl rfl (by decide) rfl (fun ls hl => ?_)
            refine lv_goto (tgt := 4) F.1 F.2.1 dX12_nearest_42 (by decide) ?_
            exact h4 x3 (x3 + 1) hE _ _ hP hS ls (lv_sub hl [2, 3, 1, 0] rfl)
set_option maxRecDepth 100000 in
set_option maxHeartbeats 4000000 in
theorem kX12_nearest {l : Launch} {Z : ZC} {mth : Int32} {mto : Int32} {mrw : Nat → Int64} {mta : Nat → Int32} {mtp : Int32} {mat : Int32} {mtt : Int32} {mme : Nat → Int32} {mun : Int32} {mde : Int32} {mco : Nat → Int32} {mcn : Nat → Int32} {mvi : Int32} {men : Int32} {mfa : Nat → Int32} {mac : Nat → Int32} {mfi : Nat → Int32} {mse : Nat → Int32} {mtd : Nat → Int32} {mra : Int32} {mkp : Nat → Int32} {N : Nat} {p1 : Int32} {r' : Int32} (hE : fX12_nearest N mfa p1 = some r') : Mg l yX12_nearest cX12_nearest 4 (some .int) (rmk 1 21) (KM Z) (AM Z) [.ref (mA Z 0), .int p1] (PM Z mth mto mrw mta mtp mat mtt mme mun mde mco mcn mvi men mfa mac mfi mse mtd mra mkp) (Qi (KM Z) (AM Z) (PM Z mth mto mrw mta mtp mat mtt mme mun mde mco mcn mvi men mfa mac mfi mse mtd mra mkp) r') := by
  refine Mg.start (lv := [(0, .ref (mA Z 0)), (1, .int p1)]) (by decide) rfl (Nat.le_of_ble_eq_true rfl) rfl ?_
  intro p e s m below meth c F hr hlk C hP ls hl
  have hS : va_S (AM Z) s.heap s.heap [] := va_S.rf
  unfold fX12_nearest at hE
  refine lv_iconst (v := (-1)) F.1 F.2.1 dX12_nearest_0 (by decide) ?_
  refine lv_istore_n (lv' := [(2, .int (-1)), (0, .ref (mA Z 0)), (1, .int p1)]) F.1 F.2.1 dX12_nearest_1 rfl hl (by decide) rfl (fun ls hl => ?_)
  refine lv_iconst (v := 0) F.1 F.2.1 dX12_nearest_2 (by decide) ?_
  refine lv_istore_n (lv' := [(3, .int 0), (2, .int (-1)), (0, .ref (mA Z 0)), (1, .int p1)]) F.1 F.2.1 dX12_nearest_3 rfl hl (by decide) rfl (fun ls hl => ?_)
  exact qX12_nearest_4 F hr hlk C N (-1) 0 hE _ _ hP hS ls (lv_sub hl [2, 3, 1, 0] rfl)
set_option maxRecDepth 100000 in
set_option maxHeartbeats 4000000 in
theorem qX12_way_52 {p : Program} {l : Launch} {e : Env} {s : State} {m : MethodId} {args : Array Value} {below : List Frame} {meth : Method} {c : Code} {Z : ZC} {mta : Nat → Int32} {mtp : Int32} {mat : Int32} {mtt : Int32} {mme : Nat → Int32} {mun : Int32} {mde : Int32} {mco : Nat → Int32} {mcn : Nat → Int32} {mvi : Int32} {men : Int32} {mac : Nat → Int32} {mfi : Nat → Int32} {mse : Nat → Int32} {mtd : Nat → Int32} {mra : Int32} {mkp : Nat → Int32} {N : Nat} {p1 : Int32} {r' : Int32} {mth' : Int32} {mto' : Int32} {mrw' : Nat → Int64} {mfa' : Nat → Int32} (F : CallFix p m c cX12_way 3 s args bigW RX12) (hr : meth.sig.returnType = (some .int)) (hlk : meth.locks = false) (C : KM Z s) : ∀ n : Nat, ∀ (mth : Int32) (mto : Int32) (mrw : Nat → Int64) (mfa : Nat → Int32) (x2 : Int32), fX12_way_52 N mme mde p1 n mth mto mrw mfa x2 = some (r', mth', mto', mrw', mfa') → ∀ (H : Heap) (locs : List Loc), PM Z mth mto mrw mta mtp mat mtt mme mun mde mco mcn mvi men mfa mac mfi mse mtd mra mkp H → va_S (AM Z) s.heap H locs → ∀ ls : Array Slot, lv_has ls 3 [(0, .ref (mA Z 0)), (1, .int p1), (2, .int x2)] → W p l e (rmk 6 133) s m args below meth c H locs 0 0 (MQ below (Qi (KM Z) (AM Z) (PM Z mth' mto' mrw' mta mtp mat mtt mme mun mde mco mcn mvi men mfa' mac mfi mse mtd mra mkp) r') args s 0 0 (AM Z)) (F0 m 52 ls []) := by
  intro n
  induction n with
  | zero => intro mth mto mrw mfa x2 hE; cases hE
  | succ n h52 =>
    intro mth mto mrw mfa x2 hE H locs hP hS ls hl
    have hE : fX12_way_52b N mme mde p1 (fX12_way_52 N mme mde p1 n) mth mto mrw mfa x2 = some (r', mth', mto', mrw', mfa') := hE
    refine lv_iload_n F.1 F.2.1 dX12_way_52 rfl (lv_at hl 2 rfl) ?_
    refine lv_iload_n F.1 F.2.1 dX12_way_53 rfl (lv_at hl 1 rfl) ?_
    refine lv_icmp_eq (tgt := 76) F.1 F.2.1 dX12_way_54 (by decide) (fun hc => ?_) (fun hc => ?_)
    · have hE := ifp hE hc
      refine lv_aload_n F.1 F.2.1 dX12_way_76 rfl (lv_at hl 0 rfl) ?_
      refine gX12_11 F C hP dX12_way_77 ?_
      have w0 := Option.some.inj hE
      obtain ⟨g0, w1⟩ := Prod.mk.inj w0
      obtain ⟨g1, w2⟩ := Prod.mk.inj w1
      obtain ⟨g2, w3⟩ := Prod.mk.inj w2
      obtain ⟨g3, w4⟩ := Prod.mk.inj w3
      subst g0 g1 g2 g3 w4
      exact ret_i F hr hlk hP hS dX12_way_80
    · have hE := ifn hE hc
      refine lv_aload_n F.1 F.2.1 dX12_way_57 rfl (lv_at hl 0 rfl) ?_
      refine lv_aload_n F.1 F.2.1 dX12_way_58 rfl (lv_at hl 0 rfl) ?_
      refine lv_iload_n F.1 F.2.1 dX12_way_59 rfl (lv_at hl 2 rfl) ?_
      obtain ⟨r586, hc, hE⟩ := bnd1_some hE
      refine aft_i (run_V (rest := [.ref (mA Z 0)]) F (kX12_next hc) (okM Z) C hS lkX12_193 ⟨Nat.le_of_ble_eq_true rfl, Nat.le_of_ble_eq_true rfl⟩ (rvM C hP) hP rfl hl.1 rfl (lv_room (Nat.le_of_ble_eq_true rfl)) dX12_way_60 ⟨Nat.zero_le _, Nat.zero_le _⟩) hS (fun H locs hP hS => ?_)
      obtain ⟨r587, hc, hE⟩ := bnd1_some hE
      refine aft_i (run_V (rest := []) F (kX12_nearest hc) (okM Z) C hS lkX12_285 ⟨Nat.le_of_ble_eq_true rfl, Nat.le_of_ble_eq_true rfl⟩ (rvM C hP) hP rfl hl.1 rfl (lv_room (Nat.le_of_ble_eq_true rfl)) dX12_way_63 ⟨Nat.zero_le _, Nat.zero_le _⟩) hS (fun H locs hP hS => ?_)
      refine lv_istore_n (lv' := [(2, .int r587), (0, .ref (mA Z 0)), (1, .int p1)]) F.1 F.2.1 dX12_way_66 rfl hl (by decide) rfl (fun ls hl => ?_)
      refine lv_aload_n F.1 F.2.1 dX12_way_67 rfl (lv_at hl 1 rfl) ?_
      refine lv_iload_n F.1 F.2.1 dX12_way_68 rfl (lv_at hl 0 rfl) ?_
      refine lv_i2l (v := r587.toInt64) F.1 F.2.1 dX12_way_69 rfl ?_
      obtain ⟨mto_588, mrw_588, hc, hE⟩ := bnd2_some hE
      refine aft_v (run_V (rest := []) F (kX12_enters hc) (okM Z) C hS lkX12_239 ⟨Nat.le_of_ble_eq_true rfl, Nat.le_of_ble_eq_true rfl⟩ (rvM C hP) hP rfl hl.1 rfl (lv_room (Nat.le_of_ble_eq_true rfl)) dX12_way_70 ⟨Nat.zero_le _, Nat.zero_le _⟩) hS (fun H locs hP hS => ?_)
      refine lv_goto (tgt := 52) F.1 F.2.1 dX12_way_73 (by decide) ?_
      exact h52 mth mto_588 mrw_588 mfa r587 hE _ _ hP hS ls (lv_sub hl [1, 2, 0] rfl)
set_option maxRecDepth 100000 in
set_option maxHeartbeats 4000000 in
theorem kX12_way {l : Launch} {Z : ZC} {mth : Int32} {mto : Int32} {mrw : Nat → Int64} {mta : Nat → Int32} {mtp : Int32} {mat : Int32} {mtt : Int32} {mme : Nat → Int32} {mun : Int32} {mde : Int32} {mco : Nat → Int32} {mcn : Nat → Int32} {mvi : Int32} {men : Int32} {mfa : Nat → Int32} {mac : Nat → Int32} {mfi : Nat → Int32} {mse : Nat → Int32} {mtd : Nat → Int32} {mra : Int32} {mkp : Nat → Int32} {N : Nat} {p1 : Int32} {r' : Int32} {mth' : Int32} {mto' : Int32} {mrw' : Nat → Int64} {mfa' : Nat → Int32} (hE : fX12_way N mth mto mrw mme mde mfa p1 = some (r', mth', mto', mrw', mfa')) : Mg l yX12_way cX12_way 3 (some .int) (rmk 6 133) (KM Z) (AM Z) [.ref (mA Z 0), .int p1] (PM Z mth mto mrw mta mtp mat mtt mme mun mde mco mcn mvi men mfa mac mfi mse mtd mra mkp) (Qi (KM Z) (AM Z) (PM Z mth' mto' mrw' mta mtp mat mtt mme mun mde mco mcn mvi men mfa' mac mfi mse mtd mra mkp) r') := by
  refine Mg.start (lv := [(0, .ref (mA Z 0)), (1, .int p1)]) (by decide) rfl (Nat.le_of_ble_eq_true rfl) rfl ?_
  intro p e s m below meth c F hr hlk C hP ls hl
  have hS : va_S (AM Z) s.heap s.heap [] := va_S.rf
  unfold fX12_way at hE
  refine lv_aload_n F.1 F.2.1 dX12_way_0 rfl (lv_at hl 0 rfl) ?_
  refine lv_iconst (v := 0) F.1 F.2.1 dX12_way_1 (by decide) ?_
  refine pX12_1 F C hP hS rfl dX12_way_2 (fun H locs hP hS => ?_)
  refine lv_aload_n F.1 F.2.1 dX12_way_5 rfl (lv_at hl 0 rfl) ?_
  refine lv_iload_n F.1 F.2.1 dX12_way_6 rfl (lv_at hl 1 rfl) ?_
  obtain ⟨r580, hc, hE⟩ := bnd1_some hE
  refine aft_i (run_V (rest := []) F (kX12_isThere hc) (okM Z) C hS lkX12_216 ⟨Nat.le_of_ble_eq_true rfl, Nat.le_of_ble_eq_true rfl⟩ (rvM C hP) hP rfl hl.1 rfl (lv_room (Nat.le_of_ble_eq_true rfl)) dX12_way_7 ⟨Nat.zero_le _, Nat.zero_le _⟩) hS (fun H locs hP hS => ?_)
  refine lv_if_ne (tgt := 15) F.1 F.2.1 dX12_way_10 (by decide) (fun hc => ?_) (fun hc => ?_)
  · have hE := ifn hE hc
    refine lv_aload_n F.1 F.2.1 dX12_way_15 rfl (lv_at hl 0 rfl) ?_
    refine lv_iload_n F.1 F.2.1 dX12_way_16 rfl (lv_at hl 1 rfl) ?_
    obtain ⟨r581, hc, hE⟩ := bnd1_some hE
    refine aft_i (run_V (rest := []) F (kX12_isReached hc) (okM Z) C hS lkX12_222 ⟨Nat.le_of_ble_eq_true rfl, Nat.le_of_ble_eq_true rfl⟩ (rvM C hP) hP rfl hl.1 rfl (lv_room (Nat.le_of_ble_eq_true rfl)) dX12_way_17 ⟨Nat.zero_le _, Nat.zero_le _⟩) hS (fun H locs hP hS => ?_)
    refine lv_if_ne (tgt := 26) F.1 F.2.1 dX12_way_20 (by decide) (fun hc => ?_) (fun hc => ?_)
    · have hE := ifn hE hc
      refine lv_aload_n F.1 F.2.1 dX12_way_26 rfl (lv_at hl 0 rfl) ?_
      refine lv_iload_n F.1 F.2.1 dX12_way_27 rfl (lv_at hl 1 rfl) ?_
      obtain ⟨mfa_582, hc, hE⟩ := bnd1_some hE
      refine aft_v (run_V (rest := []) F (kX12_measures hc) (okM Z) C hS lkX12_282 ⟨Nat.le_of_ble_eq_true rfl, Nat.le_of_ble_eq_true rfl⟩ (rvM C hP) hP rfl hl.1 rfl (lv_room (Nat.le_of_ble_eq_true rfl)) dX12_way_28 ⟨Nat.zero_le _, Nat.zero_le _⟩) hS (fun H locs hP hS => ?_)
      refine lv_aload_n F.1 F.2.1 dX12_way_31 rfl (lv_at hl 0 rfl) ?_
      refine lv_iconst (v := 0) F.1 F.2.1 dX12_way_32 (by decide) ?_
      refine pX12_11 F C hP hS rfl dX12_way_33 (fun H locs hP hS => ?_)
      refine lv_aload_n F.1 F.2.1 dX12_way_36 rfl (lv_at hl 0 rfl) ?_
      refine lv_aload_n F.1 F.2.1 dX12_way_37 rfl (lv_at hl 0 rfl) ?_
      refine lv_iconst (v := 0) F.1 F.2.1 dX12_way_38 (by decide) ?_
      obtain ⟨r583, hc, hE⟩ := bnd1_some hE
      refine aft_i (run_V (rest := [.ref (mA Z 0)]) F (kX12_inRoots hc) (okM Z) C hS lkX12_196 ⟨Nat.le_of_ble_eq_true rfl, Nat.le_of_ble_eq_true rfl⟩ (rvM C hP) hP rfl hl.1 rfl (lv_room (Nat.le_of_ble_eq_true rfl)) dX12_way_39 ⟨Nat.zero_le _, Nat.zero_le _⟩) hS (fun H locs hP hS => ?_)
      obtain ⟨r584, hc, hE⟩ := bnd1_some hE
      refine aft_i (run_V (rest := []) F (kX12_nearest hc) (okM Z) C hS lkX12_285 ⟨Nat.le_of_ble_eq_true rfl, Nat.le_of_ble_eq_true rfl⟩ (rvM C hP) hP rfl hl.1 rfl (lv_room (Nat.le_of_ble_eq_true rfl)) dX12_way_42 ⟨Nat.zero_le _, Nat.zero_le _⟩) hS (fun H locs hP hS => ?_)
      refine lv_istore_n (lv' := [(2, .int r584), (0, .ref (mA Z 0)), (1, .int p1)]) F.1 F.2.1 dX12_way_45 rfl hl (by decide) rfl (fun ls hl => ?_)
      refine lv_aload_n F.1 F.2.1 dX12_way_46 rfl (lv_at hl 1 rfl) ?_
      refine lv_iload_n F.1 F.2.1 dX12_way_47 rfl (lv_at hl 0 rfl) ?_
      refine lv_i2l (v := r584.toInt64) F.1 F.2.1 dX12_way_48 rfl ?_
      obtain ⟨mto_585, mrw_585, hc, hE⟩ := bnd2_some hE
      refine aft_v (run_V (rest := []) F (kX12_enters hc) (okM Z) C hS lkX12_239 ⟨Nat.le_of_ble_eq_true rfl, Nat.le_of_ble_eq_true rfl⟩ (rvM C hP) hP rfl hl.1 rfl (lv_room (Nat.le_of_ble_eq_true rfl)) dX12_way_49 ⟨Nat.zero_le _, Nat.zero_le _⟩) hS (fun H locs hP hS => ?_)
      exact qX12_way_52 F hr hlk C N 0 mto_585 mrw_585 mfa_582 r584 hE _ _ hP hS ls (lv_sub hl [1, 2, 0] rfl)
    · have hE := ifp hE hc
      refine lv_bipush (v := (-2)) F.1 F.2.1 dX12_way_23 (by decide) ?_
      have w0 := Option.some.inj hE
      obtain ⟨g0, w1⟩ := Prod.mk.inj w0
      obtain ⟨g1, w2⟩ := Prod.mk.inj w1
      obtain ⟨g2, w3⟩ := Prod.mk.inj w2
      obtain ⟨g3, w4⟩ := Prod.mk.inj w3
      subst g0 g1 g2 g3 w4
      exact ret_i F hr hlk hP hS dX12_way_25
  · have hE := ifp hE hc
    refine lv_iconst (v := (-1)) F.1 F.2.1 dX12_way_13 (by decide) ?_
    have w0 := Option.some.inj hE
    obtain ⟨g0, w1⟩ := Prod.mk.inj w0
    obtain ⟨g1, w2⟩ := Prod.mk.inj w1
    obtain ⟨g2, w3⟩ := Prod.mk.inj w2
    obtain ⟨g3, w4⟩ := Prod.mk.inj w3
    subst g0 g1 g2 g3 w4
    exact ret_i F hr hlk hP hS dX12_way_14
set_option maxRecDepth 100000 in
set_option maxHeartbeats 4000000 in
theorem kX12_from {l : Launch} {Z : ZC} {mth : Int32} {mto : Int32} {mrw : Nat → Int64} {mta : Nat → Int32} {mtp : Int32} {mat : Int32} {mtt : Int32} {mme : Nat → Int32} {mun : Int32} {mde : Int32} {mco : Nat → Int32} {mcn : Nat → Int32} {mvi : Int32} {men : Int32} {mfa : Nat → Int32} {mac : Nat → Int32} {mfi : Nat → Int32} {mse : Nat → Int32} {mtd : Nat → Int32} {mra : Int32} {mkp : Nat → Int32} {N : Nat} {p1 : Int32} {r' : Int32} {mth' : Int32} {mto' : Int32} {mrw' : Nat → Int64} (hE : fX12_from N mth mto mrw mme mde p1 = some (r', mth', mto', mrw')) : Mg l yX12_from cX12_from 2 (some .int) (rmk 4 92) (KM Z) (AM Z) [.ref (mA Z 0), .int p1] (PM Z mth mto mrw mta mtp mat mtt mme mun mde mco mcn mvi men mfa mac mfi mse mtd mra mkp) (Qi (KM Z) (AM Z) (PM Z mth' mto' mrw' mta mtp mat mtt mme mun mde mco mcn mvi men mfa mac mfi mse mtd mra mkp) r') := by
  refine Mg.start (lv := [(0, .ref (mA Z 0)), (1, .int p1)]) (by decide) rfl (Nat.le_of_ble_eq_true rfl) rfl ?_
  intro p e s m below meth c F hr hlk C hP ls hl
  have hS : va_S (AM Z) s.heap s.heap [] := va_S.rf
  unfold fX12_from at hE
  refine lv_aload_n F.1 F.2.1 dX12_from_0 rfl (lv_at hl 0 rfl) ?_
  refine lv_iconst (v := 0) F.1 F.2.1 dX12_from_1 (by decide) ?_
  refine pX12_1 F C hP hS rfl dX12_from_2 (fun H locs hP hS => ?_)
  refine lv_aload_n F.1 F.2.1 dX12_from_5 rfl (lv_at hl 0 rfl) ?_
  refine lv_iload_n F.1 F.2.1 dX12_from_6 rfl (lv_at hl 1 rfl) ?_
  obtain ⟨r596, hc, hE⟩ := bnd1_some hE
  refine aft_i (run_V (rest := []) F (kX12_isThere hc) (okM Z) C hS lkX12_216 ⟨Nat.le_of_ble_eq_true rfl, Nat.le_of_ble_eq_true rfl⟩ (rvM C hP) hP rfl hl.1 rfl (lv_room (Nat.le_of_ble_eq_true rfl)) dX12_from_7 ⟨Nat.zero_le _, Nat.zero_le _⟩) hS (fun H locs hP hS => ?_)
  refine lv_if_ne (tgt := 15) F.1 F.2.1 dX12_from_10 (by decide) (fun hc => ?_) (fun hc => ?_)
  · have hE := ifn hE hc
    refine lv_aload_n F.1 F.2.1 dX12_from_15 rfl (lv_at hl 0 rfl) ?_
    refine lv_iconst (v := 0) F.1 F.2.1 dX12_from_16 (by decide) ?_
    refine pX12_11 F C hP hS rfl dX12_from_17 (fun H locs hP hS => ?_)
    refine lv_aload_n F.1 F.2.1 dX12_from_20 rfl (lv_at hl 0 rfl) ?_
    refine lv_aload_n F.1 F.2.1 dX12_from_21 rfl (lv_at hl 0 rfl) ?_
    refine lv_aload_n F.1 F.2.1 dX12_from_22 rfl (lv_at hl 0 rfl) ?_
    refine lv_iload_n F.1 F.2.1 dX12_from_23 rfl (lv_at hl 1 rfl) ?_
    obtain ⟨r597, hc, hE⟩ := bnd1_some hE
    refine aft_i (run_V (rest := [.ref (mA Z 0), .ref (mA Z 0)]) F (kX12_next hc) (okM Z) C hS lkX12_193 ⟨Nat.le_of_ble_eq_true rfl, Nat.le_of_ble_eq_true rfl⟩ (rvM C hP) hP rfl hl.1 rfl (lv_room (Nat.le_of_ble_eq_true rfl)) dX12_from_24 ⟨Nat.zero_le _, Nat.zero_le _⟩) hS (fun H locs hP hS => ?_)
    refine lv_iconst (v := 0) F.1 F.2.1 dX12_from_27 (by decide) ?_
    obtain ⟨r598, hc, hE⟩ := bnd1_some hE
    refine aft_i (run_V (rest := [.ref (mA Z 0)]) F (kX12_reach hc) (okM Z) C hS lkX12_199 ⟨Nat.le_of_ble_eq_true rfl, Nat.le_of_ble_eq_true rfl⟩ (rvM C hP) hP rfl hl.1 rfl (lv_room (Nat.le_of_ble_eq_true rfl)) dX12_from_28 ⟨Nat.zero_le _, Nat.zero_le _⟩) hS (fun H locs hP hS => ?_)
    refine lv_iload_n F.1 F.2.1 dX12_from_31 rfl (lv_at hl 1 rfl) ?_
    obtain ⟨r599, hc, hE⟩ := bnd1_some hE
    refine aft_i (run_S (rest := [.ref (mA Z 0)]) F (kX12_has hc) (okM Z) C hS lkX12_171 ⟨Nat.le_of_ble_eq_true rfl, Nat.le_of_ble_eq_true rfl⟩ hP rfl hl.1 rfl (lv_room (Nat.le_of_ble_eq_true rfl)) dX12_from_32 ⟨Nat.zero_le _, Nat.zero_le _⟩) hS (fun H locs hP hS => ?_)
    obtain ⟨r600, hc, hE⟩ := bnd1_some hE
    refine aft_i (run_S (rest := [.ref (mA Z 0)]) F (kX12_flag hc) (okM Z) C hS lkX12_167 ⟨Nat.le_of_ble_eq_true rfl, Nat.le_of_ble_eq_true rfl⟩ hP rfl hl.1 rfl (lv_room (Nat.le_of_ble_eq_true rfl)) dX12_from_35 ⟨Nat.zero_le _, Nat.zero_le _⟩) hS (fun H locs hP hS => ?_)
    refine lv_i2l (v := r600.toInt64) F.1 F.2.1 dX12_from_38 rfl ?_
    obtain ⟨mto_601, mrw_601, hc, hE⟩ := bnd2_some hE
    refine aft_v (run_V (rest := []) F (kX12_enters hc) (okM Z) C hS lkX12_239 ⟨Nat.le_of_ble_eq_true rfl, Nat.le_of_ble_eq_true rfl⟩ (rvM C hP) hP rfl hl.1 rfl (lv_room (Nat.le_of_ble_eq_true rfl)) dX12_from_39 ⟨Nat.zero_le _, Nat.zero_le _⟩) hS (fun H locs hP hS => ?_)
    refine lv_aload_n F.1 F.2.1 dX12_from_42 rfl (lv_at hl 0 rfl) ?_
    refine lv_iconst (v := 1) F.1 F.2.1 dX12_from_43 (by decide) ?_
    refine lv_iload_n F.1 F.2.1 dX12_from_44 rfl (lv_at hl 1 rfl) ?_
    refine rj_ishl F.1 F.2.1 dX12_from_45 ?_
    refine lv_iconst (v := 0) F.1 F.2.1 dX12_from_46 (by decide) ?_
    obtain ⟨r602, hc, hE⟩ := bnd1_some hE
    refine aft_i (run_V (rest := []) F (kX12_reach hc) (okM Z) C hS lkX12_199 ⟨Nat.le_of_ble_eq_true rfl, Nat.le_of_ble_eq_true rfl⟩ (rvM C hP) hP rfl hl.1 rfl (lv_room (Nat.le_of_ble_eq_true rfl)) dX12_from_47 ⟨Nat.zero_le _, Nat.zero_le _⟩) hS (fun H locs hP hS => ?_)
    have w0 := Option.some.inj hE
    obtain ⟨g0, w1⟩ := Prod.mk.inj w0
    obtain ⟨g1, w2⟩ := Prod.mk.inj w1
    obtain ⟨g2, w3⟩ := Prod.mk.inj w2
    subst g0 g1 g2 w3
    exact ret_i F hr hlk hP hS dX12_from_50
  · have hE := ifp hE hc
    refine lv_iconst (v := (-1)) F.1 F.2.1 dX12_from_13 (by decide) ?_
    have w0 := Option.some.inj hE
    obtain ⟨g0, w1⟩ := Prod.mk.inj w0
    obtain ⟨g1, w2⟩ := Prod.mk.inj w1
    obtain ⟨g2, w3⟩ := Prod.mk.inj w2
    subst g0 g1 g2 w3
    exact ret_i F hr hlk hP hS dX12_from_14
set_option maxRecDepth 100000 in
set_option maxHeartbeats 4000000 in
theorem qX12_rings_124 {p : Program} {l : Launch} {e : Env} {s : State} {m : MethodId} {args : Array Value} {below : List Frame} {meth : Method} {c : Code} {Z : ZC} {mta : Nat → Int32} {mtp : Int32} {mat : Int32} {mtt : Int32} {mme : Nat → Int32} {mun : Int32} {mde : Int32} {mco : Nat → Int32} {mcn : Nat → Int32} {mvi : Int32} {men : Int32} {mfa : Nat → Int32} {mac : Nat → Int32} {mfi : Nat → Int32} {mse : Nat → Int32} {mtd : Nat → Int32} {mra : Int32} {mkp : Nat → Int32} {N : Nat} {r' : Int32} {mth' : Int32} {mto' : Int32} {mrw' : Nat → Int64} (F : CallFix p m c cX12_rings 6 s args bigW RX12) (hr : meth.sig.returnType = (some .int)) (hlk : meth.locks = false) (C : KM Z s) {k14 : Int32 → Int32 → (Nat → Int64) → Int32 → Int32 → Option (Int32 × Int32 × Int32 × (Nat → Int64))} (h14 : ∀ (mth : Int32) (mto : Int32) (mrw : Nat → Int64) (x1 : Int32) (x2 : Int32), k14 mth mto mrw x1 x2 = some (r', mth', mto', mrw') → ∀ (H : Heap) (locs : List Loc), PM Z mth mto mrw mta mtp mat mtt mme mun mde mco mcn mvi men mfa mac mfi mse mtd mra mkp H → va_S (AM Z) s.heap H locs → ∀ ls : Array Slot, lv_has ls 6 [(0, .ref (mA Z 0)), (1, .int x1), (2, .int x2)] → W p l e (rmk 4 92) s m args below meth c H locs 0 0 (MQ below (Qi (KM Z) (AM Z) (PM Z mth' mto' mrw' mta mtp mat mtt mme mun mde mco mcn mvi men mfa mac mfi mse mtd mra mkp) r') args s 0 0 (AM Z)) (F0 m 14 ls [])) : ∀ (mth : Int32) (mto : Int32) (mrw : Nat → Int64) (x1 : Int32) (x2 : Int32) (x3 : Int32), fX12_rings_124 N mme mde k14 mth mto mrw x1 x2 x3 = some (r', mth', mto', mrw') → ∀ (H : Heap) (locs : List Loc), PM Z mth mto mrw mta mtp mat mtt mme mun mde mco mcn mvi men mfa mac mfi mse mtd mra mkp H → va_S (AM Z) s.heap H locs → ∀ ls : Array Slot, lv_has ls 6 [(0, .ref (mA Z 0)), (1, .int x1), (2, .int x2), (3, .int x3)] → W p l e (rmk 4 92) s m args below meth c H locs 0 0 (MQ below (Qi (KM Z) (AM Z) (PM Z mth' mto' mrw' mta mtp mat mtt mme mun mde mco mcn mvi men mfa mac mfi mse mtd mra mkp) r') args s 0 0 (AM Z)) (F0 m 124 ls []) := by
  intro mth mto mrw x1 x2 x3 hE H locs hP hS ls hl
  unfold fX12_rings_124 at hE
  refine lv_iload_n F.1 F.2.1 dX12_rings_124 rfl (lv_at hl 1 rfl) ?_
  refine lv_iload_n F.1 F.2.1 dX12_rings_125 rfl (lv_at hl 3 rfl) ?_
  refine lv_ior F.1 F.2.1 dX12_rings_126 ?_
  refine lv_istore_n (lv' := [(1, .int (x1 ||| x3)), (0, .ref (mA Z 0)), (2, .int x2), (3, .int x3)]) F.1 F.2.1 dX12_rings_127 rfl hl (by decide) rfl (fun ls hl => ?_)
  refine lv_aload_n F.1 F.2.1 dX12_rings_128 rfl (lv_at hl 1 rfl) ?_
  refine lv_iload_n F.1 F.2.1 dX12_rings_129 rfl (lv_at hl 3 rfl) ?_
  refine lv_i2l (v := x3.toInt64) F.1 F.2.1 dX12_rings_130 rfl ?_
  obtain ⟨mto_623, mrw_623, hc, hE⟩ := bnd2_some hE
  refine aft_v (run_V (rest := []) F (kX12_enters hc) (okM Z) C hS lkX12_239 ⟨Nat.le_of_ble_eq_true rfl, Nat.le_of_ble_eq_true rfl⟩ (rvM C hP) hP rfl hl.1 rfl (lv_room (Nat.le_of_ble_eq_true rfl)) dX12_rings_131 ⟨Nat.zero_le _, Nat.zero_le _⟩) hS (fun H locs hP hS => ?_)
  refine lv_iinc (v := x2 + 1) (lv' := [(2, .int (x2 + 1)), (1, .int (x1 ||| x3)), (0, .ref (mA Z 0)), (3, .int x3)]) F.1 F.2.1 dX12_rings_134 hl (k := 2) rfl rfl (by decide) rfl (fun ls hl => ?_)
  refine lv_goto (tgt := 14) F.1 F.2.1 dX12_rings_137 (by decide) ?_
  exact h14 mth mto_623 mrw_623 (x1 ||| x3) (x2 + 1) hE _ _ hP hS ls (lv_sub hl [2, 1, 0] rfl)
set_option maxRecDepth 100000 in
set_option maxHeartbeats 4000000 in
theorem qX12_rings_110 {p : Program} {l : Launch} {e : Env} {s : State} {m : MethodId} {args : Array Value} {below : List Frame} {meth : Method} {c : Code} {Z : ZC} {mta : Nat → Int32} {mtp : Int32} {mat : Int32} {mtt : Int32} {mme : Nat → Int32} {mun : Int32} {mde : Int32} {mco : Nat → Int32} {mcn : Nat → Int32} {mvi : Int32} {men : Int32} {mfa : Nat → Int32} {mac : Nat → Int32} {mfi : Nat → Int32} {mse : Nat → Int32} {mtd : Nat → Int32} {mra : Int32} {mkp : Nat → Int32} {N : Nat} {r' : Int32} {mth' : Int32} {mto' : Int32} {mrw' : Nat → Int64} (F : CallFix p m c cX12_rings 6 s args bigW RX12) (hr : meth.sig.returnType = (some .int)) (hlk : meth.locks = false) (C : KM Z s) {k14 : Int32 → Int32 → (Nat → Int64) → Int32 → Int32 → Option (Int32 × Int32 × Int32 × (Nat → Int64))} (h14 : ∀ (mth : Int32) (mto : Int32) (mrw : Nat → Int64) (x1 : Int32) (x2 : Int32), k14 mth mto mrw x1 x2 = some (r', mth', mto', mrw') → ∀ (H : Heap) (locs : List Loc), PM Z mth mto mrw mta mtp mat mtt mme mun mde mco mcn mvi men mfa mac mfi mse mtd mra mkp H → va_S (AM Z) s.heap H locs → ∀ ls : Array Slot, lv_has ls 6 [(0, .ref (mA Z 0)), (1, .int x1), (2, .int x2)] → W p l e (rmk 4 92) s m args below meth c H locs 0 0 (MQ below (Qi (KM Z) (AM Z) (PM Z mth' mto' mrw' mta mtp mat mtt mme mun mde mco mcn mvi men mfa mac mfi mse mtd mra mkp) r') args s 0 0 (AM Z)) (F0 m 14 ls [])) {k71 : Int32 → Int32 → (Nat → Int64) → Int32 → Int32 → Int32 → Int32 → Int32 → Option (Int32 × Int32 × Int32 × (Nat → Int64))} (h71 : ∀ (mth : Int32) (mto : Int32) (mrw : Nat → Int64) (x1 : Int32) (x2 : Int32) (x3 : Int32) (x4 : Int32) (x5 : Int32), k71 mth mto mrw x1 x2 x3 x4 x5 = some (r', mth', mto', mrw') → ∀ (H : Heap) (locs : List Loc), PM Z mth mto mrw mta mtp mat mtt mme mun mde mco mcn mvi men mfa mac mfi mse mtd mra mkp H → va_S (AM Z) s.heap H locs → ∀ ls : Array Slot, lv_has ls 6 [(0, .ref (mA Z 0)), (1, .int x1), (2, .int x2), (3, .int x3), (4, .int x4), (5, .int x5)] → W p l e (rmk 4 92) s m args below meth c H locs 0 0 (MQ below (Qi (KM Z) (AM Z) (PM Z mth' mto' mrw' mta mtp mat mtt mme mun mde mco mcn mvi men mfa mac mfi mse mtd mra mkp) r') args s 0 0 (AM Z)) (F0 m 71 ls [])) : ∀ (mth : Int32) (mto : Int32) (mrw : Nat → Int64) (x1 : Int32) (x2 : Int32) (x4 : Int32) (x5 : Int32) (y0 : Int32) (y1 : Int32), fX12_rings_110 N mme mde k14 k71 mth mto mrw x1 x2 x4 x5 y0 y1 = some (r', mth', mto', mrw') → ∀ (H : Heap) (locs : List Loc), PM Z mth mto mrw mta mtp mat mtt mme mun mde mco mcn mvi men mfa mac mfi mse mtd mra mkp H → va_S (AM Z) s.heap H locs → ∀ ls : Array Slot, lv_has ls 6 [(0, .ref (mA Z 0)), (1, .int x1), (2, .int x2), (4, .int x4), (5, .int x5)] → W p l e (rmk 4 92) s m args below meth c H locs 0 0 (MQ below (Qi (KM Z) (AM Z) (PM Z mth' mto' mrw' mta mtp mat mtt mme mun mde mco mcn mvi men mfa mac mfi mse mtd mra mkp) r') args s 0 0 (AM Z)) (F0 m 110 ls [.int y0, .int y1]) := by
  intro mth mto mrw x1 x2 x4 x5 y0 y1 hE H locs hP hS ls hl
  unfold fX12_rings_110 at hE
  obtain ⟨r624, hc, hE⟩ := bnd1_some hE
  refine aft_i (run_S (rest := [.int y1]) F (kX12_flag hc) (okM Z) C hS lkX12_167 ⟨Nat.le_of_ble_eq_true rfl, Nat.le_of_ble_eq_true rfl⟩ hP rfl hl.1 rfl (lv_room (Nat.le_of_ble_eq_true rfl)) dX12_rings_110 ⟨Nat.zero_le _, Nat.zero_le _⟩) hS (fun H locs hP hS => ?_)
  refine lv_iload F.1 F.2.1 dX12_rings_113 (lv_at hl 4 rfl) ?_
  refine rj_ishl F.1 F.2.1 dX12_rings_115 ?_
  refine lv_ior F.1 F.2.1 dX12_rings_116 ?_
  refine lv_istore_n (lv' := [(3, .int (y1 ||| (jshl r624 x5))), (0, .ref (mA Z 0)), (1, .int x1), (2, .int x2), (4, .int x4), (5, .int x5)]) F.1 F.2.1 dX12_rings_117 rfl hl (by decide) rfl (fun ls hl => ?_)
  refine lv_iinc (v := x5 + 1) (lv' := [(5, .int (x5 + 1)), (3, .int (y1 ||| (jshl r624 x5))), (0, .ref (mA Z 0)), (1, .int x1), (2, .int x2), (4, .int x4)]) F.1 F.2.1 dX12_rings_118 hl (k := 5) rfl rfl (by decide) rfl (fun ls hl => ?_)
  refine lv_goto (tgt := 71) F.1 F.2.1 dX12_rings_121 (by decide) ?_
  exact h71 mth mto mrw x1 x2 (y1 ||| (jshl r624 x5)) x4 (x5 + 1) hE _ _ hP hS ls (lv_sub hl [2, 3, 4, 1, 5, 0] rfl)
set_option maxRecDepth 100000 in
set_option maxHeartbeats 4000000 in
theorem qX12_rings_109 {p : Program} {l : Launch} {e : Env} {s : State} {m : MethodId} {args : Array Value} {below : List Frame} {meth : Method} {c : Code} {Z : ZC} {mta : Nat → Int32} {mtp : Int32} {mat : Int32} {mtt : Int32} {mme : Nat → Int32} {mun : Int32} {mde : Int32} {mco : Nat → Int32} {mcn : Nat → Int32} {mvi : Int32} {men : Int32} {mfa : Nat → Int32} {mac : Nat → Int32} {mfi : Nat → Int32} {mse : Nat → Int32} {mtd : Nat → Int32} {mra : Int32} {mkp : Nat → Int32} {N : Nat} {r' : Int32} {mth' : Int32} {mto' : Int32} {mrw' : Nat → Int64} (F : CallFix p m c cX12_rings 6 s args bigW RX12) (hr : meth.sig.returnType = (some .int)) (hlk : meth.locks = false) (C : KM Z s) {k14 : Int32 → Int32 → (Nat → Int64) → Int32 → Int32 → Option (Int32 × Int32 × Int32 × (Nat → Int64))} (h14 : ∀ (mth : Int32) (mto : Int32) (mrw : Nat → Int64) (x1 : Int32) (x2 : Int32), k14 mth mto mrw x1 x2 = some (r', mth', mto', mrw') → ∀ (H : Heap) (locs : List Loc), PM Z mth mto mrw mta mtp mat mtt mme mun mde mco mcn mvi men mfa mac mfi mse mtd mra mkp H → va_S (AM Z) s.heap H locs → ∀ ls : Array Slot, lv_has ls 6 [(0, .ref (mA Z 0)), (1, .int x1), (2, .int x2)] → W p l e (rmk 4 92) s m args below meth c H locs 0 0 (MQ below (Qi (KM Z) (AM Z) (PM Z mth' mto' mrw' mta mtp mat mtt mme mun mde mco mcn mvi men mfa mac mfi mse mtd mra mkp) r') args s 0 0 (AM Z)) (F0 m 14 ls [])) {k71 : Int32 → Int32 → (Nat → Int64) → Int32 → Int32 → Int32 → Int32 → Int32 → Option (Int32 × Int32 × Int32 × (Nat → Int64))} (h71 : ∀ (mth : Int32) (mto : Int32) (mrw : Nat → Int64) (x1 : Int32) (x2 : Int32) (x3 : Int32) (x4 : Int32) (x5 : Int32), k71 mth mto mrw x1 x2 x3 x4 x5 = some (r', mth', mto', mrw') → ∀ (H : Heap) (locs : List Loc), PM Z mth mto mrw mta mtp mat mtt mme mun mde mco mcn mvi men mfa mac mfi mse mtd mra mkp H → va_S (AM Z) s.heap H locs → ∀ ls : Array Slot, lv_has ls 6 [(0, .ref (mA Z 0)), (1, .int x1), (2, .int x2), (3, .int x3), (4, .int x4), (5, .int x5)] → W p l e (rmk 4 92) s m args below meth c H locs 0 0 (MQ below (Qi (KM Z) (AM Z) (PM Z mth' mto' mrw' mta mtp mat mtt mme mun mde mco mcn mvi men mfa mac mfi mse mtd mra mkp) r') args s 0 0 (AM Z)) (F0 m 71 ls [])) : ∀ (mth : Int32) (mto : Int32) (mrw : Nat → Int64) (x1 : Int32) (x2 : Int32) (x4 : Int32) (x5 : Int32) (y0 : Int32), fX12_rings_109 N mme mde k14 k71 mth mto mrw x1 x2 x4 x5 y0 = some (r', mth', mto', mrw') → ∀ (H : Heap) (locs : List Loc), PM Z mth mto mrw mta mtp mat mtt mme mun mde mco mcn mvi men mfa mac mfi mse mtd mra mkp H → va_S (AM Z) s.heap H locs → ∀ ls : Array Slot, lv_has ls 6 [(0, .ref (mA Z 0)), (1, .int x1), (2, .int x2), (4, .int x4), (5, .int x5)] → W p l e (rmk 4 92) s m args below meth c H locs 0 0 (MQ below (Qi (KM Z) (AM Z) (PM Z mth' mto' mrw' mta mtp mat mtt mme mun mde mco mcn mvi men mfa mac mfi mse mtd mra mkp) r') args s 0 0 (AM Z)) (F0 m 109 ls [.int y0]) := by
  intro mth mto mrw x1 x2 x4 x5 y0 hE H locs hP hS ls hl
  unfold fX12_rings_109 at hE
  refine lv_iconst (v := 0) F.1 F.2.1 dX12_rings_109 (by decide) ?_
  exact qX12_rings_110 F hr hlk C h14 h71 mth mto mrw x1 x2 x4 x5 0 y0 hE _ _ hP hS ls (lv_sub hl [0, 1, 2, 3, 4] rfl)
set_option maxRecDepth 100000 in
set_option maxHeartbeats 4000000 in
theorem qX12_rings_71 {p : Program} {l : Launch} {e : Env} {s : State} {m : MethodId} {args : Array Value} {below : List Frame} {meth : Method} {c : Code} {Z : ZC} {mta : Nat → Int32} {mtp : Int32} {mat : Int32} {mtt : Int32} {mme : Nat → Int32} {mun : Int32} {mde : Int32} {mco : Nat → Int32} {mcn : Nat → Int32} {mvi : Int32} {men : Int32} {mfa : Nat → Int32} {mac : Nat → Int32} {mfi : Nat → Int32} {mse : Nat → Int32} {mtd : Nat → Int32} {mra : Int32} {mkp : Nat → Int32} {N : Nat} {r' : Int32} {mth' : Int32} {mto' : Int32} {mrw' : Nat → Int64} (F : CallFix p m c cX12_rings 6 s args bigW RX12) (hr : meth.sig.returnType = (some .int)) (hlk : meth.locks = false) (C : KM Z s) {k14 : Int32 → Int32 → (Nat → Int64) → Int32 → Int32 → Option (Int32 × Int32 × Int32 × (Nat → Int64))} (h14 : ∀ (mth : Int32) (mto : Int32) (mrw : Nat → Int64) (x1 : Int32) (x2 : Int32), k14 mth mto mrw x1 x2 = some (r', mth', mto', mrw') → ∀ (H : Heap) (locs : List Loc), PM Z mth mto mrw mta mtp mat mtt mme mun mde mco mcn mvi men mfa mac mfi mse mtd mra mkp H → va_S (AM Z) s.heap H locs → ∀ ls : Array Slot, lv_has ls 6 [(0, .ref (mA Z 0)), (1, .int x1), (2, .int x2)] → W p l e (rmk 4 92) s m args below meth c H locs 0 0 (MQ below (Qi (KM Z) (AM Z) (PM Z mth' mto' mrw' mta mtp mat mtt mme mun mde mco mcn mvi men mfa mac mfi mse mtd mra mkp) r') args s 0 0 (AM Z)) (F0 m 14 ls [])) : ∀ n : Nat, ∀ (mth : Int32) (mto : Int32) (mrw : Nat → Int64) (x1 : Int32) (x2 : Int32) (x3 : Int32) (x4 : Int32) (x5 : Int32), fX12_rings_71 N mme mde k14 n mth mto mrw x1 x2 x3 x4 x5 = some (r', mth', mto', mrw') → ∀ (H : Heap) (locs : List Loc), PM Z mth mto mrw mta mtp mat mtt mme mun mde mco mcn mvi men mfa mac mfi mse mtd mra mkp H → va_S (AM Z) s.heap H locs → ∀ ls : Array Slot, lv_has ls 6 [(0, .ref (mA Z 0)), (1, .int x1), (2, .int x2), (3, .int x3), (4, .int x4), (5, .int x5)] → W p l e (rmk 4 92) s m args below meth c H locs 0 0 (MQ below (Qi (KM Z) (AM Z) (PM Z mth' mto' mrw' mta mtp mat mtt mme mun mde mco mcn mvi men mfa mac mfi mse mtd mra mkp) r') args s 0 0 (AM Z)) (F0 m 71 ls []) := by
  intro n
  induction n with
  | zero => intro mth mto mrw x1 x2 x3 x4 x5 hE; cases hE
  | succ n h71 =>
    intro mth mto mrw x1 x2 x3 x4 x5 hE H locs hP hS ls hl
    have hE : fX12_rings_71b N mme mde k14 (fX12_rings_71 N mme mde k14 n) mth mto mrw x1 x2 x3 x4 x5 = some (r', mth', mto', mrw') := hE
    refine lv_iload F.1 F.2.1 dX12_rings_71 (lv_at hl 5 rfl) ?_
    refine lv_bipush (v := 24) F.1 F.2.1 dX12_rings_73 (by decide) ?_
    refine lv_icmp_ge (tgt := 124) F.1 F.2.1 dX12_rings_75 (by decide) (fun hc => ?_) (fun hc => ?_)
    · have hE := ifp hE hc
      exact qX12_rings_124 F hr hlk C h14 mth mto mrw x1 x2 x3 hE _ _ hP hS ls (lv_sub hl [0, 1, 2, 3] rfl)
    · have hE := ifn hE hc
      refine lv_iload_n F.1 F.2.1 dX12_rings_78 rfl (lv_at hl 3 rfl) ?_
      refine lv_iload F.1 F.2.1 dX12_rings_79 (lv_at hl 4 rfl) ?_
      refine lv_iload F.1 F.2.1 dX12_rings_81 (lv_at hl 5 rfl) ?_
      obtain ⟨r620, hc, hE⟩ := bnd1_some hE
      refine aft_i (run_S (rest := [.int x3]) F (kX12_has hc) (okM Z) C hS lkX12_171 ⟨Nat.le_of_ble_eq_true rfl, Nat.le_of_ble_eq_true rfl⟩ hP rfl hl.1 rfl (lv_room (Nat.le_of_ble_eq_true rfl)) dX12_rings_83 ⟨Nat.zero_le _, Nat.zero_le _⟩) hS (fun H locs hP hS => ?_)
      refine lv_if_eq (tgt := 109) F.1 F.2.1 dX12_rings_86 (by decide) (fun hc => ?_) (fun hc => ?_)
      · have hE := ifp hE hc
        exact qX12_rings_109 F hr hlk C h14 h71 mth mto mrw x1 x2 x4 x5 x3 hE _ _ hP hS ls (lv_sub hl [0, 1, 2, 4, 5] rfl)
      · have hE := ifn hE hc
        refine lv_aload_n F.1 F.2.1 dX12_rings_89 rfl (lv_at hl 0 rfl) ?_
        refine lv_iconst (v := 1) F.1 F.2.1 dX12_rings_90 (by decide) ?_
        refine lv_iload F.1 F.2.1 dX12_rings_91 (lv_at hl 5 rfl) ?_
        refine rj_ishl F.1 F.2.1 dX12_rings_93 ?_
        refine lv_iconst (v := 0) F.1 F.2.1 dX12_rings_94 (by decide) ?_
        obtain ⟨r621, hc, hE⟩ := bnd1_some hE
        refine aft_i (run_V (rest := [.int x3]) F (kX12_reach hc) (okM Z) C hS lkX12_199 ⟨Nat.le_of_ble_eq_true rfl, Nat.le_of_ble_eq_true rfl⟩ (rvM C hP) hP rfl hl.1 rfl (lv_room (Nat.le_of_ble_eq_true rfl)) dX12_rings_95 ⟨Nat.zero_le _, Nat.zero_le _⟩) hS (fun H locs hP hS => ?_)
        refine lv_iload_n F.1 F.2.1 dX12_rings_98 rfl (lv_at hl 2 rfl) ?_
        obtain ⟨r622, hc, hE⟩ := bnd1_some hE
        refine aft_i (run_S (rest := [.int x3]) F (kX12_has hc) (okM Z) C hS lkX12_171 ⟨Nat.le_of_ble_eq_true rfl, Nat.le_of_ble_eq_true rfl⟩ hP rfl hl.1 rfl (lv_room (Nat.le_of_ble_eq_true rfl)) dX12_rings_99 ⟨Nat.zero_le _, Nat.zero_le _⟩) hS (fun H locs hP hS => ?_)
        refine lv_if_eq (tgt := 109) F.1 F.2.1 dX12_rings_102 (by decide) (fun hc => ?_) (fun hc => ?_)
        · have hE := ifp hE hc
          exact qX12_rings_109 F hr hlk C h14 h71 mth mto mrw x1 x2 x4 x5 x3 hE _ _ hP hS ls (lv_sub hl [0, 1, 2, 4, 5] rfl)
        · have hE := ifn hE hc
          refine lv_iconst (v := 1) F.1 F.2.1 dX12_rings_105 (by decide) ?_
          refine lv_goto (tgt := 110) F.1 F.2.1 dX12_rings_106 (by decide) ?_
          exact qX12_rings_110 F hr hlk C h14 h71 mth mto mrw x1 x2 x4 x5 1 x3 hE _ _ hP hS ls (lv_sub hl [0, 1, 2, 4, 5] rfl)
set_option maxRecDepth 100000 in
set_option maxHeartbeats 4000000 in
theorem qX12_rings_14 {p : Program} {l : Launch} {e : Env} {s : State} {m : MethodId} {args : Array Value} {below : List Frame} {meth : Method} {c : Code} {Z : ZC} {mta : Nat → Int32} {mtp : Int32} {mat : Int32} {mtt : Int32} {mme : Nat → Int32} {mun : Int32} {mde : Int32} {mco : Nat → Int32} {mcn : Nat → Int32} {mvi : Int32} {men : Int32} {mfa : Nat → Int32} {mac : Nat → Int32} {mfi : Nat → Int32} {mse : Nat → Int32} {mtd : Nat → Int32} {mra : Int32} {mkp : Nat → Int32} {N : Nat} {r' : Int32} {mth' : Int32} {mto' : Int32} {mrw' : Nat → Int64} (F : CallFix p m c cX12_rings 6 s args bigW RX12) (hr : meth.sig.returnType = (some .int)) (hlk : meth.locks = false) (C : KM Z s) : ∀ n : Nat, ∀ (mth : Int32) (mto : Int32) (mrw : Nat → Int64) (x1 : Int32) (x2 : Int32), fX12_rings_14 N mme mde n mth mto mrw x1 x2 = some (r', mth', mto', mrw') → ∀ (H : Heap) (locs : List Loc), PM Z mth mto mrw mta mtp mat mtt mme mun mde mco mcn mvi men mfa mac mfi mse mtd mra mkp H → va_S (AM Z) s.heap H locs → ∀ ls : Array Slot, lv_has ls 6 [(0, .ref (mA Z 0)), (1, .int x1), (2, .int x2)] → W p l e (rmk 4 92) s m args below meth c H locs 0 0 (MQ below (Qi (KM Z) (AM Z) (PM Z mth' mto' mrw' mta mtp mat mtt mme mun mde mco mcn mvi men mfa mac mfi mse mtd mra mkp) r') args s 0 0 (AM Z)) (F0 m 14 ls []) := by
  intro n
  induction n with
  | zero => intro mth mto mrw x1 x2 hE; cases hE
  | succ n h14 =>
    intro mth mto mrw x1 x2 hE H locs hP hS ls hl
    have hE : fX12_rings_14b N mme mde (fX12_rings_14 N mme mde n) mth mto mrw x1 x2 = some (r', mth', mto', mrw') := hE
    refine lv_iload_n F.1 F.2.1 dX12_rings_14 rfl (lv_at hl 2 rfl) ?_
    refine lv_bipush (v := 24) F.1 F.2.1 dX12_rings_15 (by decide) ?_
    refine lv_icmp_ge (tgt := 140) F.1 F.2.1 dX12_rings_17 (by decide) (fun hc => ?_) (fun hc => ?_)
    · have hE := ifp hE hc
      refine lv_aload_n F.1 F.2.1 dX12_rings_140 rfl (lv_at hl 0 rfl) ?_
      refine gX12_11 F C hP dX12_rings_141 ?_
      have w0 := Option.some.inj hE
      obtain ⟨g0, w1⟩ := Prod.mk.inj w0
      obtain ⟨g1, w2⟩ := Prod.mk.inj w1
      obtain ⟨g2, w3⟩ := Prod.mk.inj w2
      subst g0 g1 g2 w3
      exact ret_i F hr hlk hP hS dX12_rings_144
    · have hE := ifn hE hc
      refine lv_aload_n F.1 F.2.1 dX12_rings_20 rfl (lv_at hl 0 rfl) ?_
      refine lv_iload_n F.1 F.2.1 dX12_rings_21 rfl (lv_at hl 2 rfl) ?_
      obtain ⟨r614, hc, hE⟩ := bnd1_some hE
      refine aft_i (run_V (rest := []) F (kX12_isThere hc) (okM Z) C hS lkX12_216 ⟨Nat.le_of_ble_eq_true rfl, Nat.le_of_ble_eq_true rfl⟩ (rvM C hP) hP rfl hl.1 rfl (lv_room (Nat.le_of_ble_eq_true rfl)) dX12_rings_22 ⟨Nat.zero_le _, Nat.zero_le _⟩) hS (fun H locs hP hS => ?_)
      refine lv_if_eq (tgt := 134) F.1 F.2.1 dX12_rings_25 (by decide) (fun hc => ?_) (fun hc => ?_)
      · have hE := ifp hE hc
        refine lv_iinc (v := x2 + 1) (lv' := [(2, .int (x2 + 1)), (0, .ref (mA Z 0)), (1, .int x1)]) F.1 F.2.1 dX12_rings_134 hl (k := 2) rfl rfl (by decide) rfl (fun ls hl => ?_)
        refine lv_goto (tgt := 14) F.1 F.2.1 dX12_rings_137 (by decide) ?_
        exact h14 mth mto mrw x1 (x2 + 1) hE _ _ hP hS ls (lv_sub hl [1, 2, 0] rfl)
      · have hE := ifn hE hc
        refine lv_iload_n F.1 F.2.1 dX12_rings_28 rfl (lv_at hl 1 rfl) ?_
        refine lv_iload_n F.1 F.2.1 dX12_rings_29 rfl (lv_at hl 2 rfl) ?_
        obtain ⟨r615, hc, hE⟩ := bnd1_some hE
        refine aft_i (run_S (rest := []) F (kX12_has hc) (okM Z) C hS lkX12_171 ⟨Nat.le_of_ble_eq_true rfl, Nat.le_of_ble_eq_true rfl⟩ hP rfl hl.1 rfl (lv_room (Nat.le_of_ble_eq_true rfl)) dX12_rings_30 ⟨Nat.zero_le _, Nat.zero_le _⟩) hS (fun H locs hP hS => ?_)
        refine lv_if_ne (tgt := 134) F.1 F.2.1 dX12_rings_33 (by decide) (fun hc => ?_) (fun hc => ?_)
        · have hE := ifn hE hc
          refine lv_iinc (v := x2 + 1) (lv' := [(2, .int (x2 + 1)), (0, .ref (mA Z 0)), (1, .int x1)]) F.1 F.2.1 dX12_rings_134 hl (k := 2) rfl rfl (by decide) rfl (fun ls hl => ?_)
          refine lv_goto (tgt := 14) F.1 F.2.1 dX12_rings_137 (by decide) ?_
          exact h14 mth mto mrw x1 (x2 + 1) hE _ _ hP hS ls (lv_sub hl [1, 2, 0] rfl)
        · have hE := ifp hE hc
          refine lv_aload_n F.1 F.2.1 dX12_rings_36 rfl (lv_at hl 0 rfl) ?_
          refine lv_aload_n F.1 F.2.1 dX12_rings_37 rfl (lv_at hl 0 rfl) ?_
          refine lv_iload_n F.1 F.2.1 dX12_rings_38 rfl (lv_at hl 2 rfl) ?_
          obtain ⟨r616, hc, hE⟩ := bnd1_some hE
          refine aft_i (run_V (rest := [.ref (mA Z 0)]) F (kX12_next hc) (okM Z) C hS lkX12_193 ⟨Nat.le_of_ble_eq_true rfl, Nat.le_of_ble_eq_true rfl⟩ (rvM C hP) hP rfl hl.1 rfl (lv_room (Nat.le_of_ble_eq_true rfl)) dX12_rings_39 ⟨Nat.zero_le _, Nat.zero_le _⟩) hS (fun H locs hP hS => ?_)
          refine lv_iconst (v := 0) F.1 F.2.1 dX12_rings_42 (by decide) ?_
          obtain ⟨r617, hc, hE⟩ := bnd1_some hE
          refine aft_i (run_V (rest := []) F (kX12_reach hc) (okM Z) C hS lkX12_199 ⟨Nat.le_of_ble_eq_true rfl, Nat.le_of_ble_eq_true rfl⟩ (rvM C hP) hP rfl hl.1 rfl (lv_room (Nat.le_of_ble_eq_true rfl)) dX12_rings_43 ⟨Nat.zero_le _, Nat.zero_le _⟩) hS (fun H locs hP hS => ?_)
          refine lv_iload_n F.1 F.2.1 dX12_rings_46 rfl (lv_at hl 2 rfl) ?_
          obtain ⟨r618, hc, hE⟩ := bnd1_some hE
          refine aft_i (run_S (rest := []) F (kX12_has hc) (okM Z) C hS lkX12_171 ⟨Nat.le_of_ble_eq_true rfl, Nat.le_of_ble_eq_true rfl⟩ hP rfl hl.1 rfl (lv_room (Nat.le_of_ble_eq_true rfl)) dX12_rings_47 ⟨Nat.zero_le _, Nat.zero_le _⟩) hS (fun H locs hP hS => ?_)
          refine lv_if_ne (tgt := 56) F.1 F.2.1 dX12_rings_50 (by decide) (fun hc => ?_) (fun hc => ?_)
          · have hE := ifn hE hc
            refine lv_iconst (v := 0) F.1 F.2.1 dX12_rings_56 (by decide) ?_
            refine lv_istore_n (lv' := [(3, .int 0), (0, .ref (mA Z 0)), (1, .int x1), (2, .int x2)]) F.1 F.2.1 dX12_rings_57 rfl hl (by decide) rfl (fun ls hl => ?_)
            refine lv_aload_n F.1 F.2.1 dX12_rings_58 rfl (lv_at hl 1 rfl) ?_
            refine lv_iconst (v := 1) F.1 F.2.1 dX12_rings_59 (by decide) ?_
            refine lv_iload_n F.1 F.2.1 dX12_rings_60 rfl (lv_at hl 3 rfl) ?_
            refine rj_ishl F.1 F.2.1 dX12_rings_61 ?_
            refine lv_iconst (v := 0) F.1 F.2.1 dX12_rings_62 (by decide) ?_
            obtain ⟨r619, hc, hE⟩ := bnd1_some hE
            refine aft_i (run_V (rest := []) F (kX12_reach hc) (okM Z) C hS lkX12_199 ⟨Nat.le_of_ble_eq_true rfl, Nat.le_of_ble_eq_true rfl⟩ (rvM C hP) hP rfl hl.1 rfl (lv_room (Nat.le_of_ble_eq_true rfl)) dX12_rings_63 ⟨Nat.zero_le _, Nat.zero_le _⟩) hS (fun H locs hP hS => ?_)
            refine lv_istore (lv' := [(4, .int r619), (3, .int 0), (0, .ref (mA Z 0)), (1, .int x1), (2, .int x2)]) F.1 F.2.1 dX12_rings_66 hl (by decide) rfl (fun ls hl => ?_)
            refine lv_iconst (v := 0) F.1 F.2.1 dX12_rings_68 (by decide) ?_
            refine lv_istore (lv' := [(5, .int 0), (4, .int r619), (3, .int 0), (0, .ref (mA Z 0)), (1, .int x1), (2, .int x2)]) F.1 F.2.1 dX12_rings_69 hl (by decide) rfl (fun ls hl => ?_)
            exact qX12_rings_71 F hr hlk C h14 N mth mto mrw x1 x2 0 r619 0 hE _ _ hP hS ls (lv_sub hl [3, 4, 5, 2, 1, 0] rfl)
          · have hE := ifp hE hc
            refine lv_goto (tgt := 134) F.1 F.2.1 dX12_rings_53 (by decide) ?_
            refine lv_iinc (v := x2 + 1) (lv' := [(2, .int (x2 + 1)), (0, .ref (mA Z 0)), (1, .int x1)]) F.1 F.2.1 dX12_rings_134 hl (k := 2) rfl rfl (by decide) rfl (fun ls hl => ?_)
            refine lv_goto (tgt := 14) F.1 F.2.1 dX12_rings_137 (by decide) ?_
            exact h14 mth mto mrw x1 (x2 + 1) hE _ _ hP hS ls (lv_sub hl [1, 2, 0] rfl)
set_option maxRecDepth 100000 in
set_option maxHeartbeats 4000000 in
theorem kX12_rings {l : Launch} {Z : ZC} {mth : Int32} {mto : Int32} {mrw : Nat → Int64} {mta : Nat → Int32} {mtp : Int32} {mat : Int32} {mtt : Int32} {mme : Nat → Int32} {mun : Int32} {mde : Int32} {mco : Nat → Int32} {mcn : Nat → Int32} {mvi : Int32} {men : Int32} {mfa : Nat → Int32} {mac : Nat → Int32} {mfi : Nat → Int32} {mse : Nat → Int32} {mtd : Nat → Int32} {mra : Int32} {mkp : Nat → Int32} {N : Nat} {r' : Int32} {mth' : Int32} {mto' : Int32} {mrw' : Nat → Int64} (hE : fX12_rings N mth mto mrw mme mde = some (r', mth', mto', mrw')) : Mg l yX12_rings cX12_rings 6 (some .int) (rmk 4 92) (KM Z) (AM Z) [.ref (mA Z 0)] (PM Z mth mto mrw mta mtp mat mtt mme mun mde mco mcn mvi men mfa mac mfi mse mtd mra mkp) (Qi (KM Z) (AM Z) (PM Z mth' mto' mrw' mta mtp mat mtt mme mun mde mco mcn mvi men mfa mac mfi mse mtd mra mkp) r') := by
  refine Mg.start (lv := [(0, .ref (mA Z 0))]) (by decide) rfl (Nat.le_of_ble_eq_true rfl) rfl ?_
  intro p e s m below meth c F hr hlk C hP ls hl
  have hS : va_S (AM Z) s.heap s.heap [] := va_S.rf
  unfold fX12_rings at hE
  refine lv_aload_n F.1 F.2.1 dX12_rings_0 rfl (lv_at hl 0 rfl) ?_
  refine lv_iconst (v := 0) F.1 F.2.1 dX12_rings_1 (by decide) ?_
  refine pX12_1 F C hP hS rfl dX12_rings_2 (fun H locs hP hS => ?_)
  refine lv_aload_n F.1 F.2.1 dX12_rings_5 rfl (lv_at hl 0 rfl) ?_
  refine lv_iconst (v := 0) F.1 F.2.1 dX12_rings_6 (by decide) ?_
  refine pX12_11 F C hP hS rfl dX12_rings_7 (fun H locs hP hS => ?_)
  refine lv_iconst (v := 0) F.1 F.2.1 dX12_rings_10 (by decide) ?_
  refine lv_istore_n (lv' := [(1, .int 0), (0, .ref (mA Z 0))]) F.1 F.2.1 dX12_rings_11 rfl hl (by decide) rfl (fun ls hl => ?_)
  refine lv_iconst (v := 0) F.1 F.2.1 dX12_rings_12 (by decide) ?_
  refine lv_istore_n (lv' := [(2, .int 0), (1, .int 0), (0, .ref (mA Z 0))]) F.1 F.2.1 dX12_rings_13 rfl hl (by decide) rfl (fun ls hl => ?_)
  exact qX12_rings_14 F hr hlk C N 0 0 mrw 0 0 hE _ _ hP hS ls (lv_sub hl [2, 1, 0] rfl)
set_option maxRecDepth 100000 in
set_option maxHeartbeats 4000000 in
theorem kX12_aloneWith {l : Launch} {Z : ZC} {mth : Int32} {mto : Int32} {mrw : Nat → Int64} {mta : Nat → Int32} {mtp : Int32} {mat : Int32} {mtt : Int32} {mme : Nat → Int32} {mun : Int32} {mde : Int32} {mco : Nat → Int32} {mcn : Nat → Int32} {mvi : Int32} {men : Int32} {mfa : Nat → Int32} {mac : Nat → Int32} {mfi : Nat → Int32} {mse : Nat → Int32} {mtd : Nat → Int32} {mra : Int32} {mkp : Nat → Int32} {N : Nat} {p1 : Int32} {r' : Int32} (hE : fX12_aloneWith N mme mde p1 = some r') : Mg l yX12_aloneWith cX12_aloneWith 3 (some .int) (rmk 5 112) (KM Z) (AM Z) [.ref (mA Z 0), .int p1] (PM Z mth mto mrw mta mtp mat mtt mme mun mde mco mcn mvi men mfa mac mfi mse mtd mra mkp) (Qi (KM Z) (AM Z) (PM Z mth mto mrw mta mtp mat mtt mme mun mde mco mcn mvi men mfa mac mfi mse mtd mra mkp) r') := by
  refine Mg.start (lv := [(0, .ref (mA Z 0)), (1, .int p1)]) (by decide) rfl (Nat.le_of_ble_eq_true rfl) rfl ?_
  intro p e s m below meth c F hr hlk C hP ls hl
  have hS : va_S (AM Z) s.heap s.heap [] := va_S.rf
  unfold fX12_aloneWith at hE
  refine lv_aload_n F.1 F.2.1 dX12_aloneWith_0 rfl (lv_at hl 0 rfl) ?_
  obtain ⟨r629, hc, hE⟩ := bnd1_some hE
  refine aft_i (run_V (rest := []) F (kX12_reached hc) (okM Z) C hS lkX12_202 ⟨Nat.le_of_ble_eq_true rfl, Nat.le_of_ble_eq_true rfl⟩ (rvM C hP) hP rfl hl.1 rfl (lv_room (Nat.le_of_ble_eq_true rfl)) dX12_aloneWith_1 ⟨Nat.zero_le _, Nat.zero_le _⟩) hS (fun H locs hP hS => ?_)
  refine lv_istore_n (lv' := [(2, .int r629), (0, .ref (mA Z 0)), (1, .int p1)]) F.1 F.2.1 dX12_aloneWith_4 rfl hl (by decide) rfl (fun ls hl => ?_)
  refine lv_iload_n F.1 F.2.1 dX12_aloneWith_5 rfl (lv_at hl 0 rfl) ?_
  refine lv_iload_n F.1 F.2.1 dX12_aloneWith_6 rfl (lv_at hl 2 rfl) ?_
  obtain ⟨r630, hc, hE⟩ := bnd1_some hE
  refine aft_i (run_S (rest := []) F (kX12_has hc) (okM Z) C hS lkX12_171 ⟨Nat.le_of_ble_eq_true rfl, Nat.le_of_ble_eq_true rfl⟩ hP rfl hl.1 rfl (lv_room (Nat.le_of_ble_eq_true rfl)) dX12_aloneWith_7 ⟨Nat.zero_le _, Nat.zero_le _⟩) hS (fun H locs hP hS => ?_)
  refine lv_if_eq (tgt := 32) F.1 F.2.1 dX12_aloneWith_10 (by decide) (fun hc => ?_) (fun hc => ?_)
  · have hE := ifp hE hc
    refine lv_iconst (v := 0) F.1 F.2.1 dX12_aloneWith_32 (by decide) ?_
    obtain rfl := Option.some.inj hE
    exact ret_i F hr hlk hP hS dX12_aloneWith_33
  · have hE := ifn hE hc
    refine lv_iload_n F.1 F.2.1 dX12_aloneWith_13 rfl (lv_at hl 0 rfl) ?_
    refine lv_aload_n F.1 F.2.1 dX12_aloneWith_14 rfl (lv_at hl 1 rfl) ?_
    refine lv_aload_n F.1 F.2.1 dX12_aloneWith_15 rfl (lv_at hl 1 rfl) ?_
    refine lv_iconst (v := 0) F.1 F.2.1 dX12_aloneWith_16 (by decide) ?_
    obtain ⟨r631, hc, hE⟩ := bnd1_some hE
    refine aft_i (run_V (rest := [.ref (mA Z 0), .int r629]) F (kX12_inRoots hc) (okM Z) C hS lkX12_196 ⟨Nat.le_of_ble_eq_true rfl, Nat.le_of_ble_eq_true rfl⟩ (rvM C hP) hP rfl hl.1 rfl (lv_room (Nat.le_of_ble_eq_true rfl)) dX12_aloneWith_17 ⟨Nat.zero_le _, Nat.zero_le _⟩) hS (fun H locs hP hS => ?_)
    refine lv_iconst (v := 1) F.1 F.2.1 dX12_aloneWith_20 (by decide) ?_
    refine lv_iload_n F.1 F.2.1 dX12_aloneWith_21 rfl (lv_at hl 2 rfl) ?_
    refine rj_ishl F.1 F.2.1 dX12_aloneWith_22 ?_
    obtain ⟨r632, hc, hE⟩ := bnd1_some hE
    refine aft_i (run_V (rest := [.int r629]) F (kX12_reach hc) (okM Z) C hS lkX12_199 ⟨Nat.le_of_ble_eq_true rfl, Nat.le_of_ble_eq_true rfl⟩ (rvM C hP) hP rfl hl.1 rfl (lv_room (Nat.le_of_ble_eq_true rfl)) dX12_aloneWith_23 ⟨Nat.zero_le _, Nat.zero_le _⟩) hS (fun H locs hP hS => ?_)
    refine lv_iconst (v := (-1)) F.1 F.2.1 dX12_aloneWith_26 (by decide) ?_
    refine lv_ixor F.1 F.2.1 dX12_aloneWith_27 ?_
    refine lv_iand F.1 F.2.1 dX12_aloneWith_28 ?_
    refine lv_goto (tgt := 33) F.1 F.2.1 dX12_aloneWith_29 (by decide) ?_
    obtain rfl := Option.some.inj hE
    exact ret_i F hr hlk hP hS dX12_aloneWith_33
set_option maxRecDepth 100000 in
set_option maxHeartbeats 4000000 in
theorem kX12_alone {l : Launch} {Z : ZC} {mth : Int32} {mto : Int32} {mrw : Nat → Int64} {mta : Nat → Int32} {mtp : Int32} {mat : Int32} {mtt : Int32} {mme : Nat → Int32} {mun : Int32} {mde : Int32} {mco : Nat → Int32} {mcn : Nat → Int32} {mvi : Int32} {men : Int32} {mfa : Nat → Int32} {mac : Nat → Int32} {mfi : Nat → Int32} {mse : Nat → Int32} {mtd : Nat → Int32} {mra : Int32} {mkp : Nat → Int32} {N : Nat} {p1 : Int32} {r' : Int32} {mth' : Int32} {mto' : Int32} {mrw' : Nat → Int64} (hE : fX12_alone N mth mto mrw mme mde p1 = some (r', mth', mto', mrw')) : Mg l yX12_alone cX12_alone 3 (some .int) (rmk 6 134) (KM Z) (AM Z) [.ref (mA Z 0), .int p1] (PM Z mth mto mrw mta mtp mat mtt mme mun mde mco mcn mvi men mfa mac mfi mse mtd mra mkp) (Qi (KM Z) (AM Z) (PM Z mth' mto' mrw' mta mtp mat mtt mme mun mde mco mcn mvi men mfa mac mfi mse mtd mra mkp) r') := by
  refine Mg.start (lv := [(0, .ref (mA Z 0)), (1, .int p1)]) (by decide) rfl (Nat.le_of_ble_eq_true rfl) rfl ?_
  intro p e s m below meth c F hr hlk C hP ls hl
  have hS : va_S (AM Z) s.heap s.heap [] := va_S.rf
  unfold fX12_alone at hE
  refine lv_aload_n F.1 F.2.1 dX12_alone_0 rfl (lv_at hl 0 rfl) ?_
  refine lv_iconst (v := 0) F.1 F.2.1 dX12_alone_1 (by decide) ?_
  refine pX12_1 F C hP hS rfl dX12_alone_2 (fun H locs hP hS => ?_)
  refine lv_aload_n F.1 F.2.1 dX12_alone_5 rfl (lv_at hl 0 rfl) ?_
  refine lv_iload_n F.1 F.2.1 dX12_alone_6 rfl (lv_at hl 1 rfl) ?_
  obtain ⟨r638, hc, hE⟩ := bnd1_some hE
  refine aft_i (run_V (rest := []) F (kX12_isThere hc) (okM Z) C hS lkX12_216 ⟨Nat.le_of_ble_eq_true rfl, Nat.le_of_ble_eq_true rfl⟩ (rvM C hP) hP rfl hl.1 rfl (lv_room (Nat.le_of_ble_eq_true rfl)) dX12_alone_7 ⟨Nat.zero_le _, Nat.zero_le _⟩) hS (fun H locs hP hS => ?_)
  refine lv_if_ne (tgt := 15) F.1 F.2.1 dX12_alone_10 (by decide) (fun hc => ?_) (fun hc => ?_)
  · have hE := ifn hE hc
    refine lv_aload_n F.1 F.2.1 dX12_alone_15 rfl (lv_at hl 0 rfl) ?_
    refine lv_iload_n F.1 F.2.1 dX12_alone_16 rfl (lv_at hl 1 rfl) ?_
    obtain ⟨r639, hc, hE⟩ := bnd1_some hE
    refine aft_i (run_V (rest := []) F (kX12_isReached hc) (okM Z) C hS lkX12_222 ⟨Nat.le_of_ble_eq_true rfl, Nat.le_of_ble_eq_true rfl⟩ (rvM C hP) hP rfl hl.1 rfl (lv_room (Nat.le_of_ble_eq_true rfl)) dX12_alone_17 ⟨Nat.zero_le _, Nat.zero_le _⟩) hS (fun H locs hP hS => ?_)
    refine lv_if_ne (tgt := 26) F.1 F.2.1 dX12_alone_20 (by decide) (fun hc => ?_) (fun hc => ?_)
    · have hE := ifn hE hc
      refine lv_aload_n F.1 F.2.1 dX12_alone_26 rfl (lv_at hl 0 rfl) ?_
      refine lv_iload_n F.1 F.2.1 dX12_alone_27 rfl (lv_at hl 1 rfl) ?_
      obtain ⟨r640, hc, hE⟩ := bnd1_some hE
      refine aft_i (run_V (rest := []) F (kX12_aloneWith hc) (okM Z) C hS lkX12_288 ⟨Nat.le_of_ble_eq_true rfl, Nat.le_of_ble_eq_true rfl⟩ (rvM C hP) hP rfl hl.1 rfl (lv_room (Nat.le_of_ble_eq_true rfl)) dX12_alone_28 ⟨Nat.zero_le _, Nat.zero_le _⟩) hS (fun H locs hP hS => ?_)
      refine lv_istore_n (lv' := [(2, .int r640), (0, .ref (mA Z 0)), (1, .int p1)]) F.1 F.2.1 dX12_alone_31 rfl hl (by decide) rfl (fun ls hl => ?_)
      refine lv_aload_n F.1 F.2.1 dX12_alone_32 rfl (lv_at hl 1 rfl) ?_
      refine lv_iconst (v := 0) F.1 F.2.1 dX12_alone_33 (by decide) ?_
      refine pX12_11 F C hP hS rfl dX12_alone_34 (fun H locs hP hS => ?_)
      refine lv_aload_n F.1 F.2.1 dX12_alone_37 rfl (lv_at hl 1 rfl) ?_
      refine lv_aload_n F.1 F.2.1 dX12_alone_38 rfl (lv_at hl 1 rfl) ?_
      refine lv_iload_n F.1 F.2.1 dX12_alone_39 rfl (lv_at hl 0 rfl) ?_
      obtain ⟨r641, hc, hE⟩ := bnd1_some hE
      refine aft_i (run_V (rest := [.ref (mA Z 0)]) F (kX12_weights hc) (okM Z) C hS lkX12_279 ⟨Nat.le_of_ble_eq_true rfl, Nat.le_of_ble_eq_true rfl⟩ (rvM C hP) hP rfl hl.1 rfl (lv_room (Nat.le_of_ble_eq_true rfl)) dX12_alone_40 ⟨Nat.zero_le _, Nat.zero_le _⟩) hS (fun H locs hP hS => ?_)
      refine lv_i2l (v := r641.toInt64) F.1 F.2.1 dX12_alone_43 rfl ?_
      obtain ⟨mto_642, mrw_642, hc, hE⟩ := bnd2_some hE
      refine aft_v (run_V (rest := []) F (kX12_enters hc) (okM Z) C hS lkX12_239 ⟨Nat.le_of_ble_eq_true rfl, Nat.le_of_ble_eq_true rfl⟩ (rvM C hP) hP rfl hl.1 rfl (lv_room (Nat.le_of_ble_eq_true rfl)) dX12_alone_44 ⟨Nat.zero_le _, Nat.zero_le _⟩) hS (fun H locs hP hS => ?_)
      refine lv_iload_n F.1 F.2.1 dX12_alone_47 rfl (lv_at hl 0 rfl) ?_
      have w0 := Option.some.inj hE
      obtain ⟨g0, w1⟩ := Prod.mk.inj w0
      obtain ⟨g1, w2⟩ := Prod.mk.inj w1
      obtain ⟨g2, w3⟩ := Prod.mk.inj w2
      subst g0 g1 g2 w3
      exact ret_i F hr hlk hP hS dX12_alone_48
    · have hE := ifp hE hc
      refine lv_bipush (v := (-2)) F.1 F.2.1 dX12_alone_23 (by decide) ?_
      have w0 := Option.some.inj hE
      obtain ⟨g0, w1⟩ := Prod.mk.inj w0
      obtain ⟨g1, w2⟩ := Prod.mk.inj w1
      obtain ⟨g2, w3⟩ := Prod.mk.inj w2
      subst g0 g1 g2 w3
      exact ret_i F hr hlk hP hS dX12_alone_25
  · have hE := ifp hE hc
    refine lv_iconst (v := (-1)) F.1 F.2.1 dX12_alone_13 (by decide) ?_
    have w0 := Option.some.inj hE
    obtain ⟨g0, w1⟩ := Prod.mk.inj w0
    obtain ⟨g1, w2⟩ := Prod.mk.inj w1
    obtain ⟨g2, w3⟩ := Prod.mk.inj w2
    subst g0 g1 g2 w3
    exact ret_i F hr hlk hP hS dX12_alone_14
set_option maxRecDepth 100000 in
set_option maxHeartbeats 4000000 in
theorem qX12_keepers_82 {p : Program} {l : Launch} {e : Env} {s : State} {m : MethodId} {args : Array Value} {below : List Frame} {meth : Method} {c : Code} {Z : ZC} {mta : Nat → Int32} {mtp : Int32} {mat : Int32} {mtt : Int32} {mme : Nat → Int32} {mun : Int32} {mde : Int32} {mco : Nat → Int32} {mcn : Nat → Int32} {mvi : Int32} {men : Int32} {mfa : Nat → Int32} {mac : Nat → Int32} {mfi : Nat → Int32} {mse : Nat → Int32} {mtd : Nat → Int32} {mra : Int32} {mkp : Nat → Int32} {N : Nat} {p1 : Int32} {r' : Int32} {mth' : Int32} {mto' : Int32} {mrw' : Nat → Int64} (F : CallFix p m c cX12_keepers 4 s args bigW RX12) (hr : meth.sig.returnType = (some .int)) (hlk : meth.locks = false) (C : KM Z s) : ∀ (mth : Int32) (mto : Int32) (mrw : Nat → Int64) (x2 : Int32), fX12_keepers_82 N mme mde p1 mth mto mrw x2 = some (r', mth', mto', mrw') → ∀ (H : Heap) (locs : List Loc), PM Z mth mto mrw mta mtp mat mtt mme mun mde mco mcn mvi men mfa mac mfi mse mtd mra mkp H → va_S (AM Z) s.heap H locs → ∀ ls : Array Slot, lv_has ls 4 [(0, .ref (mA Z 0)), (2, .int x2)] → W p l e (rmk 6 133) s m args below meth c H locs 0 0 (MQ below (Qi (KM Z) (AM Z) (PM Z mth' mto' mrw' mta mtp mat mtt mme mun mde mco mcn mvi men mfa mac mfi mse mtd mra mkp) r') args s 0 0 (AM Z)) (F0 m 82 ls []) := by
  intro mth mto mrw x2 hE H locs hP hS ls hl
  unfold fX12_keepers_82 at hE
  refine lv_aload_n F.1 F.2.1 dX12_keepers_82 rfl (lv_at hl 0 rfl) ?_
  refine lv_iconst (v := 0) F.1 F.2.1 dX12_keepers_83 (by decide) ?_
  refine pX12_11 F C hP hS rfl dX12_keepers_84 (fun H locs hP hS => ?_)
  refine lv_aload_n F.1 F.2.1 dX12_keepers_87 rfl (lv_at hl 0 rfl) ?_
  refine lv_aload_n F.1 F.2.1 dX12_keepers_88 rfl (lv_at hl 0 rfl) ?_
  obtain ⟨r661, hc, hE⟩ := bnd1_some hE
  refine aft_i (run_V (rest := [.ref (mA Z 0)]) F (kX12_reached hc) (okM Z) C hS lkX12_202 ⟨Nat.le_of_ble_eq_true rfl, Nat.le_of_ble_eq_true rfl⟩ (rvM C hP) hP rfl hl.1 rfl (lv_room (Nat.le_of_ble_eq_true rfl)) dX12_keepers_89 ⟨Nat.zero_le _, Nat.zero_le _⟩) hS (fun H locs hP hS => ?_)
  refine lv_aload_n F.1 F.2.1 dX12_keepers_92 rfl (lv_at hl 0 rfl) ?_
  refine lv_aload_n F.1 F.2.1 dX12_keepers_93 rfl (lv_at hl 0 rfl) ?_
  refine lv_iload_n F.1 F.2.1 dX12_keepers_94 rfl (lv_at hl 1 rfl) ?_
  obtain ⟨r662, hc, hE⟩ := bnd1_some hE
  refine aft_i (run_V (rest := [.ref (mA Z 0), .int r661, .ref (mA Z 0)]) F (kX12_inRoots hc) (okM Z) C hS lkX12_196 ⟨Nat.le_of_ble_eq_true rfl, Nat.le_of_ble_eq_true rfl⟩ (rvM C hP) hP rfl hl.1 rfl (lv_room (Nat.le_of_ble_eq_true rfl)) dX12_keepers_95 ⟨Nat.zero_le _, Nat.zero_le _⟩) hS (fun H locs hP hS => ?_)
  refine lv_iconst (v := 0) F.1 F.2.1 dX12_keepers_98 (by decide) ?_
  obtain ⟨r663, hc, hE⟩ := bnd1_some hE
  refine aft_i (run_V (rest := [.int r661, .ref (mA Z 0)]) F (kX12_reach hc) (okM Z) C hS lkX12_199 ⟨Nat.le_of_ble_eq_true rfl, Nat.le_of_ble_eq_true rfl⟩ (rvM C hP) hP rfl hl.1 rfl (lv_room (Nat.le_of_ble_eq_true rfl)) dX12_keepers_99 ⟨Nat.zero_le _, Nat.zero_le _⟩) hS (fun H locs hP hS => ?_)
  refine lv_iconst (v := (-1)) F.1 F.2.1 dX12_keepers_102 (by decide) ?_
  refine lv_ixor F.1 F.2.1 dX12_keepers_103 ?_
  refine lv_iand F.1 F.2.1 dX12_keepers_104 ?_
  obtain ⟨r664, hc, hE⟩ := bnd1_some hE
  refine aft_i (run_S (rest := [.ref (mA Z 0)]) F (kX12_sizeOf hc) (okM Z) C hS lkX12_236 ⟨Nat.le_of_ble_eq_true rfl, Nat.le_of_ble_eq_true rfl⟩ hP rfl hl.1 rfl (lv_room (Nat.le_of_ble_eq_true rfl)) dX12_keepers_105 ⟨Nat.zero_le _, Nat.zero_le _⟩) hS (fun H locs hP hS => ?_)
  refine lv_i2l (v := r664.toInt64) F.1 F.2.1 dX12_keepers_108 rfl ?_
  obtain ⟨mto_665, mrw_665, hc, hE⟩ := bnd2_some hE
  refine aft_v (run_V (rest := []) F (kX12_enters hc) (okM Z) C hS lkX12_239 ⟨Nat.le_of_ble_eq_true rfl, Nat.le_of_ble_eq_true rfl⟩ (rvM C hP) hP rfl hl.1 rfl (lv_room (Nat.le_of_ble_eq_true rfl)) dX12_keepers_109 ⟨Nat.zero_le _, Nat.zero_le _⟩) hS (fun H locs hP hS => ?_)
  refine lv_iload_n F.1 F.2.1 dX12_keepers_112 rfl (lv_at hl 1 rfl) ?_
  have w0 := Option.some.inj hE
  obtain ⟨g0, w1⟩ := Prod.mk.inj w0
  obtain ⟨g1, w2⟩ := Prod.mk.inj w1
  obtain ⟨g2, w3⟩ := Prod.mk.inj w2
  subst g0 g1 g2 w3
  exact ret_i F hr hlk hP hS dX12_keepers_113
set_option maxRecDepth 100000 in
set_option maxHeartbeats 4000000 in
theorem qX12_keepers_69 {p : Program} {l : Launch} {e : Env} {s : State} {m : MethodId} {args : Array Value} {below : List Frame} {meth : Method} {c : Code} {Z : ZC} {mta : Nat → Int32} {mtp : Int32} {mat : Int32} {mtt : Int32} {mme : Nat → Int32} {mun : Int32} {mde : Int32} {mco : Nat → Int32} {mcn : Nat → Int32} {mvi : Int32} {men : Int32} {mfa : Nat → Int32} {mac : Nat → Int32} {mfi : Nat → Int32} {mse : Nat → Int32} {mtd : Nat → Int32} {mra : Int32} {mkp : Nat → Int32} {N : Nat} {p1 : Int32} {r' : Int32} {mth' : Int32} {mto' : Int32} {mrw' : Nat → Int64} (F : CallFix p m c cX12_keepers 4 s args bigW RX12) (hr : meth.sig.returnType = (some .int)) (hlk : meth.locks = false) (C : KM Z s) {k30 : Int32 → Int32 → (Nat → Int64) → Int32 → Int32 → Option (Int32 × Int32 × Int32 × (Nat → Int64))} (h30 : ∀ (mth : Int32) (mto : Int32) (mrw : Nat → Int64) (x2 : Int32) (x3 : Int32), k30 mth mto mrw x2 x3 = some (r', mth', mto', mrw') → ∀ (H : Heap) (locs : List Loc), PM Z mth mto mrw mta mtp mat mtt mme mun mde mco mcn mvi men mfa mac mfi mse mtd mra mkp H → va_S (AM Z) s.heap H locs → ∀ ls : Array Slot, lv_has ls 4 [(0, .ref (mA Z 0)), (1, .int p1), (2, .int x2), (3, .int x3)] → W p l e (rmk 6 133) s m args below meth c H locs 0 0 (MQ below (Qi (KM Z) (AM Z) (PM Z mth' mto' mrw' mta mtp mat mtt mme mun mde mco mcn mvi men mfa mac mfi mse mtd mra mkp) r') args s 0 0 (AM Z)) (F0 m 30 ls [])) : ∀ (mth : Int32) (mto : Int32) (mrw : Nat → Int64) (x3 : Int32) (y0 : Int32) (y1 : Int32), fX12_keepers_69 N mme mde p1 k30 mth mto mrw x3 y0 y1 = some (r', mth', mto', mrw') → ∀ (H : Heap) (locs : List Loc), PM Z mth mto mrw mta mtp mat mtt mme mun mde mco mcn mvi men mfa mac mfi mse mtd mra mkp H → va_S (AM Z) s.heap H locs → ∀ ls : Array Slot, lv_has ls 4 [(0, .ref (mA Z 0)), (1, .int p1), (3, .int x3)] → W p l e (rmk 6 133) s m args below meth c H locs 0 0 (MQ below (Qi (KM Z) (AM Z) (PM Z mth' mto' mrw' mta mtp mat mtt mme mun mde mco mcn mvi men mfa mac mfi mse mtd mra mkp) r') args s 0 0 (AM Z)) (F0 m 69 ls [.int y0, .int y1]) := by
  intro mth mto mrw x3 y0 y1 hE H locs hP hS ls hl
  unfold fX12_keepers_69 at hE
  obtain ⟨r666, hc, hE⟩ := bnd1_some hE
  refine aft_i (run_S (rest := [.int y1]) F (kX12_flag hc) (okM Z) C hS lkX12_167 ⟨Nat.le_of_ble_eq_true rfl, Nat.le_of_ble_eq_true rfl⟩ hP rfl hl.1 rfl (lv_room (Nat.le_of_ble_eq_true rfl)) dX12_keepers_69 ⟨Nat.zero_le _, Nat.zero_le _⟩) hS (fun H locs hP hS => ?_)
  refine lv_iload_n F.1 F.2.1 dX12_keepers_72 rfl (lv_at hl 2 rfl) ?_
  refine rj_ishl F.1 F.2.1 dX12_keepers_73 ?_
  refine lv_ior F.1 F.2.1 dX12_keepers_74 ?_
  refine lv_istore_n (lv' := [(2, .int (y1 ||| (jshl r666 x3))), (0, .ref (mA Z 0)), (1, .int p1), (3, .int x3)]) F.1 F.2.1 dX12_keepers_75 rfl hl (by decide) rfl (fun ls hl => ?_)
  refine lv_iinc (v := x3 + 1) (lv' := [(3, .int (x3 + 1)), (2, .int (y1 ||| (jshl r666 x3))), (0, .ref (mA Z 0)), (1, .int p1)]) F.1 F.2.1 dX12_keepers_76 hl (k := 3) rfl rfl (by decide) rfl (fun ls hl => ?_)
  refine lv_goto (tgt := 30) F.1 F.2.1 dX12_keepers_79 (by decide) ?_
  exact h30 mth mto mrw (y1 ||| (jshl r666 x3)) (x3 + 1) hE _ _ hP hS ls (lv_sub hl [2, 3, 1, 0] rfl)
set_option maxRecDepth 100000 in
set_option maxHeartbeats 4000000 in
theorem qX12_keepers_68 {p : Program} {l : Launch} {e : Env} {s : State} {m : MethodId} {args : Array Value} {below : List Frame} {meth : Method} {c : Code} {Z : ZC} {mta : Nat → Int32} {mtp : Int32} {mat : Int32} {mtt : Int32} {mme : Nat → Int32} {mun : Int32} {mde : Int32} {mco : Nat → Int32} {mcn : Nat → Int32} {mvi : Int32} {men : Int32} {mfa : Nat → Int32} {mac : Nat → Int32} {mfi : Nat → Int32} {mse : Nat → Int32} {mtd : Nat → Int32} {mra : Int32} {mkp : Nat → Int32} {N : Nat} {p1 : Int32} {r' : Int32} {mth' : Int32} {mto' : Int32} {mrw' : Nat → Int64} (F : CallFix p m c cX12_keepers 4 s args bigW RX12) (hr : meth.sig.returnType = (some .int)) (hlk : meth.locks = false) (C : KM Z s) {k30 : Int32 → Int32 → (Nat → Int64) → Int32 → Int32 → Option (Int32 × Int32 × Int32 × (Nat → Int64))} (h30 : ∀ (mth : Int32) (mto : Int32) (mrw : Nat → Int64) (x2 : Int32) (x3 : Int32), k30 mth mto mrw x2 x3 = some (r', mth', mto', mrw') → ∀ (H : Heap) (locs : List Loc), PM Z mth mto mrw mta mtp mat mtt mme mun mde mco mcn mvi men mfa mac mfi mse mtd mra mkp H → va_S (AM Z) s.heap H locs → ∀ ls : Array Slot, lv_has ls 4 [(0, .ref (mA Z 0)), (1, .int p1), (2, .int x2), (3, .int x3)] → W p l e (rmk 6 133) s m args below meth c H locs 0 0 (MQ below (Qi (KM Z) (AM Z) (PM Z mth' mto' mrw' mta mtp mat mtt mme mun mde mco mcn mvi men mfa mac mfi mse mtd mra mkp) r') args s 0 0 (AM Z)) (F0 m 30 ls [])) : ∀ (mth : Int32) (mto : Int32) (mrw : Nat → Int64) (x3 : Int32) (y0 : Int32), fX12_keepers_68 N mme mde p1 k30 mth mto mrw x3 y0 = some (r', mth', mto', mrw') → ∀ (H : Heap) (locs : List Loc), PM Z mth mto mrw mta mtp mat mtt mme mun mde mco mcn mvi men mfa mac mfi mse mtd mra mkp H → va_S (AM Z) s.heap H locs → ∀ ls : Array Slot, lv_has ls 4 [(0, .ref (mA Z 0)), (1, .int p1), (3, .int x3)] → W p l e (rmk 6 133) s m args below meth c H locs 0 0 (MQ below (Qi (KM Z) (AM Z) (PM Z mth' mto' mrw' mta mtp mat mtt mme mun mde mco mcn mvi men mfa mac mfi mse mtd mra mkp) r') args s 0 0 (AM Z)) (F0 m 68 ls [.int y0]) := by
  intro mth mto mrw x3 y0 hE H locs hP hS ls hl
  unfold fX12_keepers_68 at hE
  refine lv_iconst (v := 0) F.1 F.2.1 dX12_keepers_68 (by decide) ?_
  exact qX12_keepers_69 F hr hlk C h30 mth mto mrw x3 0 y0 hE _ _ hP hS ls (lv_sub hl [0, 1, 2] rfl)
set_option maxRecDepth 100000 in
set_option maxHeartbeats 4000000 in
theorem qX12_keepers_30 {p : Program} {l : Launch} {e : Env} {s : State} {m : MethodId} {args : Array Value} {below : List Frame} {meth : Method} {c : Code} {Z : ZC} {mta : Nat → Int32} {mtp : Int32} {mat : Int32} {mtt : Int32} {mme : Nat → Int32} {mun : Int32} {mde : Int32} {mco : Nat → Int32} {mcn : Nat → Int32} {mvi : Int32} {men : Int32} {mfa : Nat → Int32} {mac : Nat → Int32} {mfi : Nat → Int32} {mse : Nat → Int32} {mtd : Nat → Int32} {mra : Int32} {mkp : Nat → Int32} {N : Nat} {p1 : Int32} {r' : Int32} {mth' : Int32} {mto' : Int32} {mrw' : Nat → Int64} (F : CallFix p m c cX12_keepers 4 s args bigW RX12) (hr : meth.sig.returnType = (some .int)) (hlk : meth.locks = false) (C : KM Z s) : ∀ n : Nat, ∀ (mth : Int32) (mto : Int32) (mrw : Nat → Int64) (x2 : Int32) (x3 : Int32), fX12_keepers_30 N mme mde p1 n mth mto mrw x2 x3 = some (r', mth', mto', mrw') → ∀ (H : Heap) (locs : List Loc), PM Z mth mto mrw mta mtp mat mtt mme mun mde mco mcn mvi men mfa mac mfi mse mtd mra mkp H → va_S (AM Z) s.heap H locs → ∀ ls : Array Slot, lv_has ls 4 [(0, .ref (mA Z 0)), (1, .int p1), (2, .int x2), (3, .int x3)] → W p l e (rmk 6 133) s m args below meth c H locs 0 0 (MQ below (Qi (KM Z) (AM Z) (PM Z mth' mto' mrw' mta mtp mat mtt mme mun mde mco mcn mvi men mfa mac mfi mse mtd mra mkp) r') args s 0 0 (AM Z)) (F0 m 30 ls []) := by
  intro n
  induction n with
  | zero => intro mth mto mrw x2 x3 hE; cases hE
  | succ n h30 =>
    intro mth mto mrw x2 x3 hE H locs hP hS ls hl
    have hE : fX12_keepers_30b N mme mde p1 (fX12_keepers_30 N mme mde p1 n) mth mto mrw x2 x3 = some (r', mth', mto', mrw') := hE
    refine lv_iload_n F.1 F.2.1 dX12_keepers_30 rfl (lv_at hl 3 rfl) ?_
    refine lv_bipush (v := 6) F.1 F.2.1 dX12_keepers_31 (by decide) ?_
    refine lv_icmp_ge (tgt := 82) F.1 F.2.1 dX12_keepers_33 (by decide) (fun hc => ?_) (fun hc => ?_)
    · have hE := ifp hE hc
      exact qX12_keepers_82 F hr hlk C mth mto mrw x2 hE _ _ hP hS ls (lv_sub hl [0, 2] rfl)
    · have hE := ifn hE hc
      refine lv_iload_n F.1 F.2.1 dX12_keepers_36 rfl (lv_at hl 2 rfl) ?_
      refine lv_aload_n F.1 F.2.1 dX12_keepers_37 rfl (lv_at hl 0 rfl) ?_
      refine lv_iload_n F.1 F.2.1 dX12_keepers_38 rfl (lv_at hl 3 rfl) ?_
      obtain ⟨r657, hc, hE⟩ := bnd1_some hE
      refine aft_i (run_V (rest := [.int x2]) F (kX12_rootOf hc) (okM Z) C hS lkX12_131 ⟨Nat.le_of_ble_eq_true rfl, Nat.le_of_ble_eq_true rfl⟩ (rvM C hP) hP rfl hl.1 rfl (lv_room (Nat.le_of_ble_eq_true rfl)) dX12_keepers_39 ⟨Nat.zero_le _, Nat.zero_le _⟩) hS (fun H locs hP hS => ?_)
      refine lv_if_lt (tgt := 68) F.1 F.2.1 dX12_keepers_42 (by decide) (fun hc => ?_) (fun hc => ?_)
      · have hE := ifp hE hc
        exact qX12_keepers_68 F hr hlk C h30 mth mto mrw x3 x2 hE _ _ hP hS ls (lv_sub hl [0, 1, 3] rfl)
      · have hE := ifn hE hc
        refine lv_aload_n F.1 F.2.1 dX12_keepers_45 rfl (lv_at hl 0 rfl) ?_
        refine lv_iconst (v := 1) F.1 F.2.1 dX12_keepers_46 (by decide) ?_
        refine lv_aload_n F.1 F.2.1 dX12_keepers_47 rfl (lv_at hl 0 rfl) ?_
        refine lv_iload_n F.1 F.2.1 dX12_keepers_48 rfl (lv_at hl 3 rfl) ?_
        obtain ⟨r658, hc, hE⟩ := bnd1_some hE
        refine aft_i (run_V (rest := [.int 1, .ref (mA Z 0), .int x2]) F (kX12_rootOf hc) (okM Z) C hS lkX12_131 ⟨Nat.le_of_ble_eq_true rfl, Nat.le_of_ble_eq_true rfl⟩ (rvM C hP) hP rfl hl.1 rfl (lv_room (Nat.le_of_ble_eq_true rfl)) dX12_keepers_49 ⟨Nat.zero_le _, Nat.zero_le _⟩) hS (fun H locs hP hS => ?_)
        refine rj_ishl F.1 F.2.1 dX12_keepers_52 ?_
        refine lv_iconst (v := 0) F.1 F.2.1 dX12_keepers_53 (by decide) ?_
        obtain ⟨r659, hc, hE⟩ := bnd1_some hE
        refine aft_i (run_V (rest := [.int x2]) F (kX12_reach hc) (okM Z) C hS lkX12_199 ⟨Nat.le_of_ble_eq_true rfl, Nat.le_of_ble_eq_true rfl⟩ (rvM C hP) hP rfl hl.1 rfl (lv_room (Nat.le_of_ble_eq_true rfl)) dX12_keepers_54 ⟨Nat.zero_le _, Nat.zero_le _⟩) hS (fun H locs hP hS => ?_)
        refine lv_iload_n F.1 F.2.1 dX12_keepers_57 rfl (lv_at hl 1 rfl) ?_
        obtain ⟨r660, hc, hE⟩ := bnd1_some hE
        refine aft_i (run_S (rest := [.int x2]) F (kX12_has hc) (okM Z) C hS lkX12_171 ⟨Nat.le_of_ble_eq_true rfl, Nat.le_of_ble_eq_true rfl⟩ hP rfl hl.1 rfl (lv_room (Nat.le_of_ble_eq_true rfl)) dX12_keepers_58 ⟨Nat.zero_le _, Nat.zero_le _⟩) hS (fun H locs hP hS => ?_)
        refine lv_if_eq (tgt := 68) F.1 F.2.1 dX12_keepers_61 (by decide) (fun hc => ?_) (fun hc => ?_)
        · have hE := ifp hE hc
          exact qX12_keepers_68 F hr hlk C h30 mth mto mrw x3 x2 hE _ _ hP hS ls (lv_sub hl [0, 1, 3] rfl)
        · have hE := ifn hE hc
          refine lv_iconst (v := 1) F.1 F.2.1 dX12_keepers_64 (by decide) ?_
          refine lv_goto (tgt := 69) F.1 F.2.1 dX12_keepers_65 (by decide) ?_
          exact qX12_keepers_69 F hr hlk C h30 mth mto mrw x3 1 x2 hE _ _ hP hS ls (lv_sub hl [0, 1, 3] rfl)
set_option maxRecDepth 100000 in
set_option maxHeartbeats 4000000 in
theorem kX12_keepers {l : Launch} {Z : ZC} {mth : Int32} {mto : Int32} {mrw : Nat → Int64} {mta : Nat → Int32} {mtp : Int32} {mat : Int32} {mtt : Int32} {mme : Nat → Int32} {mun : Int32} {mde : Int32} {mco : Nat → Int32} {mcn : Nat → Int32} {mvi : Int32} {men : Int32} {mfa : Nat → Int32} {mac : Nat → Int32} {mfi : Nat → Int32} {mse : Nat → Int32} {mtd : Nat → Int32} {mra : Int32} {mkp : Nat → Int32} {N : Nat} {p1 : Int32} {r' : Int32} {mth' : Int32} {mto' : Int32} {mrw' : Nat → Int64} (hE : fX12_keepers N mth mto mrw mme mde p1 = some (r', mth', mto', mrw')) : Mg l yX12_keepers cX12_keepers 4 (some .int) (rmk 6 133) (KM Z) (AM Z) [.ref (mA Z 0), .int p1] (PM Z mth mto mrw mta mtp mat mtt mme mun mde mco mcn mvi men mfa mac mfi mse mtd mra mkp) (Qi (KM Z) (AM Z) (PM Z mth' mto' mrw' mta mtp mat mtt mme mun mde mco mcn mvi men mfa mac mfi mse mtd mra mkp) r') := by
  refine Mg.start (lv := [(0, .ref (mA Z 0)), (1, .int p1)]) (by decide) rfl (Nat.le_of_ble_eq_true rfl) rfl ?_
  intro p e s m below meth c F hr hlk C hP ls hl
  have hS : va_S (AM Z) s.heap s.heap [] := va_S.rf
  unfold fX12_keepers at hE
  refine lv_aload_n F.1 F.2.1 dX12_keepers_0 rfl (lv_at hl 0 rfl) ?_
  refine lv_iconst (v := 0) F.1 F.2.1 dX12_keepers_1 (by decide) ?_
  refine pX12_1 F C hP hS rfl dX12_keepers_2 (fun H locs hP hS => ?_)
  refine lv_aload_n F.1 F.2.1 dX12_keepers_5 rfl (lv_at hl 0 rfl) ?_
  refine lv_iload_n F.1 F.2.1 dX12_keepers_6 rfl (lv_at hl 1 rfl) ?_
  obtain ⟨r655, hc, hE⟩ := bnd1_some hE
  refine aft_i (run_V (rest := []) F (kX12_isThere hc) (okM Z) C hS lkX12_216 ⟨Nat.le_of_ble_eq_true rfl, Nat.le_of_ble_eq_true rfl⟩ (rvM C hP) hP rfl hl.1 rfl (lv_room (Nat.le_of_ble_eq_true rfl)) dX12_keepers_7 ⟨Nat.zero_le _, Nat.zero_le _⟩) hS (fun H locs hP hS => ?_)
  refine lv_if_ne (tgt := 15) F.1 F.2.1 dX12_keepers_10 (by decide) (fun hc => ?_) (fun hc => ?_)
  · have hE := ifn hE hc
    refine lv_aload_n F.1 F.2.1 dX12_keepers_15 rfl (lv_at hl 0 rfl) ?_
    refine lv_iload_n F.1 F.2.1 dX12_keepers_16 rfl (lv_at hl 1 rfl) ?_
    obtain ⟨r656, hc, hE⟩ := bnd1_some hE
    refine aft_i (run_V (rest := []) F (kX12_isReached hc) (okM Z) C hS lkX12_222 ⟨Nat.le_of_ble_eq_true rfl, Nat.le_of_ble_eq_true rfl⟩ (rvM C hP) hP rfl hl.1 rfl (lv_room (Nat.le_of_ble_eq_true rfl)) dX12_keepers_17 ⟨Nat.zero_le _, Nat.zero_le _⟩) hS (fun H locs hP hS => ?_)
    refine lv_if_ne (tgt := 26) F.1 F.2.1 dX12_keepers_20 (by decide) (fun hc => ?_) (fun hc => ?_)
    · have hE := ifn hE hc
      refine lv_iconst (v := 0) F.1 F.2.1 dX12_keepers_26 (by decide) ?_
      refine lv_istore_n (lv' := [(2, .int 0), (0, .ref (mA Z 0)), (1, .int p1)]) F.1 F.2.1 dX12_keepers_27 rfl hl (by decide) rfl (fun ls hl => ?_)
      refine lv_iconst (v := 0) F.1 F.2.1 dX12_keepers_28 (by decide) ?_
      refine lv_istore_n (lv' := [(3, .int 0), (2, .int 0), (0, .ref (mA Z 0)), (1, .int p1)]) F.1 F.2.1 dX12_keepers_29 rfl hl (by decide) rfl (fun ls hl => ?_)
      exact qX12_keepers_30 F hr hlk C N 0 mto mrw 0 0 hE _ _ hP hS ls (lv_sub hl [2, 3, 1, 0] rfl)
    · have hE := ifp hE hc
      refine lv_bipush (v := (-2)) F.1 F.2.1 dX12_keepers_23 (by decide) ?_
      have w0 := Option.some.inj hE
      obtain ⟨g0, w1⟩ := Prod.mk.inj w0
      obtain ⟨g1, w2⟩ := Prod.mk.inj w1
      obtain ⟨g2, w3⟩ := Prod.mk.inj w2
      subst g0 g1 g2 w3
      exact ret_i F hr hlk hP hS dX12_keepers_25
  · have hE := ifp hE hc
    refine lv_iconst (v := (-1)) F.1 F.2.1 dX12_keepers_13 (by decide) ?_
    have w0 := Option.some.inj hE
    obtain ⟨g0, w1⟩ := Prod.mk.inj w0
    obtain ⟨g1, w2⟩ := Prod.mk.inj w1
    obtain ⟨g2, w3⟩ := Prod.mk.inj w2
    subst g0 g1 g2 w3
    exact ret_i F hr hlk hP hS dX12_keepers_14
set_option maxRecDepth 100000 in
set_option maxHeartbeats 4000000 in
theorem kX12_cut {l : Launch} {Z : ZC} {mth : Int32} {mto : Int32} {mrw : Nat → Int64} {mta : Nat → Int32} {mtp : Int32} {mat : Int32} {mtt : Int32} {mme : Nat → Int32} {mun : Int32} {mde : Int32} {mco : Nat → Int32} {mcn : Nat → Int32} {mvi : Int32} {men : Int32} {mfa : Nat → Int32} {mac : Nat → Int32} {mfi : Nat → Int32} {mse : Nat → Int32} {mtd : Nat → Int32} {mra : Int32} {mkp : Nat → Int32} {N : Nat} {p1 : Int32} {p2 : Int32} {r' : Int32} {mth' : Int32} {mto' : Int32} {mrw' : Nat → Int64} {mme' : Nat → Int32} {mde' : Int32} (hE : fX12_cut N mth mto mrw mme mde p1 p2 = some (r', mth', mto', mrw', mme', mde')) : Mg l yX12_cut cX12_cut 6 (some .int) (rmk 202 4798) (KM Z) (AM Z) [.ref (mA Z 0), .int p1, .int p2] (PM Z mth mto mrw mta mtp mat mtt mme mun mde mco mcn mvi men mfa mac mfi mse mtd mra mkp) (Qi (KM Z) (AM Z) (PM Z mth' mto' mrw' mta mtp mat mtt mme' mun mde' mco mcn mvi men mfa mac mfi mse mtd mra mkp) r') := by
  refine Mg.start (lv := [(0, .ref (mA Z 0)), (1, .int p1), (2, .int p2)]) (by decide) rfl (Nat.le_of_ble_eq_true rfl) rfl ?_
  intro p e s m below meth c F hr hlk C hP ls hl
  have hS : va_S (AM Z) s.heap s.heap [] := va_S.rf
  unfold fX12_cut at hE
  refine lv_aload_n F.1 F.2.1 dX12_cut_0 rfl (lv_at hl 0 rfl) ?_
  refine lv_iconst (v := 0) F.1 F.2.1 dX12_cut_1 (by decide) ?_
  refine pX12_1 F C hP hS rfl dX12_cut_2 (fun H locs hP hS => ?_)
  refine lv_aload_n F.1 F.2.1 dX12_cut_5 rfl (lv_at hl 0 rfl) ?_
  refine lv_iload_n F.1 F.2.1 dX12_cut_6 rfl (lv_at hl 1 rfl) ?_
  obtain ⟨r678, hc, hE⟩ := bnd1_some hE
  refine aft_i (run_V (rest := []) F (kX12_isThere hc) (okM Z) C hS lkX12_216 ⟨Nat.le_of_ble_eq_true rfl, Nat.le_of_ble_eq_true rfl⟩ (rvM C hP) hP rfl hl.1 rfl (lv_room (Nat.le_of_ble_eq_true rfl)) dX12_cut_7 ⟨Nat.zero_le _, Nat.zero_le _⟩) hS (fun H locs hP hS => ?_)
  refine lv_if_eq (tgt := 31) F.1 F.2.1 dX12_cut_10 (by decide) (fun hc => ?_) (fun hc => ?_)
  · have hE := ifp hE hc
    refine lv_iconst (v := (-1)) F.1 F.2.1 dX12_cut_31 (by decide) ?_
    have w0 := Option.some.inj hE
    obtain ⟨g0, w1⟩ := Prod.mk.inj w0
    obtain ⟨g1, w2⟩ := Prod.mk.inj w1
    obtain ⟨g2, w3⟩ := Prod.mk.inj w2
    obtain ⟨g3, w4⟩ := Prod.mk.inj w3
    obtain ⟨g4, w5⟩ := Prod.mk.inj w4
    subst g0 g1 g2 g3 g4 w5
    exact ret_i F hr hlk hP hS dX12_cut_32
  · have hE := ifn hE hc
    refine lv_iload_n F.1 F.2.1 dX12_cut_13 rfl (lv_at hl 2 rfl) ?_
    refine lv_i2l (v := p2.toInt64) F.1 F.2.1 dX12_cut_14 rfl ?_
    refine lv_lconst (v := 0) F.1 F.2.1 dX12_cut_15 (by decide) ?_
    refine lv_aload_n F.1 F.2.1 dX12_cut_16 rfl (lv_at hl 0 rfl) ?_
    refine lv_iload_n F.1 F.2.1 dX12_cut_17 rfl (lv_at hl 1 rfl) ?_
    refine lv_iconst (v := 1) F.1 F.2.1 dX12_cut_18 (by decide) ?_
    obtain ⟨r679, hc, hE⟩ := bnd1_some hE
    refine aft_i (run_V (rest := [.long 0, .long p2.toInt64]) F (kX12_of hc) (okM Z) C hS lkX12_91 ⟨Nat.le_of_ble_eq_true rfl, Nat.le_of_ble_eq_true rfl⟩ (rvM C hP) hP rfl hl.1 rfl (lv_room (Nat.le_of_ble_eq_true rfl)) dX12_cut_19 ⟨Nat.zero_le _, Nat.zero_le _⟩) hS (fun H locs hP hS => ?_)
    refine lv_iconst (v := 1) F.1 F.2.1 dX12_cut_22 (by decide) ?_
    refine lv_isub F.1 F.2.1 dX12_cut_23 ?_
    refine lv_i2l (v := (r679 - 1).toInt64) F.1 F.2.1 dX12_cut_24 rfl ?_
    obtain ⟨r680, hc, hE⟩ := bnd1_some hE
    refine aft_i (run_S (rest := []) F (kX12_in hc) (okM Z) C hS lkX12_21 ⟨Nat.le_of_ble_eq_true rfl, Nat.le_of_ble_eq_true rfl⟩ hP rfl hl.1 rfl (lv_room (Nat.le_of_ble_eq_true rfl)) dX12_cut_25 ⟨Nat.zero_le _, Nat.zero_le _⟩) hS (fun H locs hP hS => ?_)
    refine lv_if_ne (tgt := 33) F.1 F.2.1 dX12_cut_28 (by decide) (fun hc => ?_) (fun hc => ?_)
    · have hE := ifn hE hc
      refine lv_aload_n F.1 F.2.1 dX12_cut_33 rfl (lv_at hl 0 rfl) ?_
      refine lv_iload_n F.1 F.2.1 dX12_cut_34 rfl (lv_at hl 1 rfl) ?_
      refine lv_iload_n F.1 F.2.1 dX12_cut_35 rfl (lv_at hl 2 rfl) ?_
      obtain ⟨r681, hc, hE⟩ := bnd1_some hE
      refine aft_i (run_V (rest := []) F (kX12_fieldOf hc) (okM Z) C hS lkX12_140 ⟨Nat.le_of_ble_eq_true rfl, Nat.le_of_ble_eq_true rfl⟩ (rvM C hP) hP rfl hl.1 rfl (lv_room (Nat.le_of_ble_eq_true rfl)) dX12_cut_36 ⟨Nat.zero_le _, Nat.zero_le _⟩) hS (fun H locs hP hS => ?_)
      refine lv_if_ge (tgt := 45) F.1 F.2.1 dX12_cut_39 (by decide) (fun hc => ?_) (fun hc => ?_)
      · have hE := ifp hE hc
        refine lv_aload_n F.1 F.2.1 dX12_cut_45 rfl (lv_at hl 0 rfl) ?_
        obtain ⟨r682, hc, hE⟩ := bnd1_some hE
        refine aft_i (run_V (rest := []) F (kX12_thereAll hc) (okM Z) C hS lkX12_233 ⟨Nat.le_of_ble_eq_true rfl, Nat.le_of_ble_eq_true rfl⟩ (rvM C hP) hP rfl hl.1 rfl (lv_room (Nat.le_of_ble_eq_true rfl)) dX12_cut_46 ⟨Nat.zero_le _, Nat.zero_le _⟩) hS (fun H locs hP hS => ?_)
        refine lv_istore_n (lv' := [(3, .int r682), (0, .ref (mA Z 0)), (1, .int p1), (2, .int p2)]) F.1 F.2.1 dX12_cut_49 rfl hl (by decide) rfl (fun ls hl => ?_)
        refine lv_aload_n F.1 F.2.1 dX12_cut_50 rfl (lv_at hl 1 rfl) ?_
        obtain ⟨mme_683, mde_683, hc, hE⟩ := bnd2_some hE
        refine aft_v (run_V (rest := []) F (kX12_tries hc) (okM Z) C hS lkX12_291 ⟨Nat.le_of_ble_eq_true rfl, Nat.le_of_ble_eq_true rfl⟩ (rvM C hP) hP rfl hl.1 rfl (lv_room (Nat.le_of_ble_eq_true rfl)) dX12_cut_51 ⟨Nat.zero_le _, Nat.zero_le _⟩) hS (fun H locs hP hS => ?_)
        refine lv_aload_n F.1 F.2.1 dX12_cut_54 rfl (lv_at hl 1 rfl) ?_
        refine lv_iload_n F.1 F.2.1 dX12_cut_55 rfl (lv_at hl 2 rfl) ?_
        refine lv_iload_n F.1 F.2.1 dX12_cut_56 rfl (lv_at hl 3 rfl) ?_
        refine lv_iconst (v := (-1)) F.1 F.2.1 dX12_cut_57 (by decide) ?_
        obtain ⟨mme_684, hc, hE⟩ := bnd1_some hE
        refine aft_v (run_V (rest := []) F (kX12_laysField hc) (okM Z) C hS lkX12_146 ⟨Nat.le_of_ble_eq_true rfl, Nat.le_of_ble_eq_true rfl⟩ (rvM C hP) hP rfl hl.1 rfl (lv_room (Nat.le_of_ble_eq_true rfl)) dX12_cut_58 ⟨Nat.zero_le _, Nat.zero_le _⟩) hS (fun H locs hP hS => ?_)
        refine lv_iload_n F.1 F.2.1 dX12_cut_61 rfl (lv_at hl 0 rfl) ?_
        refine lv_aload_n F.1 F.2.1 dX12_cut_62 rfl (lv_at hl 1 rfl) ?_
        obtain ⟨r685, hc, hE⟩ := bnd1_some hE
        refine aft_i (run_V (rest := [.int r682]) F (kX12_thereAll hc) (okM Z) C hS lkX12_233 ⟨Nat.le_of_ble_eq_true rfl, Nat.le_of_ble_eq_true rfl⟩ (rvM C hP) hP rfl hl.1 rfl (lv_room (Nat.le_of_ble_eq_true rfl)) dX12_cut_63 ⟨Nat.zero_le _, Nat.zero_le _⟩) hS (fun H locs hP hS => ?_)
        refine lv_iconst (v := (-1)) F.1 F.2.1 dX12_cut_66 (by decide) ?_
        refine lv_ixor F.1 F.2.1 dX12_cut_67 ?_
        refine lv_iand F.1 F.2.1 dX12_cut_68 ?_
        refine lv_istore (lv' := [(4, .int (r682 &&& (r685 ^^^ (-1)))), (3, .int r682), (0, .ref (mA Z 0)), (1, .int p1), (2, .int p2)]) F.1 F.2.1 dX12_cut_69 hl (by decide) rfl (fun ls hl => ?_)
        refine lv_aload_n F.1 F.2.1 dX12_cut_71 rfl (lv_at hl 2 rfl) ?_
        obtain ⟨r686, hc, hE⟩ := bnd1_some hE
        refine aft_i (run_V (rest := []) F (kX12_listed hc) (okM Z) C hS lkX12_97 ⟨Nat.le_of_ble_eq_true rfl, Nat.le_of_ble_eq_true rfl⟩ (rvM C hP) hP rfl hl.1 rfl (lv_room (Nat.le_of_ble_eq_true rfl)) dX12_cut_72 ⟨Nat.zero_le _, Nat.zero_le _⟩) hS (fun H locs hP hS => ?_)
        refine lv_istore (lv' := [(5, .int r686), (4, .int (r682 &&& (r685 ^^^ (-1)))), (3, .int r682), (0, .ref (mA Z 0)), (1, .int p1), (2, .int p2)]) F.1 F.2.1 dX12_cut_75 hl (by decide) rfl (fun ls hl => ?_)
        refine lv_aload_n F.1 F.2.1 dX12_cut_77 rfl (lv_at hl 3 rfl) ?_
        obtain ⟨mde_687, hc, hE⟩ := bnd1_some hE
        refine aft_v (run_V (rest := []) F (kX12_isBack hc) (okM Z) C hS lkX12_294 ⟨Nat.le_of_ble_eq_true rfl, Nat.le_of_ble_eq_true rfl⟩ (rvM C hP) hP rfl hl.1 rfl (lv_room (Nat.le_of_ble_eq_true rfl)) dX12_cut_78 ⟨Nat.zero_le _, Nat.zero_le _⟩) hS (fun H locs hP hS => ?_)
        refine lv_aload_n F.1 F.2.1 dX12_cut_81 rfl (lv_at hl 3 rfl) ?_
        refine lv_iconst (v := 0) F.1 F.2.1 dX12_cut_82 (by decide) ?_
        refine pX12_11 F C hP hS rfl dX12_cut_83 (fun H locs hP hS => ?_)
        refine lv_aload_n F.1 F.2.1 dX12_cut_86 rfl (lv_at hl 3 rfl) ?_
        refine lv_iload F.1 F.2.1 dX12_cut_87 (lv_at hl 0 rfl) ?_
        refine lv_i2l (v := r686.toInt64) F.1 F.2.1 dX12_cut_89 rfl ?_
        obtain ⟨mto_688, mrw_688, hc, hE⟩ := bnd2_some hE
        refine aft_v (run_V (rest := []) F (kX12_enters hc) (okM Z) C hS lkX12_239 ⟨Nat.le_of_ble_eq_true rfl, Nat.le_of_ble_eq_true rfl⟩ (rvM C hP) hP rfl hl.1 rfl (lv_room (Nat.le_of_ble_eq_true rfl)) dX12_cut_90 ⟨Nat.zero_le _, Nat.zero_le _⟩) hS (fun H locs hP hS => ?_)
        refine lv_iload F.1 F.2.1 dX12_cut_93 (lv_at hl 1 rfl) ?_
        have w0 := Option.some.inj hE
        obtain ⟨g0, w1⟩ := Prod.mk.inj w0
        obtain ⟨g1, w2⟩ := Prod.mk.inj w1
        obtain ⟨g2, w3⟩ := Prod.mk.inj w2
        obtain ⟨g3, w4⟩ := Prod.mk.inj w3
        obtain ⟨g4, w5⟩ := Prod.mk.inj w4
        subst g0 g1 g2 g3 g4 w5
        exact ret_i F hr hlk hP hS dX12_cut_95
      · have hE := ifn hE hc
        refine lv_bipush (v := (-2)) F.1 F.2.1 dX12_cut_42 (by decide) ?_
        have w0 := Option.some.inj hE
        obtain ⟨g0, w1⟩ := Prod.mk.inj w0
        obtain ⟨g1, w2⟩ := Prod.mk.inj w1
        obtain ⟨g2, w3⟩ := Prod.mk.inj w2
        obtain ⟨g3, w4⟩ := Prod.mk.inj w3
        obtain ⟨g4, w5⟩ := Prod.mk.inj w4
        subst g0 g1 g2 g3 g4 w5
        exact ret_i F hr hlk hP hS dX12_cut_44
    · have hE := ifp hE hc
      refine lv_iconst (v := (-1)) F.1 F.2.1 dX12_cut_31 (by decide) ?_
      have w0 := Option.some.inj hE
      obtain ⟨g0, w1⟩ := Prod.mk.inj w0
      obtain ⟨g1, w2⟩ := Prod.mk.inj w1
      obtain ⟨g2, w3⟩ := Prod.mk.inj w2
      obtain ⟨g3, w4⟩ := Prod.mk.inj w3
      obtain ⟨g4, w5⟩ := Prod.mk.inj w4
      subst g0 g1 g2 g3 g4 w5
      exact ret_i F hr hlk hP hS dX12_cut_32
set_option maxRecDepth 100000 in
set_option maxHeartbeats 4000000 in
theorem kX12_would {l : Launch} {Z : ZC} {mth : Int32} {mto : Int32} {mrw : Nat → Int64} {mta : Nat → Int32} {mtp : Int32} {mat : Int32} {mtt : Int32} {mme : Nat → Int32} {mun : Int32} {mde : Int32} {mco : Nat → Int32} {mcn : Nat → Int32} {mvi : Int32} {men : Int32} {mfa : Nat → Int32} {mac : Nat → Int32} {mfi : Nat → Int32} {mse : Nat → Int32} {mtd : Nat → Int32} {mra : Int32} {mkp : Nat → Int32} {N : Nat} {r' : Int32} {mth' : Int32} {mto' : Int32} {mrw' : Nat → Int64} {mme' : Nat → Int32} {mde' : Int32} {mco' : Nat → Int32} {mcn' : Nat → Int32} {mvi' : Int32} {men' : Int32} (hE : fX12_would N mth mto mrw mme mde mco mcn mvi men = some (r', mth', mto', mrw', mme', mde', mco', mcn', mvi', men')) : Mg l yX12_would cX12_would 5 (some .int) (rmk 206 4884) (KM Z) (AM Z) [.ref (mA Z 0)] (PM Z mth mto mrw mta mtp mat mtt mme mun mde mco mcn mvi men mfa mac mfi mse mtd mra mkp) (Qi (KM Z) (AM Z) (PM Z mth' mto' mrw' mta mtp mat mtt mme' mun mde' mco' mcn' mvi' men' mfa mac mfi mse mtd mra mkp) r') := by
  refine Mg.start (lv := [(0, .ref (mA Z 0))]) (by decide) rfl (Nat.le_of_ble_eq_true rfl) rfl ?_
  intro p e s m below meth c F hr hlk C hP ls hl
  have hS : va_S (AM Z) s.heap s.heap [] := va_S.rf
  unfold fX12_would at hE
  refine lv_aload_n F.1 F.2.1 dX12_would_0 rfl (lv_at hl 0 rfl) ?_
  refine lv_iconst (v := 0) F.1 F.2.1 dX12_would_1 (by decide) ?_
  refine pX12_1 F C hP hS rfl dX12_would_2 (fun H locs hP hS => ?_)
  refine lv_aload_n F.1 F.2.1 dX12_would_5 rfl (lv_at hl 0 rfl) ?_
  obtain ⟨r699, hc, hE⟩ := bnd1_some hE
  refine aft_i (run_V (rest := []) F (kX12_listed hc) (okM Z) C hS lkX12_97 ⟨Nat.le_of_ble_eq_true rfl, Nat.le_of_ble_eq_true rfl⟩ (rvM C hP) hP rfl hl.1 rfl (lv_room (Nat.le_of_ble_eq_true rfl)) dX12_would_6 ⟨Nat.zero_le _, Nat.zero_le _⟩) hS (fun H locs hP hS => ?_)
  refine lv_if_ne (tgt := 15) F.1 F.2.1 dX12_would_9 (by decide) (fun hc => ?_) (fun hc => ?_)
  · have hE := ifn hE hc
    refine lv_aload_n F.1 F.2.1 dX12_would_15 rfl (lv_at hl 0 rfl) ?_
    obtain ⟨r700, hc, hE⟩ := bnd1_some hE
    refine aft_i (run_V (rest := []) F (kX12_thereAll hc) (okM Z) C hS lkX12_233 ⟨Nat.le_of_ble_eq_true rfl, Nat.le_of_ble_eq_true rfl⟩ (rvM C hP) hP rfl hl.1 rfl (lv_room (Nat.le_of_ble_eq_true rfl)) dX12_would_16 ⟨Nat.zero_le _, Nat.zero_le _⟩) hS (fun H locs hP hS => ?_)
    refine lv_istore_n (lv' := [(1, .int r700), (0, .ref (mA Z 0))]) F.1 F.2.1 dX12_would_19 rfl hl (by decide) rfl (fun ls hl => ?_)
    refine lv_aload_n F.1 F.2.1 dX12_would_20 rfl (lv_at hl 1 rfl) ?_
    obtain ⟨mme_701, mde_701, hc, hE⟩ := bnd2_some hE
    refine aft_v (run_V (rest := []) F (kX12_tries hc) (okM Z) C hS lkX12_291 ⟨Nat.le_of_ble_eq_true rfl, Nat.le_of_ble_eq_true rfl⟩ (rvM C hP) hP rfl hl.1 rfl (lv_room (Nat.le_of_ble_eq_true rfl)) dX12_would_21 ⟨Nat.zero_le _, Nat.zero_le _⟩) hS (fun H locs hP hS => ?_)
    refine lv_aload_n F.1 F.2.1 dX12_would_24 rfl (lv_at hl 1 rfl) ?_
    obtain ⟨r702, mme_702, mco_702, mcn_702, mvi_702, men_702, hc, hE⟩ := bnd6_some hE
    refine aft_i (run_V (rest := []) F (kX12_trialOne hc) (okM Z) C hS lkX12_269 ⟨Nat.le_of_ble_eq_true rfl, Nat.le_of_ble_eq_true rfl⟩ (rvM C hP) hP rfl hl.1 rfl (lv_room (Nat.le_of_ble_eq_true rfl)) dX12_would_25 ⟨Nat.zero_le _, Nat.zero_le _⟩) hS (fun H locs hP hS => ?_)
    refine lv_istore_n (lv' := [(2, .int r702), (1, .int r700), (0, .ref (mA Z 0))]) F.1 F.2.1 dX12_would_28 rfl hl (by decide) rfl (fun ls hl => ?_)
    refine lv_iload_n F.1 F.2.1 dX12_would_29 rfl (lv_at hl 1 rfl) ?_
    refine lv_aload_n F.1 F.2.1 dX12_would_30 rfl (lv_at hl 2 rfl) ?_
    obtain ⟨r703, hc, hE⟩ := bnd1_some hE
    refine aft_i (run_V (rest := [.int r700]) F (kX12_thereAll hc) (okM Z) C hS lkX12_233 ⟨Nat.le_of_ble_eq_true rfl, Nat.le_of_ble_eq_true rfl⟩ (rvM C hP) hP rfl hl.1 rfl (lv_room (Nat.le_of_ble_eq_true rfl)) dX12_would_31 ⟨Nat.zero_le _, Nat.zero_le _⟩) hS (fun H locs hP hS => ?_)
    refine lv_iconst (v := (-1)) F.1 F.2.1 dX12_would_34 (by decide) ?_
    refine lv_ixor F.1 F.2.1 dX12_would_35 ?_
    refine lv_iand F.1 F.2.1 dX12_would_36 ?_
    refine lv_istore_n (lv' := [(3, .int (r700 &&& (r703 ^^^ (-1)))), (2, .int r702), (1, .int r700), (0, .ref (mA Z 0))]) F.1 F.2.1 dX12_would_37 rfl hl (by decide) rfl (fun ls hl => ?_)
    refine lv_aload_n F.1 F.2.1 dX12_would_38 rfl (lv_at hl 3 rfl) ?_
    obtain ⟨r704, hc, hE⟩ := bnd1_some hE
    refine aft_i (run_V (rest := []) F (kX12_listed hc) (okM Z) C hS lkX12_97 ⟨Nat.le_of_ble_eq_true rfl, Nat.le_of_ble_eq_true rfl⟩ (rvM C hP) hP rfl hl.1 rfl (lv_room (Nat.le_of_ble_eq_true rfl)) dX12_would_39 ⟨Nat.zero_le _, Nat.zero_le _⟩) hS (fun H locs hP hS => ?_)
    refine lv_istore (lv' := [(4, .int r704), (3, .int (r700 &&& (r703 ^^^ (-1)))), (2, .int r702), (1, .int r700), (0, .ref (mA Z 0))]) F.1 F.2.1 dX12_would_42 hl (by decide) rfl (fun ls hl => ?_)
    refine lv_aload_n F.1 F.2.1 dX12_would_44 rfl (lv_at hl 4 rfl) ?_
    obtain ⟨mde_705, hc, hE⟩ := bnd1_some hE
    refine aft_v (run_V (rest := []) F (kX12_isBack hc) (okM Z) C hS lkX12_294 ⟨Nat.le_of_ble_eq_true rfl, Nat.le_of_ble_eq_true rfl⟩ (rvM C hP) hP rfl hl.1 rfl (lv_room (Nat.le_of_ble_eq_true rfl)) dX12_would_45 ⟨Nat.zero_le _, Nat.zero_le _⟩) hS (fun H locs hP hS => ?_)
    refine lv_aload_n F.1 F.2.1 dX12_would_48 rfl (lv_at hl 4 rfl) ?_
    refine lv_iconst (v := 0) F.1 F.2.1 dX12_would_49 (by decide) ?_
    refine pX12_11 F C hP hS rfl dX12_would_50 (fun H locs hP hS => ?_)
    refine lv_aload_n F.1 F.2.1 dX12_would_53 rfl (lv_at hl 4 rfl) ?_
    refine lv_aload_n F.1 F.2.1 dX12_would_54 rfl (lv_at hl 4 rfl) ?_
    refine gX12_230 F C hP dX12_would_55 ?_
    refine lv_i2l (v := men_702.toInt64) F.1 F.2.1 dX12_would_58 rfl ?_
    obtain ⟨mto_706, mrw_706, hc, hE⟩ := bnd2_some hE
    refine aft_v (run_V (rest := []) F (kX12_enters hc) (okM Z) C hS lkX12_239 ⟨Nat.le_of_ble_eq_true rfl, Nat.le_of_ble_eq_true rfl⟩ (rvM C hP) hP rfl hl.1 rfl (lv_room (Nat.le_of_ble_eq_true rfl)) dX12_would_59 ⟨Nat.zero_le _, Nat.zero_le _⟩) hS (fun H locs hP hS => ?_)
    refine lv_aload_n F.1 F.2.1 dX12_would_62 rfl (lv_at hl 4 rfl) ?_
    refine lv_aload_n F.1 F.2.1 dX12_would_63 rfl (lv_at hl 4 rfl) ?_
    refine gX12_152 F C hP dX12_would_64 ?_
    refine lv_i2l (v := mvi_702.toInt64) F.1 F.2.1 dX12_would_67 rfl ?_
    obtain ⟨mto_707, mrw_707, hc, hE⟩ := bnd2_some hE
    refine aft_v (run_V (rest := []) F (kX12_enters hc) (okM Z) C hS lkX12_239 ⟨Nat.le_of_ble_eq_true rfl, Nat.le_of_ble_eq_true rfl⟩ (rvM C hP) hP rfl hl.1 rfl (lv_room (Nat.le_of_ble_eq_true rfl)) dX12_would_68 ⟨Nat.zero_le _, Nat.zero_le _⟩) hS (fun H locs hP hS => ?_)
    refine lv_aload_n F.1 F.2.1 dX12_would_71 rfl (lv_at hl 4 rfl) ?_
    refine lv_iload F.1 F.2.1 dX12_would_72 (lv_at hl 0 rfl) ?_
    refine lv_i2l (v := r704.toInt64) F.1 F.2.1 dX12_would_74 rfl ?_
    obtain ⟨mto_708, mrw_708, hc, hE⟩ := bnd2_some hE
    refine aft_v (run_V (rest := []) F (kX12_enters hc) (okM Z) C hS lkX12_239 ⟨Nat.le_of_ble_eq_true rfl, Nat.le_of_ble_eq_true rfl⟩ (rvM C hP) hP rfl hl.1 rfl (lv_room (Nat.le_of_ble_eq_true rfl)) dX12_would_75 ⟨Nat.zero_le _, Nat.zero_le _⟩) hS (fun H locs hP hS => ?_)
    refine lv_iload_n F.1 F.2.1 dX12_would_78 rfl (lv_at hl 1 rfl) ?_
    have w0 := Option.some.inj hE
    obtain ⟨g0, w1⟩ := Prod.mk.inj w0
    obtain ⟨g1, w2⟩ := Prod.mk.inj w1
    obtain ⟨g2, w3⟩ := Prod.mk.inj w2
    obtain ⟨g3, w4⟩ := Prod.mk.inj w3
    obtain ⟨g4, w5⟩ := Prod.mk.inj w4
    obtain ⟨g5, w6⟩ := Prod.mk.inj w5
    obtain ⟨g6, w7⟩ := Prod.mk.inj w6
    obtain ⟨g7, w8⟩ := Prod.mk.inj w7
    obtain ⟨g8, w9⟩ := Prod.mk.inj w8
    subst g0 g1 g2 g3 g4 g5 g6 g7 g8 w9
    exact ret_i F hr hlk hP hS dX12_would_79
  · have hE := ifp hE hc
    refine lv_bipush (v := (-2)) F.1 F.2.1 dX12_would_12 (by decide) ?_
    have w0 := Option.some.inj hE
    obtain ⟨g0, w1⟩ := Prod.mk.inj w0
    obtain ⟨g1, w2⟩ := Prod.mk.inj w1
    obtain ⟨g2, w3⟩ := Prod.mk.inj w2
    obtain ⟨g3, w4⟩ := Prod.mk.inj w3
    obtain ⟨g4, w5⟩ := Prod.mk.inj w4
    obtain ⟨g5, w6⟩ := Prod.mk.inj w5
    obtain ⟨g6, w7⟩ := Prod.mk.inj w6
    obtain ⟨g7, w8⟩ := Prod.mk.inj w7
    obtain ⟨g8, w9⟩ := Prod.mk.inj w8
    subst g0 g1 g2 g3 g4 g5 g6 g7 g8 w9
    exact ret_i F hr hlk hP hS dX12_would_14
set_option maxRecDepth 100000 in
set_option maxHeartbeats 4000000 in
theorem qX12_settles_46 {p : Program} {l : Launch} {e : Env} {s : State} {m : MethodId} {args : Array Value} {below : List Frame} {meth : Method} {c : Code} {Z : ZC} {mta : Nat → Int32} {mtp : Int32} {mat : Int32} {mtt : Int32} {mun : Int32} {men : Int32} {mfa : Nat → Int32} {mac : Nat → Int32} {mfi : Nat → Int32} {mse : Nat → Int32} {mtd : Nat → Int32} {mra : Int32} {mkp : Nat → Int32} {N : Nat} {r' : Int32} {mth' : Int32} {mto' : Int32} {mrw' : Nat → Int64} {mme' : Nat → Int32} {mde' : Int32} {mco' : Nat → Int32} {mcn' : Nat → Int32} {mvi' : Int32} (F : CallFix p m c cX12_settles 5 s args bigW RX12) (hr : meth.sig.returnType = (some .int)) (hlk : meth.locks = false) (C : KM Z s) : ∀ (mth : Int32) (mto : Int32) (mrw : Nat → Int64) (mme : Nat → Int32) (mde : Int32) (mco : Nat → Int32) (mcn : Nat → Int32) (mvi : Int32) (x1 : Int32) (y0 : Int32), fX12_settles_46 N mth mto mrw mme mde mco mcn mvi x1 y0 = some (r', mth', mto', mrw', mme', mde', mco', mcn', mvi') → ∀ (H : Heap) (locs : List Loc), PM Z mth mto mrw mta mtp mat mtt mme mun mde mco mcn mvi men mfa mac mfi mse mtd mra mkp H → va_S (AM Z) s.heap H locs → ∀ ls : Array Slot, lv_has ls 5 [(0, .ref (mA Z 0)), (1, .int x1)] → W p l e (rmk 205 4862) s m args below meth c H locs 0 0 (MQ below (Qi (KM Z) (AM Z) (PM Z mth' mto' mrw' mta mtp mat mtt mme' mun mde' mco' mcn' mvi' men mfa mac mfi mse mtd mra mkp) r') args s 0 0 (AM Z)) (F0 m 46 ls [.int y0]) := by
  intro mth mto mrw mme mde mco mcn mvi x1 y0 hE H locs hP hS ls hl
  unfold fX12_settles_46 at hE
  refine lv_istore_n (lv' := [(2, .int y0), (0, .ref (mA Z 0)), (1, .int x1)]) F.1 F.2.1 dX12_settles_46 rfl hl (by decide) rfl (fun ls hl => ?_)
  refine lv_aload_n F.1 F.2.1 dX12_settles_47 rfl (lv_at hl 1 rfl) ?_
  obtain ⟨r724, hc, hE⟩ := bnd1_some hE
  refine aft_i (run_V (rest := []) F (kX12_thereAll hc) (okM Z) C hS lkX12_233 ⟨Nat.le_of_ble_eq_true rfl, Nat.le_of_ble_eq_true rfl⟩ (rvM C hP) hP rfl hl.1 rfl (lv_room (Nat.le_of_ble_eq_true rfl)) dX12_settles_48 ⟨Nat.zero_le _, Nat.zero_le _⟩) hS (fun H locs hP hS => ?_)
  refine lv_istore_n (lv' := [(3, .int r724), (2, .int y0), (0, .ref (mA Z 0)), (1, .int x1)]) F.1 F.2.1 dX12_settles_51 rfl hl (by decide) rfl (fun ls hl => ?_)
  refine lv_iload_n F.1 F.2.1 dX12_settles_52 rfl (lv_at hl 0 rfl) ?_
  refine lv_aload_n F.1 F.2.1 dX12_settles_53 rfl (lv_at hl 2 rfl) ?_
  obtain ⟨r725, hc, hE⟩ := bnd1_some hE
  refine aft_i (run_V (rest := [.int r724]) F (kX12_reached hc) (okM Z) C hS lkX12_202 ⟨Nat.le_of_ble_eq_true rfl, Nat.le_of_ble_eq_true rfl⟩ (rvM C hP) hP rfl hl.1 rfl (lv_room (Nat.le_of_ble_eq_true rfl)) dX12_settles_54 ⟨Nat.zero_le _, Nat.zero_le _⟩) hS (fun H locs hP hS => ?_)
  refine lv_iconst (v := (-1)) F.1 F.2.1 dX12_settles_57 (by decide) ?_
  refine lv_ixor F.1 F.2.1 dX12_settles_58 ?_
  refine lv_iand F.1 F.2.1 dX12_settles_59 ?_
  refine lv_istore (lv' := [(4, .int (r724 &&& (r725 ^^^ (-1)))), (3, .int r724), (2, .int y0), (0, .ref (mA Z 0)), (1, .int x1)]) F.1 F.2.1 dX12_settles_60 hl (by decide) rfl (fun ls hl => ?_)
  refine lv_aload_n F.1 F.2.1 dX12_settles_62 rfl (lv_at hl 3 rfl) ?_
  obtain ⟨mde_726, hc, hE⟩ := bnd1_some hE
  refine aft_v (run_V (rest := []) F (kX12_isBack hc) (okM Z) C hS lkX12_294 ⟨Nat.le_of_ble_eq_true rfl, Nat.le_of_ble_eq_true rfl⟩ (rvM C hP) hP rfl hl.1 rfl (lv_room (Nat.le_of_ble_eq_true rfl)) dX12_settles_63 ⟨Nat.zero_le _, Nat.zero_le _⟩) hS (fun H locs hP hS => ?_)
  refine lv_iload_n F.1 F.2.1 dX12_settles_66 rfl (lv_at hl 2 rfl) ?_
  refine lv_if_ne (tgt := 73) F.1 F.2.1 dX12_settles_67 (by decide) (fun hc => ?_) (fun hc => ?_)
  · have hE := ifn hE hc
    refine lv_aload_n F.1 F.2.1 dX12_settles_73 rfl (lv_at hl 3 rfl) ?_
    refine lv_iconst (v := 0) F.1 F.2.1 dX12_settles_74 (by decide) ?_
    refine pX12_11 F C hP hS rfl dX12_settles_75 (fun H locs hP hS => ?_)
    refine lv_aload_n F.1 F.2.1 dX12_settles_78 rfl (lv_at hl 3 rfl) ?_
    refine lv_iload_n F.1 F.2.1 dX12_settles_79 rfl (lv_at hl 1 rfl) ?_
    obtain ⟨r727, hc, hE⟩ := bnd1_some hE
    refine aft_i (run_S (rest := [.ref (mA Z 0)]) F (kX12_sizeOf hc) (okM Z) C hS lkX12_236 ⟨Nat.le_of_ble_eq_true rfl, Nat.le_of_ble_eq_true rfl⟩ hP rfl hl.1 rfl (lv_room (Nat.le_of_ble_eq_true rfl)) dX12_settles_80 ⟨Nat.zero_le _, Nat.zero_le _⟩) hS (fun H locs hP hS => ?_)
    refine lv_i2l (v := r727.toInt64) F.1 F.2.1 dX12_settles_83 rfl ?_
    obtain ⟨mto_728, mrw_728, hc, hE⟩ := bnd2_some hE
    refine aft_v (run_V (rest := []) F (kX12_enters hc) (okM Z) C hS lkX12_239 ⟨Nat.le_of_ble_eq_true rfl, Nat.le_of_ble_eq_true rfl⟩ (rvM C hP) hP rfl hl.1 rfl (lv_room (Nat.le_of_ble_eq_true rfl)) dX12_settles_84 ⟨Nat.zero_le _, Nat.zero_le _⟩) hS (fun H locs hP hS => ?_)
    refine lv_aload_n F.1 F.2.1 dX12_settles_87 rfl (lv_at hl 3 rfl) ?_
    refine lv_iload F.1 F.2.1 dX12_settles_88 (lv_at hl 0 rfl) ?_
    obtain ⟨r729, hc, hE⟩ := bnd1_some hE
    refine aft_i (run_S (rest := [.ref (mA Z 0)]) F (kX12_sizeOf hc) (okM Z) C hS lkX12_236 ⟨Nat.le_of_ble_eq_true rfl, Nat.le_of_ble_eq_true rfl⟩ hP rfl hl.1 rfl (lv_room (Nat.le_of_ble_eq_true rfl)) dX12_settles_90 ⟨Nat.zero_le _, Nat.zero_le _⟩) hS (fun H locs hP hS => ?_)
    refine lv_i2l (v := r729.toInt64) F.1 F.2.1 dX12_settles_93 rfl ?_
    obtain ⟨mto_730, mrw_730, hc, hE⟩ := bnd2_some hE
    refine aft_v (run_V (rest := []) F (kX12_enters hc) (okM Z) C hS lkX12_239 ⟨Nat.le_of_ble_eq_true rfl, Nat.le_of_ble_eq_true rfl⟩ (rvM C hP) hP rfl hl.1 rfl (lv_room (Nat.le_of_ble_eq_true rfl)) dX12_settles_94 ⟨Nat.zero_le _, Nat.zero_le _⟩) hS (fun H locs hP hS => ?_)
    refine lv_iload_n F.1 F.2.1 dX12_settles_97 rfl (lv_at hl 4 rfl) ?_
    have w0 := Option.some.inj hE
    obtain ⟨g0, w1⟩ := Prod.mk.inj w0
    obtain ⟨g1, w2⟩ := Prod.mk.inj w1
    obtain ⟨g2, w3⟩ := Prod.mk.inj w2
    obtain ⟨g3, w4⟩ := Prod.mk.inj w3
    obtain ⟨g4, w5⟩ := Prod.mk.inj w4
    obtain ⟨g5, w6⟩ := Prod.mk.inj w5
    obtain ⟨g6, w7⟩ := Prod.mk.inj w6
    obtain ⟨g7, w8⟩ := Prod.mk.inj w7
    subst g0 g1 g2 g3 g4 g5 g6 g7 w8
    exact ret_i F hr hlk hP hS dX12_settles_98
  · have hE := ifp hE hc
    refine lv_bipush (v := (-2)) F.1 F.2.1 dX12_settles_70 (by decide) ?_
    have w0 := Option.some.inj hE
    obtain ⟨g0, w1⟩ := Prod.mk.inj w0
    obtain ⟨g1, w2⟩ := Prod.mk.inj w1
    obtain ⟨g2, w3⟩ := Prod.mk.inj w2
    obtain ⟨g3, w4⟩ := Prod.mk.inj w3
    obtain ⟨g4, w5⟩ := Prod.mk.inj w4
    obtain ⟨g5, w6⟩ := Prod.mk.inj w5
    obtain ⟨g6, w7⟩ := Prod.mk.inj w6
    obtain ⟨g7, w8⟩ := Prod.mk.inj w7
    subst g0 g1 g2 g3 g4 g5 g6 g7 w8
    exact ret_i F hr hlk hP hS dX12_settles_72
set_option maxRecDepth 100000 in
set_option maxHeartbeats 4000000 in
theorem qX12_settles_34 {p : Program} {l : Launch} {e : Env} {s : State} {m : MethodId} {args : Array Value} {below : List Frame} {meth : Method} {c : Code} {Z : ZC} {mta : Nat → Int32} {mtp : Int32} {mat : Int32} {mtt : Int32} {mun : Int32} {men : Int32} {mfa : Nat → Int32} {mac : Nat → Int32} {mfi : Nat → Int32} {mse : Nat → Int32} {mtd : Nat → Int32} {mra : Int32} {mkp : Nat → Int32} {N : Nat} {r' : Int32} {mth' : Int32} {mto' : Int32} {mrw' : Nat → Int64} {mme' : Nat → Int32} {mde' : Int32} {mco' : Nat → Int32} {mcn' : Nat → Int32} {mvi' : Int32} (F : CallFix p m c cX12_settles 5 s args bigW RX12) (hr : meth.sig.returnType = (some .int)) (hlk : meth.locks = false) (C : KM Z s) : ∀ (mth : Int32) (mto : Int32) (mrw : Nat → Int64) (mme : Nat → Int32) (mde : Int32) (mco : Nat → Int32) (mcn : Nat → Int32) (mvi : Int32) (x1 : Int32), fX12_settles_34 N mth mto mrw mme mde mco mcn mvi x1 = some (r', mth', mto', mrw', mme', mde', mco', mcn', mvi') → ∀ (H : Heap) (locs : List Loc), PM Z mth mto mrw mta mtp mat mtt mme mun mde mco mcn mvi men mfa mac mfi mse mtd mra mkp H → va_S (AM Z) s.heap H locs → ∀ ls : Array Slot, lv_has ls 5 [(0, .ref (mA Z 0)), (1, .int x1)] → W p l e (rmk 205 4862) s m args below meth c H locs 0 0 (MQ below (Qi (KM Z) (AM Z) (PM Z mth' mto' mrw' mta mtp mat mtt mme' mun mde' mco' mcn' mvi' men mfa mac mfi mse mtd mra mkp) r') args s 0 0 (AM Z)) (F0 m 34 ls []) := by
  intro mth mto mrw mme mde mco mcn mvi x1 hE H locs hP hS ls hl
  unfold fX12_settles_34 at hE
  refine lv_aload_n F.1 F.2.1 dX12_settles_34 rfl (lv_at hl 0 rfl) ?_
  obtain ⟨r723, hc, hE⟩ := bnd1_some hE
  refine aft_i (run_V (rest := []) F (kX12_listed hc) (okM Z) C hS lkX12_97 ⟨Nat.le_of_ble_eq_true rfl, Nat.le_of_ble_eq_true rfl⟩ (rvM C hP) hP rfl hl.1 rfl (lv_room (Nat.le_of_ble_eq_true rfl)) dX12_settles_35 ⟨Nat.zero_le _, Nat.zero_le _⟩) hS (fun H locs hP hS => ?_)
  refine lv_if_ne (tgt := 45) F.1 F.2.1 dX12_settles_38 (by decide) (fun hc => ?_) (fun hc => ?_)
  · have hE := ifn hE hc
    refine lv_iconst (v := 0) F.1 F.2.1 dX12_settles_45 (by decide) ?_
    exact qX12_settles_46 F hr hlk C mth mto mrw mme mde mco mcn mvi x1 0 hE _ _ hP hS ls (lv_sub hl [0, 1] rfl)
  · have hE := ifp hE hc
    refine lv_iconst (v := 1) F.1 F.2.1 dX12_settles_41 (by decide) ?_
    refine lv_goto (tgt := 46) F.1 F.2.1 dX12_settles_42 (by decide) ?_
    exact qX12_settles_46 F hr hlk C mth mto mrw mme mde mco mcn mvi x1 1 hE _ _ hP hS ls (lv_sub hl [0, 1] rfl)
set_option maxRecDepth 100000 in
set_option maxHeartbeats 4000000 in
theorem qX12_settles_11 {p : Program} {l : Launch} {e : Env} {s : State} {m : MethodId} {args : Array Value} {below : List Frame} {meth : Method} {c : Code} {Z : ZC} {mta : Nat → Int32} {mtp : Int32} {mat : Int32} {mtt : Int32} {mun : Int32} {men : Int32} {mfa : Nat → Int32} {mac : Nat → Int32} {mfi : Nat → Int32} {mse : Nat → Int32} {mtd : Nat → Int32} {mra : Int32} {mkp : Nat → Int32} {N : Nat} {r' : Int32} {mth' : Int32} {mto' : Int32} {mrw' : Nat → Int64} {mme' : Nat → Int32} {mde' : Int32} {mco' : Nat → Int32} {mcn' : Nat → Int32} {mvi' : Int32} (F : CallFix p m c cX12_settles 5 s args bigW RX12) (hr : meth.sig.returnType = (some .int)) (hlk : meth.locks = false) (C : KM Z s) : ∀ n : Nat, ∀ (mth : Int32) (mto : Int32) (mrw : Nat → Int64) (mme : Nat → Int32) (mde : Int32) (mco : Nat → Int32) (mcn : Nat → Int32) (mvi : Int32) (x1 : Int32), fX12_settles_11 N n mth mto mrw mme mde mco mcn mvi x1 = some (r', mth', mto', mrw', mme', mde', mco', mcn', mvi') → ∀ (H : Heap) (locs : List Loc), PM Z mth mto mrw mta mtp mat mtt mme mun mde mco mcn mvi men mfa mac mfi mse mtd mra mkp H → va_S (AM Z) s.heap H locs → ∀ ls : Array Slot, lv_has ls 5 [(0, .ref (mA Z 0)), (1, .int x1)] → W p l e (rmk 205 4862) s m args below meth c H locs 0 0 (MQ below (Qi (KM Z) (AM Z) (PM Z mth' mto' mrw' mta mtp mat mtt mme' mun mde' mco' mcn' mvi' men mfa mac mfi mse mtd mra mkp) r') args s 0 0 (AM Z)) (F0 m 11 ls []) := by
  intro n
  induction n with
  | zero => intro mth mto mrw mme mde mco mcn mvi x1 hE; cases hE
  | succ n h11 =>
    intro mth mto mrw mme mde mco mcn mvi x1 hE H locs hP hS ls hl
    have hE : fX12_settles_11b N (fX12_settles_11 N n) mth mto mrw mme mde mco mcn mvi x1 = some (r', mth', mto', mrw', mme', mde', mco', mcn', mvi') := hE
    refine lv_iload_n F.1 F.2.1 dX12_settles_11 rfl (lv_at hl 1 rfl) ?_
    refine lv_bipush (v := 30) F.1 F.2.1 dX12_settles_12 (by decide) ?_
    refine lv_icmp_ge (tgt := 34) F.1 F.2.1 dX12_settles_14 (by decide) (fun hc => ?_) (fun hc => ?_)
    · have hE := ifp hE hc
      exact qX12_settles_34 F hr hlk C mth mto mrw mme mde mco mcn mvi x1 hE _ _ hP hS ls (lv_sub hl [0, 1] rfl)
    · have hE := ifn hE hc
      refine lv_aload_n F.1 F.2.1 dX12_settles_17 rfl (lv_at hl 0 rfl) ?_
      obtain ⟨r721, hc, hE⟩ := bnd1_some hE
      refine aft_i (run_V (rest := []) F (kX12_listed hc) (okM Z) C hS lkX12_97 ⟨Nat.le_of_ble_eq_true rfl, Nat.le_of_ble_eq_true rfl⟩ (rvM C hP) hP rfl hl.1 rfl (lv_room (Nat.le_of_ble_eq_true rfl)) dX12_settles_18 ⟨Nat.zero_le _, Nat.zero_le _⟩) hS (fun H locs hP hS => ?_)
      refine lv_if_le (tgt := 34) F.1 F.2.1 dX12_settles_21 (by decide) (fun hc => ?_) (fun hc => ?_)
      · have hE := ifp hE hc
        exact qX12_settles_34 F hr hlk C mth mto mrw mme mde mco mcn mvi x1 hE _ _ hP hS ls (lv_sub hl [0, 1] rfl)
      · have hE := ifn hE hc
        refine lv_aload_n F.1 F.2.1 dX12_settles_24 rfl (lv_at hl 0 rfl) ?_
        obtain ⟨mme_722, mco_722, mcn_722, mvi_722, hc, hE⟩ := bnd4_some hE
        refine aft_v (run_V (rest := []) F (kX12_runsTrial hc) (okM Z) C hS lkX12_190 ⟨Nat.le_of_ble_eq_true rfl, Nat.le_of_ble_eq_true rfl⟩ (rvM C hP) hP rfl hl.1 rfl (lv_room (Nat.le_of_ble_eq_true rfl)) dX12_settles_25 ⟨Nat.zero_le _, Nat.zero_le _⟩) hS (fun H locs hP hS => ?_)
        refine lv_iinc (v := x1 + 1) (lv' := [(1, .int (x1 + 1)), (0, .ref (mA Z 0))]) F.1 F.2.1 dX12_settles_28 hl (k := 1) rfl rfl (by decide) rfl (fun ls hl => ?_)
        refine lv_goto (tgt := 11) F.1 F.2.1 dX12_settles_31 (by decide) ?_
        exact h11 mth mto mrw mme_722 mde mco_722 mcn_722 mvi_722 (x1 + 1) hE _ _ hP hS ls (lv_sub hl [1, 0] rfl)
set_option maxRecDepth 100000 in
set_option maxHeartbeats 4000000 in
theorem kX12_settles {l : Launch} {Z : ZC} {mth : Int32} {mto : Int32} {mrw : Nat → Int64} {mta : Nat → Int32} {mtp : Int32} {mat : Int32} {mtt : Int32} {mme : Nat → Int32} {mun : Int32} {mde : Int32} {mco : Nat → Int32} {mcn : Nat → Int32} {mvi : Int32} {men : Int32} {mfa : Nat → Int32} {mac : Nat → Int32} {mfi : Nat → Int32} {mse : Nat → Int32} {mtd : Nat → Int32} {mra : Int32} {mkp : Nat → Int32} {N : Nat} {r' : Int32} {mth' : Int32} {mto' : Int32} {mrw' : Nat → Int64} {mme' : Nat → Int32} {mde' : Int32} {mco' : Nat → Int32} {mcn' : Nat → Int32} {mvi' : Int32} (hE : fX12_settles N mth mto mrw mme mde mco mcn mvi = some (r', mth', mto', mrw', mme', mde', mco', mcn', mvi')) : Mg l yX12_settles cX12_settles 5 (some .int) (rmk 205 4862) (KM Z) (AM Z) [.ref (mA Z 0)] (PM Z mth mto mrw mta mtp mat mtt mme mun mde mco mcn mvi men mfa mac mfi mse mtd mra mkp) (Qi (KM Z) (AM Z) (PM Z mth' mto' mrw' mta mtp mat mtt mme' mun mde' mco' mcn' mvi' men mfa mac mfi mse mtd mra mkp) r') := by
  refine Mg.start (lv := [(0, .ref (mA Z 0))]) (by decide) rfl (Nat.le_of_ble_eq_true rfl) rfl ?_
  intro p e s m below meth c F hr hlk C hP ls hl
  have hS : va_S (AM Z) s.heap s.heap [] := va_S.rf
  unfold fX12_settles at hE
  refine lv_aload_n F.1 F.2.1 dX12_settles_0 rfl (lv_at hl 0 rfl) ?_
  refine lv_iconst (v := 0) F.1 F.2.1 dX12_settles_1 (by decide) ?_
  refine pX12_1 F C hP hS rfl dX12_settles_2 (fun H locs hP hS => ?_)
  refine lv_aload_n F.1 F.2.1 dX12_settles_5 rfl (lv_at hl 0 rfl) ?_
  obtain ⟨mme_720, mde_720, hc, hE⟩ := bnd2_some hE
  refine aft_v (run_V (rest := []) F (kX12_tries hc) (okM Z) C hS lkX12_291 ⟨Nat.le_of_ble_eq_true rfl, Nat.le_of_ble_eq_true rfl⟩ (rvM C hP) hP rfl hl.1 rfl (lv_room (Nat.le_of_ble_eq_true rfl)) dX12_settles_6 ⟨Nat.zero_le _, Nat.zero_le _⟩) hS (fun H locs hP hS => ?_)
  refine lv_iconst (v := 0) F.1 F.2.1 dX12_settles_9 (by decide) ?_
  refine lv_istore_n (lv' := [(1, .int 0), (0, .ref (mA Z 0))]) F.1 F.2.1 dX12_settles_10 rfl hl (by decide) rfl (fun ls hl => ?_)
  exact qX12_settles_11 F hr hlk C N 0 mto mrw mme_720 mde_720 mco mcn mvi 0 hE _ _ hP hS ls (lv_sub hl [1, 0] rfl)
set_option maxRecDepth 100000 in
set_option maxHeartbeats 4000000 in
theorem kX12_worth {l : Launch} {Z : ZC} {mth : Int32} {mto : Int32} {mrw : Nat → Int64} {mta : Nat → Int32} {mtp : Int32} {mat : Int32} {mtt : Int32} {mme : Nat → Int32} {mun : Int32} {mde : Int32} {mco : Nat → Int32} {mcn : Nat → Int32} {mvi : Int32} {men : Int32} {mfa : Nat → Int32} {mac : Nat → Int32} {mfi : Nat → Int32} {mse : Nat → Int32} {mtd : Nat → Int32} {mra : Int32} {mkp : Nat → Int32} {N : Nat} {p1 : Int32} {p2 : Int32} {r' : Int32} (hE : fX12_worth N mme mde p1 p2 = some r') : Mg l yX12_worth cX12_worth 3 (some .int) (rmk 6 134) (KM Z) (AM Z) [.ref (mA Z 0), .int p1, .int p2] (PM Z mth mto mrw mta mtp mat mtt mme mun mde mco mcn mvi men mfa mac mfi mse mtd mra mkp) (Qi (KM Z) (AM Z) (PM Z mth mto mrw mta mtp mat mtt mme mun mde mco mcn mvi men mfa mac mfi mse mtd mra mkp) r') := by
  refine Mg.start (lv := [(0, .ref (mA Z 0)), (1, .int p1), (2, .int p2)]) (by decide) rfl (Nat.le_of_ble_eq_true rfl) rfl ?_
  intro p e s m below meth c F hr hlk C hP ls hl
  have hS : va_S (AM Z) s.heap s.heap [] := va_S.rf
  unfold fX12_worth at hE
  refine lv_iload_n F.1 F.2.1 dX12_worth_0 rfl (lv_at hl 2 rfl) ?_
  refine lv_if_ne (tgt := 13) F.1 F.2.1 dX12_worth_1 (by decide) (fun hc => ?_) (fun hc => ?_)
  · have hE := ifn hE hc
    refine lv_iload_n F.1 F.2.1 dX12_worth_13 rfl (lv_at hl 2 rfl) ?_
    refine lv_iconst (v := 1) F.1 F.2.1 dX12_worth_14 (by decide) ?_
    refine lv_icmp_ne (tgt := 27) F.1 F.2.1 dX12_worth_15 (by decide) (fun hc => ?_) (fun hc => ?_)
    · have hE := ifn hE hc
      refine lv_aload_n F.1 F.2.1 dX12_worth_27 rfl (lv_at hl 0 rfl) ?_
      refine lv_aload_n F.1 F.2.1 dX12_worth_28 rfl (lv_at hl 0 rfl) ?_
      refine lv_iload_n F.1 F.2.1 dX12_worth_29 rfl (lv_at hl 1 rfl) ?_
      obtain ⟨r735, hc, hE⟩ := bnd1_some hE
      refine aft_i (run_V (rest := [.ref (mA Z 0)]) F (kX12_aloneWith hc) (okM Z) C hS lkX12_288 ⟨Nat.le_of_ble_eq_true rfl, Nat.le_of_ble_eq_true rfl⟩ (rvM C hP) hP rfl hl.1 rfl (lv_room (Nat.le_of_ble_eq_true rfl)) dX12_worth_30 ⟨Nat.zero_le _, Nat.zero_le _⟩) hS (fun H locs hP hS => ?_)
      obtain ⟨r736, hc, hE⟩ := bnd1_some hE
      refine aft_i (run_V (rest := []) F (kX12_weights hc) (okM Z) C hS lkX12_279 ⟨Nat.le_of_ble_eq_true rfl, Nat.le_of_ble_eq_true rfl⟩ (rvM C hP) hP rfl hl.1 rfl (lv_room (Nat.le_of_ble_eq_true rfl)) dX12_worth_33 ⟨Nat.zero_le _, Nat.zero_le _⟩) hS (fun H locs hP hS => ?_)
      obtain rfl := Option.some.inj hE
      exact ret_i F hr hlk hP hS dX12_worth_36
    · have hE := ifp hE hc
      refine lv_aload_n F.1 F.2.1 dX12_worth_18 rfl (lv_at hl 0 rfl) ?_
      refine lv_iload_n F.1 F.2.1 dX12_worth_19 rfl (lv_at hl 1 rfl) ?_
      refine lv_iconst (v := 2) F.1 F.2.1 dX12_worth_20 (by decide) ?_
      obtain ⟨r737, hc, hE⟩ := bnd1_some hE
      refine aft_i (run_V (rest := []) F (kX12_of hc) (okM Z) C hS lkX12_91 ⟨Nat.le_of_ble_eq_true rfl, Nat.le_of_ble_eq_true rfl⟩ (rvM C hP) hP rfl hl.1 rfl (lv_room (Nat.le_of_ble_eq_true rfl)) dX12_worth_21 ⟨Nat.zero_le _, Nat.zero_le _⟩) hS (fun H locs hP hS => ?_)
      refine lv_goto (tgt := 36) F.1 F.2.1 dX12_worth_24 (by decide) ?_
      obtain rfl := Option.some.inj hE
      exact ret_i F hr hlk hP hS dX12_worth_36
  · have hE := ifp hE hc
    refine lv_aload_n F.1 F.2.1 dX12_worth_4 rfl (lv_at hl 0 rfl) ?_
    refine lv_iload_n F.1 F.2.1 dX12_worth_5 rfl (lv_at hl 1 rfl) ?_
    refine lv_iconst (v := 5) F.1 F.2.1 dX12_worth_6 (by decide) ?_
    obtain ⟨r738, hc, hE⟩ := bnd1_some hE
    refine aft_i (run_V (rest := []) F (kX12_of hc) (okM Z) C hS lkX12_91 ⟨Nat.le_of_ble_eq_true rfl, Nat.le_of_ble_eq_true rfl⟩ (rvM C hP) hP rfl hl.1 rfl (lv_room (Nat.le_of_ble_eq_true rfl)) dX12_worth_7 ⟨Nat.zero_le _, Nat.zero_le _⟩) hS (fun H locs hP hS => ?_)
    refine lv_goto (tgt := 36) F.1 F.2.1 dX12_worth_10 (by decide) ?_
    obtain rfl := Option.some.inj hE
    exact ret_i F hr hlk hP hS dX12_worth_36
set_option maxRecDepth 100000 in
set_option maxHeartbeats 4000000 in
theorem qX12_ranks_83 {p : Program} {l : Launch} {e : Env} {s : State} {m : MethodId} {args : Array Value} {below : List Frame} {meth : Method} {c : Code} {Z : ZC} {mta : Nat → Int32} {mtp : Int32} {mat : Int32} {mtt : Int32} {mme : Nat → Int32} {mun : Int32} {mde : Int32} {mco : Nat → Int32} {mcn : Nat → Int32} {mvi : Int32} {men : Int32} {mfa : Nat → Int32} {mac : Nat → Int32} {mfi : Nat → Int32} {mse : Nat → Int32} {mtd : Nat → Int32} {mra : Int32} {mkp : Nat → Int32} {N : Nat} {p1 : Int32} {r' : Int32} {mth' : Int32} {mto' : Int32} {mrw' : Nat → Int64} (F : CallFix p m c cX12_ranks 5 s args bigW RX12) (hr : meth.sig.returnType = (some .int)) (hlk : meth.locks = false) (C : KM Z s) {k29 : Int32 → Int32 → (Nat → Int64) → Int32 → Option (Int32 × Int32 × Int32 × (Nat → Int64))} (h29 : ∀ (mth : Int32) (mto : Int32) (mrw : Nat → Int64) (x2 : Int32), k29 mth mto mrw x2 = some (r', mth', mto', mrw') → ∀ (H : Heap) (locs : List Loc), PM Z mth mto mrw mta mtp mat mtt mme mun mde mco mcn mvi men mfa mac mfi mse mtd mra mkp H → va_S (AM Z) s.heap H locs → ∀ ls : Array Slot, lv_has ls 5 [(0, .ref (mA Z 0)), (1, .int p1), (2, .int x2)] → W p l e (rmk 7 156) s m args below meth c H locs 0 0 (MQ below (Qi (KM Z) (AM Z) (PM Z mth' mto' mrw' mta mtp mat mtt mme mun mde mco mcn mvi men mfa mac mfi mse mtd mra mkp) r') args s 0 0 (AM Z)) (F0 m 29 ls [])) : ∀ (mth : Int32) (mto : Int32) (mrw : Nat → Int64) (x2 : Int32) (x3 : Int32), fX12_ranks_83 N mme mde p1 k29 mth mto mrw x2 x3 = some (r', mth', mto', mrw') → ∀ (H : Heap) (locs : List Loc), PM Z mth mto mrw mta mtp mat mtt mme mun mde mco mcn mvi men mfa mac mfi mse mtd mra mkp H → va_S (AM Z) s.heap H locs → ∀ ls : Array Slot, lv_has ls 5 [(0, .ref (mA Z 0)), (1, .int p1), (2, .int x2), (3, .int x3)] → W p l e (rmk 7 156) s m args below meth c H locs 0 0 (MQ below (Qi (KM Z) (AM Z) (PM Z mth' mto' mrw' mta mtp mat mtt mme mun mde mco mcn mvi men mfa mac mfi mse mtd mra mkp) r') args s 0 0 (AM Z)) (F0 m 83 ls []) := by
  intro mth mto mrw x2 x3 hE H locs hP hS ls hl
  unfold fX12_ranks_83 at hE
  refine lv_aload_n F.1 F.2.1 dX12_ranks_83 rfl (lv_at hl 0 rfl) ?_
  refine lv_iload_n F.1 F.2.1 dX12_ranks_84 rfl (lv_at hl 3 rfl) ?_
  refine lv_i2l (v := x3.toInt64) F.1 F.2.1 dX12_ranks_85 rfl ?_
  obtain ⟨mto_751, mrw_751, hc, hE⟩ := bnd2_some hE
  refine aft_v (run_V (rest := []) F (kX12_enters hc) (okM Z) C hS lkX12_239 ⟨Nat.le_of_ble_eq_true rfl, Nat.le_of_ble_eq_true rfl⟩ (rvM C hP) hP rfl hl.1 rfl (lv_room (Nat.le_of_ble_eq_true rfl)) dX12_ranks_86 ⟨Nat.zero_le _, Nat.zero_le _⟩) hS (fun H locs hP hS => ?_)
  refine lv_iload_n F.1 F.2.1 dX12_ranks_89 rfl (lv_at hl 2 rfl) ?_
  refine lv_iconst (v := 1) F.1 F.2.1 dX12_ranks_90 (by decide) ?_
  refine lv_iload_n F.1 F.2.1 dX12_ranks_91 rfl (lv_at hl 3 rfl) ?_
  refine rj_ishl F.1 F.2.1 dX12_ranks_92 ?_
  refine lv_iconst (v := (-1)) F.1 F.2.1 dX12_ranks_93 (by decide) ?_
  refine lv_ixor F.1 F.2.1 dX12_ranks_94 ?_
  refine lv_iand F.1 F.2.1 dX12_ranks_95 ?_
  obtain ⟨v_752, ev_752, hE⟩ := lt_some hE
  refine lv_seti ev_752 ?_
  refine lv_istore_n (lv' := [(2, .int v_752), (0, .ref (mA Z 0)), (1, .int p1), (3, .int x3)]) F.1 F.2.1 dX12_ranks_96 rfl hl (by decide) rfl (fun ls hl => ?_)
  refine lv_goto (tgt := 29) F.1 F.2.1 dX12_ranks_97 (by decide) ?_
  exact h29 mth mto_751 mrw_751 v_752 hE _ _ hP hS ls (lv_sub hl [1, 2, 0] rfl)
set_option maxRecDepth 100000 in
set_option maxHeartbeats 4000000 in
theorem qX12_ranks_38 {p : Program} {l : Launch} {e : Env} {s : State} {m : MethodId} {args : Array Value} {below : List Frame} {meth : Method} {c : Code} {Z : ZC} {mta : Nat → Int32} {mtp : Int32} {mat : Int32} {mtt : Int32} {mme : Nat → Int32} {mun : Int32} {mde : Int32} {mco : Nat → Int32} {mcn : Nat → Int32} {mvi : Int32} {men : Int32} {mfa : Nat → Int32} {mac : Nat → Int32} {mfi : Nat → Int32} {mse : Nat → Int32} {mtd : Nat → Int32} {mra : Int32} {mkp : Nat → Int32} {N : Nat} {p1 : Int32} {r' : Int32} {mth' : Int32} {mto' : Int32} {mrw' : Nat → Int64} (F : CallFix p m c cX12_ranks 5 s args bigW RX12) (hr : meth.sig.returnType = (some .int)) (hlk : meth.locks = false) (C : KM Z s) {k29 : Int32 → Int32 → (Nat → Int64) → Int32 → Option (Int32 × Int32 × Int32 × (Nat → Int64))} (h29 : ∀ (mth : Int32) (mto : Int32) (mrw : Nat → Int64) (x2 : Int32), k29 mth mto mrw x2 = some (r', mth', mto', mrw') → ∀ (H : Heap) (locs : List Loc), PM Z mth mto mrw mta mtp mat mtt mme mun mde mco mcn mvi men mfa mac mfi mse mtd mra mkp H → va_S (AM Z) s.heap H locs → ∀ ls : Array Slot, lv_has ls 5 [(0, .ref (mA Z 0)), (1, .int p1), (2, .int x2)] → W p l e (rmk 7 156) s m args below meth c H locs 0 0 (MQ below (Qi (KM Z) (AM Z) (PM Z mth' mto' mrw' mta mtp mat mtt mme mun mde mco mcn mvi men mfa mac mfi mse mtd mra mkp) r') args s 0 0 (AM Z)) (F0 m 29 ls [])) : ∀ n : Nat, ∀ (mth : Int32) (mto : Int32) (mrw : Nat → Int64) (x2 : Int32) (x3 : Int32) (x4 : Int32), fX12_ranks_38 N mme mde p1 k29 n mth mto mrw x2 x3 x4 = some (r', mth', mto', mrw') → ∀ (H : Heap) (locs : List Loc), PM Z mth mto mrw mta mtp mat mtt mme mun mde mco mcn mvi men mfa mac mfi mse mtd mra mkp H → va_S (AM Z) s.heap H locs → ∀ ls : Array Slot, lv_has ls 5 [(0, .ref (mA Z 0)), (1, .int p1), (2, .int x2), (3, .int x3), (4, .int x4)] → W p l e (rmk 7 156) s m args below meth c H locs 0 0 (MQ below (Qi (KM Z) (AM Z) (PM Z mth' mto' mrw' mta mtp mat mtt mme mun mde mco mcn mvi men mfa mac mfi mse mtd mra mkp) r') args s 0 0 (AM Z)) (F0 m 38 ls []) := by
  intro n
  induction n with
  | zero => intro mth mto mrw x2 x3 x4 hE; cases hE
  | succ n h38 =>
    intro mth mto mrw x2 x3 x4 hE H locs hP hS ls hl
    have hE : fX12_ranks_38b N mme mde p1 k29 (fX12_ranks_38 N mme mde p1 k29 n) mth mto mrw x2 x3 x4 = some (r', mth', mto', mrw') := hE
    refine lv_iload F.1 F.2.1 dX12_ranks_38 (lv_at hl 4 rfl) ?_
    refine lv_bipush (v := 24) F.1 F.2.1 dX12_ranks_40 (by decide) ?_
    refine lv_icmp_ge (tgt := 83) F.1 F.2.1 dX12_ranks_42 (by decide) (fun hc => ?_) (fun hc => ?_)
    · have hE := ifp hE hc
      exact qX12_ranks_83 F hr hlk C h29 mth mto mrw x2 x3 hE _ _ hP hS ls (lv_sub hl [0, 1, 2, 3] rfl)
    · have hE := ifn hE hc
      refine lv_iload_n F.1 F.2.1 dX12_ranks_45 rfl (lv_at hl 2 rfl) ?_
      refine lv_iload F.1 F.2.1 dX12_ranks_46 (lv_at hl 4 rfl) ?_
      obtain ⟨r748, hc, hE⟩ := bnd1_some hE
      refine aft_i (run_S (rest := []) F (kX12_has hc) (okM Z) C hS lkX12_171 ⟨Nat.le_of_ble_eq_true rfl, Nat.le_of_ble_eq_true rfl⟩ hP rfl hl.1 rfl (lv_room (Nat.le_of_ble_eq_true rfl)) dX12_ranks_48 ⟨Nat.zero_le _, Nat.zero_le _⟩) hS (fun H locs hP hS => ?_)
      refine lv_if_eq (tgt := 77) F.1 F.2.1 dX12_ranks_51 (by decide) (fun hc => ?_) (fun hc => ?_)
      · have hE := ifp hE hc
        refine lv_iinc (v := x4 + 1) (lv' := [(4, .int (x4 + 1)), (0, .ref (mA Z 0)), (1, .int p1), (2, .int x2), (3, .int x3)]) F.1 F.2.1 dX12_ranks_77 hl (k := 4) rfl rfl (by decide) rfl (fun ls hl => ?_)
        refine lv_goto (tgt := 38) F.1 F.2.1 dX12_ranks_80 (by decide) ?_
        exact h38 mth mto mrw x2 x3 (x4 + 1) hE _ _ hP hS ls (lv_sub hl [1, 2, 3, 4, 0] rfl)
      · have hE := ifn hE hc
        refine lv_iload_n F.1 F.2.1 dX12_ranks_54 rfl (lv_at hl 3 rfl) ?_
        refine lv_if_lt (tgt := 74) F.1 F.2.1 dX12_ranks_55 (by decide) (fun hc => ?_) (fun hc => ?_)
        · have hE := ifp hE hc
          refine lv_iload F.1 F.2.1 dX12_ranks_74 (lv_at hl 4 rfl) ?_
          refine lv_istore_n (lv' := [(3, .int x4), (0, .ref (mA Z 0)), (1, .int p1), (2, .int x2), (4, .int x4)]) F.1 F.2.1 dX12_ranks_76 rfl hl (by decide) rfl (fun ls hl => ?_)
          refine lv_iinc (v := x4 + 1) (lv' := [(4, .int (x4 + 1)), (3, .int x4), (0, .ref (mA Z 0)), (1, .int p1), (2, .int x2)]) F.1 F.2.1 dX12_ranks_77 hl (k := 4) rfl rfl (by decide) rfl (fun ls hl => ?_)
          refine lv_goto (tgt := 38) F.1 F.2.1 dX12_ranks_80 (by decide) ?_
          exact h38 mth mto mrw x2 x4 (x4 + 1) hE _ _ hP hS ls (lv_sub hl [2, 3, 4, 1, 0] rfl)
        · have hE := ifn hE hc
          refine lv_aload_n F.1 F.2.1 dX12_ranks_58 rfl (lv_at hl 0 rfl) ?_
          refine lv_iload F.1 F.2.1 dX12_ranks_59 (lv_at hl 4 rfl) ?_
          refine lv_iload_n F.1 F.2.1 dX12_ranks_61 rfl (lv_at hl 1 rfl) ?_
          obtain ⟨r749, hc, hE⟩ := bnd1_some hE
          refine aft_i (run_V (rest := []) F (kX12_worth hc) (okM Z) C hS lkX12_299 ⟨Nat.le_of_ble_eq_true rfl, Nat.le_of_ble_eq_true rfl⟩ (rvM C hP) hP rfl hl.1 rfl (lv_room (Nat.le_of_ble_eq_true rfl)) dX12_ranks_62 ⟨Nat.zero_le _, Nat.zero_le _⟩) hS (fun H locs hP hS => ?_)
          refine lv_aload_n F.1 F.2.1 dX12_ranks_65 rfl (lv_at hl 0 rfl) ?_
          refine lv_iload_n F.1 F.2.1 dX12_ranks_66 rfl (lv_at hl 3 rfl) ?_
          refine lv_iload_n F.1 F.2.1 dX12_ranks_67 rfl (lv_at hl 1 rfl) ?_
          obtain ⟨r750, hc, hE⟩ := bnd1_some hE
          refine aft_i (run_V (rest := [.int r749]) F (kX12_worth hc) (okM Z) C hS lkX12_299 ⟨Nat.le_of_ble_eq_true rfl, Nat.le_of_ble_eq_true rfl⟩ (rvM C hP) hP rfl hl.1 rfl (lv_room (Nat.le_of_ble_eq_true rfl)) dX12_ranks_68 ⟨Nat.zero_le _, Nat.zero_le _⟩) hS (fun H locs hP hS => ?_)
          refine lv_icmp_le (tgt := 77) F.1 F.2.1 dX12_ranks_71 (by decide) (fun hc => ?_) (fun hc => ?_)
          · have hE := ifp hE hc
            refine lv_iinc (v := x4 + 1) (lv' := [(4, .int (x4 + 1)), (0, .ref (mA Z 0)), (1, .int p1), (2, .int x2), (3, .int x3)]) F.1 F.2.1 dX12_ranks_77 hl (k := 4) rfl rfl (by decide) rfl (fun ls hl => ?_)
            refine lv_goto (tgt := 38) F.1 F.2.1 dX12_ranks_80 (by decide) ?_
            exact h38 mth mto mrw x2 x3 (x4 + 1) hE _ _ hP hS ls (lv_sub hl [1, 2, 3, 4, 0] rfl)
          · have hE := ifn hE hc
            refine lv_iload F.1 F.2.1 dX12_ranks_74 (lv_at hl 4 rfl) ?_
            refine lv_istore_n (lv' := [(3, .int x4), (0, .ref (mA Z 0)), (1, .int p1), (2, .int x2), (4, .int x4)]) F.1 F.2.1 dX12_ranks_76 rfl hl (by decide) rfl (fun ls hl => ?_)
            refine lv_iinc (v := x4 + 1) (lv' := [(4, .int (x4 + 1)), (3, .int x4), (0, .ref (mA Z 0)), (1, .int p1), (2, .int x2)]) F.1 F.2.1 dX12_ranks_77 hl (k := 4) rfl rfl (by decide) rfl (fun ls hl => ?_)
            refine lv_goto (tgt := 38) F.1 F.2.1 dX12_ranks_80 (by decide) ?_
            exact h38 mth mto mrw x2 x4 (x4 + 1) hE _ _ hP hS ls (lv_sub hl [2, 3, 4, 1, 0] rfl)
set_option maxRecDepth 100000 in
set_option maxHeartbeats 4000000 in
theorem qX12_ranks_29 {p : Program} {l : Launch} {e : Env} {s : State} {m : MethodId} {args : Array Value} {below : List Frame} {meth : Method} {c : Code} {Z : ZC} {mta : Nat → Int32} {mtp : Int32} {mat : Int32} {mtt : Int32} {mme : Nat → Int32} {mun : Int32} {mde : Int32} {mco : Nat → Int32} {mcn : Nat → Int32} {mvi : Int32} {men : Int32} {mfa : Nat → Int32} {mac : Nat → Int32} {mfi : Nat → Int32} {mse : Nat → Int32} {mtd : Nat → Int32} {mra : Int32} {mkp : Nat → Int32} {N : Nat} {p1 : Int32} {r' : Int32} {mth' : Int32} {mto' : Int32} {mrw' : Nat → Int64} (F : CallFix p m c cX12_ranks 5 s args bigW RX12) (hr : meth.sig.returnType = (some .int)) (hlk : meth.locks = false) (C : KM Z s) : ∀ n : Nat, ∀ (mth : Int32) (mto : Int32) (mrw : Nat → Int64) (x2 : Int32), fX12_ranks_29 N mme mde p1 n mth mto mrw x2 = some (r', mth', mto', mrw') → ∀ (H : Heap) (locs : List Loc), PM Z mth mto mrw mta mtp mat mtt mme mun mde mco mcn mvi men mfa mac mfi mse mtd mra mkp H → va_S (AM Z) s.heap H locs → ∀ ls : Array Slot, lv_has ls 5 [(0, .ref (mA Z 0)), (1, .int p1), (2, .int x2)] → W p l e (rmk 7 156) s m args below meth c H locs 0 0 (MQ below (Qi (KM Z) (AM Z) (PM Z mth' mto' mrw' mta mtp mat mtt mme mun mde mco mcn mvi men mfa mac mfi mse mtd mra mkp) r') args s 0 0 (AM Z)) (F0 m 29 ls []) := by
  intro n
  induction n with
  | zero => intro mth mto mrw x2 hE; cases hE
  | succ n h29 =>
    intro mth mto mrw x2 hE H locs hP hS ls hl
    have hE : fX12_ranks_29b N mme mde p1 (fX12_ranks_29 N mme mde p1 n) mth mto mrw x2 = some (r', mth', mto', mrw') := hE
    refine lv_iload_n F.1 F.2.1 dX12_ranks_29 rfl (lv_at hl 2 rfl) ?_
    refine lv_if_eq (tgt := 100) F.1 F.2.1 dX12_ranks_30 (by decide) (fun hc => ?_) (fun hc => ?_)
    · have hE := ifp hE hc
      refine lv_aload_n F.1 F.2.1 dX12_ranks_100 rfl (lv_at hl 0 rfl) ?_
      refine gX12_11 F C hP dX12_ranks_101 ?_
      have w0 := Option.some.inj hE
      obtain ⟨g0, w1⟩ := Prod.mk.inj w0
      obtain ⟨g1, w2⟩ := Prod.mk.inj w1
      obtain ⟨g2, w3⟩ := Prod.mk.inj w2
      subst g0 g1 g2 w3
      exact ret_i F hr hlk hP hS dX12_ranks_104
    · have hE := ifn hE hc
      refine lv_iconst (v := (-1)) F.1 F.2.1 dX12_ranks_33 (by decide) ?_
      refine lv_istore_n (lv' := [(3, .int (-1)), (0, .ref (mA Z 0)), (1, .int p1), (2, .int x2)]) F.1 F.2.1 dX12_ranks_34 rfl hl (by decide) rfl (fun ls hl => ?_)
      refine lv_iconst (v := 0) F.1 F.2.1 dX12_ranks_35 (by decide) ?_
      refine lv_istore (lv' := [(4, .int 0), (3, .int (-1)), (0, .ref (mA Z 0)), (1, .int p1), (2, .int x2)]) F.1 F.2.1 dX12_ranks_36 hl (by decide) rfl (fun ls hl => ?_)
      exact qX12_ranks_38 F hr hlk C h29 N mth mto mrw x2 (-1) 0 hE _ _ hP hS ls (lv_sub hl [2, 3, 4, 1, 0] rfl)
set_option maxRecDepth 100000 in
set_option maxHeartbeats 4000000 in
theorem kX12_ranks {l : Launch} {Z : ZC} {mth : Int32} {mto : Int32} {mrw : Nat → Int64} {mta : Nat → Int32} {mtp : Int32} {mat : Int32} {mtt : Int32} {mme : Nat → Int32} {mun : Int32} {mde : Int32} {mco : Nat → Int32} {mcn : Nat → Int32} {mvi : Int32} {men : Int32} {mfa : Nat → Int32} {mac : Nat → Int32} {mfi : Nat → Int32} {mse : Nat → Int32} {mtd : Nat → Int32} {mra : Int32} {mkp : Nat → Int32} {N : Nat} {p1 : Int32} {r' : Int32} {mth' : Int32} {mto' : Int32} {mrw' : Nat → Int64} (hE : fX12_ranks N mth mto mrw mme mde p1 = some (r', mth', mto', mrw')) : Mg l yX12_ranks cX12_ranks 5 (some .int) (rmk 7 156) (KM Z) (AM Z) [.ref (mA Z 0), .int p1] (PM Z mth mto mrw mta mtp mat mtt mme mun mde mco mcn mvi men mfa mac mfi mse mtd mra mkp) (Qi (KM Z) (AM Z) (PM Z mth' mto' mrw' mta mtp mat mtt mme mun mde mco mcn mvi men mfa mac mfi mse mtd mra mkp) r') := by
  refine Mg.start (lv := [(0, .ref (mA Z 0)), (1, .int p1)]) (by decide) rfl (Nat.le_of_ble_eq_true rfl) rfl ?_
  intro p e s m below meth c F hr hlk C hP ls hl
  have hS : va_S (AM Z) s.heap s.heap [] := va_S.rf
  unfold fX12_ranks at hE
  refine lv_aload_n F.1 F.2.1 dX12_ranks_0 rfl (lv_at hl 0 rfl) ?_
  refine lv_iconst (v := 0) F.1 F.2.1 dX12_ranks_1 (by decide) ?_
  refine pX12_1 F C hP hS rfl dX12_ranks_2 (fun H locs hP hS => ?_)
  refine lv_iload_n F.1 F.2.1 dX12_ranks_5 rfl (lv_at hl 1 rfl) ?_
  refine lv_i2l (v := p1.toInt64) F.1 F.2.1 dX12_ranks_6 rfl ?_
  refine lv_lconst (v := 0) F.1 F.2.1 dX12_ranks_7 (by decide) ?_
  refine lv_ldc2 (v := 2) F.1 F.2.1 F.2.2.2.1 (F.2.2.2.2 _ (bw_t 1397 (by decide +kernel) rfl)) dX12_ranks_8 ?_
  obtain ⟨r746, hc, hE⟩ := bnd1_some hE
  refine aft_i (run_S (rest := []) F (kX12_in hc) (okM Z) C hS lkX12_21 ⟨Nat.le_of_ble_eq_true rfl, Nat.le_of_ble_eq_true rfl⟩ hP rfl hl.1 rfl (lv_room (Nat.le_of_ble_eq_true rfl)) dX12_ranks_11 ⟨Nat.zero_le _, Nat.zero_le _⟩) hS (fun H locs hP hS => ?_)
  refine lv_if_ne (tgt := 19) F.1 F.2.1 dX12_ranks_14 (by decide) (fun hc => ?_) (fun hc => ?_)
  · have hE := ifn hE hc
    refine lv_aload_n F.1 F.2.1 dX12_ranks_19 rfl (lv_at hl 0 rfl) ?_
    refine lv_iconst (v := 0) F.1 F.2.1 dX12_ranks_20 (by decide) ?_
    refine pX12_11 F C hP hS rfl dX12_ranks_21 (fun H locs hP hS => ?_)
    refine lv_aload_n F.1 F.2.1 dX12_ranks_24 rfl (lv_at hl 0 rfl) ?_
    obtain ⟨r747, hc, hE⟩ := bnd1_some hE
    refine aft_i (run_V (rest := []) F (kX12_thereAll hc) (okM Z) C hS lkX12_233 ⟨Nat.le_of_ble_eq_true rfl, Nat.le_of_ble_eq_true rfl⟩ (rvM C hP) hP rfl hl.1 rfl (lv_room (Nat.le_of_ble_eq_true rfl)) dX12_ranks_25 ⟨Nat.zero_le _, Nat.zero_le _⟩) hS (fun H locs hP hS => ?_)
    refine lv_istore_n (lv' := [(2, .int r747), (0, .ref (mA Z 0)), (1, .int p1)]) F.1 F.2.1 dX12_ranks_28 rfl hl (by decide) rfl (fun ls hl => ?_)
    exact qX12_ranks_29 F hr hlk C N 0 0 mrw r747 hE _ _ hP hS ls (lv_sub hl [1, 2, 0] rfl)
  · have hE := ifp hE hc
    refine lv_iconst (v := (-1)) F.1 F.2.1 dX12_ranks_17 (by decide) ?_
    have w0 := Option.some.inj hE
    obtain ⟨g0, w1⟩ := Prod.mk.inj w0
    obtain ⟨g1, w2⟩ := Prod.mk.inj w1
    obtain ⟨g2, w3⟩ := Prod.mk.inj w2
    subst g0 g1 g2 w3
    exact ret_i F hr hlk hP hS dX12_ranks_18
set_option maxRecDepth 100000 in
set_option maxHeartbeats 4000000 in
theorem qX12_log_50 {p : Program} {l : Launch} {e : Env} {s : State} {m : MethodId} {args : Array Value} {below : List Frame} {meth : Method} {c : Code} {Z : ZC} {mto : Int32} {mrw : Nat → Int64} {mta : Nat → Int32} {mtp : Int32} {mat : Int32} {mtt : Int32} {mme : Nat → Int32} {mun : Int32} {mde : Int32} {mco : Nat → Int32} {mcn : Nat → Int32} {mvi : Int32} {men : Int32} {mfa : Nat → Int32} {mac : Nat → Int32} {mfi : Nat → Int32} {mse : Nat → Int32} {mtd : Nat → Int32} {mra : Int32} {mkp : Nat → Int32} {p1 : Int32} {p2 : Int32} {r' : Int32} {mth' : Int32} (F : CallFix p m c cX12_log 4 s args bigW RX12) (hr : meth.sig.returnType = (some .int)) (hlk : meth.locks = false) (C : KM Z s) : ∀ (mth : Int32) (y0 : Int32), fX12_log_50 mme p1 p2 mth y0 = some (r', mth') → ∀ (H : Heap) (locs : List Loc), PM Z mth mto mrw mta mtp mat mtt mme mun mde mco mcn mvi men mfa mac mfi mse mtd mra mkp H → va_S (AM Z) s.heap H locs → ∀ ls : Array Slot, lv_has ls 4 [(0, .ref (mA Z 0)), (1, .int p1), (2, .int p2)] → W p l e (rmk 1 25) s m args below meth c H locs 0 0 (MQ below (Qi (KM Z) (AM Z) (PM Z mth' mto mrw mta mtp mat mtt mme mun mde mco mcn mvi men mfa mac mfi mse mtd mra mkp) r') args s 0 0 (AM Z)) (F0 m 50 ls [.int y0, .ref (mA Z 0)]) := by
  intro mth y0 hE H locs hP hS ls hl
  unfold fX12_log_50 at hE
  obtain ⟨r760, hc, hE⟩ := bnd1_some hE
  refine aft_i (run_S (rest := [.ref (mA Z 0)]) F (kX12_flag hc) (okM Z) C hS lkX12_167 ⟨Nat.le_of_ble_eq_true rfl, Nat.le_of_ble_eq_true rfl⟩ hP rfl hl.1 rfl (lv_room (Nat.le_of_ble_eq_true rfl)) dX12_log_50 ⟨Nat.zero_le _, Nat.zero_le _⟩) hS (fun H locs hP hS => ?_)
  refine pX12_1 F C hP hS rfl dX12_log_53 (fun H locs hP hS => ?_)
  refine lv_aload_n F.1 F.2.1 dX12_log_56 rfl (lv_at hl 0 rfl) ?_
  refine gX12_1 F C hP dX12_log_57 ?_
  refine lv_iconst (v := 1) F.1 F.2.1 dX12_log_60 (by decide) ?_
  refine lv_icmp_ne (tgt := 68) F.1 F.2.1 dX12_log_61 (by decide) (fun hc => ?_) (fun hc => ?_)
  · have hE := ifn hE hc
    refine lv_aload_n F.1 F.2.1 dX12_log_68 rfl (lv_at hl 0 rfl) ?_
    refine gX12_53 F C hP dX12_log_69 ?_
    refine lv_bipush (v := 43) F.1 F.2.1 dX12_log_72 (by decide) ?_
    refine lv_iconst (v := 2) F.1 F.2.1 dX12_log_74 (by decide) ?_
    refine lv_iload_n F.1 F.2.1 dX12_log_75 rfl (lv_at hl 1 rfl) ?_
    refine lv_bipush (v := 60) F.1 F.2.1 dX12_log_76 (by decide) ?_
    obtain ⟨hi, hE⟩ := grd_some hE
    refine rj_irem F.1 F.2.1 dX12_log_78 (nzb_ne hi) ?_
    refine lv_imul F.1 F.2.1 dX12_log_79 ?_
    refine lv_iadd F.1 F.2.1 dX12_log_80 ?_
    refine lv_iload_n F.1 F.2.1 dX12_log_81 rfl (lv_at hl 2 rfl) ?_
    refine lv_iadd F.1 F.2.1 dX12_log_82 ?_
    obtain ⟨hi, hE⟩ := grd_some hE
    refine am3 F C hP hi dX12_log_83 ?_
    have w0 := Option.some.inj hE
    obtain ⟨g0, w1⟩ := Prod.mk.inj w0
    subst g0 w1
    exact ret_i F hr hlk hP hS dX12_log_84
  · have hE := ifp hE hc
    refine lv_iconst (v := 0) F.1 F.2.1 dX12_log_64 (by decide) ?_
    refine lv_goto (tgt := 84) F.1 F.2.1 dX12_log_65 (by decide) ?_
    have w0 := Option.some.inj hE
    obtain ⟨g0, w1⟩ := Prod.mk.inj w0
    subst g0 w1
    exact ret_i F hr hlk hP hS dX12_log_84
set_option maxRecDepth 100000 in
set_option maxHeartbeats 4000000 in
theorem qX12_log_45 {p : Program} {l : Launch} {e : Env} {s : State} {m : MethodId} {args : Array Value} {below : List Frame} {meth : Method} {c : Code} {Z : ZC} {mto : Int32} {mrw : Nat → Int64} {mta : Nat → Int32} {mtp : Int32} {mat : Int32} {mtt : Int32} {mme : Nat → Int32} {mun : Int32} {mde : Int32} {mco : Nat → Int32} {mcn : Nat → Int32} {mvi : Int32} {men : Int32} {mfa : Nat → Int32} {mac : Nat → Int32} {mfi : Nat → Int32} {mse : Nat → Int32} {mtd : Nat → Int32} {mra : Int32} {mkp : Nat → Int32} {p1 : Int32} {p2 : Int32} {r' : Int32} {mth' : Int32} (F : CallFix p m c cX12_log 4 s args bigW RX12) (hr : meth.sig.returnType = (some .int)) (hlk : meth.locks = false) (C : KM Z s) : ∀ (mth : Int32), fX12_log_45 mme p1 p2 mth = some (r', mth') → ∀ (H : Heap) (locs : List Loc), PM Z mth mto mrw mta mtp mat mtt mme mun mde mco mcn mvi men mfa mac mfi mse mtd mra mkp H → va_S (AM Z) s.heap H locs → ∀ ls : Array Slot, lv_has ls 4 [(0, .ref (mA Z 0)), (1, .int p1), (2, .int p2)] → W p l e (rmk 1 25) s m args below meth c H locs 0 0 (MQ below (Qi (KM Z) (AM Z) (PM Z mth' mto mrw mta mtp mat mtt mme mun mde mco mcn mvi men mfa mac mfi mse mtd mra mkp) r') args s 0 0 (AM Z)) (F0 m 45 ls [.ref (mA Z 0)]) := by
  intro mth hE H locs hP hS ls hl
  unfold fX12_log_45 at hE
  refine lv_iconst (v := 1) F.1 F.2.1 dX12_log_45 (by decide) ?_
  refine lv_goto (tgt := 50) F.1 F.2.1 dX12_log_46 (by decide) ?_
  exact qX12_log_50 F hr hlk C mth 1 hE _ _ hP hS ls (lv_sub hl [0, 1, 2] rfl)
set_option maxRecDepth 100000 in
set_option maxHeartbeats 4000000 in
theorem qX12_log_25 {p : Program} {l : Launch} {e : Env} {s : State} {m : MethodId} {args : Array Value} {below : List Frame} {meth : Method} {c : Code} {Z : ZC} {mto : Int32} {mrw : Nat → Int64} {mta : Nat → Int32} {mtp : Int32} {mat : Int32} {mtt : Int32} {mme : Nat → Int32} {mun : Int32} {mde : Int32} {mco : Nat → Int32} {mcn : Nat → Int32} {mvi : Int32} {men : Int32} {mfa : Nat → Int32} {mac : Nat → Int32} {mfi : Nat → Int32} {mse : Nat → Int32} {mtd : Nat → Int32} {mra : Int32} {mkp : Nat → Int32} {p1 : Int32} {p2 : Int32} {r' : Int32} {mth' : Int32} (F : CallFix p m c cX12_log 4 s args bigW RX12) (hr : meth.sig.returnType = (some .int)) (hlk : meth.locks = false) (C : KM Z s) : ∀ (mth : Int32) (x3 : Int32) (y0 : Int64) (y1 : Int64), fX12_log_25 mme p1 p2 mth x3 y0 y1 = some (r', mth') → ∀ (H : Heap) (locs : List Loc), PM Z mth mto mrw mta mtp mat mtt mme mun mde mco mcn mvi men mfa mac mfi mse mtd mra mkp H → va_S (AM Z) s.heap H locs → ∀ ls : Array Slot, lv_has ls 4 [(0, .ref (mA Z 0)), (1, .int p1), (2, .int p2), (3, .int x3)] → W p l e (rmk 1 25) s m args below meth c H locs 0 0 (MQ below (Qi (KM Z) (AM Z) (PM Z mth' mto mrw mta mtp mat mtt mme mun mde mco mcn mvi men mfa mac mfi mse mtd mra mkp) r') args s 0 0 (AM Z)) (F0 m 25 ls [.long y0, .long y1, .ref (mA Z 0)]) := by
  intro mth x3 y0 y1 hE H locs hP hS ls hl
  unfold fX12_log_25 at hE
  refine lv_iload_n F.1 F.2.1 dX12_log_25 rfl (lv_at hl 3 rfl) ?_
  refine lv_iconst (v := 1) F.1 F.2.1 dX12_log_26 (by decide) ?_
  refine lv_isub F.1 F.2.1 dX12_log_27 ?_
  refine lv_i2l (v := (x3 - 1).toInt64) F.1 F.2.1 dX12_log_28 rfl ?_
  obtain ⟨r758, hc, hE⟩ := bnd1_some hE
  refine aft_i (run_S (rest := [.ref (mA Z 0)]) F (kX12_in hc) (okM Z) C hS lkX12_21 ⟨Nat.le_of_ble_eq_true rfl, Nat.le_of_ble_eq_true rfl⟩ hP rfl hl.1 rfl (lv_room (Nat.le_of_ble_eq_true rfl)) dX12_log_29 ⟨Nat.zero_le _, Nat.zero_le _⟩) hS (fun H locs hP hS => ?_)
  refine lv_if_eq (tgt := 45) F.1 F.2.1 dX12_log_32 (by decide) (fun hc => ?_) (fun hc => ?_)
  · have hE := ifp hE hc
    exact qX12_log_45 F hr hlk C mth hE _ _ hP hS ls (lv_sub hl [0, 1, 2] rfl)
  · have hE := ifn hE hc
    refine lv_iload_n F.1 F.2.1 dX12_log_35 rfl (lv_at hl 2 rfl) ?_
    refine lv_i2l (v := p2.toInt64) F.1 F.2.1 dX12_log_36 rfl ?_
    refine lv_lconst (v := 0) F.1 F.2.1 dX12_log_37 (by decide) ?_
    refine lv_lconst (v := 1) F.1 F.2.1 dX12_log_38 (by decide) ?_
    obtain ⟨r759, hc, hE⟩ := bnd1_some hE
    refine aft_i (run_S (rest := [.ref (mA Z 0)]) F (kX12_in hc) (okM Z) C hS lkX12_21 ⟨Nat.le_of_ble_eq_true rfl, Nat.le_of_ble_eq_true rfl⟩ hP rfl hl.1 rfl (lv_room (Nat.le_of_ble_eq_true rfl)) dX12_log_39 ⟨Nat.zero_le _, Nat.zero_le _⟩) hS (fun H locs hP hS => ?_)
    refine lv_if_ne (tgt := 49) F.1 F.2.1 dX12_log_42 (by decide) (fun hc => ?_) (fun hc => ?_)
    · have hE := ifn hE hc
      refine lv_iconst (v := 0) F.1 F.2.1 dX12_log_49 (by decide) ?_
      exact qX12_log_50 F hr hlk C mth 0 hE _ _ hP hS ls (lv_sub hl [0, 1, 2] rfl)
    · have hE := ifp hE hc
      exact qX12_log_45 F hr hlk C mth hE _ _ hP hS ls (lv_sub hl [0, 1, 2] rfl)
set_option maxRecDepth 100000 in
set_option maxHeartbeats 4000000 in
theorem kX12_log {l : Launch} {Z : ZC} {mth : Int32} {mto : Int32} {mrw : Nat → Int64} {mta : Nat → Int32} {mtp : Int32} {mat : Int32} {mtt : Int32} {mme : Nat → Int32} {mun : Int32} {mde : Int32} {mco : Nat → Int32} {mcn : Nat → Int32} {mvi : Int32} {men : Int32} {mfa : Nat → Int32} {mac : Nat → Int32} {mfi : Nat → Int32} {mse : Nat → Int32} {mtd : Nat → Int32} {mra : Int32} {mkp : Nat → Int32} {p1 : Int32} {p2 : Int32} {r' : Int32} {mth' : Int32} (hE : fX12_log mth mme p1 p2 = some (r', mth')) : Mg l yX12_log cX12_log 4 (some .int) (rmk 1 25) (KM Z) (AM Z) [.ref (mA Z 0), .int p1, .int p2] (PM Z mth mto mrw mta mtp mat mtt mme mun mde mco mcn mvi men mfa mac mfi mse mtd mra mkp) (Qi (KM Z) (AM Z) (PM Z mth' mto mrw mta mtp mat mtt mme mun mde mco mcn mvi men mfa mac mfi mse mtd mra mkp) r') := by
  refine Mg.start (lv := [(0, .ref (mA Z 0)), (1, .int p1), (2, .int p2)]) (by decide) rfl (Nat.le_of_ble_eq_true rfl) rfl ?_
  intro p e s m below meth c F hr hlk C hP ls hl
  have hS : va_S (AM Z) s.heap s.heap [] := va_S.rf
  unfold fX12_log at hE
  refine lv_aload_n F.1 F.2.1 dX12_log_0 rfl (lv_at hl 0 rfl) ?_
  refine gX12_53 F C hP dX12_log_1 ?_
  refine lv_iconst (v := 2) F.1 F.2.1 dX12_log_4 (by decide) ?_
  obtain ⟨hi, hE⟩ := grd_some hE
  refine am3 F C hP hi dX12_log_5 ?_
  obtain ⟨v_757, ev_757, hE⟩ := lt_some hE
  refine lv_seti ev_757 ?_
  refine lv_istore_n (lv' := [(3, .int v_757), (0, .ref (mA Z 0)), (1, .int p1), (2, .int p2)]) F.1 F.2.1 dX12_log_6 rfl hl (by decide) rfl (fun ls hl => ?_)
  refine lv_aload_n F.1 F.2.1 dX12_log_7 rfl (lv_at hl 1 rfl) ?_
  refine lv_iload_n F.1 F.2.1 dX12_log_8 rfl (lv_at hl 2 rfl) ?_
  refine lv_i2l (v := p1.toInt64) F.1 F.2.1 dX12_log_9 rfl ?_
  refine lv_iload_n F.1 F.2.1 dX12_log_10 rfl (lv_at hl 0 rfl) ?_
  refine lv_bipush (v := 60) F.1 F.2.1 dX12_log_11 (by decide) ?_
  refine lv_icmp_le (tgt := 24) F.1 F.2.1 dX12_log_13 (by decide) (fun hc => ?_) (fun hc => ?_)
  · have hE := ifp hE hc
    refine lv_lconst (v := 0) F.1 F.2.1 dX12_log_24 (by decide) ?_
    exact qX12_log_25 F hr hlk C mth v_757 0 p1.toInt64 hE _ _ hP hS ls (lv_sub hl [1, 2, 3, 0] rfl)
  · have hE := ifn hE hc
    refine lv_iload_n F.1 F.2.1 dX12_log_16 rfl (lv_at hl 0 rfl) ?_
    refine lv_bipush (v := 60) F.1 F.2.1 dX12_log_17 (by decide) ?_
    refine lv_isub F.1 F.2.1 dX12_log_19 ?_
    refine lv_i2l (v := (v_757 - 60).toInt64) F.1 F.2.1 dX12_log_20 rfl ?_
    refine lv_goto (tgt := 25) F.1 F.2.1 dX12_log_21 (by decide) ?_
    exact qX12_log_25 F hr hlk C mth v_757 ((v_757 - 60).toInt64) p1.toInt64 hE _ _ hP hS ls (lv_sub hl [1, 2, 3, 0] rfl)
set_option maxRecDepth 100000 in
set_option maxHeartbeats 4000000 in
theorem kX12_logged {l : Launch} {Z : ZC} {mth : Int32} {mto : Int32} {mrw : Nat → Int64} {mta : Nat → Int32} {mtp : Int32} {mat : Int32} {mtt : Int32} {mme : Nat → Int32} {mun : Int32} {mde : Int32} {mco : Nat → Int32} {mcn : Nat → Int32} {mvi : Int32} {men : Int32} {mfa : Nat → Int32} {mac : Nat → Int32} {mfi : Nat → Int32} {mse : Nat → Int32} {mtd : Nat → Int32} {mra : Int32} {mkp : Nat → Int32} {p1 : Int32} {r' : Int32} {mth' : Int32} {mto' : Int32} {mrw' : Nat → Int64} (hE : fX12_logged mth mto mrw mme p1 = some (r', mth', mto', mrw')) : Mg l yX12_logged cX12_logged 2 (some .int) (rmk 1 25) (KM Z) (AM Z) [.ref (mA Z 0), .int p1] (PM Z mth mto mrw mta mtp mat mtt mme mun mde mco mcn mvi men mfa mac mfi mse mtd mra mkp) (Qi (KM Z) (AM Z) (PM Z mth' mto' mrw' mta mtp mat mtt mme mun mde mco mcn mvi men mfa mac mfi mse mtd mra mkp) r') := by
  refine Mg.start (lv := [(0, .ref (mA Z 0)), (1, .int p1)]) (by decide) rfl (Nat.le_of_ble_eq_true rfl) rfl ?_
  intro p e s m below meth c F hr hlk C hP ls hl
  have hS : va_S (AM Z) s.heap s.heap [] := va_S.rf
  unfold fX12_logged at hE
  refine lv_aload_n F.1 F.2.1 dX12_logged_0 rfl (lv_at hl 0 rfl) ?_
  refine lv_iconst (v := 0) F.1 F.2.1 dX12_logged_1 (by decide) ?_
  refine pX12_1 F C hP hS rfl dX12_logged_2 (fun H locs hP hS => ?_)
  refine lv_iload_n F.1 F.2.1 dX12_logged_5 rfl (lv_at hl 1 rfl) ?_
  refine lv_i2l (v := p1.toInt64) F.1 F.2.1 dX12_logged_6 rfl ?_
  refine lv_lconst (v := 0) F.1 F.2.1 dX12_logged_7 (by decide) ?_
  refine lv_ldc2 (v := 5) F.1 F.2.1 F.2.2.2.1 (F.2.2.2.2 _ (bw_t 1083 (by decide +kernel) rfl)) dX12_logged_8 ?_
  obtain ⟨r763, hc, hE⟩ := bnd1_some hE
  refine aft_i (run_S (rest := []) F (kX12_in hc) (okM Z) C hS lkX12_21 ⟨Nat.le_of_ble_eq_true rfl, Nat.le_of_ble_eq_true rfl⟩ hP rfl hl.1 rfl (lv_room (Nat.le_of_ble_eq_true rfl)) dX12_logged_11 ⟨Nat.zero_le _, Nat.zero_le _⟩) hS (fun H locs hP hS => ?_)
  refine lv_if_ne (tgt := 19) F.1 F.2.1 dX12_logged_14 (by decide) (fun hc => ?_) (fun hc => ?_)
  · have hE := ifn hE hc
    refine lv_aload_n F.1 F.2.1 dX12_logged_19 rfl (lv_at hl 0 rfl) ?_
    refine lv_iconst (v := 0) F.1 F.2.1 dX12_logged_20 (by decide) ?_
    refine pX12_11 F C hP hS rfl dX12_logged_21 (fun H locs hP hS => ?_)
    refine lv_aload_n F.1 F.2.1 dX12_logged_24 rfl (lv_at hl 0 rfl) ?_
    refine lv_aload_n F.1 F.2.1 dX12_logged_25 rfl (lv_at hl 0 rfl) ?_
    refine gX12_53 F C hP dX12_logged_26 ?_
    refine lv_iconst (v := 2) F.1 F.2.1 dX12_logged_29 (by decide) ?_
    obtain ⟨hi, hE⟩ := grd_some hE
    refine am3 F C hP hi dX12_logged_30 ?_
    refine lv_i2l (v := (mme (2 : Int32).toNatClampNeg).toInt64) F.1 F.2.1 dX12_logged_31 rfl ?_
    obtain ⟨mto_764, mrw_764, hc, hE⟩ := bnd2_some hE
    refine aft_v (run_V (rest := []) F (kX12_enters hc) (okM Z) C hS lkX12_239 ⟨Nat.le_of_ble_eq_true rfl, Nat.le_of_ble_eq_true rfl⟩ (rvM C hP) hP rfl hl.1 rfl (lv_room (Nat.le_of_ble_eq_true rfl)) dX12_logged_32 ⟨Nat.zero_le _, Nat.zero_le _⟩) hS (fun H locs hP hS => ?_)
    refine lv_aload_n F.1 F.2.1 dX12_logged_35 rfl (lv_at hl 0 rfl) ?_
    refine gX12_53 F C hP dX12_logged_36 ?_
    refine lv_iconst (v := 3) F.1 F.2.1 dX12_logged_39 (by decide) ?_
    refine lv_iload_n F.1 F.2.1 dX12_logged_40 rfl (lv_at hl 1 rfl) ?_
    refine lv_iadd F.1 F.2.1 dX12_logged_41 ?_
    obtain ⟨hi, hE⟩ := grd_some hE
    refine am3 F C hP hi dX12_logged_42 ?_
    have w0 := Option.some.inj hE
    obtain ⟨g0, w1⟩ := Prod.mk.inj w0
    obtain ⟨g1, w2⟩ := Prod.mk.inj w1
    obtain ⟨g2, w3⟩ := Prod.mk.inj w2
    subst g0 g1 g2 w3
    exact ret_i F hr hlk hP hS dX12_logged_43
  · have hE := ifp hE hc
    refine lv_iconst (v := (-1)) F.1 F.2.1 dX12_logged_17 (by decide) ?_
    have w0 := Option.some.inj hE
    obtain ⟨g0, w1⟩ := Prod.mk.inj w0
    obtain ⟨g1, w2⟩ := Prod.mk.inj w1
    obtain ⟨g2, w3⟩ := Prod.mk.inj w2
    subst g0 g1 g2 w3
    exact ret_i F hr hlk hP hS dX12_logged_18
set_option maxRecDepth 100000 in
set_option maxHeartbeats 4000000 in
theorem kX12_orNone {l : Launch} {Z : ZC} {mth : Int32} {mto : Int32} {mrw : Nat → Int64} {mta : Nat → Int32} {mtp : Int32} {mat : Int32} {mtt : Int32} {mme : Nat → Int32} {mun : Int32} {mde : Int32} {mco : Nat → Int32} {mcn : Nat → Int32} {mvi : Int32} {men : Int32} {mfa : Nat → Int32} {mac : Nat → Int32} {mfi : Nat → Int32} {mse : Nat → Int32} {mtd : Nat → Int32} {mra : Int32} {mkp : Nat → Int32} {p1 : Int32} {r' : Int32} (hE : fX12_orNone p1 = some r') : Mg l yX12_orNone cX12_orNone 2 (some .int) (rmk 0 0) (KM Z) (AM Z) [.ref (mA Z 0), .int p1] (PM Z mth mto mrw mta mtp mat mtt mme mun mde mco mcn mvi men mfa mac mfi mse mtd mra mkp) (Qi (KM Z) (AM Z) (PM Z mth mto mrw mta mtp mat mtt mme mun mde mco mcn mvi men mfa mac mfi mse mtd mra mkp) r') := by
  refine Mg.start (lv := [(0, .ref (mA Z 0)), (1, .int p1)]) (by decide) rfl (Nat.le_of_ble_eq_true rfl) rfl ?_
  intro p e s m below meth c F hr hlk C hP ls hl
  have hS : va_S (AM Z) s.heap s.heap [] := va_S.rf
  unfold fX12_orNone at hE
  refine lv_iload_n F.1 F.2.1 dX12_orNone_0 rfl (lv_at hl 1 rfl) ?_
  refine lv_bipush (v := 99) F.1 F.2.1 dX12_orNone_1 (by decide) ?_
  refine lv_icmp_ne (tgt := 10) F.1 F.2.1 dX12_orNone_3 (by decide) (fun hc => ?_) (fun hc => ?_)
  · have hE := ifn hE hc
    refine lv_iload_n F.1 F.2.1 dX12_orNone_10 rfl (lv_at hl 1 rfl) ?_
    obtain rfl := Option.some.inj hE
    exact ret_i F hr hlk hP hS dX12_orNone_11
  · have hE := ifp hE hc
    refine lv_iconst (v := (-1)) F.1 F.2.1 dX12_orNone_6 (by decide) ?_
    refine lv_goto (tgt := 11) F.1 F.2.1 dX12_orNone_7 (by decide) ?_
    obtain rfl := Option.some.inj hE
    exact ret_i F hr hlk hP hS dX12_orNone_11
set_option maxRecDepth 100000 in
set_option maxHeartbeats 4000000 in
theorem kX12_does {l : Launch} {Z : ZC} {mth : Int32} {mto : Int32} {mrw : Nat → Int64} {mta : Nat → Int32} {mtp : Int32} {mat : Int32} {mtt : Int32} {mme : Nat → Int32} {mun : Int32} {mde : Int32} {mco : Nat → Int32} {mcn : Nat → Int32} {mvi : Int32} {men : Int32} {mfa : Nat → Int32} {mac : Nat → Int32} {mfi : Nat → Int32} {mse : Nat → Int32} {mtd : Nat → Int32} {mra : Int32} {mkp : Nat → Int32} {N : Nat} {p1 : Int32} {r' : Int32} {mme' : Nat → Int32} {mco' : Nat → Int32} {mcn' : Nat → Int32} {mvi' : Int32} {men' : Int32} (hE : fX12_does N mme mde mco mcn mvi men mac mfi mse mtd p1 = some (r', mme', mco', mcn', mvi', men')) : Mg l yX12_does cX12_does 3 (some .boolean) (rmk 207 4908) (KM Z) (AM Z) [.ref (mA Z 0), .int p1] (PM Z mth mto mrw mta mtp mat mtt mme mun mde mco mcn mvi men mfa mac mfi mse mtd mra mkp) (Qi (KM Z) (AM Z) (PM Z mth mto mrw mta mtp mat mtt mme' mun mde mco' mcn' mvi' men' mfa mac mfi mse mtd mra mkp) r') := by
  refine Mg.start (lv := [(0, .ref (mA Z 0)), (1, .int p1)]) (by decide) rfl (Nat.le_of_ble_eq_true rfl) rfl ?_
  intro p e s m below meth c F hr hlk C hP ls hl
  have hS : va_S (AM Z) s.heap s.heap [] := va_S.rf
  unfold fX12_does at hE
  refine lv_aload_n F.1 F.2.1 dX12_does_0 rfl (lv_at hl 0 rfl) ?_
  refine gX12_68 F C hP dX12_does_1 ?_
  refine lv_iload_n F.1 F.2.1 dX12_does_4 rfl (lv_at hl 1 rfl) ?_
  obtain ⟨hi, hE⟩ := grd_some hE
  refine am8 F C hP hi dX12_does_5 ?_
  refine lv_istore_n (lv' := [(2, .int (mfi p1.toNatClampNeg)), (0, .ref (mA Z 0)), (1, .int p1)]) F.1 F.2.1 dX12_does_6 rfl hl (by decide) rfl (fun ls hl => ?_)
  refine lv_aload_n F.1 F.2.1 dX12_does_7 rfl (lv_at hl 1 rfl) ?_
  refine gX12_65 F C hP dX12_does_8 ?_
  refine lv_iload_n F.1 F.2.1 dX12_does_11 rfl (lv_at hl 2 rfl) ?_
  obtain ⟨hi, hE⟩ := grd_some hE
  refine am7 F C hP hi dX12_does_12 ?_
  by_cases hc0 : mac p1.toNatClampNeg = 0
  · have hE := ifp hE hc0
    refine lv_tableIn (tgt := 48) (off := 35) F.1 F.2.1 dX12_does_13 (by rw [hc0]; decide) (by rw [hc0]; decide) (by rw [hc0]; rfl) (by decide) ?_
    refine lv_aload_n F.1 F.2.1 dX12_does_48 rfl (lv_at hl 1 rfl) ?_
    refine lv_iload_n F.1 F.2.1 dX12_does_49 rfl (lv_at hl 0 rfl) ?_
    refine lv_sipush (v := 1000) F.1 F.2.1 dX12_does_50 (by decide) ?_
    obtain ⟨hi, hE⟩ := grd_some hE
    refine lv_idiv F.1 F.2.1 dX12_does_53 (nzb_ne hi) ?_
    refine lv_iload_n F.1 F.2.1 dX12_does_54 rfl (lv_at hl 0 rfl) ?_
    refine lv_bipush (v := 100) F.1 F.2.1 dX12_does_55 (by decide) ?_
    obtain ⟨hi, hE⟩ := grd_some hE
    refine lv_idiv F.1 F.2.1 dX12_does_57 (nzb_ne hi) ?_
    refine lv_bipush (v := 10) F.1 F.2.1 dX12_does_58 (by decide) ?_
    obtain ⟨hi, hE⟩ := grd_some hE
    refine rj_irem F.1 F.2.1 dX12_does_60 (nzb_ne hi) ?_
    refine lv_iload_n F.1 F.2.1 dX12_does_61 rfl (lv_at hl 0 rfl) ?_
    refine lv_bipush (v := 10) F.1 F.2.1 dX12_does_62 (by decide) ?_
    obtain ⟨hi, hE⟩ := grd_some hE
    refine lv_idiv F.1 F.2.1 dX12_does_64 (nzb_ne hi) ?_
    refine lv_bipush (v := 10) F.1 F.2.1 dX12_does_65 (by decide) ?_
    obtain ⟨hi, hE⟩ := grd_some hE
    refine rj_irem F.1 F.2.1 dX12_does_67 (nzb_ne hi) ?_
    refine lv_iload_n F.1 F.2.1 dX12_does_68 rfl (lv_at hl 0 rfl) ?_
    refine lv_bipush (v := 10) F.1 F.2.1 dX12_does_69 (by decide) ?_
    obtain ⟨hi, hE⟩ := grd_some hE
    refine rj_irem F.1 F.2.1 dX12_does_71 (nzb_ne hi) ?_
    obtain ⟨r774, mme_774, mco_774, mcn_774, mvi_774, hc, hE⟩ := bnd5_some hE
    refine aft_i (run_V (rest := []) F (kX12_makesOne hc) (okM Z) C hS lkX12_246 ⟨Nat.le_of_ble_eq_true rfl, Nat.le_of_ble_eq_true rfl⟩ (rvM C hP) hP rfl hl.1 rfl (lv_room (Nat.le_of_ble_eq_true rfl)) dX12_does_72 ⟨Nat.zero_le _, Nat.zero_le _⟩) hS (fun H locs hP hS => ?_)
    refine lv_if_lt (tgt := 82) F.1 F.2.1 dX12_does_75 (by decide) (fun hc => ?_) (fun hc => ?_)
    · have hE := ifp hE hc
      refine lv_iconst (v := 0) F.1 F.2.1 dX12_does_82 (by decide) ?_
      have w0 := Option.some.inj hE
      obtain ⟨g0, w1⟩ := Prod.mk.inj w0
      obtain ⟨g1, w2⟩ := Prod.mk.inj w1
      obtain ⟨g2, w3⟩ := Prod.mk.inj w2
      obtain ⟨g3, w4⟩ := Prod.mk.inj w3
      obtain ⟨g4, w5⟩ := Prod.mk.inj w4
      subst g0 g1 g2 g3 g4 w5
      exact ret_z F hr rfl hlk hP hS dX12_does_83
    · have hE := ifn hE hc
      refine lv_iconst (v := 1) F.1 F.2.1 dX12_does_78 (by decide) ?_
      refine lv_goto (tgt := 83) F.1 F.2.1 dX12_does_79 (by decide) ?_
      have w0 := Option.some.inj hE
      obtain ⟨g0, w1⟩ := Prod.mk.inj w0
      obtain ⟨g1, w2⟩ := Prod.mk.inj w1
      obtain ⟨g2, w3⟩ := Prod.mk.inj w2
      obtain ⟨g3, w4⟩ := Prod.mk.inj w3
      obtain ⟨g4, w5⟩ := Prod.mk.inj w4
      subst g0 g1 g2 g3 g4 w5
      exact ret_z F hr rfl hlk hP hS dX12_does_83
  have hE := ifn hE hc0
  by_cases hc1 : mac p1.toNatClampNeg = 1
  · have hE := ifp hE hc1
    refine lv_tableIn (tgt := 84) (off := 71) F.1 F.2.1 dX12_does_13 (by rw [hc1]; decide) (by rw [hc1]; decide) (by rw [hc1]; rfl) (by decide) ?_
    refine lv_aload_n F.1 F.2.1 dX12_does_84 rfl (lv_at hl 1 rfl) ?_
    refine lv_iload_n F.1 F.2.1 dX12_does_85 rfl (lv_at hl 0 rfl) ?_
    refine lv_aload_n F.1 F.2.1 dX12_does_86 rfl (lv_at hl 1 rfl) ?_
    refine gX12_71 F C hP dX12_does_87 ?_
    refine lv_iload_n F.1 F.2.1 dX12_does_90 rfl (lv_at hl 2 rfl) ?_
    obtain ⟨hi, hE⟩ := grd_some hE
    refine am9 F C hP hi dX12_does_91 ?_
    refine lv_aload_n F.1 F.2.1 dX12_does_92 rfl (lv_at hl 1 rfl) ?_
    refine lv_aload_n F.1 F.2.1 dX12_does_93 rfl (lv_at hl 1 rfl) ?_
    refine gX12_74 F C hP dX12_does_94 ?_
    refine lv_iload_n F.1 F.2.1 dX12_does_97 rfl (lv_at hl 2 rfl) ?_
    obtain ⟨hi, hE⟩ := grd_some hE
    refine am10 F C hP hi dX12_does_98 ?_
    obtain ⟨r775, hc, hE⟩ := bnd1_some hE
    refine aft_i (run_V (rest := [.int (mse p1.toNatClampNeg), .int (mfi p1.toNatClampNeg), .ref (mA Z 0)]) F (kX12_orNone hc) (okM Z) C hS lkX12_307 ⟨Nat.le_of_ble_eq_true rfl, Nat.le_of_ble_eq_true rfl⟩ (rvM C hP) hP rfl hl.1 rfl (lv_room (Nat.le_of_ble_eq_true rfl)) dX12_does_99 ⟨Nat.zero_le _, Nat.zero_le _⟩) hS (fun H locs hP hS => ?_)
    obtain ⟨r776, mme_776, mco_776, mcn_776, mvi_776, hc, hE⟩ := bnd5_some hE
    refine aft_i (run_V (rest := []) F (kX12_setsOne hc) (okM Z) C hS lkX12_253 ⟨Nat.le_of_ble_eq_true rfl, Nat.le_of_ble_eq_true rfl⟩ (rvM C hP) hP rfl hl.1 rfl (lv_room (Nat.le_of_ble_eq_true rfl)) dX12_does_102 ⟨Nat.zero_le _, Nat.zero_le _⟩) hS (fun H locs hP hS => ?_)
    refine lv_if_lt (tgt := 112) F.1 F.2.1 dX12_does_105 (by decide) (fun hc => ?_) (fun hc => ?_)
    · have hE := ifp hE hc
      refine lv_iconst (v := 0) F.1 F.2.1 dX12_does_112 (by decide) ?_
      have w0 := Option.some.inj hE
      obtain ⟨g0, w1⟩ := Prod.mk.inj w0
      obtain ⟨g1, w2⟩ := Prod.mk.inj w1
      obtain ⟨g2, w3⟩ := Prod.mk.inj w2
      obtain ⟨g3, w4⟩ := Prod.mk.inj w3
      obtain ⟨g4, w5⟩ := Prod.mk.inj w4
      subst g0 g1 g2 g3 g4 w5
      exact ret_z F hr rfl hlk hP hS dX12_does_113
    · have hE := ifn hE hc
      refine lv_iconst (v := 1) F.1 F.2.1 dX12_does_108 (by decide) ?_
      refine lv_goto (tgt := 113) F.1 F.2.1 dX12_does_109 (by decide) ?_
      have w0 := Option.some.inj hE
      obtain ⟨g0, w1⟩ := Prod.mk.inj w0
      obtain ⟨g1, w2⟩ := Prod.mk.inj w1
      obtain ⟨g2, w3⟩ := Prod.mk.inj w2
      obtain ⟨g3, w4⟩ := Prod.mk.inj w3
      obtain ⟨g4, w5⟩ := Prod.mk.inj w4
      subst g0 g1 g2 g3 g4 w5
      exact ret_z F hr rfl hlk hP hS dX12_does_113
  have hE := ifn hE hc1
  by_cases hc2 : mac p1.toNatClampNeg = 2
  · have hE := ifp hE hc2
    refine lv_tableIn (tgt := 114) (off := 101) F.1 F.2.1 dX12_does_13 (by rw [hc2]; decide) (by rw [hc2]; decide) (by rw [hc2]; rfl) (by decide) ?_
    refine lv_aload_n F.1 F.2.1 dX12_does_114 rfl (lv_at hl 1 rfl) ?_
    refine lv_iload_n F.1 F.2.1 dX12_does_115 rfl (lv_at hl 0 rfl) ?_
    refine lv_aload_n F.1 F.2.1 dX12_does_116 rfl (lv_at hl 1 rfl) ?_
    refine lv_aload_n F.1 F.2.1 dX12_does_117 rfl (lv_at hl 1 rfl) ?_
    refine gX12_71 F C hP dX12_does_118 ?_
    refine lv_iload_n F.1 F.2.1 dX12_does_121 rfl (lv_at hl 2 rfl) ?_
    obtain ⟨hi, hE⟩ := grd_some hE
    refine am9 F C hP hi dX12_does_122 ?_
    obtain ⟨r777, hc, hE⟩ := bnd1_some hE
    refine aft_i (run_V (rest := [.int (mfi p1.toNatClampNeg), .ref (mA Z 0)]) F (kX12_orNone hc) (okM Z) C hS lkX12_307 ⟨Nat.le_of_ble_eq_true rfl, Nat.le_of_ble_eq_true rfl⟩ (rvM C hP) hP rfl hl.1 rfl (lv_room (Nat.le_of_ble_eq_true rfl)) dX12_does_123 ⟨Nat.zero_le _, Nat.zero_le _⟩) hS (fun H locs hP hS => ?_)
    obtain ⟨r778, mme_778, mco_778, mcn_778, mvi_778, hc, hE⟩ := bnd5_some hE
    refine aft_i (run_V (rest := []) F (kX12_rootsOne hc) (okM Z) C hS lkX12_260 ⟨Nat.le_of_ble_eq_true rfl, Nat.le_of_ble_eq_true rfl⟩ (rvM C hP) hP rfl hl.1 rfl (lv_room (Nat.le_of_ble_eq_true rfl)) dX12_does_126 ⟨Nat.zero_le _, Nat.zero_le _⟩) hS (fun H locs hP hS => ?_)
    refine lv_if_lt (tgt := 136) F.1 F.2.1 dX12_does_129 (by decide) (fun hc => ?_) (fun hc => ?_)
    · have hE := ifp hE hc
      refine lv_iconst (v := 0) F.1 F.2.1 dX12_does_136 (by decide) ?_
      have w0 := Option.some.inj hE
      obtain ⟨g0, w1⟩ := Prod.mk.inj w0
      obtain ⟨g1, w2⟩ := Prod.mk.inj w1
      obtain ⟨g2, w3⟩ := Prod.mk.inj w2
      obtain ⟨g3, w4⟩ := Prod.mk.inj w3
      obtain ⟨g4, w5⟩ := Prod.mk.inj w4
      subst g0 g1 g2 g3 g4 w5
      exact ret_z F hr rfl hlk hP hS dX12_does_137
    · have hE := ifn hE hc
      refine lv_iconst (v := 1) F.1 F.2.1 dX12_does_132 (by decide) ?_
      refine lv_goto (tgt := 137) F.1 F.2.1 dX12_does_133 (by decide) ?_
      have w0 := Option.some.inj hE
      obtain ⟨g0, w1⟩ := Prod.mk.inj w0
      obtain ⟨g1, w2⟩ := Prod.mk.inj w1
      obtain ⟨g2, w3⟩ := Prod.mk.inj w2
      obtain ⟨g3, w4⟩ := Prod.mk.inj w3
      obtain ⟨g4, w5⟩ := Prod.mk.inj w4
      subst g0 g1 g2 g3 g4 w5
      exact ret_z F hr rfl hlk hP hS dX12_does_137
  have hE := ifn hE hc2
  by_cases hc3 : mac p1.toNatClampNeg = 3
  · have hE := ifp hE hc3
    refine lv_tableIn (tgt := 138) (off := 125) F.1 F.2.1 dX12_does_13 (by rw [hc3]; decide) (by rw [hc3]; decide) (by rw [hc3]; rfl) (by decide) ?_
    refine lv_aload_n F.1 F.2.1 dX12_does_138 rfl (lv_at hl 1 rfl) ?_
    refine lv_iload_n F.1 F.2.1 dX12_does_139 rfl (lv_at hl 0 rfl) ?_
    refine lv_aload_n F.1 F.2.1 dX12_does_140 rfl (lv_at hl 1 rfl) ?_
    refine lv_aload_n F.1 F.2.1 dX12_does_141 rfl (lv_at hl 1 rfl) ?_
    refine gX12_71 F C hP dX12_does_142 ?_
    refine lv_iload_n F.1 F.2.1 dX12_does_145 rfl (lv_at hl 2 rfl) ?_
    obtain ⟨hi, hE⟩ := grd_some hE
    refine am9 F C hP hi dX12_does_146 ?_
    obtain ⟨r779, hc, hE⟩ := bnd1_some hE
    refine aft_i (run_V (rest := [.int (mfi p1.toNatClampNeg), .ref (mA Z 0)]) F (kX12_orNone hc) (okM Z) C hS lkX12_307 ⟨Nat.le_of_ble_eq_true rfl, Nat.le_of_ble_eq_true rfl⟩ (rvM C hP) hP rfl hl.1 rfl (lv_room (Nat.le_of_ble_eq_true rfl)) dX12_does_147 ⟨Nat.zero_le _, Nat.zero_le _⟩) hS (fun H locs hP hS => ?_)
    obtain ⟨r780, mme_780, hc, hE⟩ := bnd2_some hE
    refine aft_i (run_V (rest := []) F (kX12_weaksOne hc) (okM Z) C hS lkX12_263 ⟨Nat.le_of_ble_eq_true rfl, Nat.le_of_ble_eq_true rfl⟩ (rvM C hP) hP rfl hl.1 rfl (lv_room (Nat.le_of_ble_eq_true rfl)) dX12_does_150 ⟨Nat.zero_le _, Nat.zero_le _⟩) hS (fun H locs hP hS => ?_)
    refine lv_iconst (v := (-1)) F.1 F.2.1 dX12_does_153 (by decide) ?_
    refine lv_icmp_lt (tgt := 161) F.1 F.2.1 dX12_does_154 (by decide) (fun hc => ?_) (fun hc => ?_)
    · have hE := ifp hE hc
      refine lv_iconst (v := 0) F.1 F.2.1 dX12_does_161 (by decide) ?_
      have w0 := Option.some.inj hE
      obtain ⟨g0, w1⟩ := Prod.mk.inj w0
      obtain ⟨g1, w2⟩ := Prod.mk.inj w1
      obtain ⟨g2, w3⟩ := Prod.mk.inj w2
      obtain ⟨g3, w4⟩ := Prod.mk.inj w3
      obtain ⟨g4, w5⟩ := Prod.mk.inj w4
      subst g0 g1 g2 g3 g4 w5
      exact ret_z F hr rfl hlk hP hS dX12_does_162
    · have hE := ifn hE hc
      refine lv_iconst (v := 1) F.1 F.2.1 dX12_does_157 (by decide) ?_
      refine lv_goto (tgt := 162) F.1 F.2.1 dX12_does_158 (by decide) ?_
      have w0 := Option.some.inj hE
      obtain ⟨g0, w1⟩ := Prod.mk.inj w0
      obtain ⟨g1, w2⟩ := Prod.mk.inj w1
      obtain ⟨g2, w3⟩ := Prod.mk.inj w2
      obtain ⟨g3, w4⟩ := Prod.mk.inj w3
      obtain ⟨g4, w5⟩ := Prod.mk.inj w4
      subst g0 g1 g2 g3 g4 w5
      exact ret_z F hr rfl hlk hP hS dX12_does_162
  have hE := ifn hE hc3
  by_cases hc4 : mac p1.toNatClampNeg = 4
  · have hE := ifp hE hc4
    refine lv_tableIn (tgt := 163) (off := 150) F.1 F.2.1 dX12_does_13 (by rw [hc4]; decide) (by rw [hc4]; decide) (by rw [hc4]; rfl) (by decide) ?_
    refine lv_aload_n F.1 F.2.1 dX12_does_163 rfl (lv_at hl 1 rfl) ?_
    refine lv_iload_n F.1 F.2.1 dX12_does_164 rfl (lv_at hl 0 rfl) ?_
    refine lv_aload_n F.1 F.2.1 dX12_does_165 rfl (lv_at hl 1 rfl) ?_
    refine gX12_71 F C hP dX12_does_166 ?_
    refine lv_iload_n F.1 F.2.1 dX12_does_169 rfl (lv_at hl 2 rfl) ?_
    obtain ⟨hi, hE⟩ := grd_some hE
    refine am9 F C hP hi dX12_does_170 ?_
    obtain ⟨r781, mme_781, mco_781, mcn_781, mvi_781, hc, hE⟩ := bnd5_some hE
    refine aft_i (run_V (rest := []) F (kX12_wakesOne hc) (okM Z) C hS lkX12_266 ⟨Nat.le_of_ble_eq_true rfl, Nat.le_of_ble_eq_true rfl⟩ (rvM C hP) hP rfl hl.1 rfl (lv_room (Nat.le_of_ble_eq_true rfl)) dX12_does_171 ⟨Nat.zero_le _, Nat.zero_le _⟩) hS (fun H locs hP hS => ?_)
    refine lv_if_lt (tgt := 181) F.1 F.2.1 dX12_does_174 (by decide) (fun hc => ?_) (fun hc => ?_)
    · have hE := ifp hE hc
      refine lv_iconst (v := 0) F.1 F.2.1 dX12_does_181 (by decide) ?_
      have w0 := Option.some.inj hE
      obtain ⟨g0, w1⟩ := Prod.mk.inj w0
      obtain ⟨g1, w2⟩ := Prod.mk.inj w1
      obtain ⟨g2, w3⟩ := Prod.mk.inj w2
      obtain ⟨g3, w4⟩ := Prod.mk.inj w3
      obtain ⟨g4, w5⟩ := Prod.mk.inj w4
      subst g0 g1 g2 g3 g4 w5
      exact ret_z F hr rfl hlk hP hS dX12_does_182
    · have hE := ifn hE hc
      refine lv_iconst (v := 1) F.1 F.2.1 dX12_does_177 (by decide) ?_
      refine lv_goto (tgt := 182) F.1 F.2.1 dX12_does_178 (by decide) ?_
      have w0 := Option.some.inj hE
      obtain ⟨g0, w1⟩ := Prod.mk.inj w0
      obtain ⟨g1, w2⟩ := Prod.mk.inj w1
      obtain ⟨g2, w3⟩ := Prod.mk.inj w2
      obtain ⟨g3, w4⟩ := Prod.mk.inj w3
      obtain ⟨g4, w5⟩ := Prod.mk.inj w4
      subst g0 g1 g2 g3 g4 w5
      exact ret_z F hr rfl hlk hP hS dX12_does_182
  have hE := ifn hE hc4
  refine lv_tableOut (tgt := 183) F.1 F.2.1 dX12_does_13 (by have g0 : ¬ (mac p1.toNatClampNeg).toInt = 0 := sw_ne hc0; have g1 : ¬ (mac p1.toNatClampNeg).toInt = 1 := sw_ne hc1; have g2 : ¬ (mac p1.toNatClampNeg).toInt = 2 := sw_ne hc2; have g3 : ¬ (mac p1.toNatClampNeg).toInt = 3 := sw_ne hc3; have g4 : ¬ (mac p1.toNatClampNeg).toInt = 4 := sw_ne hc4; omega) (by decide) ?_
  refine lv_aload_n F.1 F.2.1 dX12_does_183 rfl (lv_at hl 1 rfl) ?_
  obtain ⟨r782, mme_782, mco_782, mcn_782, mvi_782, men_782, hc, hE⟩ := bnd6_some hE
  refine aft_i (run_V (rest := []) F (kX12_trialOne hc) (okM Z) C hS lkX12_269 ⟨Nat.le_of_ble_eq_true rfl, Nat.le_of_ble_eq_true rfl⟩ (rvM C hP) hP rfl hl.1 rfl (lv_room (Nat.le_of_ble_eq_true rfl)) dX12_does_184 ⟨Nat.zero_le _, Nat.zero_le _⟩) hS (fun H locs hP hS => ?_)
  refine lv_if_lt (tgt := 194) F.1 F.2.1 dX12_does_187 (by decide) (fun hc => ?_) (fun hc => ?_)
  · have hE := ifp hE hc
    refine lv_iconst (v := 0) F.1 F.2.1 dX12_does_194 (by decide) ?_
    have w0 := Option.some.inj hE
    obtain ⟨g0, w1⟩ := Prod.mk.inj w0
    obtain ⟨g1, w2⟩ := Prod.mk.inj w1
    obtain ⟨g2, w3⟩ := Prod.mk.inj w2
    obtain ⟨g3, w4⟩ := Prod.mk.inj w3
    obtain ⟨g4, w5⟩ := Prod.mk.inj w4
    subst g0 g1 g2 g3 g4 w5
    exact ret_z F hr rfl hlk hP hS dX12_does_195
  · have hE := ifn hE hc
    refine lv_iconst (v := 1) F.1 F.2.1 dX12_does_190 (by decide) ?_
    refine lv_goto (tgt := 195) F.1 F.2.1 dX12_does_191 (by decide) ?_
    have w0 := Option.some.inj hE
    obtain ⟨g0, w1⟩ := Prod.mk.inj w0
    obtain ⟨g1, w2⟩ := Prod.mk.inj w1
    obtain ⟨g2, w3⟩ := Prod.mk.inj w2
    obtain ⟨g3, w4⟩ := Prod.mk.inj w3
    obtain ⟨g4, w5⟩ := Prod.mk.inj w4
    subst g0 g1 g2 g3 g4 w5
    exact ret_z F hr rfl hlk hP hS dX12_does_195
set_option maxRecDepth 100000 in
set_option maxHeartbeats 4000000 in
theorem kX12_draws {l : Launch} {Z : ZC} {mth : Int32} {mto : Int32} {mrw : Nat → Int64} {mta : Nat → Int32} {mtp : Int32} {mat : Int32} {mtt : Int32} {mme : Nat → Int32} {mun : Int32} {mde : Int32} {mco : Nat → Int32} {mcn : Nat → Int32} {mvi : Int32} {men : Int32} {mfa : Nat → Int32} {mac : Nat → Int32} {mfi : Nat → Int32} {mse : Nat → Int32} {mtd : Nat → Int32} {mra : Int32} {mkp : Nat → Int32} {p1 : Int32} {r' : Int32} {mra' : Int32} (hE : fX12_draws mra p1 = some (r', mra')) : Mg l yX12_draws cX12_draws 2 (some .int) (rmk 0 0) (KM Z) (AM Z) [.ref (mA Z 0), .int p1] (PM Z mth mto mrw mta mtp mat mtt mme mun mde mco mcn mvi men mfa mac mfi mse mtd mra mkp) (Qi (KM Z) (AM Z) (PM Z mth mto mrw mta mtp mat mtt mme mun mde mco mcn mvi men mfa mac mfi mse mtd mra' mkp) r') := by
  refine Mg.start (lv := [(0, .ref (mA Z 0)), (1, .int p1)]) (by decide) rfl (Nat.le_of_ble_eq_true rfl) rfl ?_
  intro p e s m below meth c F hr hlk C hP ls hl
  have hS : va_S (AM Z) s.heap s.heap [] := va_S.rf
  unfold fX12_draws at hE
  refine lv_aload_n F.1 F.2.1 dX12_draws_0 rfl (lv_at hl 0 rfl) ?_
  refine lv_aload_n F.1 F.2.1 dX12_draws_1 rfl (lv_at hl 0 rfl) ?_
  refine gX12_316 F C hP dX12_draws_2 ?_
  refine lv_ldcw (v := 1103515245) F.1 F.2.1 F.2.2.2.1 (F.2.2.2.2 _ (bw_t 1497 (by decide +kernel) rfl)) dX12_draws_5 ?_
  refine lv_imul F.1 F.2.1 dX12_draws_8 ?_
  refine lv_sipush (v := 12345) F.1 F.2.1 dX12_draws_9 (by decide) ?_
  refine lv_iadd F.1 F.2.1 dX12_draws_12 ?_
  obtain ⟨mra_784, emra_784, hE⟩ := lt_some hE
  refine pX12_316 F C hP hS emra_784.symm dX12_draws_13 (fun H locs hP hS => ?_)
  refine lv_aload_n F.1 F.2.1 dX12_draws_16 rfl (lv_at hl 0 rfl) ?_
  refine gX12_316 F C hP dX12_draws_17 ?_
  refine lv_bipush (v := 16) F.1 F.2.1 dX12_draws_20 (by decide) ?_
  refine rj_iushr F.1 F.2.1 dX12_draws_22 ?_
  refine lv_iload_n F.1 F.2.1 dX12_draws_23 rfl (lv_at hl 1 rfl) ?_
  obtain ⟨hi, hE⟩ := grd_some hE
  refine rj_irem F.1 F.2.1 dX12_draws_24 (nzb_ne hi) ?_
  have w0 := Option.some.inj hE
  obtain ⟨g0, w1⟩ := Prod.mk.inj w0
  subst g0 w1
  exact ret_i F hr hlk hP hS dX12_draws_25
set_option maxRecDepth 100000 in
set_option maxHeartbeats 4000000 in
theorem kX12_drawsOther {l : Launch} {Z : ZC} {mth : Int32} {mto : Int32} {mrw : Nat → Int64} {mta : Nat → Int32} {mtp : Int32} {mat : Int32} {mtt : Int32} {mme : Nat → Int32} {mun : Int32} {mde : Int32} {mco : Nat → Int32} {mcn : Nat → Int32} {mvi : Int32} {men : Int32} {mfa : Nat → Int32} {mac : Nat → Int32} {mfi : Nat → Int32} {mse : Nat → Int32} {mtd : Nat → Int32} {mra : Int32} {mkp : Nat → Int32} {r' : Int32} {mra' : Int32} (hE : fX12_drawsOther mra = some (r', mra')) : Mg l yX12_drawsOther cX12_drawsOther 2 (some .int) (rmk 1 21) (KM Z) (AM Z) [.ref (mA Z 0)] (PM Z mth mto mrw mta mtp mat mtt mme mun mde mco mcn mvi men mfa mac mfi mse mtd mra mkp) (Qi (KM Z) (AM Z) (PM Z mth mto mrw mta mtp mat mtt mme mun mde mco mcn mvi men mfa mac mfi mse mtd mra' mkp) r') := by
  refine Mg.start (lv := [(0, .ref (mA Z 0))]) (by decide) rfl (Nat.le_of_ble_eq_true rfl) rfl ?_
  intro p e s m below meth c F hr hlk C hP ls hl
  have hS : va_S (AM Z) s.heap s.heap [] := va_S.rf
  unfold fX12_drawsOther at hE
  refine lv_aload_n F.1 F.2.1 dX12_drawsOther_0 rfl (lv_at hl 0 rfl) ?_
  refine lv_bipush (v := 25) F.1 F.2.1 dX12_drawsOther_1 (by decide) ?_
  obtain ⟨r786, mra_786, hc, hE⟩ := bnd2_some hE
  refine aft_i (run_V (rest := []) F (kX12_draws hc) (okM Z) C hS lkX12_320 ⟨Nat.le_of_ble_eq_true rfl, Nat.le_of_ble_eq_true rfl⟩ (rvM C hP) hP rfl hl.1 rfl (lv_room (Nat.le_of_ble_eq_true rfl)) dX12_drawsOther_3 ⟨Nat.zero_le _, Nat.zero_le _⟩) hS (fun H locs hP hS => ?_)
  refine lv_istore_n (lv' := [(1, .int r786), (0, .ref (mA Z 0))]) F.1 F.2.1 dX12_drawsOther_6 rfl hl (by decide) rfl (fun ls hl => ?_)
  refine lv_iload_n F.1 F.2.1 dX12_drawsOther_7 rfl (lv_at hl 0 rfl) ?_
  refine lv_bipush (v := 24) F.1 F.2.1 dX12_drawsOther_8 (by decide) ?_
  refine lv_icmp_ne (tgt := 17) F.1 F.2.1 dX12_drawsOther_10 (by decide) (fun hc => ?_) (fun hc => ?_)
  · have hE := ifn hE hc
    refine lv_iload_n F.1 F.2.1 dX12_drawsOther_17 rfl (lv_at hl 0 rfl) ?_
    have w0 := Option.some.inj hE
    obtain ⟨g0, w1⟩ := Prod.mk.inj w0
    subst g0 w1
    exact ret_i F hr hlk hP hS dX12_drawsOther_18
  · have hE := ifp hE hc
    refine lv_iconst (v := (-1)) F.1 F.2.1 dX12_drawsOther_13 (by decide) ?_
    refine lv_goto (tgt := 18) F.1 F.2.1 dX12_drawsOther_14 (by decide) ?_
    have w0 := Option.some.inj hE
    obtain ⟨g0, w1⟩ := Prod.mk.inj w0
    subst g0 w1
    exact ret_i F hr hlk hP hS dX12_drawsOther_18
set_option maxRecDepth 100000 in
set_option maxHeartbeats 4000000 in
theorem kX12_drawnAct {l : Launch} {Z : ZC} {mth : Int32} {mto : Int32} {mrw : Nat → Int64} {mta : Nat → Int32} {mtp : Int32} {mat : Int32} {mtt : Int32} {mme : Nat → Int32} {mun : Int32} {mde : Int32} {mco : Nat → Int32} {mcn : Nat → Int32} {mvi : Int32} {men : Int32} {mfa : Nat → Int32} {mac : Nat → Int32} {mfi : Nat → Int32} {mse : Nat → Int32} {mtd : Nat → Int32} {mra : Int32} {mkp : Nat → Int32} {N : Nat} {r' : Int32} {mme' : Nat → Int32} {mco' : Nat → Int32} {mcn' : Nat → Int32} {mvi' : Int32} {mra' : Int32} (hE : fX12_drawnAct N mme mde mco mcn mvi mra = some (r', mme', mco', mcn', mvi', mra')) : Mg l yX12_drawnAct cX12_drawnAct 4 (some .int) (rmk 207 4908) (KM Z) (AM Z) [.ref (mA Z 0)] (PM Z mth mto mrw mta mtp mat mtt mme mun mde mco mcn mvi men mfa mac mfi mse mtd mra mkp) (Qi (KM Z) (AM Z) (PM Z mth mto mrw mta mtp mat mtt mme' mun mde mco' mcn' mvi' men mfa mac mfi mse mtd mra' mkp) r') := by
  refine Mg.start (lv := [(0, .ref (mA Z 0))]) (by decide) rfl (Nat.le_of_ble_eq_true rfl) rfl ?_
  intro p e s m below meth c F hr hlk C hP ls hl
  have hS : va_S (AM Z) s.heap s.heap [] := va_S.rf
  unfold fX12_drawnAct at hE
  refine lv_aload_n F.1 F.2.1 dX12_drawnAct_0 rfl (lv_at hl 0 rfl) ?_
  refine lv_iconst (v := 4) F.1 F.2.1 dX12_drawnAct_1 (by decide) ?_
  obtain ⟨r799, mra_799, hc, hE⟩ := bnd2_some hE
  refine aft_i (run_V (rest := []) F (kX12_draws hc) (okM Z) C hS lkX12_320 ⟨Nat.le_of_ble_eq_true rfl, Nat.le_of_ble_eq_true rfl⟩ (rvM C hP) hP rfl hl.1 rfl (lv_room (Nat.le_of_ble_eq_true rfl)) dX12_drawnAct_2 ⟨Nat.zero_le _, Nat.zero_le _⟩) hS (fun H locs hP hS => ?_)
  refine lv_istore_n (lv' := [(1, .int r799), (0, .ref (mA Z 0))]) F.1 F.2.1 dX12_drawnAct_5 rfl hl (by decide) rfl (fun ls hl => ?_)
  refine lv_iload_n F.1 F.2.1 dX12_drawnAct_6 rfl (lv_at hl 0 rfl) ?_
  refine lv_if_ne (tgt := 37) F.1 F.2.1 dX12_drawnAct_7 (by decide) (fun hc => ?_) (fun hc => ?_)
  · have hE := ifn hE hc
    refine lv_iload_n F.1 F.2.1 dX12_drawnAct_37 rfl (lv_at hl 0 rfl) ?_
    refine lv_iconst (v := 3) F.1 F.2.1 dX12_drawnAct_38 (by decide) ?_
    refine lv_icmp_ne (tgt := 59) F.1 F.2.1 dX12_drawnAct_39 (by decide) (fun hc => ?_) (fun hc => ?_)
    · have hE := ifn hE hc
      refine lv_aload_n F.1 F.2.1 dX12_drawnAct_59 rfl (lv_at hl 1 rfl) ?_
      refine lv_bipush (v := 24) F.1 F.2.1 dX12_drawnAct_60 (by decide) ?_
      obtain ⟨r800, mra_800, hc, hE⟩ := bnd2_some hE
      refine aft_i (run_V (rest := []) F (kX12_draws hc) (okM Z) C hS lkX12_320 ⟨Nat.le_of_ble_eq_true rfl, Nat.le_of_ble_eq_true rfl⟩ (rvM C hP) hP rfl hl.1 rfl (lv_room (Nat.le_of_ble_eq_true rfl)) dX12_drawnAct_62 ⟨Nat.zero_le _, Nat.zero_le _⟩) hS (fun H locs hP hS => ?_)
      refine lv_istore_n (lv' := [(2, .int r800), (1, .int r799), (0, .ref (mA Z 0))]) F.1 F.2.1 dX12_drawnAct_65 rfl hl (by decide) rfl (fun ls hl => ?_)
      refine lv_aload_n F.1 F.2.1 dX12_drawnAct_66 rfl (lv_at hl 2 rfl) ?_
      refine lv_iconst (v := 4) F.1 F.2.1 dX12_drawnAct_67 (by decide) ?_
      obtain ⟨r801, mra_801, hc, hE⟩ := bnd2_some hE
      refine aft_i (run_V (rest := []) F (kX12_draws hc) (okM Z) C hS lkX12_320 ⟨Nat.le_of_ble_eq_true rfl, Nat.le_of_ble_eq_true rfl⟩ (rvM C hP) hP rfl hl.1 rfl (lv_room (Nat.le_of_ble_eq_true rfl)) dX12_drawnAct_68 ⟨Nat.zero_le _, Nat.zero_le _⟩) hS (fun H locs hP hS => ?_)
      refine lv_istore_n (lv' := [(3, .int r801), (2, .int r800), (1, .int r799), (0, .ref (mA Z 0))]) F.1 F.2.1 dX12_drawnAct_71 rfl hl (by decide) rfl (fun ls hl => ?_)
      refine lv_aload_n F.1 F.2.1 dX12_drawnAct_72 rfl (lv_at hl 3 rfl) ?_
      refine lv_iload_n F.1 F.2.1 dX12_drawnAct_73 rfl (lv_at hl 1 rfl) ?_
      refine lv_iload_n F.1 F.2.1 dX12_drawnAct_74 rfl (lv_at hl 0 rfl) ?_
      refine lv_aload_n F.1 F.2.1 dX12_drawnAct_75 rfl (lv_at hl 3 rfl) ?_
      obtain ⟨r802, mra_802, hc, hE⟩ := bnd2_some hE
      refine aft_i (run_V (rest := [.int r801, .int r800, .ref (mA Z 0)]) F (kX12_drawsOther hc) (okM Z) C hS lkX12_323 ⟨Nat.le_of_ble_eq_true rfl, Nat.le_of_ble_eq_true rfl⟩ (rvM C hP) hP rfl hl.1 rfl (lv_room (Nat.le_of_ble_eq_true rfl)) dX12_drawnAct_76 ⟨Nat.zero_le _, Nat.zero_le _⟩) hS (fun H locs hP hS => ?_)
      obtain ⟨r803, mme_803, mco_803, mcn_803, mvi_803, hc, hE⟩ := bnd5_some hE
      refine aft_i (run_V (rest := []) F (kX12_setsOne hc) (okM Z) C hS lkX12_253 ⟨Nat.le_of_ble_eq_true rfl, Nat.le_of_ble_eq_true rfl⟩ (rvM C hP) hP rfl hl.1 rfl (lv_room (Nat.le_of_ble_eq_true rfl)) dX12_drawnAct_79 ⟨Nat.zero_le _, Nat.zero_le _⟩) hS (fun H locs hP hS => ?_)
      have w0 := Option.some.inj hE
      obtain ⟨g0, w1⟩ := Prod.mk.inj w0
      obtain ⟨g1, w2⟩ := Prod.mk.inj w1
      obtain ⟨g2, w3⟩ := Prod.mk.inj w2
      obtain ⟨g3, w4⟩ := Prod.mk.inj w3
      obtain ⟨g4, w5⟩ := Prod.mk.inj w4
      subst g0 g1 g2 g3 g4 w5
      exact ret_i F hr hlk hP hS dX12_drawnAct_82
    · have hE := ifp hE hc
      refine lv_aload_n F.1 F.2.1 dX12_drawnAct_42 rfl (lv_at hl 1 rfl) ?_
      refine lv_bipush (v := 6) F.1 F.2.1 dX12_drawnAct_43 (by decide) ?_
      obtain ⟨r804, mra_804, hc, hE⟩ := bnd2_some hE
      refine aft_i (run_V (rest := []) F (kX12_draws hc) (okM Z) C hS lkX12_320 ⟨Nat.le_of_ble_eq_true rfl, Nat.le_of_ble_eq_true rfl⟩ (rvM C hP) hP rfl hl.1 rfl (lv_room (Nat.le_of_ble_eq_true rfl)) dX12_drawnAct_45 ⟨Nat.zero_le _, Nat.zero_le _⟩) hS (fun H locs hP hS => ?_)
      refine lv_istore_n (lv' := [(2, .int r804), (1, .int r799), (0, .ref (mA Z 0))]) F.1 F.2.1 dX12_drawnAct_48 rfl hl (by decide) rfl (fun ls hl => ?_)
      refine lv_aload_n F.1 F.2.1 dX12_drawnAct_49 rfl (lv_at hl 2 rfl) ?_
      refine lv_iload_n F.1 F.2.1 dX12_drawnAct_50 rfl (lv_at hl 0 rfl) ?_
      refine lv_aload_n F.1 F.2.1 dX12_drawnAct_51 rfl (lv_at hl 2 rfl) ?_
      obtain ⟨r805, mra_805, hc, hE⟩ := bnd2_some hE
      refine aft_i (run_V (rest := [.int r804, .ref (mA Z 0)]) F (kX12_drawsOther hc) (okM Z) C hS lkX12_323 ⟨Nat.le_of_ble_eq_true rfl, Nat.le_of_ble_eq_true rfl⟩ (rvM C hP) hP rfl hl.1 rfl (lv_room (Nat.le_of_ble_eq_true rfl)) dX12_drawnAct_52 ⟨Nat.zero_le _, Nat.zero_le _⟩) hS (fun H locs hP hS => ?_)
      obtain ⟨r806, mme_806, mco_806, mcn_806, mvi_806, hc, hE⟩ := bnd5_some hE
      refine aft_i (run_V (rest := []) F (kX12_rootsOne hc) (okM Z) C hS lkX12_260 ⟨Nat.le_of_ble_eq_true rfl, Nat.le_of_ble_eq_true rfl⟩ (rvM C hP) hP rfl hl.1 rfl (lv_room (Nat.le_of_ble_eq_true rfl)) dX12_drawnAct_55 ⟨Nat.zero_le _, Nat.zero_le _⟩) hS (fun H locs hP hS => ?_)
      have w0 := Option.some.inj hE
      obtain ⟨g0, w1⟩ := Prod.mk.inj w0
      obtain ⟨g1, w2⟩ := Prod.mk.inj w1
      obtain ⟨g2, w3⟩ := Prod.mk.inj w2
      obtain ⟨g3, w4⟩ := Prod.mk.inj w3
      obtain ⟨g4, w5⟩ := Prod.mk.inj w4
      subst g0 g1 g2 g3 g4 w5
      exact ret_i F hr hlk hP hS dX12_drawnAct_58
  · have hE := ifp hE hc
    refine lv_aload_n F.1 F.2.1 dX12_drawnAct_10 rfl (lv_at hl 1 rfl) ?_
    refine lv_iconst (v := 5) F.1 F.2.1 dX12_drawnAct_11 (by decide) ?_
    obtain ⟨r807, mra_807, hc, hE⟩ := bnd2_some hE
    refine aft_i (run_V (rest := []) F (kX12_draws hc) (okM Z) C hS lkX12_320 ⟨Nat.le_of_ble_eq_true rfl, Nat.le_of_ble_eq_true rfl⟩ (rvM C hP) hP rfl hl.1 rfl (lv_room (Nat.le_of_ble_eq_true rfl)) dX12_drawnAct_12 ⟨Nat.zero_le _, Nat.zero_le _⟩) hS (fun H locs hP hS => ?_)
    refine lv_istore_n (lv' := [(2, .int r807), (1, .int r799), (0, .ref (mA Z 0))]) F.1 F.2.1 dX12_drawnAct_15 rfl hl (by decide) rfl (fun ls hl => ?_)
    refine lv_aload_n F.1 F.2.1 dX12_drawnAct_16 rfl (lv_at hl 2 rfl) ?_
    refine lv_bipush (v := 8) F.1 F.2.1 dX12_drawnAct_17 (by decide) ?_
    obtain ⟨r808, mra_808, hc, hE⟩ := bnd2_some hE
    refine aft_i (run_V (rest := []) F (kX12_draws hc) (okM Z) C hS lkX12_320 ⟨Nat.le_of_ble_eq_true rfl, Nat.le_of_ble_eq_true rfl⟩ (rvM C hP) hP rfl hl.1 rfl (lv_room (Nat.le_of_ble_eq_true rfl)) dX12_drawnAct_19 ⟨Nat.zero_le _, Nat.zero_le _⟩) hS (fun H locs hP hS => ?_)
    refine lv_istore_n (lv' := [(3, .int r808), (2, .int r807), (1, .int r799), (0, .ref (mA Z 0))]) F.1 F.2.1 dX12_drawnAct_22 rfl hl (by decide) rfl (fun ls hl => ?_)
    refine lv_aload_n F.1 F.2.1 dX12_drawnAct_23 rfl (lv_at hl 3 rfl) ?_
    refine lv_iload_n F.1 F.2.1 dX12_drawnAct_24 rfl (lv_at hl 1 rfl) ?_
    refine lv_iconst (v := 1) F.1 F.2.1 dX12_drawnAct_25 (by decide) ?_
    refine lv_iload_n F.1 F.2.1 dX12_drawnAct_26 rfl (lv_at hl 0 rfl) ?_
    refine lv_aload_n F.1 F.2.1 dX12_drawnAct_27 rfl (lv_at hl 3 rfl) ?_
    refine lv_bipush (v := 6) F.1 F.2.1 dX12_drawnAct_28 (by decide) ?_
    obtain ⟨r809, mra_809, hc, hE⟩ := bnd2_some hE
    refine aft_i (run_V (rest := [.int r808, .int 1, .int r807, .ref (mA Z 0)]) F (kX12_draws hc) (okM Z) C hS lkX12_320 ⟨Nat.le_of_ble_eq_true rfl, Nat.le_of_ble_eq_true rfl⟩ (rvM C hP) hP rfl hl.1 rfl (lv_room (Nat.le_of_ble_eq_true rfl)) dX12_drawnAct_30 ⟨Nat.zero_le _, Nat.zero_le _⟩) hS (fun H locs hP hS => ?_)
    obtain ⟨r810, mme_810, mco_810, mcn_810, mvi_810, hc, hE⟩ := bnd5_some hE
    refine aft_i (run_V (rest := []) F (kX12_makesOne hc) (okM Z) C hS lkX12_246 ⟨Nat.le_of_ble_eq_true rfl, Nat.le_of_ble_eq_true rfl⟩ (rvM C hP) hP rfl hl.1 rfl (lv_room (Nat.le_of_ble_eq_true rfl)) dX12_drawnAct_33 ⟨Nat.zero_le _, Nat.zero_le _⟩) hS (fun H locs hP hS => ?_)
    have w0 := Option.some.inj hE
    obtain ⟨g0, w1⟩ := Prod.mk.inj w0
    obtain ⟨g1, w2⟩ := Prod.mk.inj w1
    obtain ⟨g2, w3⟩ := Prod.mk.inj w2
    obtain ⟨g3, w4⟩ := Prod.mk.inj w3
    obtain ⟨g4, w5⟩ := Prod.mk.inj w4
    subst g0 g1 g2 g3 g4 w5
    exact ret_i F hr hlk hP hS dX12_drawnAct_36
set_option maxRecDepth 100000 in
set_option maxHeartbeats 4000000 in
theorem qX12_years_60 {p : Program} {l : Launch} {e : Env} {s : State} {m : MethodId} {args : Array Value} {below : List Frame} {meth : Method} {c : Code} {Z : ZC} {mta : Nat → Int32} {mtp : Int32} {mat : Int32} {mtt : Int32} {mun : Int32} {men : Int32} {mfa : Nat → Int32} {mac : Nat → Int32} {mfi : Nat → Int32} {mse : Nat → Int32} {mtd : Nat → Int32} {mkp : Nat → Int32} {N : Nat} {p1 : Int32} {p2 : Int32} {r' : Int32} {mth' : Int32} {mto' : Int32} {mrw' : Nat → Int64} {mme' : Nat → Int32} {mde' : Int32} {mco' : Nat → Int32} {mcn' : Nat → Int32} {mvi' : Int32} {mra' : Int32} (F : CallFix p m c cX12_years 5 s args bigW RX12) (hr : meth.sig.returnType = (some .int)) (hlk : meth.locks = false) (C : KM Z s) : ∀ (mth : Int32) (mto : Int32) (mrw : Nat → Int64) (mme : Nat → Int32) (mde : Int32) (mco : Nat → Int32) (mcn : Nat → Int32) (mvi : Int32) (mra : Int32) (x3 : Int32), fX12_years_60 N p1 p2 mth mto mrw mme mde mco mcn mvi mra x3 = some (r', mth', mto', mrw', mme', mde', mco', mcn', mvi', mra') → ∀ (H : Heap) (locs : List Loc), PM Z mth mto mrw mta mtp mat mtt mme mun mde mco mcn mvi men mfa mac mfi mse mtd mra mkp H → va_S (AM Z) s.heap H locs → ∀ ls : Array Slot, lv_has ls 5 [(0, .ref (mA Z 0)), (3, .int x3)] → W p l e (rmk 208 4931) s m args below meth c H locs 0 0 (MQ below (Qi (KM Z) (AM Z) (PM Z mth' mto' mrw' mta mtp mat mtt mme' mun mde' mco' mcn' mvi' men mfa mac mfi mse mtd mra' mkp) r') args s 0 0 (AM Z)) (F0 m 60 ls []) := by
  intro mth mto mrw mme mde mco mcn mvi mra x3 hE H locs hP hS ls hl
  unfold fX12_years_60 at hE
  refine lv_aload_n F.1 F.2.1 dX12_years_60 rfl (lv_at hl 0 rfl) ?_
  obtain ⟨r824, hc, hE⟩ := bnd1_some hE
  refine aft_i (run_V (rest := []) F (kX12_thereAll hc) (okM Z) C hS lkX12_233 ⟨Nat.le_of_ble_eq_true rfl, Nat.le_of_ble_eq_true rfl⟩ (rvM C hP) hP rfl hl.1 rfl (lv_room (Nat.le_of_ble_eq_true rfl)) dX12_years_61 ⟨Nat.zero_le _, Nat.zero_le _⟩) hS (fun H locs hP hS => ?_)
  refine lv_istore (lv' := [(4, .int r824), (0, .ref (mA Z 0)), (3, .int x3)]) F.1 F.2.1 dX12_years_64 hl (by decide) rfl (fun ls hl => ?_)
  refine lv_aload_n F.1 F.2.1 dX12_years_66 rfl (lv_at hl 1 rfl) ?_
  refine lv_iconst (v := 0) F.1 F.2.1 dX12_years_67 (by decide) ?_
  refine pX12_11 F C hP hS rfl dX12_years_68 (fun H locs hP hS => ?_)
  refine lv_aload_n F.1 F.2.1 dX12_years_71 rfl (lv_at hl 1 rfl) ?_
  refine lv_aload_n F.1 F.2.1 dX12_years_72 rfl (lv_at hl 1 rfl) ?_
  refine gX12_53 F C hP dX12_years_73 ?_
  refine lv_aload_n F.1 F.2.1 dX12_years_76 rfl (lv_at hl 1 rfl) ?_
  refine gX12_85 F C hP dX12_years_77 ?_
  refine lv_iconst (v := 2) F.1 F.2.1 dX12_years_80 (by decide) ?_
  refine lv_iadd F.1 F.2.1 dX12_years_81 ?_
  obtain ⟨hi, hE⟩ := grd_some hE
  refine am3 F C hP hi dX12_years_82 ?_
  refine lv_iload_n F.1 F.2.1 dX12_years_83 rfl (lv_at hl 2 rfl) ?_
  refine lv_isub F.1 F.2.1 dX12_years_84 ?_
  refine lv_i2l (v := ((mme (mde + 2).toNatClampNeg) - x3).toInt64) F.1 F.2.1 dX12_years_85 rfl ?_
  obtain ⟨mto_825, mrw_825, hc, hE⟩ := bnd2_some hE
  refine aft_v (run_V (rest := []) F (kX12_enters hc) (okM Z) C hS lkX12_239 ⟨Nat.le_of_ble_eq_true rfl, Nat.le_of_ble_eq_true rfl⟩ (rvM C hP) hP rfl hl.1 rfl (lv_room (Nat.le_of_ble_eq_true rfl)) dX12_years_86 ⟨Nat.zero_le _, Nat.zero_le _⟩) hS (fun H locs hP hS => ?_)
  refine lv_aload_n F.1 F.2.1 dX12_years_89 rfl (lv_at hl 1 rfl) ?_
  refine lv_aload_n F.1 F.2.1 dX12_years_90 rfl (lv_at hl 1 rfl) ?_
  obtain ⟨r826, hc, hE⟩ := bnd1_some hE
  refine aft_i (run_V (rest := [.ref (mA Z 0)]) F (kX12_listed hc) (okM Z) C hS lkX12_97 ⟨Nat.le_of_ble_eq_true rfl, Nat.le_of_ble_eq_true rfl⟩ (rvM C hP) hP rfl hl.1 rfl (lv_room (Nat.le_of_ble_eq_true rfl)) dX12_years_91 ⟨Nat.zero_le _, Nat.zero_le _⟩) hS (fun H locs hP hS => ?_)
  refine lv_i2l (v := r826.toInt64) F.1 F.2.1 dX12_years_94 rfl ?_
  obtain ⟨mto_827, mrw_827, hc, hE⟩ := bnd2_some hE
  refine aft_v (run_V (rest := []) F (kX12_enters hc) (okM Z) C hS lkX12_239 ⟨Nat.le_of_ble_eq_true rfl, Nat.le_of_ble_eq_true rfl⟩ (rvM C hP) hP rfl hl.1 rfl (lv_room (Nat.le_of_ble_eq_true rfl)) dX12_years_95 ⟨Nat.zero_le _, Nat.zero_le _⟩) hS (fun H locs hP hS => ?_)
  refine lv_aload_n F.1 F.2.1 dX12_years_98 rfl (lv_at hl 1 rfl) ?_
  obtain ⟨mde_828, hc, hE⟩ := bnd1_some hE
  refine aft_v (run_V (rest := []) F (kX12_isBack hc) (okM Z) C hS lkX12_294 ⟨Nat.le_of_ble_eq_true rfl, Nat.le_of_ble_eq_true rfl⟩ (rvM C hP) hP rfl hl.1 rfl (lv_room (Nat.le_of_ble_eq_true rfl)) dX12_years_99 ⟨Nat.zero_le _, Nat.zero_le _⟩) hS (fun H locs hP hS => ?_)
  refine lv_iload F.1 F.2.1 dX12_years_102 (lv_at hl 0 rfl) ?_
  have w0 := Option.some.inj hE
  obtain ⟨g0, w1⟩ := Prod.mk.inj w0
  obtain ⟨g1, w2⟩ := Prod.mk.inj w1
  obtain ⟨g2, w3⟩ := Prod.mk.inj w2
  obtain ⟨g3, w4⟩ := Prod.mk.inj w3
  obtain ⟨g4, w5⟩ := Prod.mk.inj w4
  obtain ⟨g5, w6⟩ := Prod.mk.inj w5
  obtain ⟨g6, w7⟩ := Prod.mk.inj w6
  obtain ⟨g7, w8⟩ := Prod.mk.inj w7
  obtain ⟨g8, w9⟩ := Prod.mk.inj w8
  subst g0 g1 g2 g3 g4 g5 g6 g7 g8 w9
  exact ret_i F hr hlk hP hS dX12_years_104
set_option maxRecDepth 100000 in
set_option maxHeartbeats 4000000 in
theorem qX12_years_43 {p : Program} {l : Launch} {e : Env} {s : State} {m : MethodId} {args : Array Value} {below : List Frame} {meth : Method} {c : Code} {Z : ZC} {mta : Nat → Int32} {mtp : Int32} {mat : Int32} {mtt : Int32} {mun : Int32} {men : Int32} {mfa : Nat → Int32} {mac : Nat → Int32} {mfi : Nat → Int32} {mse : Nat → Int32} {mtd : Nat → Int32} {mkp : Nat → Int32} {N : Nat} {p1 : Int32} {p2 : Int32} {r' : Int32} {mth' : Int32} {mto' : Int32} {mrw' : Nat → Int64} {mme' : Nat → Int32} {mde' : Int32} {mco' : Nat → Int32} {mcn' : Nat → Int32} {mvi' : Int32} {mra' : Int32} (F : CallFix p m c cX12_years 5 s args bigW RX12) (hr : meth.sig.returnType = (some .int)) (hlk : meth.locks = false) (C : KM Z s) : ∀ n : Nat, ∀ (mth : Int32) (mto : Int32) (mrw : Nat → Int64) (mme : Nat → Int32) (mde : Int32) (mco : Nat → Int32) (mcn : Nat → Int32) (mvi : Int32) (mra : Int32) (x3 : Int32) (x4 : Int32), fX12_years_43 N p1 p2 n mth mto mrw mme mde mco mcn mvi mra x3 x4 = some (r', mth', mto', mrw', mme', mde', mco', mcn', mvi', mra') → ∀ (H : Heap) (locs : List Loc), PM Z mth mto mrw mta mtp mat mtt mme mun mde mco mcn mvi men mfa mac mfi mse mtd mra mkp H → va_S (AM Z) s.heap H locs → ∀ ls : Array Slot, lv_has ls 5 [(0, .ref (mA Z 0)), (2, .int p2), (3, .int x3), (4, .int x4)] → W p l e (rmk 208 4931) s m args below meth c H locs 0 0 (MQ below (Qi (KM Z) (AM Z) (PM Z mth' mto' mrw' mta mtp mat mtt mme' mun mde' mco' mcn' mvi' men mfa mac mfi mse mtd mra' mkp) r') args s 0 0 (AM Z)) (F0 m 43 ls []) := by
  intro n
  induction n with
  | zero => intro mth mto mrw mme mde mco mcn mvi mra x3 x4 hE; cases hE
  | succ n h43 =>
    intro mth mto mrw mme mde mco mcn mvi mra x3 x4 hE H locs hP hS ls hl
    have hE : fX12_years_43b N p1 p2 (fX12_years_43 N p1 p2 n) mth mto mrw mme mde mco mcn mvi mra x3 x4 = some (r', mth', mto', mrw', mme', mde', mco', mcn', mvi', mra') := hE
    refine lv_iload F.1 F.2.1 dX12_years_43 (lv_at hl 3 rfl) ?_
    refine lv_iload_n F.1 F.2.1 dX12_years_45 rfl (lv_at hl 1 rfl) ?_
    refine lv_icmp_ge (tgt := 60) F.1 F.2.1 dX12_years_46 (by decide) (fun hc => ?_) (fun hc => ?_)
    · have hE := ifp hE hc
      exact qX12_years_60 F hr hlk C mth mto mrw mme mde mco mcn mvi mra x3 hE _ _ hP hS ls (lv_sub hl [0, 2] rfl)
    · have hE := ifn hE hc
      refine lv_aload_n F.1 F.2.1 dX12_years_49 rfl (lv_at hl 0 rfl) ?_
      obtain ⟨r823, mme_823, mco_823, mcn_823, mvi_823, mra_823, hc, hE⟩ := bnd6_some hE
      refine aft_i (run_V (rest := []) F (kX12_drawnAct hc) (okM Z) C hS lkX12_328 ⟨Nat.le_of_ble_eq_true rfl, Nat.le_of_ble_eq_true rfl⟩ (rvM C hP) hP rfl hl.1 rfl (lv_room (Nat.le_of_ble_eq_true rfl)) dX12_years_50 ⟨Nat.zero_le _, Nat.zero_le _⟩) hS (fun H locs hP hS => ?_)
      refine lv_pop F.1 F.2.1 dX12_years_53 rfl ?_
      refine lv_iinc (v := x4 + 1) (lv' := [(4, .int (x4 + 1)), (0, .ref (mA Z 0)), (2, .int p2), (3, .int x3)]) F.1 F.2.1 dX12_years_54 hl (k := 3) rfl rfl (by decide) rfl (fun ls hl => ?_)
      refine lv_goto (tgt := 43) F.1 F.2.1 dX12_years_57 (by decide) ?_
      exact h43 mth mto mrw mme_823 mde mco_823 mcn_823 mvi_823 mra_823 x3 (x4 + 1) hE _ _ hP hS ls (lv_sub hl [1, 2, 3, 0] rfl)
set_option maxRecDepth 100000 in
set_option maxHeartbeats 4000000 in
theorem kX12_years {l : Launch} {Z : ZC} {mth : Int32} {mto : Int32} {mrw : Nat → Int64} {mta : Nat → Int32} {mtp : Int32} {mat : Int32} {mtt : Int32} {mme : Nat → Int32} {mun : Int32} {mde : Int32} {mco : Nat → Int32} {mcn : Nat → Int32} {mvi : Int32} {men : Int32} {mfa : Nat → Int32} {mac : Nat → Int32} {mfi : Nat → Int32} {mse : Nat → Int32} {mtd : Nat → Int32} {mra : Int32} {mkp : Nat → Int32} {N : Nat} {p1 : Int32} {p2 : Int32} {r' : Int32} {mth' : Int32} {mto' : Int32} {mrw' : Nat → Int64} {mme' : Nat → Int32} {mde' : Int32} {mco' : Nat → Int32} {mcn' : Nat → Int32} {mvi' : Int32} {mra' : Int32} (hE : fX12_years N mth mto mrw mme mde mco mcn mvi mra p1 p2 = some (r', mth', mto', mrw', mme', mde', mco', mcn', mvi', mra')) : Mg l yX12_years cX12_years 5 (some .int) (rmk 208 4931) (KM Z) (AM Z) [.ref (mA Z 0), .int p1, .int p2] (PM Z mth mto mrw mta mtp mat mtt mme mun mde mco mcn mvi men mfa mac mfi mse mtd mra mkp) (Qi (KM Z) (AM Z) (PM Z mth' mto' mrw' mta mtp mat mtt mme' mun mde' mco' mcn' mvi' men mfa mac mfi mse mtd mra' mkp) r') := by
  refine Mg.start (lv := [(0, .ref (mA Z 0)), (1, .int p1), (2, .int p2)]) (by decide) rfl (Nat.le_of_ble_eq_true rfl) rfl ?_
  intro p e s m below meth c F hr hlk C hP ls hl
  have hS : va_S (AM Z) s.heap s.heap [] := va_S.rf
  unfold fX12_years at hE
  refine lv_aload_n F.1 F.2.1 dX12_years_0 rfl (lv_at hl 0 rfl) ?_
  refine lv_iconst (v := 0) F.1 F.2.1 dX12_years_1 (by decide) ?_
  refine pX12_1 F C hP hS rfl dX12_years_2 (fun H locs hP hS => ?_)
  refine lv_iload_n F.1 F.2.1 dX12_years_5 rfl (lv_at hl 2 rfl) ?_
  refine lv_i2l (v := p2.toInt64) F.1 F.2.1 dX12_years_6 rfl ?_
  refine lv_lconst (v := 1) F.1 F.2.1 dX12_years_7 (by decide) ?_
  refine lv_ldc2 (v := 40) F.1 F.2.1 F.2.2.2.1 (F.2.2.2.2 _ (bw_t 1488 (by decide +kernel) rfl)) dX12_years_8 ?_
  obtain ⟨r820, hc, hE⟩ := bnd1_some hE
  refine aft_i (run_S (rest := []) F (kX12_in hc) (okM Z) C hS lkX12_21 ⟨Nat.le_of_ble_eq_true rfl, Nat.le_of_ble_eq_true rfl⟩ hP rfl hl.1 rfl (lv_room (Nat.le_of_ble_eq_true rfl)) dX12_years_11 ⟨Nat.zero_le _, Nat.zero_le _⟩) hS (fun H locs hP hS => ?_)
  refine lv_if_ne (tgt := 19) F.1 F.2.1 dX12_years_14 (by decide) (fun hc => ?_) (fun hc => ?_)
  · have hE := ifn hE hc
    refine lv_aload_n F.1 F.2.1 dX12_years_19 rfl (lv_at hl 0 rfl) ?_
    refine lv_iload_n F.1 F.2.1 dX12_years_20 rfl (lv_at hl 1 rfl) ?_
    refine pX12_316 F C hP hS rfl dX12_years_21 (fun H locs hP hS => ?_)
    refine lv_aload_n F.1 F.2.1 dX12_years_24 rfl (lv_at hl 0 rfl) ?_
    obtain ⟨mme_821, mde_821, hc, hE⟩ := bnd2_some hE
    refine aft_v (run_V (rest := []) F (kX12_tries hc) (okM Z) C hS lkX12_291 ⟨Nat.le_of_ble_eq_true rfl, Nat.le_of_ble_eq_true rfl⟩ (rvM C hP) hP rfl hl.1 rfl (lv_room (Nat.le_of_ble_eq_true rfl)) dX12_years_25 ⟨Nat.zero_le _, Nat.zero_le _⟩) hS (fun H locs hP hS => ?_)
    refine lv_aload_n F.1 F.2.1 dX12_years_28 rfl (lv_at hl 0 rfl) ?_
    refine gX12_53 F C hP dX12_years_29 ?_
    refine lv_aload_n F.1 F.2.1 dX12_years_32 rfl (lv_at hl 0 rfl) ?_
    refine gX12_85 F C hP dX12_years_33 ?_
    refine lv_iconst (v := 2) F.1 F.2.1 dX12_years_36 (by decide) ?_
    refine lv_iadd F.1 F.2.1 dX12_years_37 ?_
    obtain ⟨hi, hE⟩ := grd_some hE
    refine am3 F C hP hi dX12_years_38 ?_
    obtain ⟨v_822, ev_822, hE⟩ := lt_some hE
    refine lv_seti ev_822 ?_
    refine lv_istore_n (lv' := [(3, .int v_822), (0, .ref (mA Z 0)), (1, .int p1), (2, .int p2)]) F.1 F.2.1 dX12_years_39 rfl hl (by decide) rfl (fun ls hl => ?_)
    refine lv_iconst (v := 0) F.1 F.2.1 dX12_years_40 (by decide) ?_
    refine lv_istore (lv' := [(4, .int 0), (3, .int v_822), (0, .ref (mA Z 0)), (1, .int p1), (2, .int p2)]) F.1 F.2.1 dX12_years_41 hl (by decide) rfl (fun ls hl => ?_)
    exact qX12_years_43 F hr hlk C N 0 mto mrw mme_821 mde_821 mco mcn mvi p1 v_822 0 hE _ _ hP hS ls (lv_sub hl [2, 4, 1, 0] rfl)
  · have hE := ifp hE hc
    refine lv_iconst (v := (-1)) F.1 F.2.1 dX12_years_17 (by decide) ?_
    have w0 := Option.some.inj hE
    obtain ⟨g0, w1⟩ := Prod.mk.inj w0
    obtain ⟨g1, w2⟩ := Prod.mk.inj w1
    obtain ⟨g2, w3⟩ := Prod.mk.inj w2
    obtain ⟨g3, w4⟩ := Prod.mk.inj w3
    obtain ⟨g4, w5⟩ := Prod.mk.inj w4
    obtain ⟨g5, w6⟩ := Prod.mk.inj w5
    obtain ⟨g6, w7⟩ := Prod.mk.inj w6
    obtain ⟨g7, w8⟩ := Prod.mk.inj w7
    obtain ⟨g8, w9⟩ := Prod.mk.inj w8
    subst g0 g1 g2 g3 g4 g5 g6 g7 g8 w9
    exact ret_i F hr hlk hP hS dX12_years_18
set_option maxRecDepth 100000 in
set_option maxHeartbeats 4000000 in
theorem kX12_keep {l : Launch} {Z : ZC} {mth : Int32} {mto : Int32} {mrw : Nat → Int64} {mta : Nat → Int32} {mtp : Int32} {mat : Int32} {mtt : Int32} {mme : Nat → Int32} {mun : Int32} {mde : Int32} {mco : Nat → Int32} {mcn : Nat → Int32} {mvi : Int32} {men : Int32} {mfa : Nat → Int32} {mac : Nat → Int32} {mfi : Nat → Int32} {mse : Nat → Int32} {mtd : Nat → Int32} {mra : Int32} {mkp : Nat → Int32} {N : Nat} {p1 : Int32} {r' : Int32} {mth' : Int32} {mme' : Nat → Int32} {mkp' : Nat → Int32} (hE : fX12_keep N mth mme mkp p1 = some (r', mth', mme', mkp')) : Mg l yX12_keep cX12_keep 2 (some .boolean) (rmk 1 25) (KM Z) (AM Z) [.ref (mA Z 0), .int p1] (PM Z mth mto mrw mta mtp mat mtt mme mun mde mco mcn mvi men mfa mac mfi mse mtd mra mkp) (Qi (KM Z) (AM Z) (PM Z mth' mto mrw mta mtp mat mtt mme' mun mde mco mcn mvi men mfa mac mfi mse mtd mra mkp') r') := by
  refine Mg.start (lv := [(0, .ref (mA Z 0)), (1, .int p1)]) (by decide) rfl (Nat.le_of_ble_eq_true rfl) rfl ?_
  intro p e s m below meth c F hr hlk C hP ls hl
  have hS : va_S (AM Z) s.heap s.heap [] := va_S.rf
  unfold fX12_keep at hE
  refine lv_aload_n F.1 F.2.1 dX12_keep_0 rfl (lv_at hl 0 rfl) ?_
  refine lv_iconst (v := 0) F.1 F.2.1 dX12_keep_1 (by decide) ?_
  refine pX12_1 F C hP hS rfl dX12_keep_2 (fun H locs hP hS => ?_)
  refine lv_iload_n F.1 F.2.1 dX12_keep_5 rfl (lv_at hl 1 rfl) ?_
  refine lv_i2l (v := p1.toInt64) F.1 F.2.1 dX12_keep_6 rfl ?_
  refine lv_lconst (v := 0) F.1 F.2.1 dX12_keep_7 (by decide) ?_
  refine lv_lconst (v := 1) F.1 F.2.1 dX12_keep_8 (by decide) ?_
  obtain ⟨r832, hc, hE⟩ := bnd1_some hE
  refine aft_i (run_S (rest := []) F (kX12_in hc) (okM Z) C hS lkX12_21 ⟨Nat.le_of_ble_eq_true rfl, Nat.le_of_ble_eq_true rfl⟩ hP rfl hl.1 rfl (lv_room (Nat.le_of_ble_eq_true rfl)) dX12_keep_9 ⟨Nat.zero_le _, Nat.zero_le _⟩) hS (fun H locs hP hS => ?_)
  refine lv_if_ne (tgt := 17) F.1 F.2.1 dX12_keep_12 (by decide) (fun hc => ?_) (fun hc => ?_)
  · have hE := ifn hE hc
    refine lv_aload_n F.1 F.2.1 dX12_keep_17 rfl (lv_at hl 0 rfl) ?_
    refine gX12_77 F C hP dX12_keep_18 ?_
    refine lv_iload_n F.1 F.2.1 dX12_keep_21 rfl (lv_at hl 1 rfl) ?_
    refine lv_iconst (v := 1) F.1 F.2.1 dX12_keep_22 (by decide) ?_
    obtain ⟨hi, hE⟩ := grd_some hE
    obtain ⟨mkp_833, emkp_833, hE⟩ := lt_some hE
    refine sm11 F C hP hi hS emkp_833.symm dX12_keep_23 (fun H locs hP hS => ?_)
    refine lv_aload_n F.1 F.2.1 dX12_keep_24 rfl (lv_at hl 0 rfl) ?_
    refine lv_iconst (v := 0) F.1 F.2.1 dX12_keep_25 (by decide) ?_
    refine lv_iconst (v := 1) F.1 F.2.1 dX12_keep_26 (by decide) ?_
    refine lv_iload_n F.1 F.2.1 dX12_keep_27 rfl (lv_at hl 1 rfl) ?_
    refine lv_iadd F.1 F.2.1 dX12_keep_28 ?_
    obtain ⟨mme_834, hc, hE⟩ := bnd1_some hE
    refine aft_v (run_V (rest := []) F (kX12_copies hc) (okM Z) C hS lkX12_81 ⟨Nat.le_of_ble_eq_true rfl, Nat.le_of_ble_eq_true rfl⟩ (rvM C hP) hP rfl hl.1 rfl (lv_room (Nat.le_of_ble_eq_true rfl)) dX12_keep_29 ⟨Nat.zero_le _, Nat.zero_le _⟩) hS (fun H locs hP hS => ?_)
    refine lv_iconst (v := 1) F.1 F.2.1 dX12_keep_32 (by decide) ?_
    have w0 := Option.some.inj hE
    obtain ⟨g0, w1⟩ := Prod.mk.inj w0
    obtain ⟨g1, w2⟩ := Prod.mk.inj w1
    obtain ⟨g2, w3⟩ := Prod.mk.inj w2
    subst g0 g1 g2 w3
    exact ret_z F hr rfl hlk hP hS dX12_keep_33
  · have hE := ifp hE hc
    refine lv_iconst (v := 0) F.1 F.2.1 dX12_keep_15 (by decide) ?_
    have w0 := Option.some.inj hE
    obtain ⟨g0, w1⟩ := Prod.mk.inj w0
    obtain ⟨g1, w2⟩ := Prod.mk.inj w1
    obtain ⟨g2, w3⟩ := Prod.mk.inj w2
    subst g0 g1 g2 w3
    exact ret_z F hr rfl hlk hP hS dX12_keep_16
set_option maxRecDepth 100000 in
set_option maxHeartbeats 4000000 in
theorem kX12_again {l : Launch} {Z : ZC} {mth : Int32} {mto : Int32} {mrw : Nat → Int64} {mta : Nat → Int32} {mtp : Int32} {mat : Int32} {mtt : Int32} {mme : Nat → Int32} {mun : Int32} {mde : Int32} {mco : Nat → Int32} {mcn : Nat → Int32} {mvi : Int32} {men : Int32} {mfa : Nat → Int32} {mac : Nat → Int32} {mfi : Nat → Int32} {mse : Nat → Int32} {mtd : Nat → Int32} {mra : Int32} {mkp : Nat → Int32} {N : Nat} {p1 : Int32} {r' : Int32} {mth' : Int32} {mme' : Nat → Int32} {mun' : Int32} (hE : fX12_again N mth mme mun mkp p1 = some (r', mth', mme', mun')) : Mg l yX12_again cX12_again 2 (some .boolean) (rmk 1 25) (KM Z) (AM Z) [.ref (mA Z 0), .int p1] (PM Z mth mto mrw mta mtp mat mtt mme mun mde mco mcn mvi men mfa mac mfi mse mtd mra mkp) (Qi (KM Z) (AM Z) (PM Z mth' mto mrw mta mtp mat mtt mme' mun' mde mco mcn mvi men mfa mac mfi mse mtd mra mkp) r') := by
  refine Mg.start (lv := [(0, .ref (mA Z 0)), (1, .int p1)]) (by decide) rfl (Nat.le_of_ble_eq_true rfl) rfl ?_
  intro p e s m below meth c F hr hlk C hP ls hl
  have hS : va_S (AM Z) s.heap s.heap [] := va_S.rf
  unfold fX12_again at hE
  refine lv_aload_n F.1 F.2.1 dX12_again_0 rfl (lv_at hl 0 rfl) ?_
  refine lv_iconst (v := 0) F.1 F.2.1 dX12_again_1 (by decide) ?_
  refine pX12_1 F C hP hS rfl dX12_again_2 (fun H locs hP hS => ?_)
  refine lv_iload_n F.1 F.2.1 dX12_again_5 rfl (lv_at hl 1 rfl) ?_
  refine lv_i2l (v := p1.toInt64) F.1 F.2.1 dX12_again_6 rfl ?_
  refine lv_lconst (v := 0) F.1 F.2.1 dX12_again_7 (by decide) ?_
  refine lv_lconst (v := 1) F.1 F.2.1 dX12_again_8 (by decide) ?_
  obtain ⟨r837, hc, hE⟩ := bnd1_some hE
  refine aft_i (run_S (rest := []) F (kX12_in hc) (okM Z) C hS lkX12_21 ⟨Nat.le_of_ble_eq_true rfl, Nat.le_of_ble_eq_true rfl⟩ hP rfl hl.1 rfl (lv_room (Nat.le_of_ble_eq_true rfl)) dX12_again_9 ⟨Nat.zero_le _, Nat.zero_le _⟩) hS (fun H locs hP hS => ?_)
  refine lv_if_eq (tgt := 24) F.1 F.2.1 dX12_again_12 (by decide) (fun hc => ?_) (fun hc => ?_)
  · have hE := ifp hE hc
    refine lv_iconst (v := 0) F.1 F.2.1 dX12_again_24 (by decide) ?_
    have w0 := Option.some.inj hE
    obtain ⟨g0, w1⟩ := Prod.mk.inj w0
    obtain ⟨g1, w2⟩ := Prod.mk.inj w1
    obtain ⟨g2, w3⟩ := Prod.mk.inj w2
    subst g0 g1 g2 w3
    exact ret_z F hr rfl hlk hP hS dX12_again_25
  · have hE := ifn hE hc
    refine lv_aload_n F.1 F.2.1 dX12_again_15 rfl (lv_at hl 0 rfl) ?_
    refine gX12_77 F C hP dX12_again_16 ?_
    refine lv_iload_n F.1 F.2.1 dX12_again_19 rfl (lv_at hl 1 rfl) ?_
    obtain ⟨hi, hE⟩ := grd_some hE
    refine am11 F C hP hi dX12_again_20 ?_
    refine lv_if_ne (tgt := 26) F.1 F.2.1 dX12_again_21 (by decide) (fun hc => ?_) (fun hc => ?_)
    · have hE := ifn hE hc
      refine lv_aload_n F.1 F.2.1 dX12_again_26 rfl (lv_at hl 0 rfl) ?_
      refine lv_iconst (v := 1) F.1 F.2.1 dX12_again_27 (by decide) ?_
      refine lv_iload_n F.1 F.2.1 dX12_again_28 rfl (lv_at hl 1 rfl) ?_
      refine lv_iadd F.1 F.2.1 dX12_again_29 ?_
      refine lv_iconst (v := 0) F.1 F.2.1 dX12_again_30 (by decide) ?_
      obtain ⟨mme_838, hc, hE⟩ := bnd1_some hE
      refine aft_v (run_V (rest := []) F (kX12_copies hc) (okM Z) C hS lkX12_81 ⟨Nat.le_of_ble_eq_true rfl, Nat.le_of_ble_eq_true rfl⟩ (rvM C hP) hP rfl hl.1 rfl (lv_room (Nat.le_of_ble_eq_true rfl)) dX12_again_31 ⟨Nat.zero_le _, Nat.zero_le _⟩) hS (fun H locs hP hS => ?_)
      refine lv_aload_n F.1 F.2.1 dX12_again_34 rfl (lv_at hl 0 rfl) ?_
      refine lv_iconst (v := 0) F.1 F.2.1 dX12_again_35 (by decide) ?_
      refine pX12_88 F C hP hS rfl dX12_again_36 (fun H locs hP hS => ?_)
      refine lv_iconst (v := 1) F.1 F.2.1 dX12_again_39 (by decide) ?_
      have w0 := Option.some.inj hE
      obtain ⟨g0, w1⟩ := Prod.mk.inj w0
      obtain ⟨g1, w2⟩ := Prod.mk.inj w1
      obtain ⟨g2, w3⟩ := Prod.mk.inj w2
      subst g0 g1 g2 w3
      exact ret_z F hr rfl hlk hP hS dX12_again_40
    · have hE := ifp hE hc
      refine lv_iconst (v := 0) F.1 F.2.1 dX12_again_24 (by decide) ?_
      have w0 := Option.some.inj hE
      obtain ⟨g0, w1⟩ := Prod.mk.inj w0
      obtain ⟨g1, w2⟩ := Prod.mk.inj w1
      obtain ⟨g2, w3⟩ := Prod.mk.inj w2
      subst g0 g1 g2 w3
      exact ret_z F hr rfl hlk hP hS dX12_again_25
set_option maxRecDepth 100000 in
set_option maxHeartbeats 4000000 in
theorem qX12_countsOfAll_4 {p : Program} {l : Launch} {e : Env} {s : State} {m : MethodId} {args : Array Value} {below : List Frame} {meth : Method} {c : Code} {Z : ZC} {mth : Int32} {mto : Int32} {mrw : Nat → Int64} {mta : Nat → Int32} {mtp : Int32} {mat : Int32} {mtt : Int32} {mme : Nat → Int32} {mun : Int32} {mde : Int32} {mco : Nat → Int32} {mcn : Nat → Int32} {mvi : Int32} {men : Int32} {mfa : Nat → Int32} {mac : Nat → Int32} {mfi : Nat → Int32} {mse : Nat → Int32} {mtd : Nat → Int32} {mra : Int32} {mkp : Nat → Int32} {N : Nat} {r' : Int32} (F : CallFix p m c cX12_countsOfAll 3 s args bigW RX12) (hr : meth.sig.returnType = (some .int)) (hlk : meth.locks = false) (C : KM Z s) : ∀ n : Nat, ∀ (x1 : Int32) (x2 : Int32), fX12_countsOfAll_4 N mme mde n x1 x2 = some r' → ∀ (H : Heap) (locs : List Loc), PM Z mth mto mrw mta mtp mat mtt mme mun mde mco mcn mvi men mfa mac mfi mse mtd mra mkp H → va_S (AM Z) s.heap H locs → ∀ ls : Array Slot, lv_has ls 3 [(0, .ref (mA Z 0)), (1, .int x1), (2, .int x2)] → W p l e (rmk 2 46) s m args below meth c H locs 0 0 (MQ below (Qi (KM Z) (AM Z) (PM Z mth mto mrw mta mtp mat mtt mme mun mde mco mcn mvi men mfa mac mfi mse mtd mra mkp) r') args s 0 0 (AM Z)) (F0 m 4 ls []) := by
  intro n
  induction n with
  | zero => intro x1 x2 hE; cases hE
  | succ n h4 =>
    intro x1 x2 hE H locs hP hS ls hl
    have hE : fX12_countsOfAll_4b N mme mde (fX12_countsOfAll_4 N mme mde n) x1 x2 = some r' := hE
    refine lv_iload_n F.1 F.2.1 dX12_countsOfAll_4 rfl (lv_at hl 2 rfl) ?_
    refine lv_bipush (v := 24) F.1 F.2.1 dX12_countsOfAll_5 (by decide) ?_
    refine lv_icmp_ge (tgt := 37) F.1 F.2.1 dX12_countsOfAll_7 (by decide) (fun hc => ?_) (fun hc => ?_)
    · have hE := ifp hE hc
      refine lv_iload_n F.1 F.2.1 dX12_countsOfAll_37 rfl (lv_at hl 1 rfl) ?_
      obtain rfl := Option.some.inj hE
      exact ret_i F hr hlk hP hS dX12_countsOfAll_38
    · have hE := ifn hE hc
      refine lv_iload_n F.1 F.2.1 dX12_countsOfAll_10 rfl (lv_at hl 1 rfl) ?_
      refine lv_aload_n F.1 F.2.1 dX12_countsOfAll_11 rfl (lv_at hl 0 rfl) ?_
      refine lv_iload_n F.1 F.2.1 dX12_countsOfAll_12 rfl (lv_at hl 2 rfl) ?_
      obtain ⟨r841, hc, hE⟩ := bnd1_some hE
      refine aft_i (run_V (rest := [.int x1]) F (kX12_isThere hc) (okM Z) C hS lkX12_216 ⟨Nat.le_of_ble_eq_true rfl, Nat.le_of_ble_eq_true rfl⟩ (rvM C hP) hP rfl hl.1 rfl (lv_room (Nat.le_of_ble_eq_true rfl)) dX12_countsOfAll_13 ⟨Nat.zero_le _, Nat.zero_le _⟩) hS (fun H locs hP hS => ?_)
      refine lv_if_eq (tgt := 28) F.1 F.2.1 dX12_countsOfAll_16 (by decide) (fun hc => ?_) (fun hc => ?_)
      · have hE := ifp hE hc
        refine lv_iconst (v := 0) F.1 F.2.1 dX12_countsOfAll_28 (by decide) ?_
        refine lv_iadd F.1 F.2.1 dX12_countsOfAll_29 ?_
        refine lv_istore_n (lv' := [(1, .int (x1 + 0)), (0, .ref (mA Z 0)), (2, .int x2)]) F.1 F.2.1 dX12_countsOfAll_30 rfl hl (by decide) rfl (fun ls hl => ?_)
        refine lv_iinc (v := x2 + 1) (lv' := [(2, .int (x2 + 1)), (1, .int (x1 + 0)), (0, .ref (mA Z 0))]) F.1 F.2.1 dX12_countsOfAll_31 hl (k := 2) rfl rfl (by decide) rfl (fun ls hl => ?_)
        refine lv_goto (tgt := 4) F.1 F.2.1 dX12_countsOfAll_34 (by decide) ?_
        exact h4 (x1 + 0) (x2 + 1) hE _ _ hP hS ls (lv_sub hl [2, 1, 0] rfl)
      · have hE := ifn hE hc
        refine lv_aload_n F.1 F.2.1 dX12_countsOfAll_19 rfl (lv_at hl 0 rfl) ?_
        refine lv_iload_n F.1 F.2.1 dX12_countsOfAll_20 rfl (lv_at hl 2 rfl) ?_
        refine lv_iconst (v := 5) F.1 F.2.1 dX12_countsOfAll_21 (by decide) ?_
        obtain ⟨r842, hc, hE⟩ := bnd1_some hE
        refine aft_i (run_V (rest := [.int x1]) F (kX12_of hc) (okM Z) C hS lkX12_91 ⟨Nat.le_of_ble_eq_true rfl, Nat.le_of_ble_eq_true rfl⟩ (rvM C hP) hP rfl hl.1 rfl (lv_room (Nat.le_of_ble_eq_true rfl)) dX12_countsOfAll_22 ⟨Nat.zero_le _, Nat.zero_le _⟩) hS (fun H locs hP hS => ?_)
        refine lv_goto (tgt := 29) F.1 F.2.1 dX12_countsOfAll_25 (by decide) ?_
        refine lv_iadd F.1 F.2.1 dX12_countsOfAll_29 ?_
        refine lv_istore_n (lv' := [(1, .int (x1 + r842)), (0, .ref (mA Z 0)), (2, .int x2)]) F.1 F.2.1 dX12_countsOfAll_30 rfl hl (by decide) rfl (fun ls hl => ?_)
        refine lv_iinc (v := x2 + 1) (lv' := [(2, .int (x2 + 1)), (1, .int (x1 + r842)), (0, .ref (mA Z 0))]) F.1 F.2.1 dX12_countsOfAll_31 hl (k := 2) rfl rfl (by decide) rfl (fun ls hl => ?_)
        refine lv_goto (tgt := 4) F.1 F.2.1 dX12_countsOfAll_34 (by decide) ?_
        exact h4 (x1 + r842) (x2 + 1) hE _ _ hP hS ls (lv_sub hl [2, 1, 0] rfl)
set_option maxRecDepth 100000 in
set_option maxHeartbeats 4000000 in
theorem kX12_countsOfAll {l : Launch} {Z : ZC} {mth : Int32} {mto : Int32} {mrw : Nat → Int64} {mta : Nat → Int32} {mtp : Int32} {mat : Int32} {mtt : Int32} {mme : Nat → Int32} {mun : Int32} {mde : Int32} {mco : Nat → Int32} {mcn : Nat → Int32} {mvi : Int32} {men : Int32} {mfa : Nat → Int32} {mac : Nat → Int32} {mfi : Nat → Int32} {mse : Nat → Int32} {mtd : Nat → Int32} {mra : Int32} {mkp : Nat → Int32} {N : Nat} {r' : Int32} (hE : fX12_countsOfAll N mme mde = some r') : Mg l yX12_countsOfAll cX12_countsOfAll 3 (some .int) (rmk 2 46) (KM Z) (AM Z) [.ref (mA Z 0)] (PM Z mth mto mrw mta mtp mat mtt mme mun mde mco mcn mvi men mfa mac mfi mse mtd mra mkp) (Qi (KM Z) (AM Z) (PM Z mth mto mrw mta mtp mat mtt mme mun mde mco mcn mvi men mfa mac mfi mse mtd mra mkp) r') := by
  refine Mg.start (lv := [(0, .ref (mA Z 0))]) (by decide) rfl (Nat.le_of_ble_eq_true rfl) rfl ?_
  intro p e s m below meth c F hr hlk C hP ls hl
  have hS : va_S (AM Z) s.heap s.heap [] := va_S.rf
  unfold fX12_countsOfAll at hE
  refine lv_iconst (v := 0) F.1 F.2.1 dX12_countsOfAll_0 (by decide) ?_
  refine lv_istore_n (lv' := [(1, .int 0), (0, .ref (mA Z 0))]) F.1 F.2.1 dX12_countsOfAll_1 rfl hl (by decide) rfl (fun ls hl => ?_)
  refine lv_iconst (v := 0) F.1 F.2.1 dX12_countsOfAll_2 (by decide) ?_
  refine lv_istore_n (lv' := [(2, .int 0), (1, .int 0), (0, .ref (mA Z 0))]) F.1 F.2.1 dX12_countsOfAll_3 rfl hl (by decide) rfl (fun ls hl => ?_)
  exact qX12_countsOfAll_4 F hr hlk C N 0 0 hE _ _ hP hS ls (lv_sub hl [2, 1, 0] rfl)
set_option maxRecDepth 100000 in
set_option maxHeartbeats 4000000 in
theorem kX12_count {l : Launch} {Z : ZC} {mth : Int32} {mto : Int32} {mrw : Nat → Int64} {mta : Nat → Int32} {mtp : Int32} {mat : Int32} {mtt : Int32} {mme : Nat → Int32} {mun : Int32} {mde : Int32} {mco : Nat → Int32} {mcn : Nat → Int32} {mvi : Int32} {men : Int32} {mfa : Nat → Int32} {mac : Nat → Int32} {mfi : Nat → Int32} {mse : Nat → Int32} {mtd : Nat → Int32} {mra : Int32} {mkp : Nat → Int32} {N : Nat} {p1 : Int32} {r' : Int32} {mth' : Int32} (hE : fX12_count N mth mto mtp mme mun mde p1 = some (r', mth')) : Mg l yX12_count cX12_count 2 (some .int) (rmk 3 68) (KM Z) (AM Z) [.ref (mA Z 0), .int p1] (PM Z mth mto mrw mta mtp mat mtt mme mun mde mco mcn mvi men mfa mac mfi mse mtd mra mkp) (Qi (KM Z) (AM Z) (PM Z mth' mto mrw mta mtp mat mtt mme mun mde mco mcn mvi men mfa mac mfi mse mtd mra mkp) r') := by
  refine Mg.start (lv := [(0, .ref (mA Z 0)), (1, .int p1)]) (by decide) rfl (Nat.le_of_ble_eq_true rfl) rfl ?_
  intro p e s m below meth c F hr hlk C hP ls hl
  have hS : va_S (AM Z) s.heap s.heap [] := va_S.rf
  unfold fX12_count at hE
  refine lv_aload_n F.1 F.2.1 dX12_count_0 rfl (lv_at hl 0 rfl) ?_
  refine lv_iconst (v := 0) F.1 F.2.1 dX12_count_1 (by decide) ?_
  refine pX12_1 F C hP hS rfl dX12_count_2 (fun H locs hP hS => ?_)
  refine lv_iload_n F.1 F.2.1 dX12_count_5 rfl (lv_at hl 1 rfl) ?_
  by_cases hc0 : p1 = 0
  · have hE := ifp hE hc0
    refine lv_tableIn (tgt := 52) (off := 46) F.1 F.2.1 dX12_count_6 (by rw [hc0]; decide) (by rw [hc0]; decide) (by rw [hc0]; rfl) (by decide) ?_
    refine lv_aload_n F.1 F.2.1 dX12_count_52 rfl (lv_at hl 0 rfl) ?_
    obtain ⟨r847, hc, hE⟩ := bnd1_some hE
    refine aft_i (run_V (rest := []) F (kX12_thereAll hc) (okM Z) C hS lkX12_233 ⟨Nat.le_of_ble_eq_true rfl, Nat.le_of_ble_eq_true rfl⟩ (rvM C hP) hP rfl hl.1 rfl (lv_room (Nat.le_of_ble_eq_true rfl)) dX12_count_53 ⟨Nat.zero_le _, Nat.zero_le _⟩) hS (fun H locs hP hS => ?_)
    obtain ⟨r848, hc, hE⟩ := bnd1_some hE
    refine aft_i (run_S (rest := []) F (kX12_sizeOf hc) (okM Z) C hS lkX12_236 ⟨Nat.le_of_ble_eq_true rfl, Nat.le_of_ble_eq_true rfl⟩ hP rfl hl.1 rfl (lv_room (Nat.le_of_ble_eq_true rfl)) dX12_count_56 ⟨Nat.zero_le _, Nat.zero_le _⟩) hS (fun H locs hP hS => ?_)
    have w0 := Option.some.inj hE
    obtain ⟨g0, w1⟩ := Prod.mk.inj w0
    subst g0 w1
    exact ret_i F hr hlk hP hS dX12_count_59
  have hE := ifn hE hc0
  by_cases hc1 : p1 = 1
  · have hE := ifp hE hc1
    refine lv_tableIn (tgt := 60) (off := 54) F.1 F.2.1 dX12_count_6 (by rw [hc1]; decide) (by rw [hc1]; decide) (by rw [hc1]; rfl) (by decide) ?_
    refine lv_aload_n F.1 F.2.1 dX12_count_60 rfl (lv_at hl 0 rfl) ?_
    obtain ⟨r849, hc, hE⟩ := bnd1_some hE
    refine aft_i (run_V (rest := []) F (kX12_listed hc) (okM Z) C hS lkX12_97 ⟨Nat.le_of_ble_eq_true rfl, Nat.le_of_ble_eq_true rfl⟩ (rvM C hP) hP rfl hl.1 rfl (lv_room (Nat.le_of_ble_eq_true rfl)) dX12_count_61 ⟨Nat.zero_le _, Nat.zero_le _⟩) hS (fun H locs hP hS => ?_)
    have w0 := Option.some.inj hE
    obtain ⟨g0, w1⟩ := Prod.mk.inj w0
    subst g0 w1
    exact ret_i F hr hlk hP hS dX12_count_64
  have hE := ifn hE hc1
  by_cases hc2 : p1 = 2
  · have hE := ifp hE hc2
    refine lv_tableIn (tgt := 65) (off := 59) F.1 F.2.1 dX12_count_6 (by rw [hc2]; decide) (by rw [hc2]; decide) (by rw [hc2]; rfl) (by decide) ?_
    refine lv_aload_n F.1 F.2.1 dX12_count_65 rfl (lv_at hl 0 rfl) ?_
    refine gX12_53 F C hP dX12_count_66 ?_
    refine lv_iconst (v := 0) F.1 F.2.1 dX12_count_69 (by decide) ?_
    obtain ⟨hi, hE⟩ := grd_some hE
    refine am3 F C hP hi dX12_count_70 ?_
    have w0 := Option.some.inj hE
    obtain ⟨g0, w1⟩ := Prod.mk.inj w0
    subst g0 w1
    exact ret_i F hr hlk hP hS dX12_count_71
  have hE := ifn hE hc2
  by_cases hc3 : p1 = 3
  · have hE := ifp hE hc3
    refine lv_tableIn (tgt := 72) (off := 66) F.1 F.2.1 dX12_count_6 (by rw [hc3]; decide) (by rw [hc3]; decide) (by rw [hc3]; rfl) (by decide) ?_
    refine lv_aload_n F.1 F.2.1 dX12_count_72 rfl (lv_at hl 0 rfl) ?_
    obtain ⟨r850, hc, hE⟩ := bnd1_some hE
    refine aft_i (run_V (rest := []) F (kX12_countsOfAll hc) (okM Z) C hS lkX12_331 ⟨Nat.le_of_ble_eq_true rfl, Nat.le_of_ble_eq_true rfl⟩ (rvM C hP) hP rfl hl.1 rfl (lv_room (Nat.le_of_ble_eq_true rfl)) dX12_count_73 ⟨Nat.zero_le _, Nat.zero_le _⟩) hS (fun H locs hP hS => ?_)
    have w0 := Option.some.inj hE
    obtain ⟨g0, w1⟩ := Prod.mk.inj w0
    subst g0 w1
    exact ret_i F hr hlk hP hS dX12_count_76
  have hE := ifn hE hc3
  by_cases hc4 : p1 = 4
  · have hE := ifp hE hc4
    refine lv_tableIn (tgt := 77) (off := 71) F.1 F.2.1 dX12_count_6 (by rw [hc4]; decide) (by rw [hc4]; decide) (by rw [hc4]; rfl) (by decide) ?_
    refine lv_aload_n F.1 F.2.1 dX12_count_77 rfl (lv_at hl 0 rfl) ?_
    refine gX12_53 F C hP dX12_count_78 ?_
    refine lv_iconst (v := 2) F.1 F.2.1 dX12_count_81 (by decide) ?_
    obtain ⟨hi, hE⟩ := grd_some hE
    refine am3 F C hP hi dX12_count_82 ?_
    have w0 := Option.some.inj hE
    obtain ⟨g0, w1⟩ := Prod.mk.inj w0
    subst g0 w1
    exact ret_i F hr hlk hP hS dX12_count_83
  have hE := ifn hE hc4
  by_cases hc5 : p1 = 5
  · have hE := ifp hE hc5
    refine lv_tableIn (tgt := 84) (off := 78) F.1 F.2.1 dX12_count_6 (by rw [hc5]; decide) (by rw [hc5]; decide) (by rw [hc5]; rfl) (by decide) ?_
    refine lv_aload_n F.1 F.2.1 dX12_count_84 rfl (lv_at hl 0 rfl) ?_
    refine gX12_88 F C hP dX12_count_85 ?_
    have w0 := Option.some.inj hE
    obtain ⟨g0, w1⟩ := Prod.mk.inj w0
    subst g0 w1
    exact ret_i F hr hlk hP hS dX12_count_88
  have hE := ifn hE hc5
  by_cases hc6 : p1 = 6
  · have hE := ifp hE hc6
    refine lv_tableIn (tgt := 89) (off := 83) F.1 F.2.1 dX12_count_6 (by rw [hc6]; decide) (by rw [hc6]; decide) (by rw [hc6]; rfl) (by decide) ?_
    refine lv_aload_n F.1 F.2.1 dX12_count_89 rfl (lv_at hl 0 rfl) ?_
    refine gX12_11 F C hP dX12_count_90 ?_
    have w0 := Option.some.inj hE
    obtain ⟨g0, w1⟩ := Prod.mk.inj w0
    subst g0 w1
    exact ret_i F hr hlk hP hS dX12_count_93
  have hE := ifn hE hc6
  by_cases hc7 : p1 = 7
  · have hE := ifp hE hc7
    refine lv_tableIn (tgt := 94) (off := 88) F.1 F.2.1 dX12_count_6 (by rw [hc7]; decide) (by rw [hc7]; decide) (by rw [hc7]; rfl) (by decide) ?_
    refine lv_aload_n F.1 F.2.1 dX12_count_94 rfl (lv_at hl 0 rfl) ?_
    refine gX12_14 F C hP dX12_count_95 ?_
    have w0 := Option.some.inj hE
    obtain ⟨g0, w1⟩ := Prod.mk.inj w0
    subst g0 w1
    exact ret_i F hr hlk hP hS dX12_count_98
  have hE := ifn hE hc7
  refine lv_tableOut (tgt := 99) F.1 F.2.1 dX12_count_6 (by have g0 : ¬ (p1).toInt = 0 := sw_ne hc0; have g1 : ¬ (p1).toInt = 1 := sw_ne hc1; have g2 : ¬ (p1).toInt = 2 := sw_ne hc2; have g3 : ¬ (p1).toInt = 3 := sw_ne hc3; have g4 : ¬ (p1).toInt = 4 := sw_ne hc4; have g5 : ¬ (p1).toInt = 5 := sw_ne hc5; have g6 : ¬ (p1).toInt = 6 := sw_ne hc6; have g7 : ¬ (p1).toInt = 7 := sw_ne hc7; omega) (by decide) ?_
  refine lv_iconst (v := (-1)) F.1 F.2.1 dX12_count_99 (by decide) ?_
  have w0 := Option.some.inj hE
  obtain ⟨g0, w1⟩ := Prod.mk.inj w0
  subst g0 w1
  exact ret_i F hr hlk hP hS dX12_count_100
set_option maxRecDepth 100000 in
set_option maxHeartbeats 4000000 in
theorem qX12_row_22 {p : Program} {l : Launch} {e : Env} {s : State} {m : MethodId} {args : Array Value} {below : List Frame} {meth : Method} {c : Code} {Z : ZC} {mto : Int32} {mrw : Nat → Int64} {mta : Nat → Int32} {mtp : Int32} {mat : Int32} {mtt : Int32} {mme : Nat → Int32} {mun : Int32} {mde : Int32} {mco : Nat → Int32} {mcn : Nat → Int32} {mvi : Int32} {men : Int32} {mfa : Nat → Int32} {mac : Nat → Int32} {mfi : Nat → Int32} {mse : Nat → Int32} {mtd : Nat → Int32} {mra : Int32} {mkp : Nat → Int32} {p1 : Int32} {r' : Int64} {mth' : Int32} (F : CallFix p m c cX12_row 2 s args bigW RX12) (hr : meth.sig.returnType = (some .long)) (hlk : meth.locks = false) (C : KM Z s) : ∀ (mth : Int32) (y0 : Int32), fX12_row_22 mto mrw p1 mth y0 = some (r', mth') → ∀ (H : Heap) (locs : List Loc), PM Z mth mto mrw mta mtp mat mtt mme mun mde mco mcn mvi men mfa mac mfi mse mtd mra mkp H → va_S (AM Z) s.heap H locs → ∀ ls : Array Slot, lv_has ls 2 [(0, .ref (mA Z 0)), (1, .int p1)] → W p l e (rmk 1 25) s m args below meth c H locs 0 0 (MQ below (Ql (KM Z) (AM Z) (PM Z mth' mto mrw mta mtp mat mtt mme mun mde mco mcn mvi men mfa mac mfi mse mtd mra mkp) r') args s 0 0 (AM Z)) (F0 m 22 ls [.int y0, .ref (mA Z 0)]) := by
  intro mth y0 hE H locs hP hS ls hl
  unfold fX12_row_22 at hE
  obtain ⟨r854, hc, hE⟩ := bnd1_some hE
  refine aft_i (run_S (rest := [.ref (mA Z 0)]) F (kX12_flag hc) (okM Z) C hS lkX12_167 ⟨Nat.le_of_ble_eq_true rfl, Nat.le_of_ble_eq_true rfl⟩ hP rfl hl.1 rfl (lv_room (Nat.le_of_ble_eq_true rfl)) dX12_row_22 ⟨Nat.zero_le _, Nat.zero_le _⟩) hS (fun H locs hP hS => ?_)
  refine pX12_1 F C hP hS rfl dX12_row_25 (fun H locs hP hS => ?_)
  refine lv_aload_n F.1 F.2.1 dX12_row_28 rfl (lv_at hl 0 rfl) ?_
  refine gX12_1 F C hP dX12_row_29 ?_
  refine lv_iconst (v := 1) F.1 F.2.1 dX12_row_32 (by decide) ?_
  refine lv_icmp_ne (tgt := 40) F.1 F.2.1 dX12_row_33 (by decide) (fun hc => ?_) (fun hc => ?_)
  · have hE := ifn hE hc
    refine lv_aload_n F.1 F.2.1 dX12_row_40 rfl (lv_at hl 0 rfl) ?_
    refine gX12_7 F C hP dX12_row_41 ?_
    refine lv_iload_n F.1 F.2.1 dX12_row_44 rfl (lv_at hl 1 rfl) ?_
    obtain ⟨hi, hE⟩ := grd_some hE
    refine am1 F C hP hi dX12_row_45 ?_
    have w0 := Option.some.inj hE
    obtain ⟨g0, w1⟩ := Prod.mk.inj w0
    subst g0 w1
    exact ret_l F hr hlk hP hS dX12_row_46
  · have hE := ifp hE hc
    refine lv_lconst (v := 0) F.1 F.2.1 dX12_row_36 (by decide) ?_
    refine lv_goto (tgt := 46) F.1 F.2.1 dX12_row_37 (by decide) ?_
    have w0 := Option.some.inj hE
    obtain ⟨g0, w1⟩ := Prod.mk.inj w0
    subst g0 w1
    exact ret_l F hr hlk hP hS dX12_row_46
set_option maxRecDepth 100000 in
set_option maxHeartbeats 4000000 in
theorem kX12_row {l : Launch} {Z : ZC} {mth : Int32} {mto : Int32} {mrw : Nat → Int64} {mta : Nat → Int32} {mtp : Int32} {mat : Int32} {mtt : Int32} {mme : Nat → Int32} {mun : Int32} {mde : Int32} {mco : Nat → Int32} {mcn : Nat → Int32} {mvi : Int32} {men : Int32} {mfa : Nat → Int32} {mac : Nat → Int32} {mfi : Nat → Int32} {mse : Nat → Int32} {mtd : Nat → Int32} {mra : Int32} {mkp : Nat → Int32} {p1 : Int32} {r' : Int64} {mth' : Int32} (hE : fX12_row mth mto mrw p1 = some (r', mth')) : Mg l yX12_row cX12_row 2 (some .long) (rmk 1 25) (KM Z) (AM Z) [.ref (mA Z 0), .int p1] (PM Z mth mto mrw mta mtp mat mtt mme mun mde mco mcn mvi men mfa mac mfi mse mtd mra mkp) (Ql (KM Z) (AM Z) (PM Z mth' mto mrw mta mtp mat mtt mme mun mde mco mcn mvi men mfa mac mfi mse mtd mra mkp) r') := by
  refine Mg.start (lv := [(0, .ref (mA Z 0)), (1, .int p1)]) (by decide) rfl (Nat.le_of_ble_eq_true rfl) rfl ?_
  intro p e s m below meth c F hr hlk C hP ls hl
  have hS : va_S (AM Z) s.heap s.heap [] := va_S.rf
  unfold fX12_row at hE
  refine lv_aload_n F.1 F.2.1 dX12_row_0 rfl (lv_at hl 0 rfl) ?_
  refine lv_iload_n F.1 F.2.1 dX12_row_1 rfl (lv_at hl 1 rfl) ?_
  refine lv_i2l (v := p1.toInt64) F.1 F.2.1 dX12_row_2 rfl ?_
  refine lv_lconst (v := 0) F.1 F.2.1 dX12_row_3 (by decide) ?_
  refine lv_aload_n F.1 F.2.1 dX12_row_4 rfl (lv_at hl 0 rfl) ?_
  refine gX12_11 F C hP dX12_row_5 ?_
  refine lv_iconst (v := 1) F.1 F.2.1 dX12_row_8 (by decide) ?_
  refine lv_isub F.1 F.2.1 dX12_row_9 ?_
  refine lv_i2l (v := (mto - 1).toInt64) F.1 F.2.1 dX12_row_10 rfl ?_
  obtain ⟨r853, hc, hE⟩ := bnd1_some hE
  refine aft_i (run_S (rest := [.ref (mA Z 0)]) F (kX12_in hc) (okM Z) C hS lkX12_21 ⟨Nat.le_of_ble_eq_true rfl, Nat.le_of_ble_eq_true rfl⟩ hP rfl hl.1 rfl (lv_room (Nat.le_of_ble_eq_true rfl)) dX12_row_11 ⟨Nat.zero_le _, Nat.zero_le _⟩) hS (fun H locs hP hS => ?_)
  refine lv_if_ne (tgt := 21) F.1 F.2.1 dX12_row_14 (by decide) (fun hc => ?_) (fun hc => ?_)
  · have hE := ifn hE hc
    refine lv_iconst (v := 0) F.1 F.2.1 dX12_row_21 (by decide) ?_
    exact qX12_row_22 F hr hlk C mth 0 hE _ _ hP hS ls (lv_sub hl [0, 1] rfl)
  · have hE := ifp hE hc
    refine lv_iconst (v := 1) F.1 F.2.1 dX12_row_17 (by decide) ?_
    refine lv_goto (tgt := 22) F.1 F.2.1 dX12_row_18 (by decide) ?_
    exact qX12_row_22 F hr hlk C mth 1 hE _ _ hP hS ls (lv_sub hl [0, 1] rfl)
