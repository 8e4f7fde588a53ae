set_option maxRecDepth 100000 in
set_option maxHeartbeats 4000000 in
theorem qX11_placesOf_r_23 {p : Program} {l : Launch} {e : Env} {s : State} {m : MethodId} {args : Array Value} {below : List Frame} {meth : Method} {c : Code} {Z : ZC} {HS : Nat → Nat → Nat → Int32} {zkb : Int32} {zdr : Int32} {zky : Nat → Int32} {zpn : Int32} {zps : Int32} {ztz : Int32} {ztn : Nat → Int64} {zxz : Int32} {zxa : Int32} {zsg : Nat → Int32} {za0 : Int32} {za1 : Int32} {za2 : Int32} {za3 : Int32} {za4 : Int32} {zfr : Nat → Int32} {zcd : Int32} {zgo : Nat → Int32} {ztd : Int32} {ztv : Int32} {zcl : Nat → Int32} {zca : Nat → Int32} {zwa : Nat → Int32} {zpt : Nat → Int32} {zpf : Nat → Int32} {N : Nat} {p1 : Int32} {r' : Int32} (F : CallFix p m c cX11_placesOf 4 s args bigW RX11) (hr : meth.sig.returnType = (some .int)) (hlk : meth.locks = false) (C : KX Z s) {k4 : Int32 → Int32 → Option (Int32)} (h4 : ∀ (x2 : Int32) (x3 : Int32), k4 x2 x3 = some r' → ∀ (H : Heap) (locs : List Loc), PX Z HS zkb zdr zky zpn zps ztz ztn zxz zxa zsg za0 za1 za2 za3 za4 zfr zcd zgo ztd ztv zcl zca zwa zpt zpf H → va_S (AX Z) s.heap H locs → ∀ ls : Array Slot, lv_has ls 4 [(0, .ref (hA Z 0 6)), (1, .int p1), (2, .int x2), (3, .int x3)] → W p l e (rmk 0 0) s m args below meth c H locs 0 0 (MQ below (Qi (KX Z) (AX Z) (PX Z HS zkb zdr zky zpn zps ztz ztn zxz zxa zsg za0 za1 za2 za3 za4 zfr zcd zgo ztd ztv zcl zca zwa zpt zpf) r') args s 0 0 (AX Z)) (F0 m 4 ls [])) : ∀ (x3 : Int32) (y0 : Int32) (y1 : Int32), fX11_placesOf_r_23 N HS p1 k4 x3 y0 y1 = some r' → ∀ (H : Heap) (locs : List Loc), PX Z HS zkb zdr zky zpn zps ztz ztn zxz zxa zsg za0 za1 za2 za3 za4 zfr zcd zgo ztd ztv zcl zca zwa zpt zpf H → va_S (AX Z) s.heap H locs → ∀ ls : Array Slot, lv_has ls 4 [(0, .ref (hA Z 0 6)), (1, .int p1), (3, .int x3)] → W p l e (rmk 0 0) s m args below meth c H locs 0 0 (MQ below (Qi (KX Z) (AX Z) (PX Z HS zkb zdr zky zpn zps ztz ztn zxz zxa zsg za0 za1 za2 za3 za4 zfr zcd zgo ztd ztv zcl zca zwa zpt zpf) r') args s 0 0 (AX Z)) (F0 m 23 ls [.int y0, .int y1]) := by
  intro x3 y0 y1 hE H locs hP hS ls hl
  unfold fX11_placesOf_r_23 at hE
  refine lv_iload_n F.1 F.2.1 dX11_placesOf_23 rfl (lv_at hl 2 rfl) ?_
  refine rj_ishl F.1 F.2.1 dX11_placesOf_24 ?_
  refine lv_ior F.1 F.2.1 dX11_placesOf_25 ?_
  refine lv_istore_n (lv' := [(2, .int (y1 ||| (jshl y0 x3))), (0, .ref (hA Z 0 6)), (1, .int p1), (3, .int x3)]) F.1 F.2.1 dX11_placesOf_26 rfl hl (by decide) rfl (fun ls hl => ?_)
  refine lv_iinc (v := x3 + 1) (lv' := [(3, .int (x3 + 1)), (2, .int (y1 ||| (jshl y0 x3))), (0, .ref (hA Z 0 6)), (1, .int p1)]) F.1 F.2.1 dX11_placesOf_27 hl (k := 3) rfl rfl (by decide) rfl (fun ls hl => ?_)
  refine lv_goto (tgt := 4) F.1 F.2.1 dX11_placesOf_30 (by decide) ?_
  exact h4 (y1 ||| (jshl y0 x3)) (x3 + 1) hE _ _ hP hS ls (lv_sub hl [2, 3, 1, 0] rfl)
set_option maxRecDepth 100000 in
set_option maxHeartbeats 4000000 in
theorem qX11_placesOf_r_4 {p : Program} {l : Launch} {e : Env} {s : State} {m : MethodId} {args : Array Value} {below : List Frame} {meth : Method} {c : Code} {Z : ZC} {HS : Nat → Nat → Nat → Int32} {zkb : Int32} {zdr : Int32} {zky : Nat → Int32} {zpn : Int32} {zps : Int32} {ztz : Int32} {ztn : Nat → Int64} {zxz : Int32} {zxa : Int32} {zsg : Nat → Int32} {za0 : Int32} {za1 : Int32} {za2 : Int32} {za3 : Int32} {za4 : Int32} {zfr : Nat → Int32} {zcd : Int32} {zgo : Nat → Int32} {ztd : Int32} {ztv : Int32} {zcl : Nat → Int32} {zca : Nat → Int32} {zwa : Nat → Int32} {zpt : Nat → Int32} {zpf : Nat → Int32} {N : Nat} {p1 : Int32} {r' : Int32} (F : CallFix p m c cX11_placesOf 4 s args bigW RX11) (hr : meth.sig.returnType = (some .int)) (hlk : meth.locks = false) (C : KX Z s) : ∀ n : Nat, ∀ (x2 : Int32) (x3 : Int32), fX11_placesOf_r_4 N HS p1 n x2 x3 = some r' → ∀ (H : Heap) (locs : List Loc), PX Z HS zkb zdr zky zpn zps ztz ztn zxz zxa zsg za0 za1 za2 za3 za4 zfr zcd zgo ztd ztv zcl zca zwa zpt zpf H → va_S (AX Z) s.heap H locs → ∀ ls : Array Slot, lv_has ls 4 [(0, .ref (hA Z 0 6)), (1, .int p1), (2, .int x2), (3, .int x3)] → W p l e (rmk 0 0) s m args below meth c H locs 0 0 (MQ below (Qi (KX Z) (AX Z) (PX Z HS zkb zdr zky zpn zps ztz ztn zxz zxa zsg za0 za1 za2 za3 za4 zfr zcd zgo ztd ztv zcl zca zwa zpt zpf) r') args s 0 0 (AX Z)) (F0 m 4 ls []) := by
  intro n
  induction n with
  | zero => intro x2 x3 hE; cases hE
  | succ n h4 =>
    intro x2 x3 hE H locs hP hS ls hl
    have hE : fX11_placesOf_r_4b N HS p1 (fX11_placesOf_r_4 N HS p1 n) x2 x3 = some r' := hE
    refine lv_iload_n F.1 F.2.1 dX11_placesOf_4 rfl (lv_at hl 3 rfl) ?_
    refine lv_aload_n F.1 F.2.1 dX11_placesOf_5 rfl (lv_at hl 0 rfl) ?_
    refine alh6 F C hP (by decide) rfl dX11_placesOf_6 ?_
    refine lv_icmp_ge (tgt := 33) F.1 F.2.1 dX11_placesOf_7 (by decide) (fun hc => ?_) (fun hc => ?_)
    · have hE := ifp hE hc
      refine lv_iload_n F.1 F.2.1 dX11_placesOf_33 rfl (lv_at hl 2 rfl) ?_
      obtain rfl := Option.some.inj hE
      exact ret_i F hr hlk hP hS dX11_placesOf_34
    · have hE := ifn hE hc
      refine lv_iload_n F.1 F.2.1 dX11_placesOf_10 rfl (lv_at hl 2 rfl) ?_
      refine lv_aload_n F.1 F.2.1 dX11_placesOf_11 rfl (lv_at hl 0 rfl) ?_
      refine lv_iload_n F.1 F.2.1 dX11_placesOf_12 rfl (lv_at hl 3 rfl) ?_
      obtain ⟨hi, hE⟩ := grd_some hE
      refine ah6 F C hP (by decide) rfl hi dX11_placesOf_13 ?_
      refine lv_iload_n F.1 F.2.1 dX11_placesOf_14 rfl (lv_at hl 1 rfl) ?_
      refine lv_icmp_ne (tgt := 22) F.1 F.2.1 dX11_placesOf_15 (by decide) (fun hc => ?_) (fun hc => ?_)
      · have hE := ifn hE hc
        refine lv_iconst (v := 0) F.1 F.2.1 dX11_placesOf_22 (by decide) ?_
        exact qX11_placesOf_r_23 F hr hlk C h4 x3 0 x2 hE _ _ hP hS ls (lv_sub hl [0, 1, 3] rfl)
      · have hE := ifp hE hc
        refine lv_iconst (v := 1) F.1 F.2.1 dX11_placesOf_18 (by decide) ?_
        refine lv_goto (tgt := 23) F.1 F.2.1 dX11_placesOf_19 (by decide) ?_
        exact qX11_placesOf_r_23 F hr hlk C h4 x3 1 x2 hE _ _ hP hS ls (lv_sub hl [0, 1, 3] rfl)
set_option maxRecDepth 100000 in
set_option maxHeartbeats 4000000 in
theorem kX11_placesOf_r {l : Launch} {Z : ZC} {HS : Nat → Nat → Nat → Int32} {zkb : Int32} {zdr : Int32} {zky : Nat → Int32} {zpn : Int32} {zps : Int32} {ztz : Int32} {ztn : Nat → Int64} {zxz : Int32} {zxa : Int32} {zsg : Nat → Int32} {za0 : Int32} {za1 : Int32} {za2 : Int32} {za3 : Int32} {za4 : Int32} {zfr : Nat → Int32} {zcd : Int32} {zgo : Nat → Int32} {ztd : Int32} {ztv : Int32} {zcl : Nat → Int32} {zca : Nat → Int32} {zwa : Nat → Int32} {zpt : Nat → Int32} {zpf : Nat → Int32} {N : Nat} {p1 : Int32} {r' : Int32} (hE : fX11_placesOf_r N HS p1 = some r') : Mg l yX11_placesOf cX11_placesOf 4 (some .int) (rmk 0 0) (KX Z) (AX Z) [.ref (hA Z 0 6), .int p1] (PX Z HS zkb zdr zky zpn zps ztz ztn zxz zxa zsg za0 za1 za2 za3 za4 zfr zcd zgo ztd ztv zcl zca zwa zpt zpf) (Qi (KX Z) (AX Z) (PX Z HS zkb zdr zky zpn zps ztz ztn zxz zxa zsg za0 za1 za2 za3 za4 zfr zcd zgo ztd ztv zcl zca zwa zpt zpf) r') := by
  refine Mg.start (lv := [(0, .ref (hA Z 0 6)), (1, .int p1)]) (by decide) rfl (Nat.le_of_ble_eq_true rfl) rfl ?_
  intro p e s m below meth c F hr hlk C hP ls hl
  have hS : va_S (AX Z) s.heap s.heap [] := va_S.rf
  unfold fX11_placesOf_r at hE
  refine lv_iconst (v := 0) F.1 F.2.1 dX11_placesOf_0 (by decide) ?_
  refine lv_istore_n (lv' := [(2, .int 0), (0, .ref (hA Z 0 6)), (1, .int p1)]) F.1 F.2.1 dX11_placesOf_1 rfl hl (by decide) rfl (fun ls hl => ?_)
  refine lv_iconst (v := 0) F.1 F.2.1 dX11_placesOf_2 (by decide) ?_
  refine lv_istore_n (lv' := [(3, .int 0), (2, .int 0), (0, .ref (hA Z 0 6)), (1, .int p1)]) F.1 F.2.1 dX11_placesOf_3 rfl hl (by decide) rfl (fun ls hl => ?_)
  exact qX11_placesOf_r_4 F hr hlk C N 0 0 hE _ _ hP hS ls (lv_sub hl [2, 3, 1, 0] rfl)
set_option maxRecDepth 100000 in
set_option maxHeartbeats 4000000 in
theorem qX11_placesOf_w_23 {p : Program} {l : Launch} {e : Env} {s : State} {m : MethodId} {args : Array Value} {below : List Frame} {meth : Method} {c : Code} {Z : ZC} {HS : Nat → Nat → Nat → Int32} {zkb : Int32} {zdr : Int32} {zky : Nat → Int32} {zpn : Int32} {zps : Int32} {ztz : Int32} {ztn : Nat → Int64} {zxz : Int32} {zxa : Int32} {zsg : Nat → Int32} {za0 : Int32} {za1 : Int32} {za2 : Int32} {za3 : Int32} {za4 : Int32} {zfr : Nat → Int32} {zcd : Int32} {zgo : Nat → Int32} {ztd : Int32} {ztv : Int32} {zcl : Nat → Int32} {zca : Nat → Int32} {zwa : Nat → Int32} {zpt : Nat → Int32} {zpf : Nat → Int32} {N : Nat} {p1 : Int32} {r' : Int32} (F : CallFix p m c cX11_placesOf 4 s args bigW RX11) (hr : meth.sig.returnType = (some .int)) (hlk : meth.locks = false) (C : KX Z s) {k4 : Int32 → Int32 → Option (Int32)} (h4 : ∀ (x2 : Int32) (x3 : Int32), k4 x2 x3 = some r' → ∀ (H : Heap) (locs : List Loc), PX Z HS zkb zdr zky zpn zps ztz ztn zxz zxa zsg za0 za1 za2 za3 za4 zfr zcd zgo ztd ztv zcl zca zwa zpt zpf H → va_S (AX Z) s.heap H locs → ∀ ls : Array Slot, lv_has ls 4 [(0, .ref (hA Z 0 7)), (1, .int p1), (2, .int x2), (3, .int x3)] → W p l e (rmk 0 0) s m args below meth c H locs 0 0 (MQ below (Qi (KX Z) (AX Z) (PX Z HS zkb zdr zky zpn zps ztz ztn zxz zxa zsg za0 za1 za2 za3 za4 zfr zcd zgo ztd ztv zcl zca zwa zpt zpf) r') args s 0 0 (AX Z)) (F0 m 4 ls [])) : ∀ (x3 : Int32) (y0 : Int32) (y1 : Int32), fX11_placesOf_w_23 N HS p1 k4 x3 y0 y1 = some r' → ∀ (H : Heap) (locs : List Loc), PX Z HS zkb zdr zky zpn zps ztz ztn zxz zxa zsg za0 za1 za2 za3 za4 zfr zcd zgo ztd ztv zcl zca zwa zpt zpf H → va_S (AX Z) s.heap H locs → ∀ ls : Array Slot, lv_has ls 4 [(0, .ref (hA Z 0 7)), (1, .int p1), (3, .int x3)] → W p l e (rmk 0 0) s m args below meth c H locs 0 0 (MQ below (Qi (KX Z) (AX Z) (PX Z HS zkb zdr zky zpn zps ztz ztn zxz zxa zsg za0 za1 za2 za3 za4 zfr zcd zgo ztd ztv zcl zca zwa zpt zpf) r') args s 0 0 (AX Z)) (F0 m 23 ls [.int y0, .int y1]) := by
  intro x3 y0 y1 hE H locs hP hS ls hl
  unfold fX11_placesOf_w_23 at hE
  refine lv_iload_n F.1 F.2.1 dX11_placesOf_23 rfl (lv_at hl 2 rfl) ?_
  refine rj_ishl F.1 F.2.1 dX11_placesOf_24 ?_
  refine lv_ior F.1 F.2.1 dX11_placesOf_25 ?_
  refine lv_istore_n (lv' := [(2, .int (y1 ||| (jshl y0 x3))), (0, .ref (hA Z 0 7)), (1, .int p1), (3, .int x3)]) F.1 F.2.1 dX11_placesOf_26 rfl hl (by decide) rfl (fun ls hl => ?_)
  refine lv_iinc (v := x3 + 1) (lv' := [(3, .int (x3 + 1)), (2, .int (y1 ||| (jshl y0 x3))), (0, .ref (hA Z 0 7)), (1, .int p1)]) F.1 F.2.1 dX11_placesOf_27 hl (k := 3) rfl rfl (by decide) rfl (fun ls hl => ?_)
  refine lv_goto (tgt := 4) F.1 F.2.1 dX11_placesOf_30 (by decide) ?_
  exact h4 (y1 ||| (jshl y0 x3)) (x3 + 1) hE _ _ hP hS ls (lv_sub hl [2, 3, 1, 0] rfl)
set_option maxRecDepth 100000 in
set_option maxHeartbeats 4000000 in
theorem qX11_placesOf_w_4 {p : Program} {l : Launch} {e : Env} {s : State} {m : MethodId} {args : Array Value} {below : List Frame} {meth : Method} {c : Code} {Z : ZC} {HS : Nat → Nat → Nat → Int32} {zkb : Int32} {zdr : Int32} {zky : Nat → Int32} {zpn : Int32} {zps : Int32} {ztz : Int32} {ztn : Nat → Int64} {zxz : Int32} {zxa : Int32} {zsg : Nat → Int32} {za0 : Int32} {za1 : Int32} {za2 : Int32} {za3 : Int32} {za4 : Int32} {zfr : Nat → Int32} {zcd : Int32} {zgo : Nat → Int32} {ztd : Int32} {ztv : Int32} {zcl : Nat → Int32} {zca : Nat → Int32} {zwa : Nat → Int32} {zpt : Nat → Int32} {zpf : Nat → Int32} {N : Nat} {p1 : Int32} {r' : Int32} (F : CallFix p m c cX11_placesOf 4 s args bigW RX11) (hr : meth.sig.returnType = (some .int)) (hlk : meth.locks = false) (C : KX Z s) : ∀ n : Nat, ∀ (x2 : Int32) (x3 : Int32), fX11_placesOf_w_4 N HS p1 n x2 x3 = some r' → ∀ (H : Heap) (locs : List Loc), PX Z HS zkb zdr zky zpn zps ztz ztn zxz zxa zsg za0 za1 za2 za3 za4 zfr zcd zgo ztd ztv zcl zca zwa zpt zpf H → va_S (AX Z) s.heap H locs → ∀ ls : Array Slot, lv_has ls 4 [(0, .ref (hA Z 0 7)), (1, .int p1), (2, .int x2), (3, .int x3)] → W p l e (rmk 0 0) s m args below meth c H locs 0 0 (MQ below (Qi (KX Z) (AX Z) (PX Z HS zkb zdr zky zpn zps ztz ztn zxz zxa zsg za0 za1 za2 za3 za4 zfr zcd zgo ztd ztv zcl zca zwa zpt zpf) r') args s 0 0 (AX Z)) (F0 m 4 ls []) := by
  intro n
  induction n with
  | zero => intro x2 x3 hE; cases hE
  | succ n h4 =>
    intro x2 x3 hE H locs hP hS ls hl
    have hE : fX11_placesOf_w_4b N HS p1 (fX11_placesOf_w_4 N HS p1 n) x2 x3 = some r' := hE
    refine lv_iload_n F.1 F.2.1 dX11_placesOf_4 rfl (lv_at hl 3 rfl) ?_
    refine lv_aload_n F.1 F.2.1 dX11_placesOf_5 rfl (lv_at hl 0 rfl) ?_
    refine alh7 F C hP (by decide) rfl dX11_placesOf_6 ?_
    refine lv_icmp_ge (tgt := 33) F.1 F.2.1 dX11_placesOf_7 (by decide) (fun hc => ?_) (fun hc => ?_)
    · have hE := ifp hE hc
      refine lv_iload_n F.1 F.2.1 dX11_placesOf_33 rfl (lv_at hl 2 rfl) ?_
      obtain rfl := Option.some.inj hE
      exact ret_i F hr hlk hP hS dX11_placesOf_34
    · have hE := ifn hE hc
      refine lv_iload_n F.1 F.2.1 dX11_placesOf_10 rfl (lv_at hl 2 rfl) ?_
      refine lv_aload_n F.1 F.2.1 dX11_placesOf_11 rfl (lv_at hl 0 rfl) ?_
      refine lv_iload_n F.1 F.2.1 dX11_placesOf_12 rfl (lv_at hl 3 rfl) ?_
      obtain ⟨hi, hE⟩ := grd_some hE
      refine ah7 F C hP (by decide) rfl hi dX11_placesOf_13 ?_
      refine lv_iload_n F.1 F.2.1 dX11_placesOf_14 rfl (lv_at hl 1 rfl) ?_
      refine lv_icmp_ne (tgt := 22) F.1 F.2.1 dX11_placesOf_15 (by decide) (fun hc => ?_) (fun hc => ?_)
      · have hE := ifn hE hc
        refine lv_iconst (v := 0) F.1 F.2.1 dX11_placesOf_22 (by decide) ?_
        exact qX11_placesOf_w_23 F hr hlk C h4 x3 0 x2 hE _ _ hP hS ls (lv_sub hl [0, 1, 3] rfl)
      · have hE := ifp hE hc
        refine lv_iconst (v := 1) F.1 F.2.1 dX11_placesOf_18 (by decide) ?_
        refine lv_goto (tgt := 23) F.1 F.2.1 dX11_placesOf_19 (by decide) ?_
        exact qX11_placesOf_w_23 F hr hlk C h4 x3 1 x2 hE _ _ hP hS ls (lv_sub hl [0, 1, 3] rfl)
set_option maxRecDepth 100000 in
set_option maxHeartbeats 4000000 in
theorem kX11_placesOf_w {l : Launch} {Z : ZC} {HS : Nat → Nat → Nat → Int32} {zkb : Int32} {zdr : Int32} {zky : Nat → Int32} {zpn : Int32} {zps : Int32} {ztz : Int32} {ztn : Nat → Int64} {zxz : Int32} {zxa : Int32} {zsg : Nat → Int32} {za0 : Int32} {za1 : Int32} {za2 : Int32} {za3 : Int32} {za4 : Int32} {zfr : Nat → Int32} {zcd : Int32} {zgo : Nat → Int32} {ztd : Int32} {ztv : Int32} {zcl : Nat → Int32} {zca : Nat → Int32} {zwa : Nat → Int32} {zpt : Nat → Int32} {zpf : Nat → Int32} {N : Nat} {p1 : Int32} {r' : Int32} (hE : fX11_placesOf_w N HS p1 = some r') : Mg l yX11_placesOf cX11_placesOf 4 (some .int) (rmk 0 0) (KX Z) (AX Z) [.ref (hA Z 0 7), .int p1] (PX Z HS zkb zdr zky zpn zps ztz ztn zxz zxa zsg za0 za1 za2 za3 za4 zfr zcd zgo ztd ztv zcl zca zwa zpt zpf) (Qi (KX Z) (AX Z) (PX Z HS zkb zdr zky zpn zps ztz ztn zxz zxa zsg za0 za1 za2 za3 za4 zfr zcd zgo ztd ztv zcl zca zwa zpt zpf) r') := by
  refine Mg.start (lv := [(0, .ref (hA Z 0 7)), (1, .int p1)]) (by decide) rfl (Nat.le_of_ble_eq_true rfl) rfl ?_
  intro p e s m below meth c F hr hlk C hP ls hl
  have hS : va_S (AX Z) s.heap s.heap [] := va_S.rf
  unfold fX11_placesOf_w at hE
  refine lv_iconst (v := 0) F.1 F.2.1 dX11_placesOf_0 (by decide) ?_
  refine lv_istore_n (lv' := [(2, .int 0), (0, .ref (hA Z 0 7)), (1, .int p1)]) F.1 F.2.1 dX11_placesOf_1 rfl hl (by decide) rfl (fun ls hl => ?_)
  refine lv_iconst (v := 0) F.1 F.2.1 dX11_placesOf_2 (by decide) ?_
  refine lv_istore_n (lv' := [(3, .int 0), (2, .int 0), (0, .ref (hA Z 0 7)), (1, .int p1)]) F.1 F.2.1 dX11_placesOf_3 rfl hl (by decide) rfl (fun ls hl => ?_)
  exact qX11_placesOf_w_4 F hr hlk C N 0 0 hE _ _ hP hS ls (lv_sub hl [2, 3, 1, 0] rfl)
set_option maxRecDepth 100000 in
set_option maxHeartbeats 4000000 in
theorem kX11_sign {l : Launch} {Z : ZC} {HS : Nat → Nat → Nat → Int32} {zkb : Int32} {zdr : Int32} {zky : Nat → Int32} {zpn : Int32} {zps : Int32} {ztz : Int32} {ztn : Nat → Int64} {zxz : Int32} {zxa : Int32} {zsg : Nat → Int32} {za0 : Int32} {za1 : Int32} {za2 : Int32} {za3 : Int32} {za4 : Int32} {zfr : Nat → Int32} {zcd : Int32} {zgo : Nat → Int32} {ztd : Int32} {ztv : Int32} {zcl : Nat → Int32} {zca : Nat → Int32} {zwa : Nat → Int32} {zpt : Nat → Int32} {zpf : Nat → Int32} {N : Nat} {p1 : Int32} {r' : Int32} {zxz' : Int32} {zsg' : Nat → Int32} (hE : fX11_sign N zxz zsg p1 = some (r', zxz', zsg')) : Mg l yX11_sign cX11_sign 2 (some .int) (rmk 1 22) (KX Z) (AX Z) [.ref (oA Z 0), .int p1] (PX Z HS zkb zdr zky zpn zps ztz ztn zxz zxa zsg za0 za1 za2 za3 za4 zfr zcd zgo ztd ztv zcl zca zwa zpt zpf) (Qi (KX Z) (AX Z) (PX Z HS zkb zdr zky zpn zps ztz ztn zxz' zxa zsg' za0 za1 za2 za3 za4 zfr zcd zgo ztd ztv zcl zca zwa zpt zpf) r') := by
  refine Mg.start (lv := [(0, .ref (oA Z 0)), (1, .int p1)]) (by decide) rfl (Nat.le_of_ble_eq_true rfl) rfl ?_
  intro p e s m below meth c F hr hlk C hP ls hl
  have hS : va_S (AX Z) s.heap s.heap [] := va_S.rf
  unfold fX11_sign at hE
  refine lv_aload_n F.1 F.2.1 dX11_sign_0 rfl (lv_at hl 0 rfl) ?_
  refine gX11_40 F C hP dX11_sign_1 ?_
  refine lv_iload_n F.1 F.2.1 dX11_sign_4 rfl (lv_at hl 1 rfl) ?_
  obtain ⟨r18, zxz_18, zsg_18, hc, hE⟩ := bnd3_some hE
  refine aft_i (run_N (rest := []) F (kX7_takes hc) (okX Z) C hS (C.2.2 _ _ mlX11_87 rfl) lkX11_87 ⟨Nat.le_of_ble_eq_true rfl, Nat.le_of_ble_eq_true rfl⟩ (rvo6 C hP) hP rfl hl.1 rfl (lv_room (Nat.le_of_ble_eq_true rfl)) dX11_sign_5 ⟨Nat.zero_le _, Nat.zero_le _⟩) hS (fun H locs hP hS => ?_)
  refine lv_if_eq (tgt := 21) F.1 F.2.1 dX11_sign_8 (by decide) (fun hc => ?_) (fun hc => ?_)
  · have hE := ifp hE hc
    refine lv_iconst (v := (-1)) F.1 F.2.1 dX11_sign_21 (by decide) ?_
    have w0 := Option.some.inj hE
    obtain ⟨g0, w1⟩ := Prod.mk.inj w0
    obtain ⟨g1, w2⟩ := Prod.mk.inj w1
    subst g0 g1 w2
    exact ret_i F hr hlk hP hS dX11_sign_22
  · have hE := ifn hE hc
    refine lv_aload_n F.1 F.2.1 dX11_sign_11 rfl (lv_at hl 0 rfl) ?_
    refine gX11_40 F C hP dX11_sign_12 ?_
    refine gX11_91 F C hP dX11_sign_15 ?_
    refine lv_goto (tgt := 22) F.1 F.2.1 dX11_sign_18 (by decide) ?_
    have w0 := Option.some.inj hE
    obtain ⟨g0, w1⟩ := Prod.mk.inj w0
    obtain ⟨g1, w2⟩ := Prod.mk.inj w1
    subst g0 g1 w2
    exact ret_i F hr hlk hP hS dX11_sign_22
set_option maxRecDepth 100000 in
set_option maxHeartbeats 4000000 in
theorem kX11_end {l : Launch} {Z : ZC} {HS : Nat → Nat → Nat → Int32} {zkb : Int32} {zdr : Int32} {zky : Nat → Int32} {zpn : Int32} {zps : Int32} {ztz : Int32} {ztn : Nat → Int64} {zxz : Int32} {zxa : Int32} {zsg : Nat → Int32} {za0 : Int32} {za1 : Int32} {za2 : Int32} {za3 : Int32} {za4 : Int32} {zfr : Nat → Int32} {zcd : Int32} {zgo : Nat → Int32} {ztd : Int32} {ztv : Int32} {zcl : Nat → Int32} {zca : Nat → Int32} {zwa : Nat → Int32} {zpt : Nat → Int32} {zpf : Nat → Int32} {p1 : Int32} {r' : Int32} {zxz' : Int32} (hE : fX11_end zxz p1 = some (r', zxz')) : Mg l yX11_end cX11_end 2 (some .boolean) (rmk 0 0) (KX Z) (AX Z) [.ref (oA Z 0), .int p1] (PX Z HS zkb zdr zky zpn zps ztz ztn zxz zxa zsg za0 za1 za2 za3 za4 zfr zcd zgo ztd ztv zcl zca zwa zpt zpf) (Qi (KX Z) (AX Z) (PX Z HS zkb zdr zky zpn zps ztz ztn zxz' zxa zsg za0 za1 za2 za3 za4 zfr zcd zgo ztd ztv zcl zca zwa zpt zpf) r') := by
  refine Mg.start (lv := [(0, .ref (oA Z 0)), (1, .int p1)]) (by decide) rfl (Nat.le_of_ble_eq_true rfl) rfl ?_
  intro p e s m below meth c F hr hlk C hP ls hl
  have hS : va_S (AX Z) s.heap s.heap [] := va_S.rf
  unfold fX11_end at hE
  refine lv_iload_n F.1 F.2.1 dX11_end_0 rfl (lv_at hl 1 rfl) ?_
  refine lv_if_lt (tgt := 15) F.1 F.2.1 dX11_end_1 (by decide) (fun hc => ?_) (fun hc => ?_)
  · have hE := ifp hE hc
    refine lv_iconst (v := 0) F.1 F.2.1 dX11_end_15 (by decide) ?_
    have w0 := Option.some.inj hE
    obtain ⟨g0, w1⟩ := Prod.mk.inj w0
    subst g0 w1
    exact ret_z F hr rfl hlk hP hS dX11_end_16
  · have hE := ifn hE hc
    refine lv_iload_n F.1 F.2.1 dX11_end_4 rfl (lv_at hl 1 rfl) ?_
    refine lv_aload_n F.1 F.2.1 dX11_end_5 rfl (lv_at hl 0 rfl) ?_
    refine gX11_40 F C hP dX11_end_6 ?_
    refine gX11_91 F C hP dX11_end_9 ?_
    refine lv_icmp_le (tgt := 17) F.1 F.2.1 dX11_end_12 (by decide) (fun hc => ?_) (fun hc => ?_)
    · have hE := ifp hE hc
      refine lv_aload_n F.1 F.2.1 dX11_end_17 rfl (lv_at hl 0 rfl) ?_
      refine gX11_40 F C hP dX11_end_18 ?_
      refine lv_iload_n F.1 F.2.1 dX11_end_21 rfl (lv_at hl 1 rfl) ?_
      refine pX11_91 F C hP hS rfl dX11_end_22 (fun H locs hP hS => ?_)
      refine lv_iconst (v := 1) F.1 F.2.1 dX11_end_25 (by decide) ?_
      have w0 := Option.some.inj hE
      obtain ⟨g0, w1⟩ := Prod.mk.inj w0
      subst g0 w1
      exact ret_z F hr rfl hlk hP hS dX11_end_26
    · have hE := ifn hE hc
      refine lv_iconst (v := 0) F.1 F.2.1 dX11_end_15 (by decide) ?_
      have w0 := Option.some.inj hE
      obtain ⟨g0, w1⟩ := Prod.mk.inj w0
      subst g0 w1
      exact ret_z F hr rfl hlk hP hS dX11_end_16
set_option maxRecDepth 100000 in
set_option maxHeartbeats 4000000 in
theorem kX5_marks {l : Launch} {Z : ZC} {HS : Nat → Nat → Nat → Int32} {zkb : Int32} {zdr : Int32} {zky : Nat → Int32} {zpn : Int32} {zps : Int32} {ztz : Int32} {ztn : Nat → Int64} {zxz : Int32} {zxa : Int32} {zsg : Nat → Int32} {za0 : Int32} {za1 : Int32} {za2 : Int32} {za3 : Int32} {za4 : Int32} {zfr : Nat → Int32} {zcd : Int32} {zgo : Nat → Int32} {ztd : Int32} {ztv : Int32} {zcl : Nat → Int32} {zca : Nat → Int32} {zwa : Nat → Int32} {zpt : Nat → Int32} {zpf : Nat → Int32} {HS' : Nat → Nat → Nat → Int32} (hE : fX5_marks zpn HS = some HS') : Mg l yX5_marks cX5_marks 2 none (rmk 3 68) (KX Z) (AX Z) [.ref (oA Z 2), .ref (hA Z 0 0)] (PX Z HS zkb zdr zky zpn zps ztz ztn zxz zxa zsg za0 za1 za2 za3 za4 zfr zcd zgo ztd ztv zcl zca zwa zpt zpf) (Qv (KX Z) (AX Z) (PX Z HS' zkb zdr zky zpn zps ztz ztn zxz zxa zsg za0 za1 za2 za3 za4 zfr zcd zgo ztd ztv zcl zca zwa zpt zpf)) := by
  refine Mg.start (lv := [(0, .ref (oA Z 2)), (1, .ref (hA Z 0 0))]) (by decide) rfl (Nat.le_of_ble_eq_true rfl) rfl ?_
  intro p e s m below meth c F hr hlk C hP ls hl
  have hS : va_S (AX Z) s.heap s.heap [] := va_S.rf
  unfold fX5_marks at hE
  refine lv_aload_n F.1 F.2.1 dX5_marks_0 rfl (lv_at hl 0 rfl) ?_
  refine gX5_11 F C hP dX5_marks_1 ?_
  refine lv_aload_n F.1 F.2.1 dX5_marks_4 rfl (lv_at hl 0 rfl) ?_
  refine gX5_18 F C hP dX5_marks_5 ?_
  obtain ⟨hi, hE⟩ := grd_some hE
  refine ao3 F C hP hi dX5_marks_8 ?_
  have hj_4 := hj_of4 hi
  refine lv_aload_n F.1 F.2.1 dX5_marks_9 rfl (lv_at hl 1 rfl) ?_
  obtain ⟨HS_22, eHS_22, hE⟩ := lt_some hE
  refine aft_v (run_N (rest := []) F (ccX3_copies hj_4 (by decide) (by omega) eHS_22.symm) (okX Z) C hS (C.2.2 _ _ mlX5_22 rfl) lkX5_22 ⟨Nat.le_of_ble_eq_true rfl, Nat.le_of_ble_eq_true rfl⟩ (rvh0 C hP hj_4) hP rfl hl.1 rfl (lv_room (Nat.le_of_ble_eq_true rfl)) dX5_marks_10 ⟨Nat.zero_le _, Nat.zero_le _⟩) hS (fun H locs hP hS => ?_)
  obtain rfl := Option.some.inj hE
  exact ret_v F hr hlk hP hS dX5_marks_13
set_option maxRecDepth 100000 in
set_option maxHeartbeats 4000000 in
theorem qX5_keeps_20 {p : Program} {l : Launch} {e : Env} {s : State} {m : MethodId} {args : Array Value} {below : List Frame} {meth : Method} {c : Code} {Z : ZC} {HS : Nat → Nat → Nat → Int32} {zkb : Int32} {zdr : Int32} {zky : Nat → Int32} {ztz : Int32} {ztn : Nat → Int64} {zxz : Int32} {zxa : Int32} {zsg : Nat → Int32} {za0 : Int32} {za1 : Int32} {za2 : Int32} {za3 : Int32} {za4 : Int32} {zfr : Nat → Int32} {zcd : Int32} {zgo : Nat → Int32} {ztd : Int32} {ztv : Int32} {zcl : Nat → Int32} {zca : Nat → Int32} {zwa : Nat → Int32} {zpt : Nat → Int32} {zpf : Nat → Int32} {zpn' : Int32} {zps' : Int32} (F : CallFix p m c cX5_keeps 1 s args bigW RX5) (hr : meth.sig.returnType = none) (hlk : meth.locks = false) (C : KX Z s) : ∀ (zpn : Int32) (zps : Int32) (y0 : Int32), fX5_keeps_20 zpn zps y0 = some (zpn', zps') → ∀ (H : Heap) (locs : List Loc), PX Z HS zkb zdr zky zpn zps ztz ztn zxz zxa zsg za0 za1 za2 za3 za4 zfr zcd zgo ztd ztv zcl zca zwa zpt zpf H → va_S (AX Z) s.heap H locs → ∀ ls : Array Slot, lv_has ls 1 [(0, .ref (oA Z 2))] → W p l e (rmk 1 26) s m args below meth c H locs 0 0 (MQ below (Qv (KX Z) (AX Z) (PX Z HS zkb zdr zky zpn' zps' ztz ztn zxz zxa zsg za0 za1 za2 za3 za4 zfr zcd zgo ztd ztv zcl zca zwa zpt zpf)) args s 0 0 (AX Z)) (F0 m 20 ls [.int y0, .ref (oA Z 2)]) := by
  intro zpn zps y0 hE H locs hP hS ls hl
  unfold fX5_keeps_20 at hE
  refine pX5_18 F C hP hS rfl dX5_keeps_20 (fun H locs hP hS => ?_)
  refine lv_aload_n F.1 F.2.1 dX5_keeps_23 rfl (lv_at hl 0 rfl) ?_
  refine lv_aload_n F.1 F.2.1 dX5_keeps_24 rfl (lv_at hl 0 rfl) ?_
  refine gX5_26 F C hP dX5_keeps_25 ?_
  refine lv_iconst (v := 1) F.1 F.2.1 dX5_keeps_28 (by decide) ?_
  refine lv_iadd F.1 F.2.1 dX5_keeps_29 ?_
  refine lv_bipush (v := 8) F.1 F.2.1 dX5_keeps_30 (by decide) ?_
  refine va_mmin F.1 F.2.1 (F.2.2.1.trans hl.1.symm) F.2.2.2.1 (F.2.2.2.2 _ (bw_t 603 (by decide +kernel) rfl)) (F.2.2.2.2 _ (bw_t 604 (by decide +kernel) rfl)) (F.2.2.2.2 _ (bw_t 17 (by decide +kernel) rfl)) (F.2.2.2.2 _ (bw_t 605 (by decide +kernel) rfl)) (Nat.le_of_ble_eq_true rfl) (Nat.le_of_ble_eq_true rfl) (Nat.zero_le _) (Nat.zero_le _) dX5_keeps_32 ?_
  obtain ⟨zps_334, ezps_334, hE⟩ := lt_some hE
  refine pX5_26 F C hP hS ezps_334.symm dX5_keeps_35 (fun H locs hP hS => ?_)
  have w0 := Option.some.inj hE
  obtain ⟨g0, w1⟩ := Prod.mk.inj w0
  subst g0 w1
  exact ret_v F hr hlk hP hS dX5_keeps_38
set_option maxRecDepth 100000 in
set_option maxHeartbeats 4000000 in
theorem kX5_keeps {l : Launch} {Z : ZC} {HS : Nat → Nat → Nat → Int32} {zkb : Int32} {zdr : Int32} {zky : Nat → Int32} {zpn : Int32} {zps : Int32} {ztz : Int32} {ztn : Nat → Int64} {zxz : Int32} {zxa : Int32} {zsg : Nat → Int32} {za0 : Int32} {za1 : Int32} {za2 : Int32} {za3 : Int32} {za4 : Int32} {zfr : Nat → Int32} {zcd : Int32} {zgo : Nat → Int32} {ztd : Int32} {ztv : Int32} {zcl : Nat → Int32} {zca : Nat → Int32} {zwa : Nat → Int32} {zpt : Nat → Int32} {zpf : Nat → Int32} {zpn' : Int32} {zps' : Int32} (hE : fX5_keeps zpn zps = some (zpn', zps')) : Mg l yX5_keeps cX5_keeps 1 none (rmk 1 26) (KX Z) (AX Z) [.ref (oA Z 2)] (PX Z HS zkb zdr zky zpn zps ztz ztn zxz zxa zsg za0 za1 za2 za3 za4 zfr zcd zgo ztd ztv zcl zca zwa zpt zpf) (Qv (KX Z) (AX Z) (PX Z HS zkb zdr zky zpn' zps' ztz ztn zxz zxa zsg za0 za1 za2 za3 za4 zfr zcd zgo ztd ztv zcl zca zwa zpt zpf)) := by
  refine Mg.start (lv := [(0, .ref (oA Z 2))]) (by decide) rfl (Nat.le_of_ble_eq_true rfl) rfl ?_
  intro p e s m below meth c F hr hlk C hP ls hl
  have hS : va_S (AX Z) s.heap s.heap [] := va_S.rf
  unfold fX5_keeps at hE
  refine lv_aload_n F.1 F.2.1 dX5_keeps_0 rfl (lv_at hl 0 rfl) ?_
  refine lv_aload_n F.1 F.2.1 dX5_keeps_1 rfl (lv_at hl 0 rfl) ?_
  refine gX5_18 F C hP dX5_keeps_2 ?_
  refine lv_bipush (v := 8) F.1 F.2.1 dX5_keeps_5 (by decide) ?_
  refine lv_icmp_ne (tgt := 14) F.1 F.2.1 dX5_keeps_7 (by decide) (fun hc => ?_) (fun hc => ?_)
  · have hE := ifn hE hc
    refine lv_aload_n F.1 F.2.1 dX5_keeps_14 rfl (lv_at hl 0 rfl) ?_
    refine gX5_18 F C hP dX5_keeps_15 ?_
    refine lv_iconst (v := 1) F.1 F.2.1 dX5_keeps_18 (by decide) ?_
    refine lv_iadd F.1 F.2.1 dX5_keeps_19 ?_
    exact qX5_keeps_20 F hr hlk C zpn zps (zpn + 1) hE _ _ hP hS ls (lv_sub hl [0] rfl)
  · have hE := ifp hE hc
    refine lv_iconst (v := 0) F.1 F.2.1 dX5_keeps_10 (by decide) ?_
    refine lv_goto (tgt := 20) F.1 F.2.1 dX5_keeps_11 (by decide) ?_
    exact qX5_keeps_20 F hr hlk C zpn zps 0 hE _ _ hP hS ls (lv_sub hl [0] rfl)
set_option maxRecDepth 100000 in
set_option maxHeartbeats 4000000 in
theorem kX11_makes {l : Launch} {Z : ZC} {HS : Nat → Nat → Nat → Int32} {zkb : Int32} {zdr : Int32} {zky : Nat → Int32} {zpn : Int32} {zps : Int32} {ztz : Int32} {ztn : Nat → Int64} {zxz : Int32} {zxa : Int32} {zsg : Nat → Int32} {za0 : Int32} {za1 : Int32} {za2 : Int32} {za3 : Int32} {za4 : Int32} {zfr : Nat → Int32} {zcd : Int32} {zgo : Nat → Int32} {ztd : Int32} {ztv : Int32} {zcl : Nat → Int32} {zca : Nat → Int32} {zwa : Nat → Int32} {zpt : Nat → Int32} {zpf : Nat → Int32} {N : Nat} {p1 : Int32} {p2 : Int32} {p3 : Int32} {p4 : Int32} {r' : Int32} {zpn' : Int32} {zps' : Int32} {ztz' : Int32} {ztn' : Nat → Int64} {za0' : Int32} {za1' : Int32} {za2' : Int32} {za3' : Int32} {za4' : Int32} {zcd' : Int32} {zgo' : Nat → Int32} {ztd' : Int32} {ztv' : Int32} {zcl' : Nat → Int32} {zca' : Nat → Int32} {zwa' : Nat → Int32} {zpt' : Nat → Int32} {zpf' : Nat → Int32} {HS' : Nat → Nat → Nat → Int32} (hE : fX11_makes N zpn zps ztz ztn za0 za1 za2 za3 za4 zcd zgo ztd ztv zcl zca zwa zpt zpf HS p1 p2 p3 p4 = some (r', zpn', zps', ztz', ztn', za0', za1', za2', za3', za4', zcd', zgo', ztd', ztv', zcl', zca', zwa', zpt', zpf', HS')) : Mg l yX11_makes cX11_makes 7 (some .int) (rmk 7 167) (KX Z) (AX Z) [.ref (oA Z 0), .int p1, .int p2, .int p3, .int p4] (PX Z HS zkb zdr zky zpn zps ztz ztn zxz zxa zsg za0 za1 za2 za3 za4 zfr zcd zgo ztd ztv zcl zca zwa zpt zpf) (Qi (KX Z) (AX Z) (PX Z HS' zkb zdr zky zpn' zps' ztz' ztn' zxz zxa zsg za0' za1' za2' za3' za4' zfr zcd' zgo' ztd' ztv' zcl' zca' zwa' zpt' zpf') r') := by
  refine Mg.start (lv := [(0, .ref (oA Z 0)), (1, .int p1), (2, .int p2), (3, .int p3), (4, .int p4)]) (by decide) rfl (Nat.le_of_ble_eq_true rfl) rfl ?_
  intro p e s m below meth c F hr hlk C hP ls hl
  have hS : va_S (AX Z) s.heap s.heap [] := va_S.rf
  unfold fX11_makes at hE
  refine lv_aload_n F.1 F.2.1 dX11_makes_0 rfl (lv_at hl 0 rfl) ?_
  refine gX11_10 F C hP dX11_makes_1 ?_
  obtain ⟨r350, hc, hE⟩ := bnd1_some hE
  refine aft_i (run_N (rest := []) F (kX3_leastFree (by decide) rfl hc) (okX Z) C hS (C.2.2 _ _ mlX11_95 rfl) lkX11_95 ⟨Nat.le_of_ble_eq_true rfl, Nat.le_of_ble_eq_true rfl⟩ (rvh0 C hP (by decide)) hP rfl hl.1 rfl (lv_room (Nat.le_of_ble_eq_true rfl)) dX11_makes_4 ⟨Nat.zero_le _, Nat.zero_le _⟩) hS (fun H locs hP hS => ?_)
  refine lv_istore (lv' := [(5, .int r350), (0, .ref (oA Z 0)), (1, .int p1), (2, .int p2), (3, .int p3), (4, .int p4)]) F.1 F.2.1 dX11_makes_7 hl (by decide) rfl (fun ls hl => ?_)
  refine lv_aload_n F.1 F.2.1 dX11_makes_9 rfl (lv_at hl 1 rfl) ?_
  refine gX11_47 F C hP dX11_makes_10 ?_
  refine lv_bipush (v := 110) F.1 F.2.1 dX11_makes_13 (by decide) ?_
  refine lv_iload_n F.1 F.2.1 dX11_makes_15 rfl (lv_at hl 2 rfl) ?_
  refine lv_iload_n F.1 F.2.1 dX11_makes_16 rfl (lv_at hl 3 rfl) ?_
  refine lv_iload_n F.1 F.2.1 dX11_makes_17 rfl (lv_at hl 4 rfl) ?_
  refine lv_iload F.1 F.2.1 dX11_makes_18 (lv_at hl 5 rfl) ?_
  obtain ⟨za0_351, za1_351, za2_351, za3_351, za4_351, hc, hE⟩ := bnd5_some hE
  refine aft_v (run_N (rest := []) F (kX0_becomes hc) (okX Z) C hS (C.2.2 _ _ mlX11_99 rfl) lkX11_99 ⟨Nat.le_of_ble_eq_true rfl, Nat.le_of_ble_eq_true rfl⟩ (rvo8 C hP) hP rfl hl.1 rfl (lv_room (Nat.le_of_ble_eq_true rfl)) dX11_makes_20 ⟨Nat.zero_le _, Nat.zero_le _⟩) hS (fun H locs hP hS => ?_)
  refine lv_aload_n F.1 F.2.1 dX11_makes_23 rfl (lv_at hl 1 rfl) ?_
  refine gX11_26 F C hP dX11_makes_24 ?_
  refine lv_aload_n F.1 F.2.1 dX11_makes_27 rfl (lv_at hl 1 rfl) ?_
  refine gX11_10 F C hP dX11_makes_28 ?_
  obtain ⟨HS_352, hc, hE⟩ := bnd1_some hE
  refine aft_v (run_N (rest := []) F (kX5_marks hc) (okX Z) C hS (C.2.2 _ _ mlX11_103 rfl) lkX11_103 ⟨Nat.le_of_ble_eq_true rfl, Nat.le_of_ble_eq_true rfl⟩ (rvo2 C hP) hP rfl hl.1 rfl (lv_room (Nat.le_of_ble_eq_true rfl)) dX11_makes_31 ⟨Nat.zero_le _, Nat.zero_le _⟩) hS (fun H locs hP hS => ?_)
  refine lv_aload_n F.1 F.2.1 dX11_makes_34 rfl (lv_at hl 1 rfl) ?_
  refine gX11_79 F C hP dX11_makes_35 ?_
  refine lv_aload_n F.1 F.2.1 dX11_makes_38 rfl (lv_at hl 1 rfl) ?_
  refine gX11_10 F C hP dX11_makes_39 ?_
  refine lv_aload_n F.1 F.2.1 dX11_makes_42 rfl (lv_at hl 1 rfl) ?_
  refine gX11_47 F C hP dX11_makes_43 ?_
  obtain ⟨r353, zcd_353, zgo_353, ztd_353, ztv_353, zcl_353, zca_353, zwa_353, zpt_353, zpf_353, X_353, hc, hE⟩ := bnd11_some hE
  obtain ⟨HS_354, eHS_354, hE⟩ := lt_some hE
  refine aft_i (run_N (rest := []) F (kX1_does (by decide) rfl eHS_354.symm hc) (okX Z) C hS (C.2.2 _ _ mlX11_107 rfl) lkX11_107 ⟨Nat.le_of_ble_eq_true rfl, Nat.le_of_ble_eq_true rfl⟩ (rvo19 C hP) hP rfl hl.1 rfl (lv_room (Nat.le_of_ble_eq_true rfl)) dX11_makes_46 ⟨Nat.zero_le _, Nat.zero_le _⟩) hS (fun H locs hP hS => ?_)
  refine lv_istore (lv' := [(6, .int r353), (5, .int r350), (0, .ref (oA Z 0)), (1, .int p1), (2, .int p2), (3, .int p3), (4, .int p4)]) F.1 F.2.1 dX11_makes_49 hl (by decide) rfl (fun ls hl => ?_)
  refine lv_iload F.1 F.2.1 dX11_makes_51 (lv_at hl 0 rfl) ?_
  refine lv_if_ge (tgt := 59) F.1 F.2.1 dX11_makes_53 (by decide) (fun hc => ?_) (fun hc => ?_)
  · have hE := ifp hE hc
    refine lv_aload_n F.1 F.2.1 dX11_makes_59 rfl (lv_at hl 2 rfl) ?_
    refine gX11_26 F C hP dX11_makes_60 ?_
    obtain ⟨zpn_355, zps_355, hc, hE⟩ := bnd2_some hE
    refine aft_v (run_N (rest := []) F (kX5_keeps hc) (okX Z) C hS (C.2.2 _ _ mlX11_111 rfl) lkX11_111 ⟨Nat.le_of_ble_eq_true rfl, Nat.le_of_ble_eq_true rfl⟩ (rvo2 C hP) hP rfl hl.1 rfl (lv_room (Nat.le_of_ble_eq_true rfl)) dX11_makes_63 ⟨Nat.zero_le _, Nat.zero_le _⟩) hS (fun H locs hP hS => ?_)
    refine lv_aload_n F.1 F.2.1 dX11_makes_66 rfl (lv_at hl 2 rfl) ?_
    refine gX11_33 F C hP dX11_makes_67 ?_
    refine lv_iload F.1 F.2.1 dX11_makes_70 (lv_at hl 0 rfl) ?_
    refine lv_i2l (v := r353.toInt64) F.1 F.2.1 dX11_makes_72 rfl ?_
    obtain ⟨ztz_356, ztn_356, hc, hE⟩ := bnd2_some hE
    refine aft_v (run_N (rest := []) F (kX8_tells hc) (okX Z) C hS (C.2.2 _ _ mlX11_114 rfl) lkX11_114 ⟨Nat.le_of_ble_eq_true rfl, Nat.le_of_ble_eq_true rfl⟩ (rvo4 C hP) hP rfl hl.1 rfl (lv_room (Nat.le_of_ble_eq_true rfl)) dX11_makes_73 ⟨Nat.zero_le _, Nat.zero_le _⟩) hS (fun H locs hP hS => ?_)
    refine lv_iload F.1 F.2.1 dX11_makes_76 (lv_at hl 1 rfl) ?_
    have w0 := Option.some.inj hE
    obtain ⟨g0, w1⟩ := Prod.mk.inj w0
    obtain ⟨g1, w2⟩ := Prod.mk.inj w1
    obtain ⟨g2, w3⟩ := Prod.mk.inj w2
    obtain ⟨g3, w4⟩ := Prod.mk.inj w3
    obtain ⟨g4, w5⟩ := Prod.mk.inj w4
    obtain ⟨g5, w6⟩ := Prod.mk.inj w5
    obtain ⟨g6, w7⟩ := Prod.mk.inj w6
    obtain ⟨g7, w8⟩ := Prod.mk.inj w7
    obtain ⟨g8, w9⟩ := Prod.mk.inj w8
    obtain ⟨g9, w10⟩ := Prod.mk.inj w9
    obtain ⟨g10, w11⟩ := Prod.mk.inj w10
    obtain ⟨g11, w12⟩ := Prod.mk.inj w11
    obtain ⟨g12, w13⟩ := Prod.mk.inj w12
    obtain ⟨g13, w14⟩ := Prod.mk.inj w13
    obtain ⟨g14, w15⟩ := Prod.mk.inj w14
    obtain ⟨g15, w16⟩ := Prod.mk.inj w15
    obtain ⟨g16, w17⟩ := Prod.mk.inj w16
    obtain ⟨g17, w18⟩ := Prod.mk.inj w17
    obtain ⟨g18, w19⟩ := Prod.mk.inj w18
    subst g0 g1 g2 g3 g4 g5 g6 g7 g8 g9 g10 g11 g12 g13 g14 g15 g16 g17 g18 w19
    exact ret_i F hr hlk hP hS dX11_makes_78
  · have hE := ifn hE hc
    refine lv_iload F.1 F.2.1 dX11_makes_56 (lv_at hl 0 rfl) ?_
    have w0 := Option.some.inj hE
    obtain ⟨g0, w1⟩ := Prod.mk.inj w0
    obtain ⟨g1, w2⟩ := Prod.mk.inj w1
    obtain ⟨g2, w3⟩ := Prod.mk.inj w2
    obtain ⟨g3, w4⟩ := Prod.mk.inj w3
    obtain ⟨g4, w5⟩ := Prod.mk.inj w4
    obtain ⟨g5, w6⟩ := Prod.mk.inj w5
    obtain ⟨g6, w7⟩ := Prod.mk.inj w6
    obtain ⟨g7, w8⟩ := Prod.mk.inj w7
    obtain ⟨g8, w9⟩ := Prod.mk.inj w8
    obtain ⟨g9, w10⟩ := Prod.mk.inj w9
    obtain ⟨g10, w11⟩ := Prod.mk.inj w10
    obtain ⟨g11, w12⟩ := Prod.mk.inj w11
    obtain ⟨g12, w13⟩ := Prod.mk.inj w12
    obtain ⟨g13, w14⟩ := Prod.mk.inj w13
    obtain ⟨g14, w15⟩ := Prod.mk.inj w14
    obtain ⟨g15, w16⟩ := Prod.mk.inj w15
    obtain ⟨g16, w17⟩ := Prod.mk.inj w16
    obtain ⟨g17, w18⟩ := Prod.mk.inj w17
    obtain ⟨g18, w19⟩ := Prod.mk.inj w18
    subst g0 g1 g2 g3 g4 g5 g6 g7 g8 g9 g10 g11 g12 g13 g14 g15 g16 g17 g18 w19
    exact ret_i F hr hlk hP hS dX11_makes_58
set_option maxRecDepth 100000 in
set_option maxHeartbeats 4000000 in
theorem kX11_tellsChange {l : Launch} {Z : ZC} {HS : Nat → Nat → Nat → Int32} {zkb : Int32} {zdr : Int32} {zky : Nat → Int32} {zpn : Int32} {zps : Int32} {ztz : Int32} {ztn : Nat → Int64} {zxz : Int32} {zxa : Int32} {zsg : Nat → Int32} {za0 : Int32} {za1 : Int32} {za2 : Int32} {za3 : Int32} {za4 : Int32} {zfr : Nat → Int32} {zcd : Int32} {zgo : Nat → Int32} {ztd : Int32} {ztv : Int32} {zcl : Nat → Int32} {zca : Nat → Int32} {zwa : Nat → Int32} {zpt : Nat → Int32} {zpf : Nat → Int32} {p1 : Int32} {r' : Int32} {zpn' : Int32} {zps' : Int32} {ztz' : Int32} {ztn' : Nat → Int64} (hE : fX11_tellsChange zpn zps ztz ztn HS p1 = some (r', zpn', zps', ztz', ztn')) : Mg l yX11_tellsChange cX11_tellsChange 2 (some .int) (rmk 3 68) (KX Z) (AX Z) [.ref (oA Z 0), .int p1] (PX Z HS zkb zdr zky zpn zps ztz ztn zxz zxa zsg za0 za1 za2 za3 za4 zfr zcd zgo ztd ztv zcl zca zwa zpt zpf) (Qi (KX Z) (AX Z) (PX Z HS zkb zdr zky zpn' zps' ztz' ztn' zxz zxa zsg za0 za1 za2 za3 za4 zfr zcd zgo ztd ztv zcl zca zwa zpt zpf) r') := by
  refine Mg.start (lv := [(0, .ref (oA Z 0)), (1, .int p1)]) (by decide) rfl (Nat.le_of_ble_eq_true rfl) rfl ?_
  intro p e s m below meth c F hr hlk C hP ls hl
  have hS : va_S (AX Z) s.heap s.heap [] := va_S.rf
  unfold fX11_tellsChange at hE
  refine lv_iload_n F.1 F.2.1 dX11_tellsChange_0 rfl (lv_at hl 1 rfl) ?_
  refine lv_if_lt (tgt := 37) F.1 F.2.1 dX11_tellsChange_1 (by decide) (fun hc => ?_) (fun hc => ?_)
  · have hE := ifp hE hc
    refine lv_iload_n F.1 F.2.1 dX11_tellsChange_37 rfl (lv_at hl 1 rfl) ?_
    have w0 := Option.some.inj hE
    obtain ⟨g0, w1⟩ := Prod.mk.inj w0
    obtain ⟨g1, w2⟩ := Prod.mk.inj w1
    obtain ⟨g2, w3⟩ := Prod.mk.inj w2
    obtain ⟨g3, w4⟩ := Prod.mk.inj w3
    subst g0 g1 g2 g3 w4
    exact ret_i F hr hlk hP hS dX11_tellsChange_38
  · have hE := ifn hE hc
    refine lv_aload_n F.1 F.2.1 dX11_tellsChange_4 rfl (lv_at hl 0 rfl) ?_
    refine gX11_26 F C hP dX11_tellsChange_5 ?_
    obtain ⟨zpn_366, zps_366, hc, hE⟩ := bnd2_some hE
    refine aft_v (run_N (rest := []) F (kX5_keeps hc) (okX Z) C hS (C.2.2 _ _ mlX11_111 rfl) lkX11_111 ⟨Nat.le_of_ble_eq_true rfl, Nat.le_of_ble_eq_true rfl⟩ (rvo2 C hP) hP rfl hl.1 rfl (lv_room (Nat.le_of_ble_eq_true rfl)) dX11_tellsChange_8 ⟨Nat.zero_le _, Nat.zero_le _⟩) hS (fun H locs hP hS => ?_)
    refine lv_aload_n F.1 F.2.1 dX11_tellsChange_11 rfl (lv_at hl 0 rfl) ?_
    refine gX11_33 F C hP dX11_tellsChange_12 ?_
    refine lv_aload_n F.1 F.2.1 dX11_tellsChange_15 rfl (lv_at hl 0 rfl) ?_
    refine gX11_10 F C hP dX11_tellsChange_16 ?_
    obtain ⟨r367, hc, hE⟩ := bnd1_some hE
    refine aft_i (run_N (rest := [.ref (oA Z 4)]) F (kX3_objects (by decide) rfl hc) (okX Z) C hS (C.2.2 _ _ mlX11_146 rfl) lkX11_146 ⟨Nat.le_of_ble_eq_true rfl, Nat.le_of_ble_eq_true rfl⟩ (rvh0 C hP (by decide)) hP rfl hl.1 rfl (lv_room (Nat.le_of_ble_eq_true rfl)) dX11_tellsChange_19 ⟨Nat.zero_le _, Nat.zero_le _⟩) hS (fun H locs hP hS => ?_)
    refine lv_i2l (v := r367.toInt64) F.1 F.2.1 dX11_tellsChange_22 rfl ?_
    refine lv_aload_n F.1 F.2.1 dX11_tellsChange_23 rfl (lv_at hl 0 rfl) ?_
    refine gX11_10 F C hP dX11_tellsChange_24 ?_
    refine gX11_149 F C hP (by decide) rfl dX11_tellsChange_27 ?_
    refine gX11_153 F C hP (by decide) rfl dX11_tellsChange_30 ?_
    refine lv_i2l (v := ((HS 0) 8 1).toInt64) F.1 F.2.1 dX11_tellsChange_33 rfl ?_
    obtain ⟨ztz_368, ztn_368, hc, hE⟩ := bnd2_some hE
    refine aft_v (run_N (rest := []) F (kX8_tells_ hc) (okX Z) C hS (C.2.2 _ _ mlX11_140 rfl) lkX11_140 ⟨Nat.le_of_ble_eq_true rfl, Nat.le_of_ble_eq_true rfl⟩ (rvo4 C hP) hP rfl hl.1 rfl (lv_room (Nat.le_of_ble_eq_true rfl)) dX11_tellsChange_34 ⟨Nat.zero_le _, Nat.zero_le _⟩) hS (fun H locs hP hS => ?_)
    refine lv_iload_n F.1 F.2.1 dX11_tellsChange_37 rfl (lv_at hl 1 rfl) ?_
    have w0 := Option.some.inj hE
    obtain ⟨g0, w1⟩ := Prod.mk.inj w0
    obtain ⟨g1, w2⟩ := Prod.mk.inj w1
    obtain ⟨g2, w3⟩ := Prod.mk.inj w2
    obtain ⟨g3, w4⟩ := Prod.mk.inj w3
    subst g0 g1 g2 g3 w4
    exact ret_i F hr hlk hP hS dX11_tellsChange_38
set_option maxRecDepth 100000 in
set_option maxHeartbeats 4000000 in
theorem kX11_sets {l : Launch} {Z : ZC} {HS : Nat → Nat → Nat → Int32} {zkb : Int32} {zdr : Int32} {zky : Nat → Int32} {zpn : Int32} {zps : Int32} {ztz : Int32} {ztn : Nat → Int64} {zxz : Int32} {zxa : Int32} {zsg : Nat → Int32} {za0 : Int32} {za1 : Int32} {za2 : Int32} {za3 : Int32} {za4 : Int32} {zfr : Nat → Int32} {zcd : Int32} {zgo : Nat → Int32} {ztd : Int32} {ztv : Int32} {zcl : Nat → Int32} {zca : Nat → Int32} {zwa : Nat → Int32} {zpt : Nat → Int32} {zpf : Nat → Int32} {N : Nat} {p1 : Int32} {p2 : Int32} {p3 : Int32} {r' : Int32} {zpn' : Int32} {zps' : Int32} {ztz' : Int32} {ztn' : Nat → Int64} {za0' : Int32} {za1' : Int32} {za2' : Int32} {za3' : Int32} {za4' : Int32} {zcd' : Int32} {zgo' : Nat → Int32} {ztd' : Int32} {ztv' : Int32} {zcl' : Nat → Int32} {zca' : Nat → Int32} {zwa' : Nat → Int32} {zpt' : Nat → Int32} {zpf' : Nat → Int32} {HS' : Nat → Nat → Nat → Int32} (hE : fX11_sets N zpn zps ztz ztn za0 za1 za2 za3 za4 zcd zgo ztd ztv zcl zca zwa zpt zpf HS p1 p2 p3 = some (r', zpn', zps', ztz', ztn', za0', za1', za2', za3', za4', zcd', zgo', ztd', ztv', zcl', zca', zwa', zpt', zpf', HS')) : Mg l yX11_sets cX11_sets 4 (some .int) (rmk 7 167) (KX Z) (AX Z) [.ref (oA Z 0), .int p1, .int p2, .int p3] (PX Z HS zkb zdr zky zpn zps ztz ztn zxz zxa zsg za0 za1 za2 za3 za4 zfr zcd zgo ztd ztv zcl zca zwa zpt zpf) (Qi (KX Z) (AX Z) (PX Z HS' zkb zdr zky zpn' zps' ztz' ztn' zxz zxa zsg za0' za1' za2' za3' za4' zfr zcd' zgo' ztd' ztv' zcl' zca' zwa' zpt' zpf') r') := by
  refine Mg.start (lv := [(0, .ref (oA Z 0)), (1, .int p1), (2, .int p2), (3, .int p3)]) (by decide) rfl (Nat.le_of_ble_eq_true rfl) rfl ?_
  intro p e s m below meth c F hr hlk C hP ls hl
  have hS : va_S (AX Z) s.heap s.heap [] := va_S.rf
  unfold fX11_sets at hE
  refine lv_aload_n F.1 F.2.1 dX11_sets_0 rfl (lv_at hl 0 rfl) ?_
  refine gX11_47 F C hP dX11_sets_1 ?_
  refine lv_bipush (v := 115) F.1 F.2.1 dX11_sets_4 (by decide) ?_
  refine lv_iload_n F.1 F.2.1 dX11_sets_6 rfl (lv_at hl 1 rfl) ?_
  refine lv_iload_n F.1 F.2.1 dX11_sets_7 rfl (lv_at hl 2 rfl) ?_
  refine lv_iload_n F.1 F.2.1 dX11_sets_8 rfl (lv_at hl 3 rfl) ?_
  refine lv_iconst (v := 0) F.1 F.2.1 dX11_sets_9 (by decide) ?_
  obtain ⟨za0_374, za1_374, za2_374, za3_374, za4_374, hc, hE⟩ := bnd5_some hE
  refine aft_v (run_N (rest := []) F (kX0_becomes hc) (okX Z) C hS (C.2.2 _ _ mlX11_99 rfl) lkX11_99 ⟨Nat.le_of_ble_eq_true rfl, Nat.le_of_ble_eq_true rfl⟩ (rvo8 C hP) hP rfl hl.1 rfl (lv_room (Nat.le_of_ble_eq_true rfl)) dX11_sets_10 ⟨Nat.zero_le _, Nat.zero_le _⟩) hS (fun H locs hP hS => ?_)
  refine lv_aload_n F.1 F.2.1 dX11_sets_13 rfl (lv_at hl 0 rfl) ?_
  refine gX11_26 F C hP dX11_sets_14 ?_
  refine lv_aload_n F.1 F.2.1 dX11_sets_17 rfl (lv_at hl 0 rfl) ?_
  refine gX11_10 F C hP dX11_sets_18 ?_
  obtain ⟨HS_375, hc, hE⟩ := bnd1_some hE
  refine aft_v (run_N (rest := []) F (kX5_marks hc) (okX Z) C hS (C.2.2 _ _ mlX11_103 rfl) lkX11_103 ⟨Nat.le_of_ble_eq_true rfl, Nat.le_of_ble_eq_true rfl⟩ (rvo2 C hP) hP rfl hl.1 rfl (lv_room (Nat.le_of_ble_eq_true rfl)) dX11_sets_21 ⟨Nat.zero_le _, Nat.zero_le _⟩) hS (fun H locs hP hS => ?_)
  refine lv_aload_n F.1 F.2.1 dX11_sets_24 rfl (lv_at hl 0 rfl) ?_
  refine lv_aload_n F.1 F.2.1 dX11_sets_25 rfl (lv_at hl 0 rfl) ?_
  refine gX11_79 F C hP dX11_sets_26 ?_
  refine lv_aload_n F.1 F.2.1 dX11_sets_29 rfl (lv_at hl 0 rfl) ?_
  refine gX11_10 F C hP dX11_sets_30 ?_
  refine lv_aload_n F.1 F.2.1 dX11_sets_33 rfl (lv_at hl 0 rfl) ?_
  refine gX11_47 F C hP dX11_sets_34 ?_
  obtain ⟨r376, zcd_376, zgo_376, ztd_376, ztv_376, zcl_376, zca_376, zwa_376, zpt_376, zpf_376, X_376, hc, hE⟩ := bnd11_some hE
  obtain ⟨HS_377, eHS_377, hE⟩ := lt_some hE
  refine aft_i (run_N (rest := [.ref (oA Z 0)]) F (kX1_does (by decide) rfl eHS_377.symm hc) (okX Z) C hS (C.2.2 _ _ mlX11_107 rfl) lkX11_107 ⟨Nat.le_of_ble_eq_true rfl, Nat.le_of_ble_eq_true rfl⟩ (rvo19 C hP) hP rfl hl.1 rfl (lv_room (Nat.le_of_ble_eq_true rfl)) dX11_sets_37 ⟨Nat.zero_le _, Nat.zero_le _⟩) hS (fun H locs hP hS => ?_)
  obtain ⟨r378, zpn_378, zps_378, ztz_378, ztn_378, hc, hE⟩ := bnd5_some hE
  refine aft_i (run_V (rest := []) F (kX11_tellsChange hc) (okX Z) C hS lkX11_118 ⟨Nat.le_of_ble_eq_true rfl, Nat.le_of_ble_eq_true rfl⟩ (rvo0 C hP) hP rfl hl.1 rfl (lv_room (Nat.le_of_ble_eq_true rfl)) dX11_sets_40 ⟨Nat.zero_le _, Nat.zero_le _⟩) hS (fun H locs hP hS => ?_)
  have w0 := Option.some.inj hE
  obtain ⟨g0, w1⟩ := Prod.mk.inj w0
  obtain ⟨g1, w2⟩ := Prod.mk.inj w1
  obtain ⟨g2, w3⟩ := Prod.mk.inj w2
  obtain ⟨g3, w4⟩ := Prod.mk.inj w3
  obtain ⟨g4, w5⟩ := Prod.mk.inj w4
  obtain ⟨g5, w6⟩ := Prod.mk.inj w5
  obtain ⟨g6, w7⟩ := Prod.mk.inj w6
  obtain ⟨g7, w8⟩ := Prod.mk.inj w7
  obtain ⟨g8, w9⟩ := Prod.mk.inj w8
  obtain ⟨g9, w10⟩ := Prod.mk.inj w9
  obtain ⟨g10, w11⟩ := Prod.mk.inj w10
  obtain ⟨g11, w12⟩ := Prod.mk.inj w11
  obtain ⟨g12, w13⟩ := Prod.mk.inj w12
  obtain ⟨g13, w14⟩ := Prod.mk.inj w13
  obtain ⟨g14, w15⟩ := Prod.mk.inj w14
  obtain ⟨g15, w16⟩ := Prod.mk.inj w15
  obtain ⟨g16, w17⟩ := Prod.mk.inj w16
  obtain ⟨g17, w18⟩ := Prod.mk.inj w17
  obtain ⟨g18, w19⟩ := Prod.mk.inj w18
  subst g0 g1 g2 g3 g4 g5 g6 g7 g8 g9 g10 g11 g12 g13 g14 g15 g16 g17 g18 w19
  exact ret_i F hr hlk hP hS dX11_sets_43
set_option maxRecDepth 100000 in
set_option maxHeartbeats 4000000 in
theorem kX11_roots {l : Launch} {Z : ZC} {HS : Nat → Nat → Nat → Int32} {zkb : Int32} {zdr : Int32} {zky : Nat → Int32} {zpn : Int32} {zps : Int32} {ztz : Int32} {ztn : Nat → Int64} {zxz : Int32} {zxa : Int32} {zsg : Nat → Int32} {za0 : Int32} {za1 : Int32} {za2 : Int32} {za3 : Int32} {za4 : Int32} {zfr : Nat → Int32} {zcd : Int32} {zgo : Nat → Int32} {ztd : Int32} {ztv : Int32} {zcl : Nat → Int32} {zca : Nat → Int32} {zwa : Nat → Int32} {zpt : Nat → Int32} {zpf : Nat → Int32} {N : Nat} {p1 : Int32} {p2 : Int32} {r' : Int32} {zpn' : Int32} {zps' : Int32} {ztz' : Int32} {ztn' : Nat → Int64} {za0' : Int32} {za1' : Int32} {za2' : Int32} {za3' : Int32} {za4' : Int32} {zcd' : Int32} {zgo' : Nat → Int32} {ztd' : Int32} {ztv' : Int32} {zcl' : Nat → Int32} {zca' : Nat → Int32} {zwa' : Nat → Int32} {zpt' : Nat → Int32} {zpf' : Nat → Int32} {HS' : Nat → Nat → Nat → Int32} (hE : fX11_roots N zpn zps ztz ztn za0 za1 za2 za3 za4 zcd zgo ztd ztv zcl zca zwa zpt zpf HS p1 p2 = some (r', zpn', zps', ztz', ztn', za0', za1', za2', za3', za4', zcd', zgo', ztd', ztv', zcl', zca', zwa', zpt', zpf', HS')) : Mg l yX11_roots cX11_roots 3 (some .int) (rmk 7 167) (KX Z) (AX Z) [.ref (oA Z 0), .int p1, .int p2] (PX Z HS zkb zdr zky zpn zps ztz ztn zxz zxa zsg za0 za1 za2 za3 za4 zfr zcd zgo ztd ztv zcl zca zwa zpt zpf) (Qi (KX Z) (AX Z) (PX Z HS' zkb zdr zky zpn' zps' ztz' ztn' zxz zxa zsg za0' za1' za2' za3' za4' zfr zcd' zgo' ztd' ztv' zcl' zca' zwa' zpt' zpf') r') := by
  refine Mg.start (lv := [(0, .ref (oA Z 0)), (1, .int p1), (2, .int p2)]) (by decide) rfl (Nat.le_of_ble_eq_true rfl) rfl ?_
  intro p e s m below meth c F hr hlk C hP ls hl
  have hS : va_S (AX Z) s.heap s.heap [] := va_S.rf
  unfold fX11_roots at hE
  refine lv_aload_n F.1 F.2.1 dX11_roots_0 rfl (lv_at hl 0 rfl) ?_
  refine gX11_47 F C hP dX11_roots_1 ?_
  refine lv_bipush (v := 114) F.1 F.2.1 dX11_roots_4 (by decide) ?_
  refine lv_iload_n F.1 F.2.1 dX11_roots_6 rfl (lv_at hl 1 rfl) ?_
  refine lv_iload_n F.1 F.2.1 dX11_roots_7 rfl (lv_at hl 2 rfl) ?_
  refine lv_iconst (v := 0) F.1 F.2.1 dX11_roots_8 (by decide) ?_
  refine lv_iconst (v := 0) F.1 F.2.1 dX11_roots_9 (by decide) ?_
  obtain ⟨za0_384, za1_384, za2_384, za3_384, za4_384, hc, hE⟩ := bnd5_some hE
  refine aft_v (run_N (rest := []) F (kX0_becomes hc) (okX Z) C hS (C.2.2 _ _ mlX11_99 rfl) lkX11_99 ⟨Nat.le_of_ble_eq_true rfl, Nat.le_of_ble_eq_true rfl⟩ (rvo8 C hP) hP rfl hl.1 rfl (lv_room (Nat.le_of_ble_eq_true rfl)) dX11_roots_10 ⟨Nat.zero_le _, Nat.zero_le _⟩) hS (fun H locs hP hS => ?_)
  refine lv_aload_n F.1 F.2.1 dX11_roots_13 rfl (lv_at hl 0 rfl) ?_
  refine gX11_26 F C hP dX11_roots_14 ?_
  refine lv_aload_n F.1 F.2.1 dX11_roots_17 rfl (lv_at hl 0 rfl) ?_
  refine gX11_10 F C hP dX11_roots_18 ?_
  obtain ⟨HS_385, hc, hE⟩ := bnd1_some hE
  refine aft_v (run_N (rest := []) F (kX5_marks hc) (okX Z) C hS (C.2.2 _ _ mlX11_103 rfl) lkX11_103 ⟨Nat.le_of_ble_eq_true rfl, Nat.le_of_ble_eq_true rfl⟩ (rvo2 C hP) hP rfl hl.1 rfl (lv_room (Nat.le_of_ble_eq_true rfl)) dX11_roots_21 ⟨Nat.zero_le _, Nat.zero_le _⟩) hS (fun H locs hP hS => ?_)
  refine lv_aload_n F.1 F.2.1 dX11_roots_24 rfl (lv_at hl 0 rfl) ?_
  refine lv_aload_n F.1 F.2.1 dX11_roots_25 rfl (lv_at hl 0 rfl) ?_
  refine gX11_79 F C hP dX11_roots_26 ?_
  refine lv_aload_n F.1 F.2.1 dX11_roots_29 rfl (lv_at hl 0 rfl) ?_
  refine gX11_10 F C hP dX11_roots_30 ?_
  refine lv_aload_n F.1 F.2.1 dX11_roots_33 rfl (lv_at hl 0 rfl) ?_
  refine gX11_47 F C hP dX11_roots_34 ?_
  obtain ⟨r386, zcd_386, zgo_386, ztd_386, ztv_386, zcl_386, zca_386, zwa_386, zpt_386, zpf_386, X_386, hc, hE⟩ := bnd11_some hE
  obtain ⟨HS_387, eHS_387, hE⟩ := lt_some hE
  refine aft_i (run_N (rest := [.ref (oA Z 0)]) F (kX1_does (by decide) rfl eHS_387.symm hc) (okX Z) C hS (C.2.2 _ _ mlX11_107 rfl) lkX11_107 ⟨Nat.le_of_ble_eq_true rfl, Nat.le_of_ble_eq_true rfl⟩ (rvo19 C hP) hP rfl hl.1 rfl (lv_room (Nat.le_of_ble_eq_true rfl)) dX11_roots_37 ⟨Nat.zero_le _, Nat.zero_le _⟩) hS (fun H locs hP hS => ?_)
  obtain ⟨r388, zpn_388, zps_388, ztz_388, ztn_388, hc, hE⟩ := bnd5_some hE
  refine aft_i (run_V (rest := []) F (kX11_tellsChange hc) (okX Z) C hS lkX11_118 ⟨Nat.le_of_ble_eq_true rfl, Nat.le_of_ble_eq_true rfl⟩ (rvo0 C hP) hP rfl hl.1 rfl (lv_room (Nat.le_of_ble_eq_true rfl)) dX11_roots_40 ⟨Nat.zero_le _, Nat.zero_le _⟩) hS (fun H locs hP hS => ?_)
  have w0 := Option.some.inj hE
  obtain ⟨g0, w1⟩ := Prod.mk.inj w0
  obtain ⟨g1, w2⟩ := Prod.mk.inj w1
  obtain ⟨g2, w3⟩ := Prod.mk.inj w2
  obtain ⟨g3, w4⟩ := Prod.mk.inj w3
  obtain ⟨g4, w5⟩ := Prod.mk.inj w4
  obtain ⟨g5, w6⟩ := Prod.mk.inj w5
  obtain ⟨g6, w7⟩ := Prod.mk.inj w6
  obtain ⟨g7, w8⟩ := Prod.mk.inj w7
  obtain ⟨g8, w9⟩ := Prod.mk.inj w8
  obtain ⟨g9, w10⟩ := Prod.mk.inj w9
  obtain ⟨g10, w11⟩ := Prod.mk.inj w10
  obtain ⟨g11, w12⟩ := Prod.mk.inj w11
  obtain ⟨g12, w13⟩ := Prod.mk.inj w12
  obtain ⟨g13, w14⟩ := Prod.mk.inj w13
  obtain ⟨g14, w15⟩ := Prod.mk.inj w14
  obtain ⟨g15, w16⟩ := Prod.mk.inj w15
  obtain ⟨g16, w17⟩ := Prod.mk.inj w16
  obtain ⟨g17, w18⟩ := Prod.mk.inj w17
  obtain ⟨g18, w19⟩ := Prod.mk.inj w18
  subst g0 g1 g2 g3 g4 g5 g6 g7 g8 g9 g10 g11 g12 g13 g14 g15 g16 g17 g18 w19
  exact ret_i F hr hlk hP hS dX11_roots_43
set_option maxRecDepth 100000 in
set_option maxHeartbeats 4000000 in
theorem kX11_weaks {l : Launch} {Z : ZC} {HS : Nat → Nat → Nat → Int32} {zkb : Int32} {zdr : Int32} {zky : Nat → Int32} {zpn : Int32} {zps : Int32} {ztz : Int32} {ztn : Nat → Int64} {zxz : Int32} {zxa : Int32} {zsg : Nat → Int32} {za0 : Int32} {za1 : Int32} {za2 : Int32} {za3 : Int32} {za4 : Int32} {zfr : Nat → Int32} {zcd : Int32} {zgo : Nat → Int32} {ztd : Int32} {ztv : Int32} {zcl : Nat → Int32} {zca : Nat → Int32} {zwa : Nat → Int32} {zpt : Nat → Int32} {zpf : Nat → Int32} {N : Nat} {p1 : Int32} {p2 : Int32} {r' : Int32} {zpn' : Int32} {zps' : Int32} {za0' : Int32} {za1' : Int32} {za2' : Int32} {za3' : Int32} {za4' : Int32} {zcd' : Int32} {zgo' : Nat → Int32} {ztd' : Int32} {ztv' : Int32} {zcl' : Nat → Int32} {zca' : Nat → Int32} {zwa' : Nat → Int32} {zpt' : Nat → Int32} {zpf' : Nat → Int32} {HS' : Nat → Nat → Nat → Int32} (hE : fX11_weaks N zpn zps za0 za1 za2 za3 za4 zcd zgo ztd ztv zcl zca zwa zpt zpf HS p1 p2 = some (r', zpn', zps', za0', za1', za2', za3', za4', zcd', zgo', ztd', ztv', zcl', zca', zwa', zpt', zpf', HS')) : Mg l yX11_weaks cX11_weaks 5 (some .int) (rmk 7 167) (KX Z) (AX Z) [.ref (oA Z 0), .int p1, .int p2] (PX Z HS zkb zdr zky zpn zps ztz ztn zxz zxa zsg za0 za1 za2 za3 za4 zfr zcd zgo ztd ztv zcl zca zwa zpt zpf) (Qi (KX Z) (AX Z) (PX Z HS' zkb zdr zky zpn' zps' ztz ztn zxz zxa zsg za0' za1' za2' za3' za4' zfr zcd' zgo' ztd' ztv' zcl' zca' zwa' zpt' zpf') r') := by
  refine Mg.start (lv := [(0, .ref (oA Z 0)), (1, .int p1), (2, .int p2)]) (by decide) rfl (Nat.le_of_ble_eq_true rfl) rfl ?_
  intro p e s m below meth c F hr hlk C hP ls hl
  have hS : va_S (AX Z) s.heap s.heap [] := va_S.rf
  unfold fX11_weaks at hE
  refine lv_aload_n F.1 F.2.1 dX11_weaks_0 rfl (lv_at hl 0 rfl) ?_
  refine gX11_10 F C hP dX11_weaks_1 ?_
  refine lv_iload_n F.1 F.2.1 dX11_weaks_4 rfl (lv_at hl 1 rfl) ?_
  obtain ⟨r395, hc, hE⟩ := bnd1_some hE
  refine aft_i (run_N (rest := []) F (kX3_weakAt (by decide) rfl hc) (okX Z) C hS (C.2.2 _ _ mlX11_122 rfl) lkX11_122 ⟨Nat.le_of_ble_eq_true rfl, Nat.le_of_ble_eq_true rfl⟩ (rvh0 C hP (by decide)) hP rfl hl.1 rfl (lv_room (Nat.le_of_ble_eq_true rfl)) dX11_weaks_5 ⟨Nat.zero_le _, Nat.zero_le _⟩) hS (fun H locs hP hS => ?_)
  refine lv_istore_n (lv' := [(3, .int r395), (0, .ref (oA Z 0)), (1, .int p1), (2, .int p2)]) F.1 F.2.1 dX11_weaks_8 rfl hl (by decide) rfl (fun ls hl => ?_)
  refine lv_aload_n F.1 F.2.1 dX11_weaks_9 rfl (lv_at hl 1 rfl) ?_
  refine gX11_47 F C hP dX11_weaks_10 ?_
  refine lv_bipush (v := 119) F.1 F.2.1 dX11_weaks_13 (by decide) ?_
  refine lv_iload_n F.1 F.2.1 dX11_weaks_15 rfl (lv_at hl 2 rfl) ?_
  refine lv_iload_n F.1 F.2.1 dX11_weaks_16 rfl (lv_at hl 3 rfl) ?_
  refine lv_iconst (v := 0) F.1 F.2.1 dX11_weaks_17 (by decide) ?_
  refine lv_iconst (v := 0) F.1 F.2.1 dX11_weaks_18 (by decide) ?_
  obtain ⟨za0_396, za1_396, za2_396, za3_396, za4_396, hc, hE⟩ := bnd5_some hE
  refine aft_v (run_N (rest := []) F (kX0_becomes hc) (okX Z) C hS (C.2.2 _ _ mlX11_99 rfl) lkX11_99 ⟨Nat.le_of_ble_eq_true rfl, Nat.le_of_ble_eq_true rfl⟩ (rvo8 C hP) hP rfl hl.1 rfl (lv_room (Nat.le_of_ble_eq_true rfl)) dX11_weaks_19 ⟨Nat.zero_le _, Nat.zero_le _⟩) hS (fun H locs hP hS => ?_)
  refine lv_aload_n F.1 F.2.1 dX11_weaks_22 rfl (lv_at hl 1 rfl) ?_
  refine gX11_26 F C hP dX11_weaks_23 ?_
  refine lv_aload_n F.1 F.2.1 dX11_weaks_26 rfl (lv_at hl 1 rfl) ?_
  refine gX11_10 F C hP dX11_weaks_27 ?_
  obtain ⟨HS_397, hc, hE⟩ := bnd1_some hE
  refine aft_v (run_N (rest := []) F (kX5_marks hc) (okX Z) C hS (C.2.2 _ _ mlX11_103 rfl) lkX11_103 ⟨Nat.le_of_ble_eq_true rfl, Nat.le_of_ble_eq_true rfl⟩ (rvo2 C hP) hP rfl hl.1 rfl (lv_room (Nat.le_of_ble_eq_true rfl)) dX11_weaks_30 ⟨Nat.zero_le _, Nat.zero_le _⟩) hS (fun H locs hP hS => ?_)
  refine lv_aload_n F.1 F.2.1 dX11_weaks_33 rfl (lv_at hl 1 rfl) ?_
  refine gX11_79 F C hP dX11_weaks_34 ?_
  refine lv_aload_n F.1 F.2.1 dX11_weaks_37 rfl (lv_at hl 1 rfl) ?_
  refine gX11_10 F C hP dX11_weaks_38 ?_
  refine lv_aload_n F.1 F.2.1 dX11_weaks_41 rfl (lv_at hl 1 rfl) ?_
  refine gX11_47 F C hP dX11_weaks_42 ?_
  obtain ⟨r398, zcd_398, zgo_398, ztd_398, ztv_398, zcl_398, zca_398, zwa_398, zpt_398, zpf_398, X_398, hc, hE⟩ := bnd11_some hE
  obtain ⟨HS_399, eHS_399, hE⟩ := lt_some hE
  refine aft_i (run_N (rest := []) F (kX1_does (by decide) rfl eHS_399.symm hc) (okX Z) C hS (C.2.2 _ _ mlX11_107 rfl) lkX11_107 ⟨Nat.le_of_ble_eq_true rfl, Nat.le_of_ble_eq_true rfl⟩ (rvo19 C hP) hP rfl hl.1 rfl (lv_room (Nat.le_of_ble_eq_true rfl)) dX11_weaks_45 ⟨Nat.zero_le _, Nat.zero_le _⟩) hS (fun H locs hP hS => ?_)
  refine lv_istore (lv' := [(4, .int r398), (3, .int r395), (0, .ref (oA Z 0)), (1, .int p1), (2, .int p2)]) F.1 F.2.1 dX11_weaks_48 hl (by decide) rfl (fun ls hl => ?_)
  refine lv_iload F.1 F.2.1 dX11_weaks_50 (lv_at hl 0 rfl) ?_
  refine lv_if_ge (tgt := 58) F.1 F.2.1 dX11_weaks_52 (by decide) (fun hc => ?_) (fun hc => ?_)
  · have hE := ifp hE hc
    refine lv_aload_n F.1 F.2.1 dX11_weaks_58 rfl (lv_at hl 2 rfl) ?_
    refine gX11_26 F C hP dX11_weaks_59 ?_
    obtain ⟨zpn_400, zps_400, hc, hE⟩ := bnd2_some hE
    refine aft_v (run_N (rest := []) F (kX5_keeps hc) (okX Z) C hS (C.2.2 _ _ mlX11_111 rfl) lkX11_111 ⟨Nat.le_of_ble_eq_true rfl, Nat.le_of_ble_eq_true rfl⟩ (rvo2 C hP) hP rfl hl.1 rfl (lv_room (Nat.le_of_ble_eq_true rfl)) dX11_weaks_62 ⟨Nat.zero_le _, Nat.zero_le _⟩) hS (fun H locs hP hS => ?_)
    refine lv_iload_n F.1 F.2.1 dX11_weaks_65 rfl (lv_at hl 1 rfl) ?_
    have w0 := Option.some.inj hE
    obtain ⟨g0, w1⟩ := Prod.mk.inj w0
    obtain ⟨g1, w2⟩ := Prod.mk.inj w1
    obtain ⟨g2, w3⟩ := Prod.mk.inj w2
    obtain ⟨g3, w4⟩ := Prod.mk.inj w3
    obtain ⟨g4, w5⟩ := Prod.mk.inj w4
    obtain ⟨g5, w6⟩ := Prod.mk.inj w5
    obtain ⟨g6, w7⟩ := Prod.mk.inj w6
    obtain ⟨g7, w8⟩ := Prod.mk.inj w7
    obtain ⟨g8, w9⟩ := Prod.mk.inj w8
    obtain ⟨g9, w10⟩ := Prod.mk.inj w9
    obtain ⟨g10, w11⟩ := Prod.mk.inj w10
    obtain ⟨g11, w12⟩ := Prod.mk.inj w11
    obtain ⟨g12, w13⟩ := Prod.mk.inj w12
    obtain ⟨g13, w14⟩ := Prod.mk.inj w13
    obtain ⟨g14, w15⟩ := Prod.mk.inj w14
    obtain ⟨g15, w16⟩ := Prod.mk.inj w15
    obtain ⟨g16, w17⟩ := Prod.mk.inj w16
    subst g0 g1 g2 g3 g4 g5 g6 g7 g8 g9 g10 g11 g12 g13 g14 g15 g16 w17
    exact ret_i F hr hlk hP hS dX11_weaks_66
  · have hE := ifn hE hc
    refine lv_iload F.1 F.2.1 dX11_weaks_55 (lv_at hl 0 rfl) ?_
    have w0 := Option.some.inj hE
    obtain ⟨g0, w1⟩ := Prod.mk.inj w0
    obtain ⟨g1, w2⟩ := Prod.mk.inj w1
    obtain ⟨g2, w3⟩ := Prod.mk.inj w2
    obtain ⟨g3, w4⟩ := Prod.mk.inj w3
    obtain ⟨g4, w5⟩ := Prod.mk.inj w4
    obtain ⟨g5, w6⟩ := Prod.mk.inj w5
    obtain ⟨g6, w7⟩ := Prod.mk.inj w6
    obtain ⟨g7, w8⟩ := Prod.mk.inj w7
    obtain ⟨g8, w9⟩ := Prod.mk.inj w8
    obtain ⟨g9, w10⟩ := Prod.mk.inj w9
    obtain ⟨g10, w11⟩ := Prod.mk.inj w10
    obtain ⟨g11, w12⟩ := Prod.mk.inj w11
    obtain ⟨g12, w13⟩ := Prod.mk.inj w12
    obtain ⟨g13, w14⟩ := Prod.mk.inj w13
    obtain ⟨g14, w15⟩ := Prod.mk.inj w14
    obtain ⟨g15, w16⟩ := Prod.mk.inj w15
    obtain ⟨g16, w17⟩ := Prod.mk.inj w16
    subst g0 g1 g2 g3 g4 g5 g6 g7 g8 g9 g10 g11 g12 g13 g14 g15 g16 w17
    exact ret_i F hr hlk hP hS dX11_weaks_57
set_option maxRecDepth 100000 in
set_option maxHeartbeats 4000000 in
theorem kX11_wakes {l : Launch} {Z : ZC} {HS : Nat → Nat → Nat → Int32} {zkb : Int32} {zdr : Int32} {zky : Nat → Int32} {zpn : Int32} {zps : Int32} {ztz : Int32} {ztn : Nat → Int64} {zxz : Int32} {zxa : Int32} {zsg : Nat → Int32} {za0 : Int32} {za1 : Int32} {za2 : Int32} {za3 : Int32} {za4 : Int32} {zfr : Nat → Int32} {zcd : Int32} {zgo : Nat → Int32} {ztd : Int32} {ztv : Int32} {zcl : Nat → Int32} {zca : Nat → Int32} {zwa : Nat → Int32} {zpt : Nat → Int32} {zpf : Nat → Int32} {N : Nat} {p1 : Int32} {p2 : Int32} {r' : Int32} {zpn' : Int32} {zps' : Int32} {ztz' : Int32} {ztn' : Nat → Int64} {za0' : Int32} {za1' : Int32} {za2' : Int32} {za3' : Int32} {za4' : Int32} {zcd' : Int32} {zgo' : Nat → Int32} {ztd' : Int32} {ztv' : Int32} {zcl' : Nat → Int32} {zca' : Nat → Int32} {zwa' : Nat → Int32} {zpt' : Nat → Int32} {zpf' : Nat → Int32} {HS' : Nat → Nat → Nat → Int32} (hE : fX11_wakes N zpn zps ztz ztn za0 za1 za2 za3 za4 zcd zgo ztd ztv zcl zca zwa zpt zpf HS p1 p2 = some (r', zpn', zps', ztz', ztn', za0', za1', za2', za3', za4', zcd', zgo', ztd', ztv', zcl', zca', zwa', zpt', zpf', HS')) : Mg l yX11_wakes cX11_wakes 3 (some .int) (rmk 7 167) (KX Z) (AX Z) [.ref (oA Z 0), .int p1, .int p2] (PX Z HS zkb zdr zky zpn zps ztz ztn zxz zxa zsg za0 za1 za2 za3 za4 zfr zcd zgo ztd ztv zcl zca zwa zpt zpf) (Qi (KX Z) (AX Z) (PX Z HS' zkb zdr zky zpn' zps' ztz' ztn' zxz zxa zsg za0' za1' za2' za3' za4' zfr zcd' zgo' ztd' ztv' zcl' zca' zwa' zpt' zpf') r') := by
  refine Mg.start (lv := [(0, .ref (oA Z 0)), (1, .int p1), (2, .int p2)]) (by decide) rfl (Nat.le_of_ble_eq_true rfl) rfl ?_
  intro p e s m below meth c F hr hlk C hP ls hl
  have hS : va_S (AX Z) s.heap s.heap [] := va_S.rf
  unfold fX11_wakes at hE
  refine lv_aload_n F.1 F.2.1 dX11_wakes_0 rfl (lv_at hl 0 rfl) ?_
  refine gX11_47 F C hP dX11_wakes_1 ?_
  refine lv_bipush (v := 107) F.1 F.2.1 dX11_wakes_4 (by decide) ?_
  refine lv_iload_n F.1 F.2.1 dX11_wakes_6 rfl (lv_at hl 1 rfl) ?_
  refine lv_iload_n F.1 F.2.1 dX11_wakes_7 rfl (lv_at hl 2 rfl) ?_
  refine lv_iconst (v := 0) F.1 F.2.1 dX11_wakes_8 (by decide) ?_
  refine lv_iconst (v := 0) F.1 F.2.1 dX11_wakes_9 (by decide) ?_
  obtain ⟨za0_406, za1_406, za2_406, za3_406, za4_406, hc, hE⟩ := bnd5_some hE
  refine aft_v (run_N (rest := []) F (kX0_becomes hc) (okX Z) C hS (C.2.2 _ _ mlX11_99 rfl) lkX11_99 ⟨Nat.le_of_ble_eq_true rfl, Nat.le_of_ble_eq_true rfl⟩ (rvo8 C hP) hP rfl hl.1 rfl (lv_room (Nat.le_of_ble_eq_true rfl)) dX11_wakes_10 ⟨Nat.zero_le _, Nat.zero_le _⟩) hS (fun H locs hP hS => ?_)
  refine lv_aload_n F.1 F.2.1 dX11_wakes_13 rfl (lv_at hl 0 rfl) ?_
  refine gX11_26 F C hP dX11_wakes_14 ?_
  refine lv_aload_n F.1 F.2.1 dX11_wakes_17 rfl (lv_at hl 0 rfl) ?_
  refine gX11_10 F C hP dX11_wakes_18 ?_
  obtain ⟨HS_407, hc, hE⟩ := bnd1_some hE
  refine aft_v (run_N (rest := []) F (kX5_marks hc) (okX Z) C hS (C.2.2 _ _ mlX11_103 rfl) lkX11_103 ⟨Nat.le_of_ble_eq_true rfl, Nat.le_of_ble_eq_true rfl⟩ (rvo2 C hP) hP rfl hl.1 rfl (lv_room (Nat.le_of_ble_eq_true rfl)) dX11_wakes_21 ⟨Nat.zero_le _, Nat.zero_le _⟩) hS (fun H locs hP hS => ?_)
  refine lv_aload_n F.1 F.2.1 dX11_wakes_24 rfl (lv_at hl 0 rfl) ?_
  refine lv_aload_n F.1 F.2.1 dX11_wakes_25 rfl (lv_at hl 0 rfl) ?_
  refine gX11_79 F C hP dX11_wakes_26 ?_
  refine lv_aload_n F.1 F.2.1 dX11_wakes_29 rfl (lv_at hl 0 rfl) ?_
  refine gX11_10 F C hP dX11_wakes_30 ?_
  refine lv_aload_n F.1 F.2.1 dX11_wakes_33 rfl (lv_at hl 0 rfl) ?_
  refine gX11_47 F C hP dX11_wakes_34 ?_
  obtain ⟨r408, zcd_408, zgo_408, ztd_408, ztv_408, zcl_408, zca_408, zwa_408, zpt_408, zpf_408, X_408, hc, hE⟩ := bnd11_some hE
  obtain ⟨HS_409, eHS_409, hE⟩ := lt_some hE
  refine aft_i (run_N (rest := [.ref (oA Z 0)]) F (kX1_does (by decide) rfl eHS_409.symm hc) (okX Z) C hS (C.2.2 _ _ mlX11_107 rfl) lkX11_107 ⟨Nat.le_of_ble_eq_true rfl, Nat.le_of_ble_eq_true rfl⟩ (rvo19 C hP) hP rfl hl.1 rfl (lv_room (Nat.le_of_ble_eq_true rfl)) dX11_wakes_37 ⟨Nat.zero_le _, Nat.zero_le _⟩) hS (fun H locs hP hS => ?_)
  obtain ⟨r410, zpn_410, zps_410, ztz_410, ztn_410, hc, hE⟩ := bnd5_some hE
  refine aft_i (run_V (rest := []) F (kX11_tellsChange hc) (okX Z) C hS lkX11_118 ⟨Nat.le_of_ble_eq_true rfl, Nat.le_of_ble_eq_true rfl⟩ (rvo0 C hP) hP rfl hl.1 rfl (lv_room (Nat.le_of_ble_eq_true rfl)) dX11_wakes_40 ⟨Nat.zero_le _, Nat.zero_le _⟩) hS (fun H locs hP hS => ?_)
  have w0 := Option.some.inj hE
  obtain ⟨g0, w1⟩ := Prod.mk.inj w0
  obtain ⟨g1, w2⟩ := Prod.mk.inj w1
  obtain ⟨g2, w3⟩ := Prod.mk.inj w2
  obtain ⟨g3, w4⟩ := Prod.mk.inj w3
  obtain ⟨g4, w5⟩ := Prod.mk.inj w4
  obtain ⟨g5, w6⟩ := Prod.mk.inj w5
  obtain ⟨g6, w7⟩ := Prod.mk.inj w6
  obtain ⟨g7, w8⟩ := Prod.mk.inj w7
  obtain ⟨g8, w9⟩ := Prod.mk.inj w8
  obtain ⟨g9, w10⟩ := Prod.mk.inj w9
  obtain ⟨g10, w11⟩ := Prod.mk.inj w10
  obtain ⟨g11, w12⟩ := Prod.mk.inj w11
  obtain ⟨g12, w13⟩ := Prod.mk.inj w12
  obtain ⟨g13, w14⟩ := Prod.mk.inj w13
  obtain ⟨g14, w15⟩ := Prod.mk.inj w14
  obtain ⟨g15, w16⟩ := Prod.mk.inj w15
  obtain ⟨g16, w17⟩ := Prod.mk.inj w16
  obtain ⟨g17, w18⟩ := Prod.mk.inj w17
  obtain ⟨g18, w19⟩ := Prod.mk.inj w18
  subst g0 g1 g2 g3 g4 g5 g6 g7 g8 g9 g10 g11 g12 g13 g14 g15 g16 g17 g18 w19
  exact ret_i F hr hlk hP hS dX11_wakes_43
set_option maxRecDepth 100000 in
set_option maxHeartbeats 4000000 in
theorem kX11_trial {l : Launch} {Z : ZC} {HS : Nat → Nat → Nat → Int32} {zkb : Int32} {zdr : Int32} {zky : Nat → Int32} {zpn : Int32} {zps : Int32} {ztz : Int32} {ztn : Nat → Int64} {zxz : Int32} {zxa : Int32} {zsg : Nat → Int32} {za0 : Int32} {za1 : Int32} {za2 : Int32} {za3 : Int32} {za4 : Int32} {zfr : Nat → Int32} {zcd : Int32} {zgo : Nat → Int32} {ztd : Int32} {ztv : Int32} {zcl : Nat → Int32} {zca : Nat → Int32} {zwa : Nat → Int32} {zpt : Nat → Int32} {zpf : Nat → Int32} {N : Nat} {r' : Int32} {zpn' : Int32} {zps' : Int32} {ztz' : Int32} {ztn' : Nat → Int64} {za0' : Int32} {za1' : Int32} {za2' : Int32} {za3' : Int32} {za4' : Int32} {zcd' : Int32} {zgo' : Nat → Int32} {ztd' : Int32} {ztv' : Int32} {zcl' : Nat → Int32} {zca' : Nat → Int32} {zwa' : Nat → Int32} {zpt' : Nat → Int32} {zpf' : Nat → Int32} {HS' : Nat → Nat → Nat → Int32} (hE : fX11_trial N zpn zps ztz ztn za0 za1 za2 za3 za4 zcd zgo ztd ztv zcl zca zwa zpt zpf HS = some (r', zpn', zps', ztz', ztn', za0', za1', za2', za3', za4', zcd', zgo', ztd', ztv', zcl', zca', zwa', zpt', zpf', HS')) : Mg l yX11_trial cX11_trial 4 (some .int) (rmk 7 167) (KX Z) (AX Z) [.ref (oA Z 0)] (PX Z HS zkb zdr zky zpn zps ztz ztn zxz zxa zsg za0 za1 za2 za3 za4 zfr zcd zgo ztd ztv zcl zca zwa zpt zpf) (Qi (KX Z) (AX Z) (PX Z HS' zkb zdr zky zpn' zps' ztz' ztn' zxz zxa zsg za0' za1' za2' za3' za4' zfr zcd' zgo' ztd' ztv' zcl' zca' zwa' zpt' zpf') r') := by
  refine Mg.start (lv := [(0, .ref (oA Z 0))]) (by decide) rfl (Nat.le_of_ble_eq_true rfl) rfl ?_
  intro p e s m below meth c F hr hlk C hP ls hl
  have hS : va_S (AX Z) s.heap s.heap [] := va_S.rf
  unfold fX11_trial at hE
  refine lv_aload_n F.1 F.2.1 dX11_trial_0 rfl (lv_at hl 0 rfl) ?_
  refine gX11_10 F C hP dX11_trial_1 ?_
  refine gX11_125 F C hP (by decide) rfl dX11_trial_4 ?_
  obtain ⟨r420, hc, hE⟩ := bnd1_some hE
  refine aft_i (run_N (rest := []) F (kX4_freed (by decide) rfl hc) (okX Z) C hS (C.2.2 _ _ mlX11_129 rfl) lkX11_129 ⟨Nat.le_of_ble_eq_true rfl, Nat.le_of_ble_eq_true rfl⟩ (rvh10 C hP (by decide)) hP rfl hl.1 rfl (lv_room (Nat.le_of_ble_eq_true rfl)) dX11_trial_7 ⟨Nat.zero_le _, Nat.zero_le _⟩) hS (fun H locs hP hS => ?_)
  refine lv_istore_n (lv' := [(1, .int r420), (0, .ref (oA Z 0))]) F.1 F.2.1 dX11_trial_10 rfl hl (by decide) rfl (fun ls hl => ?_)
  refine lv_aload_n F.1 F.2.1 dX11_trial_11 rfl (lv_at hl 1 rfl) ?_
  refine gX11_10 F C hP dX11_trial_12 ?_
  refine gX11_125 F C hP (by decide) rfl dX11_trial_15 ?_
  refine gX11_134 F C hP (by decide) rfl dX11_trial_18 ?_
  refine lv_iconst (v := 3) F.1 F.2.1 dX11_trial_21 (by decide) ?_
  obtain ⟨hi, hE⟩ := grd_some hE
  refine ah13 F C hP (by decide) rfl hi dX11_trial_22 ?_
  obtain ⟨v_421, ev_421, hE⟩ := lt_some hE
  refine lv_seti ev_421 ?_
  refine lv_istore_n (lv' := [(2, .int v_421), (1, .int r420), (0, .ref (oA Z 0))]) F.1 F.2.1 dX11_trial_23 rfl hl (by decide) rfl (fun ls hl => ?_)
  refine lv_aload_n F.1 F.2.1 dX11_trial_24 rfl (lv_at hl 2 rfl) ?_
  refine gX11_47 F C hP dX11_trial_25 ?_
  refine lv_bipush (v := 116) F.1 F.2.1 dX11_trial_28 (by decide) ?_
  refine lv_iconst (v := 0) F.1 F.2.1 dX11_trial_30 (by decide) ?_
  refine lv_iconst (v := 0) F.1 F.2.1 dX11_trial_31 (by decide) ?_
  refine lv_iconst (v := 0) F.1 F.2.1 dX11_trial_32 (by decide) ?_
  refine lv_iconst (v := 0) F.1 F.2.1 dX11_trial_33 (by decide) ?_
  obtain ⟨za0_422, za1_422, za2_422, za3_422, za4_422, hc, hE⟩ := bnd5_some hE
  refine aft_v (run_N (rest := []) F (kX0_becomes hc) (okX Z) C hS (C.2.2 _ _ mlX11_99 rfl) lkX11_99 ⟨Nat.le_of_ble_eq_true rfl, Nat.le_of_ble_eq_true rfl⟩ (rvo8 C hP) hP rfl hl.1 rfl (lv_room (Nat.le_of_ble_eq_true rfl)) dX11_trial_34 ⟨Nat.zero_le _, Nat.zero_le _⟩) hS (fun H locs hP hS => ?_)
  refine lv_aload_n F.1 F.2.1 dX11_trial_37 rfl (lv_at hl 2 rfl) ?_
  refine gX11_26 F C hP dX11_trial_38 ?_
  refine lv_aload_n F.1 F.2.1 dX11_trial_41 rfl (lv_at hl 2 rfl) ?_
  refine gX11_10 F C hP dX11_trial_42 ?_
  obtain ⟨HS_423, hc, hE⟩ := bnd1_some hE
  refine aft_v (run_N (rest := []) F (kX5_marks hc) (okX Z) C hS (C.2.2 _ _ mlX11_103 rfl) lkX11_103 ⟨Nat.le_of_ble_eq_true rfl, Nat.le_of_ble_eq_true rfl⟩ (rvo2 C hP) hP rfl hl.1 rfl (lv_room (Nat.le_of_ble_eq_true rfl)) dX11_trial_45 ⟨Nat.zero_le _, Nat.zero_le _⟩) hS (fun H locs hP hS => ?_)
  refine lv_aload_n F.1 F.2.1 dX11_trial_48 rfl (lv_at hl 2 rfl) ?_
  refine gX11_79 F C hP dX11_trial_49 ?_
  refine lv_aload_n F.1 F.2.1 dX11_trial_52 rfl (lv_at hl 2 rfl) ?_
  refine gX11_10 F C hP dX11_trial_53 ?_
  refine lv_aload_n F.1 F.2.1 dX11_trial_56 rfl (lv_at hl 2 rfl) ?_
  refine gX11_47 F C hP dX11_trial_57 ?_
  obtain ⟨r424, zcd_424, zgo_424, ztd_424, ztv_424, zcl_424, zca_424, zwa_424, zpt_424, zpf_424, X_424, hc, hE⟩ := bnd11_some hE
  obtain ⟨HS_425, eHS_425, hE⟩ := lt_some hE
  refine aft_i (run_N (rest := []) F (kX1_does (by decide) rfl eHS_425.symm hc) (okX Z) C hS (C.2.2 _ _ mlX11_107 rfl) lkX11_107 ⟨Nat.le_of_ble_eq_true rfl, Nat.le_of_ble_eq_true rfl⟩ (rvo19 C hP) hP rfl hl.1 rfl (lv_room (Nat.le_of_ble_eq_true rfl)) dX11_trial_60 ⟨Nat.zero_le _, Nat.zero_le _⟩) hS (fun H locs hP hS => ?_)
  refine lv_istore_n (lv' := [(3, .int r424), (2, .int v_421), (1, .int r420), (0, .ref (oA Z 0))]) F.1 F.2.1 dX11_trial_63 rfl hl (by decide) rfl (fun ls hl => ?_)
  refine lv_iload_n F.1 F.2.1 dX11_trial_64 rfl (lv_at hl 0 rfl) ?_
  refine lv_if_ge (tgt := 70) F.1 F.2.1 dX11_trial_65 (by decide) (fun hc => ?_) (fun hc => ?_)
  · have hE := ifp hE hc
    refine lv_aload_n F.1 F.2.1 dX11_trial_70 rfl (lv_at hl 3 rfl) ?_
    refine gX11_26 F C hP dX11_trial_71 ?_
    obtain ⟨zpn_426, zps_426, hc, hE⟩ := bnd2_some hE
    refine aft_v (run_N (rest := []) F (kX5_keeps hc) (okX Z) C hS (C.2.2 _ _ mlX11_111 rfl) lkX11_111 ⟨Nat.le_of_ble_eq_true rfl, Nat.le_of_ble_eq_true rfl⟩ (rvo2 C hP) hP rfl hl.1 rfl (lv_room (Nat.le_of_ble_eq_true rfl)) dX11_trial_74 ⟨Nat.zero_le _, Nat.zero_le _⟩) hS (fun H locs hP hS => ?_)
    refine lv_aload_n F.1 F.2.1 dX11_trial_77 rfl (lv_at hl 3 rfl) ?_
    refine gX11_33 F C hP dX11_trial_78 ?_
    refine lv_aload_n F.1 F.2.1 dX11_trial_81 rfl (lv_at hl 3 rfl) ?_
    refine gX11_10 F C hP dX11_trial_82 ?_
    refine gX11_125 F C hP (by decide) rfl dX11_trial_85 ?_
    refine gX11_134 F C hP (by decide) rfl dX11_trial_88 ?_
    refine lv_iconst (v := 3) F.1 F.2.1 dX11_trial_91 (by decide) ?_
    obtain ⟨hi, hE⟩ := grd_some hE
    refine ah13 F C hP (by decide) rfl hi dX11_trial_92 ?_
    refine lv_iload_n F.1 F.2.1 dX11_trial_93 rfl (lv_at hl 1 rfl) ?_
    refine lv_isub F.1 F.2.1 dX11_trial_94 ?_
    refine lv_i2l (v := (((HS_425 0) 13 (3 : Int32).toNatClampNeg) - v_421).toInt64) F.1 F.2.1 dX11_trial_95 rfl ?_
    refine lv_aload_n F.1 F.2.1 dX11_trial_96 rfl (lv_at hl 3 rfl) ?_
    refine gX11_70 F C hP dX11_trial_97 ?_
    refine gX11_137 F C hP dX11_trial_100 ?_
    refine lv_i2l (v := ztv_424.toInt64) F.1 F.2.1 dX11_trial_103 rfl ?_
    obtain ⟨ztz_427, ztn_427, hc, hE⟩ := bnd2_some hE
    refine aft_v (run_N (rest := []) F (kX8_tells_ hc) (okX Z) C hS (C.2.2 _ _ mlX11_140 rfl) lkX11_140 ⟨Nat.le_of_ble_eq_true rfl, Nat.le_of_ble_eq_true rfl⟩ (rvo4 C hP) hP rfl hl.1 rfl (lv_room (Nat.le_of_ble_eq_true rfl)) dX11_trial_104 ⟨Nat.zero_le _, Nat.zero_le _⟩) hS (fun H locs hP hS => ?_)
    refine lv_aload_n F.1 F.2.1 dX11_trial_107 rfl (lv_at hl 3 rfl) ?_
    refine gX11_10 F C hP dX11_trial_108 ?_
    refine gX11_125 F C hP (by decide) rfl dX11_trial_111 ?_
    obtain ⟨r428, hc, hE⟩ := bnd1_some hE
    refine aft_i (run_N (rest := []) F (kX4_freed (by decide) rfl hc) (okX Z) C hS (C.2.2 _ _ mlX11_129 rfl) lkX11_129 ⟨Nat.le_of_ble_eq_true rfl, Nat.le_of_ble_eq_true rfl⟩ (rvh10 C hP (by decide)) hP rfl hl.1 rfl (lv_room (Nat.le_of_ble_eq_true rfl)) dX11_trial_114 ⟨Nat.zero_le _, Nat.zero_le _⟩) hS (fun H locs hP hS => ?_)
    refine lv_iload_n F.1 F.2.1 dX11_trial_117 rfl (lv_at hl 2 rfl) ?_
    refine lv_isub F.1 F.2.1 dX11_trial_118 ?_
    have w0 := Option.some.inj hE
    obtain ⟨g0, w1⟩ := Prod.mk.inj w0
    obtain ⟨g1, w2⟩ := Prod.mk.inj w1
    obtain ⟨g2, w3⟩ := Prod.mk.inj w2
    obtain ⟨g3, w4⟩ := Prod.mk.inj w3
    obtain ⟨g4, w5⟩ := Prod.mk.inj w4
    obtain ⟨g5, w6⟩ := Prod.mk.inj w5
    obtain ⟨g6, w7⟩ := Prod.mk.inj w6
    obtain ⟨g7, w8⟩ := Prod.mk.inj w7
    obtain ⟨g8, w9⟩ := Prod.mk.inj w8
    obtain ⟨g9, w10⟩ := Prod.mk.inj w9
    obtain ⟨g10, w11⟩ := Prod.mk.inj w10
    obtain ⟨g11, w12⟩ := Prod.mk.inj w11
    obtain ⟨g12, w13⟩ := Prod.mk.inj w12
    obtain ⟨g13, w14⟩ := Prod.mk.inj w13
    obtain ⟨g14, w15⟩ := Prod.mk.inj w14
    obtain ⟨g15, w16⟩ := Prod.mk.inj w15
    obtain ⟨g16, w17⟩ := Prod.mk.inj w16
    obtain ⟨g17, w18⟩ := Prod.mk.inj w17
    obtain ⟨g18, w19⟩ := Prod.mk.inj w18
    subst g0 g1 g2 g3 g4 g5 g6 g7 g8 g9 g10 g11 g12 g13 g14 g15 g16 g17 g18 w19
    exact ret_i F hr hlk hP hS dX11_trial_119
  · have hE := ifn hE hc
    refine lv_iload_n F.1 F.2.1 dX11_trial_68 rfl (lv_at hl 0 rfl) ?_
    have w0 := Option.some.inj hE
    obtain ⟨g0, w1⟩ := Prod.mk.inj w0
    obtain ⟨g1, w2⟩ := Prod.mk.inj w1
    obtain ⟨g2, w3⟩ := Prod.mk.inj w2
    obtain ⟨g3, w4⟩ := Prod.mk.inj w3
    obtain ⟨g4, w5⟩ := Prod.mk.inj w4
    obtain ⟨g5, w6⟩ := Prod.mk.inj w5
    obtain ⟨g6, w7⟩ := Prod.mk.inj w6
    obtain ⟨g7, w8⟩ := Prod.mk.inj w7
    obtain ⟨g8, w9⟩ := Prod.mk.inj w8
    obtain ⟨g9, w10⟩ := Prod.mk.inj w9
    obtain ⟨g10, w11⟩ := Prod.mk.inj w10
    obtain ⟨g11, w12⟩ := Prod.mk.inj w11
    obtain ⟨g12, w13⟩ := Prod.mk.inj w12
    obtain ⟨g13, w14⟩ := Prod.mk.inj w13
    obtain ⟨g14, w15⟩ := Prod.mk.inj w14
    obtain ⟨g15, w16⟩ := Prod.mk.inj w15
    obtain ⟨g16, w17⟩ := Prod.mk.inj w16
    obtain ⟨g17, w18⟩ := Prod.mk.inj w17
    obtain ⟨g18, w19⟩ := Prod.mk.inj w18
    subst g0 g1 g2 g3 g4 g5 g6 g7 g8 g9 g10 g11 g12 g13 g14 g15 g16 g17 g18 w19
    exact ret_i F hr hlk hP hS dX11_trial_69
set_option maxRecDepth 100000 in
set_option maxHeartbeats 4000000 in
theorem kX11_limit {l : Launch} {Z : ZC} {HS : Nat → Nat → Nat → Int32} {zkb : Int32} {zdr : Int32} {zky : Nat → Int32} {zpn : Int32} {zps : Int32} {ztz : Int32} {ztn : Nat → Int64} {zxz : Int32} {zxa : Int32} {zsg : Nat → Int32} {za0 : Int32} {za1 : Int32} {za2 : Int32} {za3 : Int32} {za4 : Int32} {zfr : Nat → Int32} {zcd : Int32} {zgo : Nat → Int32} {ztd : Int32} {ztv : Int32} {zcl : Nat → Int32} {zca : Nat → Int32} {zwa : Nat → Int32} {zpt : Nat → Int32} {zpf : Nat → Int32} {p1 : Int32} {r' : Int32} {zpn' : Int32} {zps' : Int32} {HS' : Nat → Nat → Nat → Int32} (hE : fX11_limit zpn zps HS p1 = some (r', zpn', zps', HS')) : Mg l yX11_limit cX11_limit 3 (some .int) (rmk 4 89) (KX Z) (AX Z) [.ref (oA Z 0), .int p1] (PX Z HS zkb zdr zky zpn zps ztz ztn zxz zxa zsg za0 za1 za2 za3 za4 zfr zcd zgo ztd ztv zcl zca zwa zpt zpf) (Qi (KX Z) (AX Z) (PX Z HS' zkb zdr zky zpn' zps' ztz ztn zxz zxa zsg za0 za1 za2 za3 za4 zfr zcd zgo ztd ztv zcl zca zwa zpt zpf) r') := by
  refine Mg.start (lv := [(0, .ref (oA Z 0)), (1, .int p1)]) (by decide) rfl (Nat.le_of_ble_eq_true rfl) rfl ?_
  intro p e s m below meth c F hr hlk C hP ls hl
  have hS : va_S (AX Z) s.heap s.heap [] := va_S.rf
  unfold fX11_limit at hE
  refine lv_iload_n F.1 F.2.1 dX11_limit_0 rfl (lv_at hl 1 rfl) ?_
  refine lv_iconst (v := 1) F.1 F.2.1 dX11_limit_1 (by decide) ?_
  refine lv_icmp_lt (tgt := 11) F.1 F.2.1 dX11_limit_2 (by decide) (fun hc => ?_) (fun hc => ?_)
  · have hE := ifp hE hc
    refine lv_iconst (v := (-1)) F.1 F.2.1 dX11_limit_11 (by decide) ?_
    have w0 := Option.some.inj hE
    obtain ⟨g0, w1⟩ := Prod.mk.inj w0
    obtain ⟨g1, w2⟩ := Prod.mk.inj w1
    obtain ⟨g2, w3⟩ := Prod.mk.inj w2
    subst g0 g1 g2 w3
    exact ret_i F hr hlk hP hS dX11_limit_12
  · have hE := ifn hE hc
    refine lv_iload_n F.1 F.2.1 dX11_limit_5 rfl (lv_at hl 1 rfl) ?_
    refine lv_bipush (v := 24) F.1 F.2.1 dX11_limit_6 (by decide) ?_
    refine lv_icmp_le (tgt := 13) F.1 F.2.1 dX11_limit_8 (by decide) (fun hc => ?_) (fun hc => ?_)
    · have hE := ifp hE hc
      refine lv_aload_n F.1 F.2.1 dX11_limit_13 rfl (lv_at hl 0 rfl) ?_
      refine gX11_10 F C hP dX11_limit_14 ?_
      refine gX11_143 F C hP (by decide) rfl dX11_limit_17 ?_
      refine lv_istore_n (lv' := [(2, .int ((HS 0) 0 2)), (0, .ref (oA Z 0)), (1, .int p1)]) F.1 F.2.1 dX11_limit_20 rfl hl (by decide) rfl (fun ls hl => ?_)
      refine lv_iload_n F.1 F.2.1 dX11_limit_21 rfl (lv_at hl 2 rfl) ?_
      refine lv_iload_n F.1 F.2.1 dX11_limit_22 rfl (lv_at hl 0 rfl) ?_
      refine lv_icmp_ne (tgt := 29) F.1 F.2.1 dX11_limit_23 (by decide) (fun hc => ?_) (fun hc => ?_)
      · have hE := ifn hE hc
        refine lv_aload_n F.1 F.2.1 dX11_limit_29 rfl (lv_at hl 1 rfl) ?_
        refine gX11_26 F C hP dX11_limit_30 ?_
        refine lv_aload_n F.1 F.2.1 dX11_limit_33 rfl (lv_at hl 1 rfl) ?_
        refine gX11_10 F C hP dX11_limit_34 ?_
        obtain ⟨HS_432, hc, hE⟩ := bnd1_some hE
        refine aft_v (run_N (rest := []) F (kX5_marks hc) (okX Z) C hS (C.2.2 _ _ mlX11_103 rfl) lkX11_103 ⟨Nat.le_of_ble_eq_true rfl, Nat.le_of_ble_eq_true rfl⟩ (rvo2 C hP) hP rfl hl.1 rfl (lv_room (Nat.le_of_ble_eq_true rfl)) dX11_limit_37 ⟨Nat.zero_le _, Nat.zero_le _⟩) hS (fun H locs hP hS => ?_)
        refine lv_aload_n F.1 F.2.1 dX11_limit_40 rfl (lv_at hl 1 rfl) ?_
        refine gX11_10 F C hP dX11_limit_41 ?_
        refine lv_iload_n F.1 F.2.1 dX11_limit_44 rfl (lv_at hl 2 rfl) ?_
        obtain ⟨HS_433, eHS_433, hE⟩ := lt_some hE
        refine pX11_143 F C hP (by decide) rfl hS eHS_433.symm dX11_limit_45 (fun H locs hP hS => ?_)
        refine lv_aload_n F.1 F.2.1 dX11_limit_48 rfl (lv_at hl 1 rfl) ?_
        refine gX11_26 F C hP dX11_limit_49 ?_
        obtain ⟨zpn_434, zps_434, hc, hE⟩ := bnd2_some hE
        refine aft_v (run_N (rest := []) F (kX5_keeps hc) (okX Z) C hS (C.2.2 _ _ mlX11_111 rfl) lkX11_111 ⟨Nat.le_of_ble_eq_true rfl, Nat.le_of_ble_eq_true rfl⟩ (rvo2 C hP) hP rfl hl.1 rfl (lv_room (Nat.le_of_ble_eq_true rfl)) dX11_limit_52 ⟨Nat.zero_le _, Nat.zero_le _⟩) hS (fun H locs hP hS => ?_)
        refine lv_iload_n F.1 F.2.1 dX11_limit_55 rfl (lv_at hl 0 rfl) ?_
        have w0 := Option.some.inj hE
        obtain ⟨g0, w1⟩ := Prod.mk.inj w0
        obtain ⟨g1, w2⟩ := Prod.mk.inj w1
        obtain ⟨g2, w3⟩ := Prod.mk.inj w2
        subst g0 g1 g2 w3
        exact ret_i F hr hlk hP hS dX11_limit_56
      · have hE := ifp hE hc
        refine lv_bipush (v := (-2)) F.1 F.2.1 dX11_limit_26 (by decide) ?_
        have w0 := Option.some.inj hE
        obtain ⟨g0, w1⟩ := Prod.mk.inj w0
        obtain ⟨g1, w2⟩ := Prod.mk.inj w1
        obtain ⟨g2, w3⟩ := Prod.mk.inj w2
        subst g0 g1 g2 w3
        exact ret_i F hr hlk hP hS dX11_limit_28
    · have hE := ifn hE hc
      refine lv_iconst (v := (-1)) F.1 F.2.1 dX11_limit_11 (by decide) ?_
      have w0 := Option.some.inj hE
      obtain ⟨g0, w1⟩ := Prod.mk.inj w0
      obtain ⟨g1, w2⟩ := Prod.mk.inj w1
      obtain ⟨g2, w3⟩ := Prod.mk.inj w2
      subst g0 g1 g2 w3
      exact ret_i F hr hlk hP hS dX11_limit_12
set_option maxRecDepth 100000 in
set_option maxHeartbeats 4000000 in
theorem qX11_all_99 {p : Program} {l : Launch} {e : Env} {s : State} {m : MethodId} {args : Array Value} {below : List Frame} {meth : Method} {c : Code} {Z : ZC} {HS : Nat → Nat → Nat → Int32} {zkb : Int32} {zdr : Int32} {zky : Nat → Int32} {zpn : Int32} {zps : Int32} {zxz : Int32} {zxa : Int32} {zsg : Nat → Int32} {za0 : Int32} {za1 : Int32} {za2 : Int32} {za3 : Int32} {za4 : Int32} {zfr : Nat → Int32} {zcd : Int32} {zgo : Nat → Int32} {ztd : Int32} {ztv : Int32} {zcl : Nat → Int32} {zca : Nat → Int32} {zwa : Nat → Int32} {zpt : Nat → Int32} {zpf : Nat → Int32} {N : Nat} {p1 : Int32} {r' : Int32} {ztz' : Int32} {ztn' : Nat → Int64} (F : CallFix p m c cX11_all 3 s args bigW RX11) (hr : meth.sig.returnType = (some .int)) (hlk : meth.locks = false) (C : KX Z s) : ∀ (ztz : Int32) (ztn : Nat → Int64) (x2 : Int32), fX11_all_99 N HS p1 ztz ztn x2 = some (r', ztz', ztn') → ∀ (H : Heap) (locs : List Loc), PX Z HS zkb zdr zky zpn zps ztz ztn zxz zxa zsg za0 za1 za2 za3 za4 zfr zcd zgo ztd ztv zcl zca zwa zpt zpf H → va_S (AX Z) s.heap H locs → ∀ ls : Array Slot, lv_has ls 3 [(0, .ref (oA Z 0)), (2, .int x2)] → W p l e (rmk 4 95) s m args below meth c H locs 0 0 (MQ below (Qi (KX Z) (AX Z) (PX Z HS zkb zdr zky zpn zps ztz' ztn' zxz zxa zsg za0 za1 za2 za3 za4 zfr zcd zgo ztd ztv zcl zca zwa zpt zpf) r') args s 0 0 (AX Z)) (F0 m 99 ls []) := by
  intro ztz ztn x2 hE H locs hP hS ls hl
  unfold fX11_all_99 at hE
  refine lv_aload_n F.1 F.2.1 dX11_all_99 rfl (lv_at hl 0 rfl) ?_
  refine gX11_33 F C hP dX11_all_100 ?_
  refine lv_aload_n F.1 F.2.1 dX11_all_103 rfl (lv_at hl 0 rfl) ?_
  refine gX11_10 F C hP dX11_all_104 ?_
  refine lv_iload_n F.1 F.2.1 dX11_all_107 rfl (lv_at hl 1 rfl) ?_
  obtain ⟨r447, hc, hE⟩ := bnd1_some hE
  refine aft_i (run_N (rest := [.ref (oA Z 4)]) F (kX3_weightOf (by decide) rfl hc) (okX Z) C hS (C.2.2 _ _ mlX11_214 rfl) lkX11_214 ⟨Nat.le_of_ble_eq_true rfl, Nat.le_of_ble_eq_true rfl⟩ (rvh0 C hP (by decide)) hP rfl hl.1 rfl (lv_room (Nat.le_of_ble_eq_true rfl)) dX11_all_108 ⟨Nat.zero_le _, Nat.zero_le _⟩) hS (fun H locs hP hS => ?_)
  refine lv_i2l (v := r447.toInt64) F.1 F.2.1 dX11_all_111 rfl ?_
  obtain ⟨ztz_448, ztn_448, hc, hE⟩ := bnd2_some hE
  refine aft_v (run_N (rest := []) F (kX8_tells hc) (okX Z) C hS (C.2.2 _ _ mlX11_114 rfl) lkX11_114 ⟨Nat.le_of_ble_eq_true rfl, Nat.le_of_ble_eq_true rfl⟩ (rvo4 C hP) hP rfl hl.1 rfl (lv_room (Nat.le_of_ble_eq_true rfl)) dX11_all_112 ⟨Nat.zero_le _, Nat.zero_le _⟩) hS (fun H locs hP hS => ?_)
  refine lv_iload_n F.1 F.2.1 dX11_all_115 rfl (lv_at hl 1 rfl) ?_
  have w0 := Option.some.inj hE
  obtain ⟨g0, w1⟩ := Prod.mk.inj w0
  obtain ⟨g1, w2⟩ := Prod.mk.inj w1
  subst g0 g1 w2
  exact ret_i F hr hlk hP hS dX11_all_116
set_option maxRecDepth 100000 in
set_option maxHeartbeats 4000000 in
theorem kX11_all {l : Launch} {Z : ZC} {HS : Nat → Nat → Nat → Int32} {zkb : Int32} {zdr : Int32} {zky : Nat → Int32} {zpn : Int32} {zps : Int32} {ztz : Int32} {ztn : Nat → Int64} {zxz : Int32} {zxa : Int32} {zsg : Nat → Int32} {za0 : Int32} {za1 : Int32} {za2 : Int32} {za3 : Int32} {za4 : Int32} {zfr : Nat → Int32} {zcd : Int32} {zgo : Nat → Int32} {ztd : Int32} {ztv : Int32} {zcl : Nat → Int32} {zca : Nat → Int32} {zwa : Nat → Int32} {zpt : Nat → Int32} {zpf : Nat → Int32} {N : Nat} {p1 : Int32} {r' : Int32} {ztz' : Int32} {ztn' : Nat → Int64} (hE : fX11_all N ztz ztn HS p1 = some (r', ztz', ztn')) : Mg l yX11_all cX11_all 3 (some .int) (rmk 4 95) (KX Z) (AX Z) [.ref (oA Z 0), .int p1] (PX Z HS zkb zdr zky zpn zps ztz ztn zxz zxa zsg za0 za1 za2 za3 za4 zfr zcd zgo ztd ztv zcl zca zwa zpt zpf) (Qi (KX Z) (AX Z) (PX Z HS zkb zdr zky zpn zps ztz' ztn' zxz zxa zsg za0 za1 za2 za3 za4 zfr zcd zgo ztd ztv zcl zca zwa zpt zpf) r') := by
  refine Mg.start (lv := [(0, .ref (oA Z 0)), (1, .int p1)]) (by decide) rfl (Nat.le_of_ble_eq_true rfl) rfl ?_
  intro p e s m below meth c F hr hlk C hP ls hl
  have hS : va_S (AX Z) s.heap s.heap [] := va_S.rf
  unfold fX11_all at hE
  refine lv_iload_n F.1 F.2.1 dX11_all_0 rfl (lv_at hl 1 rfl) ?_
  by_cases hc0 : p1 = 0
  · have hE := ifp hE hc0
    refine lv_tableIn (tgt := 32) (off := 31) F.1 F.2.1 dX11_all_1 (by rw [hc0]; decide) (by rw [hc0]; decide) (by rw [hc0]; rfl) (by decide) ?_
    refine lv_aload_n F.1 F.2.1 dX11_all_32 rfl (lv_at hl 0 rfl) ?_
    refine gX11_10 F C hP dX11_all_33 ?_
    refine gX11_208 F C hP (by decide) rfl dX11_all_36 ?_
    refine lv_istore_n (lv' := [(2, .int ((HS 0) 0 0)), (0, .ref (oA Z 0)), (1, .int p1)]) F.1 F.2.1 dX11_all_39 rfl hl (by decide) rfl (fun ls hl => ?_)
    refine lv_goto (tgt := 99) F.1 F.2.1 dX11_all_40 (by decide) ?_
    exact qX11_all_99 F hr hlk C ztz ztn ((HS 0) 0 0) hE _ _ hP hS ls (lv_sub hl [1, 0] rfl)
  have hE := ifn hE hc0
  by_cases hc1 : p1 = 1
  · have hE := ifp hE hc1
    refine lv_tableIn (tgt := 43) (off := 42) F.1 F.2.1 dX11_all_1 (by rw [hc1]; decide) (by rw [hc1]; decide) (by rw [hc1]; rfl) (by decide) ?_
    refine lv_aload_n F.1 F.2.1 dX11_all_43 rfl (lv_at hl 0 rfl) ?_
    refine gX11_54 F C hP dX11_all_44 ?_
    refine lv_aload_n F.1 F.2.1 dX11_all_47 rfl (lv_at hl 0 rfl) ?_
    refine gX11_10 F C hP dX11_all_48 ?_
    obtain ⟨r444, hc, hE⟩ := bnd1_some hE
    refine aft_i (run_N (rest := []) F (kX10_reached (by decide) rfl hc) (okX Z) C hS (C.2.2 _ _ mlX11_188 rfl) lkX11_188 ⟨Nat.le_of_ble_eq_true rfl, Nat.le_of_ble_eq_true rfl⟩ (rvo9 C hP) hP rfl hl.1 rfl (lv_room (Nat.le_of_ble_eq_true rfl)) dX11_all_51 ⟨Nat.zero_le _, Nat.zero_le _⟩) hS (fun H locs hP hS => ?_)
    refine lv_istore_n (lv' := [(2, .int r444), (0, .ref (oA Z 0)), (1, .int p1)]) F.1 F.2.1 dX11_all_54 rfl hl (by decide) rfl (fun ls hl => ?_)
    refine lv_goto (tgt := 99) F.1 F.2.1 dX11_all_55 (by decide) ?_
    exact qX11_all_99 F hr hlk C ztz ztn r444 hE _ _ hP hS ls (lv_sub hl [1, 0] rfl)
  have hE := ifn hE hc1
  by_cases hc2 : p1 = 2
  · have hE := ifp hE hc2
    refine lv_tableIn (tgt := 58) (off := 57) F.1 F.2.1 dX11_all_1 (by rw [hc2]; decide) (by rw [hc2]; decide) (by rw [hc2]; rfl) (by decide) ?_
    refine lv_aload_n F.1 F.2.1 dX11_all_58 rfl (lv_at hl 0 rfl) ?_
    refine gX11_10 F C hP dX11_all_59 ?_
    refine gX11_208 F C hP (by decide) rfl dX11_all_62 ?_
    refine lv_aload_n F.1 F.2.1 dX11_all_65 rfl (lv_at hl 0 rfl) ?_
    refine gX11_54 F C hP dX11_all_66 ?_
    refine lv_aload_n F.1 F.2.1 dX11_all_69 rfl (lv_at hl 0 rfl) ?_
    refine gX11_10 F C hP dX11_all_70 ?_
    obtain ⟨r445, hc, hE⟩ := bnd1_some hE
    refine aft_i (run_N (rest := [.int ((HS 0) 0 0)]) F (kX10_reached (by decide) rfl hc) (okX Z) C hS (C.2.2 _ _ mlX11_188 rfl) lkX11_188 ⟨Nat.le_of_ble_eq_true rfl, Nat.le_of_ble_eq_true rfl⟩ (rvo9 C hP) hP rfl hl.1 rfl (lv_room (Nat.le_of_ble_eq_true rfl)) dX11_all_73 ⟨Nat.zero_le _, Nat.zero_le _⟩) hS (fun H locs hP hS => ?_)
    refine lv_iconst (v := (-1)) F.1 F.2.1 dX11_all_76 (by decide) ?_
    refine lv_ixor F.1 F.2.1 dX11_all_77 ?_
    refine lv_iand F.1 F.2.1 dX11_all_78 ?_
    obtain ⟨v_446, ev_446, hE⟩ := lt_some hE
    refine lv_seti ev_446 ?_
    refine lv_istore_n (lv' := [(2, .int v_446), (0, .ref (oA Z 0)), (1, .int p1)]) F.1 F.2.1 dX11_all_79 rfl hl (by decide) rfl (fun ls hl => ?_)
    refine lv_goto (tgt := 99) F.1 F.2.1 dX11_all_80 (by decide) ?_
    exact qX11_all_99 F hr hlk C ztz ztn v_446 hE _ _ hP hS ls (lv_sub hl [1, 0] rfl)
  have hE := ifn hE hc2
  by_cases hc3 : p1 = 3
  · have hE := ifp hE hc3
    refine lv_tableIn (tgt := 83) (off := 82) F.1 F.2.1 dX11_all_1 (by rw [hc3]; decide) (by rw [hc3]; decide) (by rw [hc3]; rfl) (by decide) ?_
    refine lv_aload_n F.1 F.2.1 dX11_all_83 rfl (lv_at hl 0 rfl) ?_
    refine gX11_10 F C hP dX11_all_84 ?_
    refine gX11_149 F C hP (by decide) rfl dX11_all_87 ?_
    refine gX11_211 F C hP (by decide) rfl dX11_all_90 ?_
    refine lv_istore_n (lv' := [(2, .int ((HS 0) 8 2)), (0, .ref (oA Z 0)), (1, .int p1)]) F.1 F.2.1 dX11_all_93 rfl hl (by decide) rfl (fun ls hl => ?_)
    refine lv_goto (tgt := 99) F.1 F.2.1 dX11_all_94 (by decide) ?_
    exact qX11_all_99 F hr hlk C ztz ztn ((HS 0) 8 2) hE _ _ hP hS ls (lv_sub hl [1, 0] rfl)
  have hE := ifn hE hc3
  refine lv_tableOut (tgt := 97) F.1 F.2.1 dX11_all_1 (by have g0 : ¬ (p1).toInt = 0 := sw_ne hc0; have g1 : ¬ (p1).toInt = 1 := sw_ne hc1; have g2 : ¬ (p1).toInt = 2 := sw_ne hc2; have g3 : ¬ (p1).toInt = 3 := sw_ne hc3; omega) (by decide) ?_
  refine lv_iconst (v := (-1)) F.1 F.2.1 dX11_all_97 (by decide) ?_
  have w0 := Option.some.inj hE
  obtain ⟨g0, w1⟩ := Prod.mk.inj w0
  obtain ⟨g1, w2⟩ := Prod.mk.inj w1
  subst g0 g1 w2
  exact ret_i F hr hlk hP hS dX11_all_98
set_option maxRecDepth 100000 in
set_option maxHeartbeats 4000000 in
theorem qX11_list_9 {p : Program} {l : Launch} {e : Env} {s : State} {m : MethodId} {args : Array Value} {below : List Frame} {meth : Method} {c : Code} {Z : ZC} {HS : Nat → Nat → Nat → Int32} {zkb : Int32} {zdr : Int32} {zky : Nat → Int32} {zpn : Int32} {zps : Int32} {zxz : Int32} {zxa : Int32} {zsg : Nat → Int32} {za0 : Int32} {za1 : Int32} {za2 : Int32} {za3 : Int32} {za4 : Int32} {zfr : Nat → Int32} {zcd : Int32} {zgo : Nat → Int32} {ztd : Int32} {ztv : Int32} {zcl : Nat → Int32} {zca : Nat → Int32} {zwa : Nat → Int32} {zpt : Nat → Int32} {zpf : Nat → Int32} {N : Nat} {r' : Int32} {ztz' : Int32} {ztn' : Nat → Int64} (F : CallFix p m c cX11_list 2 s args bigW RX11) (hr : meth.sig.returnType = (some .int)) (hlk : meth.locks = false) (C : KX Z s) : ∀ n : Nat, ∀ (ztz : Int32) (ztn : Nat → Int64) (x1 : Int32), fX11_list_9 N HS n ztz ztn x1 = some (r', ztz', ztn') → ∀ (H : Heap) (locs : List Loc), PX Z HS zkb zdr zky zpn zps ztz ztn zxz zxa zsg za0 za1 za2 za3 za4 zfr zcd zgo ztd ztv zcl zca zwa zpt zpf H → va_S (AX Z) s.heap H locs → ∀ ls : Array Slot, lv_has ls 2 [(0, .ref (oA Z 0)), (1, .int x1)] → W p l e (rmk 1 22) s m args below meth c H locs 0 0 (MQ below (Qi (KX Z) (AX Z) (PX Z HS zkb zdr zky zpn zps ztz' ztn' zxz zxa zsg za0 za1 za2 za3 za4 zfr zcd zgo ztd ztv zcl zca zwa zpt zpf) r') args s 0 0 (AX Z)) (F0 m 9 ls []) := by
  intro n
  induction n with
  | zero => intro ztz ztn x1 hE; cases hE
  | succ n h9 =>
    intro ztz ztn x1 hE H locs hP hS ls hl
    have hE : fX11_list_9b N HS (fX11_list_9 N HS n) ztz ztn x1 = some (r', ztz', ztn') := hE
    refine lv_iload_n F.1 F.2.1 dX11_list_9 rfl (lv_at hl 1 rfl) ?_
    refine lv_aload_n F.1 F.2.1 dX11_list_10 rfl (lv_at hl 0 rfl) ?_
    refine gX11_10 F C hP dX11_list_11 ?_
    refine gX11_149 F C hP (by decide) rfl dX11_list_14 ?_
    refine gX11_153 F C hP (by decide) rfl dX11_list_17 ?_
    refine lv_icmp_ge (tgt := 49) F.1 F.2.1 dX11_list_20 (by decide) (fun hc => ?_) (fun hc => ?_)
    · have hE := ifp hE hc
      refine lv_aload_n F.1 F.2.1 dX11_list_49 rfl (lv_at hl 0 rfl) ?_
      refine gX11_10 F C hP dX11_list_50 ?_
      refine gX11_149 F C hP (by decide) rfl dX11_list_53 ?_
      refine gX11_153 F C hP (by decide) rfl dX11_list_56 ?_
      have w0 := Option.some.inj hE
      obtain ⟨g0, w1⟩ := Prod.mk.inj w0
      obtain ⟨g1, w2⟩ := Prod.mk.inj w1
      subst g0 g1 w2
      exact ret_i F hr hlk hP hS dX11_list_59
    · have hE := ifn hE hc
      refine lv_aload_n F.1 F.2.1 dX11_list_23 rfl (lv_at hl 0 rfl) ?_
      refine gX11_33 F C hP dX11_list_24 ?_
      refine lv_aload_n F.1 F.2.1 dX11_list_27 rfl (lv_at hl 0 rfl) ?_
      refine gX11_10 F C hP dX11_list_28 ?_
      refine gX11_149 F C hP (by decide) rfl dX11_list_31 ?_
      refine gX11_220 F C hP (by decide) rfl dX11_list_34 ?_
      refine lv_iload_n F.1 F.2.1 dX11_list_37 rfl (lv_at hl 1 rfl) ?_
      obtain ⟨hi, hE⟩ := grd_some hE
      refine ah9 F C hP (by decide) rfl hi dX11_list_38 ?_
      refine lv_i2l (v := ((HS 0) 9 x1.toNatClampNeg).toInt64) F.1 F.2.1 dX11_list_39 rfl ?_
      obtain ⟨ztz_452, ztn_452, hc, hE⟩ := bnd2_some hE
      refine aft_v (run_N (rest := []) F (kX8_adds hc) (okX Z) C hS (C.2.2 _ _ mlX11_223 rfl) lkX11_223 ⟨Nat.le_of_ble_eq_true rfl, Nat.le_of_ble_eq_true rfl⟩ (rvo4 C hP) hP rfl hl.1 rfl (lv_room (Nat.le_of_ble_eq_true rfl)) dX11_list_40 ⟨Nat.zero_le _, Nat.zero_le _⟩) hS (fun H locs hP hS => ?_)
      refine lv_iinc (v := x1 + 1) (lv' := [(1, .int (x1 + 1)), (0, .ref (oA Z 0))]) F.1 F.2.1 dX11_list_43 hl (k := 1) rfl rfl (by decide) rfl (fun ls hl => ?_)
      refine lv_goto (tgt := 9) F.1 F.2.1 dX11_list_46 (by decide) ?_
      exact h9 ztz_452 ztn_452 (x1 + 1) hE _ _ hP hS ls (lv_sub hl [1, 0] rfl)
set_option maxRecDepth 100000 in
set_option maxHeartbeats 4000000 in
theorem kX11_list {l : Launch} {Z : ZC} {HS : Nat → Nat → Nat → Int32} {zkb : Int32} {zdr : Int32} {zky : Nat → Int32} {zpn : Int32} {zps : Int32} {ztz : Int32} {ztn : Nat → Int64} {zxz : Int32} {zxa : Int32} {zsg : Nat → Int32} {za0 : Int32} {za1 : Int32} {za2 : Int32} {za3 : Int32} {za4 : Int32} {zfr : Nat → Int32} {zcd : Int32} {zgo : Nat → Int32} {ztd : Int32} {ztv : Int32} {zcl : Nat → Int32} {zca : Nat → Int32} {zwa : Nat → Int32} {zpt : Nat → Int32} {zpf : Nat → Int32} {N : Nat} {r' : Int32} {ztz' : Int32} {ztn' : Nat → Int64} (hE : fX11_list N ztz ztn HS = some (r', ztz', ztn')) : Mg l yX11_list cX11_list 2 (some .int) (rmk 1 22) (KX Z) (AX Z) [.ref (oA Z 0)] (PX Z HS zkb zdr zky zpn zps ztz ztn zxz zxa zsg za0 za1 za2 za3 za4 zfr zcd zgo ztd ztv zcl zca zwa zpt zpf) (Qi (KX Z) (AX Z) (PX Z HS zkb zdr zky zpn zps ztz' ztn' zxz zxa zsg za0 za1 za2 za3 za4 zfr zcd zgo ztd ztv zcl zca zwa zpt zpf) r') := by
  refine Mg.start (lv := [(0, .ref (oA Z 0))]) (by decide) rfl (Nat.le_of_ble_eq_true rfl) rfl ?_
  intro p e s m below meth c F hr hlk C hP ls hl
  have hS : va_S (AX Z) s.heap s.heap [] := va_S.rf
  unfold fX11_list at hE
  refine lv_aload_n F.1 F.2.1 dX11_list_0 rfl (lv_at hl 0 rfl) ?_
  refine gX11_33 F C hP dX11_list_1 ?_
  obtain ⟨ztz_451, hc, hE⟩ := bnd1_some hE
  refine aft_v (run_N (rest := []) F (kX8_clears hc) (okX Z) C hS (C.2.2 _ _ mlX11_217 rfl) lkX11_217 ⟨Nat.le_of_ble_eq_true rfl, Nat.le_of_ble_eq_true rfl⟩ (rvo4 C hP) hP rfl hl.1 rfl (lv_room (Nat.le_of_ble_eq_true rfl)) dX11_list_4 ⟨Nat.zero_le _, Nat.zero_le _⟩) hS (fun H locs hP hS => ?_)
  refine lv_iconst (v := 0) F.1 F.2.1 dX11_list_7 (by decide) ?_
  refine lv_istore_n (lv' := [(1, .int 0), (0, .ref (oA Z 0))]) F.1 F.2.1 dX11_list_8 rfl hl (by decide) rfl (fun ls hl => ?_)
  exact qX11_list_9 F hr hlk C N ztz_451 ztn 0 hE _ _ hP hS ls (lv_sub hl [1, 0] rfl)
set_option maxRecDepth 100000 in
set_option maxHeartbeats 4000000 in
theorem qX11_holders_46 {p : Program} {l : Launch} {e : Env} {s : State} {m : MethodId} {args : Array Value} {below : List Frame} {meth : Method} {c : Code} {Z : ZC} {HS : Nat → Nat → Nat → Int32} {zkb : Int32} {zdr : Int32} {zky : Nat → Int32} {zpn : Int32} {zps : Int32} {zxz : Int32} {zxa : Int32} {zsg : Nat → Int32} {za0 : Int32} {za1 : Int32} {za2 : Int32} {za3 : Int32} {za4 : Int32} {zfr : Nat → Int32} {zcd : Int32} {zgo : Nat → Int32} {ztd : Int32} {ztv : Int32} {zcl : Nat → Int32} {zca : Nat → Int32} {zwa : Nat → Int32} {zpt : Nat → Int32} {zpf : Nat → Int32} {N : Nat} {p1 : Int32} {r' : Int32} {ztz' : Int32} {ztn' : Nat → Int64} (F : CallFix p m c cX11_holders 4 s args bigW RX11) (hr : meth.sig.returnType = (some .int)) (hlk : meth.locks = false) (C : KX Z s) : ∀ (ztz : Int32) (ztn : Nat → Int64) (x2 : Int32), fX11_holders_46 N HS p1 ztz ztn x2 = some (r', ztz', ztn') → ∀ (H : Heap) (locs : List Loc), PX Z HS zkb zdr zky zpn zps ztz ztn zxz zxa zsg za0 za1 za2 za3 za4 zfr zcd zgo ztd ztv zcl zca zwa zpt zpf H → va_S (AX Z) s.heap H locs → ∀ ls : Array Slot, lv_has ls 4 [(0, .ref (oA Z 0)), (1, .int p1), (2, .int x2)] → W p l e (rmk 3 68) s m args below meth c H locs 0 0 (MQ below (Qi (KX Z) (AX Z) (PX Z HS zkb zdr zky zpn zps ztz' ztn' zxz zxa zsg za0 za1 za2 za3 za4 zfr zcd zgo ztd ztv zcl zca zwa zpt zpf) r') args s 0 0 (AX Z)) (F0 m 46 ls []) := by
  intro ztz ztn x2 hE H locs hP hS ls hl
  unfold fX11_holders_46 at hE
  refine lv_aload_n F.1 F.2.1 dX11_holders_46 rfl (lv_at hl 0 rfl) ?_
  refine gX11_33 F C hP dX11_holders_47 ?_
  refine lv_aload_n F.1 F.2.1 dX11_holders_50 rfl (lv_at hl 0 rfl) ?_
  refine gX11_10 F C hP dX11_holders_51 ?_
  refine gX11_229 F C hP (by decide) rfl dX11_holders_54 ?_
  refine lv_iload_n F.1 F.2.1 dX11_holders_57 rfl (lv_at hl 1 rfl) ?_
  obtain ⟨r462, hc, hE⟩ := bnd1_some hE
  refine aft_i (run_S (rest := [.ref (oA Z 4)]) F (kX11_placesOf_r hc) (okX Z) C hS lkX11_232 ⟨Nat.le_of_ble_eq_true rfl, Nat.le_of_ble_eq_true rfl⟩ hP rfl hl.1 rfl (lv_room (Nat.le_of_ble_eq_true rfl)) dX11_holders_58 ⟨Nat.zero_le _, Nat.zero_le _⟩) hS (fun H locs hP hS => ?_)
  refine lv_i2l (v := r462.toInt64) F.1 F.2.1 dX11_holders_61 rfl ?_
  refine lv_aload_n F.1 F.2.1 dX11_holders_62 rfl (lv_at hl 0 rfl) ?_
  refine gX11_10 F C hP dX11_holders_63 ?_
  refine gX11_236 F C hP (by decide) rfl dX11_holders_66 ?_
  refine lv_iload_n F.1 F.2.1 dX11_holders_69 rfl (lv_at hl 1 rfl) ?_
  obtain ⟨r463, hc, hE⟩ := bnd1_some hE
  refine aft_i (run_S (rest := [.long r462.toInt64, .ref (oA Z 4)]) F (kX11_placesOf_w hc) (okX Z) C hS lkX11_232 ⟨Nat.le_of_ble_eq_true rfl, Nat.le_of_ble_eq_true rfl⟩ hP rfl hl.1 rfl (lv_room (Nat.le_of_ble_eq_true rfl)) dX11_holders_70 ⟨Nat.zero_le _, Nat.zero_le _⟩) hS (fun H locs hP hS => ?_)
  refine lv_i2l (v := r463.toInt64) F.1 F.2.1 dX11_holders_73 rfl ?_
  obtain ⟨ztz_464, ztn_464, hc, hE⟩ := bnd2_some hE
  refine aft_v (run_N (rest := []) F (kX8_tells_ hc) (okX Z) C hS (C.2.2 _ _ mlX11_140 rfl) lkX11_140 ⟨Nat.le_of_ble_eq_true rfl, Nat.le_of_ble_eq_true rfl⟩ (rvo4 C hP) hP rfl hl.1 rfl (lv_room (Nat.le_of_ble_eq_true rfl)) dX11_holders_74 ⟨Nat.zero_le _, Nat.zero_le _⟩) hS (fun H locs hP hS => ?_)
  refine lv_iload_n F.1 F.2.1 dX11_holders_77 rfl (lv_at hl 2 rfl) ?_
  have w0 := Option.some.inj hE
  obtain ⟨g0, w1⟩ := Prod.mk.inj w0
  obtain ⟨g1, w2⟩ := Prod.mk.inj w1
  subst g0 g1 w2
  exact ret_i F hr hlk hP hS dX11_holders_78
set_option maxRecDepth 100000 in
set_option maxHeartbeats 4000000 in
theorem qX11_holders_17 {p : Program} {l : Launch} {e : Env} {s : State} {m : MethodId} {args : Array Value} {below : List Frame} {meth : Method} {c : Code} {Z : ZC} {HS : Nat → Nat → Nat → Int32} {zkb : Int32} {zdr : Int32} {zky : Nat → Int32} {zpn : Int32} {zps : Int32} {zxz : Int32} {zxa : Int32} {zsg : Nat → Int32} {za0 : Int32} {za1 : Int32} {za2 : Int32} {za3 : Int32} {za4 : Int32} {zfr : Nat → Int32} {zcd : Int32} {zgo : Nat → Int32} {ztd : Int32} {ztv : Int32} {zcl : Nat → Int32} {zca : Nat → Int32} {zwa : Nat → Int32} {zpt : Nat → Int32} {zpf : Nat → Int32} {N : Nat} {p1 : Int32} {r' : Int32} {ztz' : Int32} {ztn' : Nat → Int64} (F : CallFix p m c cX11_holders 4 s args bigW RX11) (hr : meth.sig.returnType = (some .int)) (hlk : meth.locks = false) (C : KX Z s) : ∀ n : Nat, ∀ (ztz : Int32) (ztn : Nat → Int64) (x2 : Int32) (x3 : Int32), fX11_holders_17 N HS p1 n ztz ztn x2 x3 = some (r', ztz', ztn') → ∀ (H : Heap) (locs : List Loc), PX Z HS zkb zdr zky zpn zps ztz ztn zxz zxa zsg za0 za1 za2 za3 za4 zfr zcd zgo ztd ztv zcl zca zwa zpt zpf H → va_S (AX Z) s.heap H locs → ∀ ls : Array Slot, lv_has ls 4 [(0, .ref (oA Z 0)), (1, .int p1), (2, .int x2), (3, .int x3)] → W p l e (rmk 3 68) s m args below meth c H locs 0 0 (MQ below (Qi (KX Z) (AX Z) (PX Z HS zkb zdr zky zpn zps ztz' ztn' zxz zxa zsg za0 za1 za2 za3 za4 zfr zcd zgo ztd ztv zcl zca zwa zpt zpf) r') args s 0 0 (AX Z)) (F0 m 17 ls []) := by
  intro n
  induction n with
  | zero => intro ztz ztn x2 x3 hE; cases hE
  | succ n h17 =>
    intro ztz ztn x2 x3 hE H locs hP hS ls hl
    have hE : fX11_holders_17b N HS p1 (fX11_holders_17 N HS p1 n) ztz ztn x2 x3 = some (r', ztz', ztn') := hE
    refine lv_iload_n F.1 F.2.1 dX11_holders_17 rfl (lv_at hl 3 rfl) ?_
    refine lv_bipush (v := 24) F.1 F.2.1 dX11_holders_18 (by decide) ?_
    refine lv_icmp_ge (tgt := 46) F.1 F.2.1 dX11_holders_20 (by decide) (fun hc => ?_) (fun hc => ?_)
    · have hE := ifp hE hc
      exact qX11_holders_46 F hr hlk C ztz ztn x2 hE _ _ hP hS ls (lv_sub hl [0, 1, 2] rfl)
    · have hE := ifn hE hc
      refine lv_iload_n F.1 F.2.1 dX11_holders_23 rfl (lv_at hl 2 rfl) ?_
      refine lv_aload_n F.1 F.2.1 dX11_holders_24 rfl (lv_at hl 0 rfl) ?_
      refine gX11_10 F C hP dX11_holders_25 ?_
      refine lv_iload_n F.1 F.2.1 dX11_holders_28 rfl (lv_at hl 3 rfl) ?_
      obtain ⟨r460, hc, hE⟩ := bnd1_some hE
      refine aft_i (run_N (rest := [.int x2]) F (kX3_fieldBits (by decide) rfl hc) (okX Z) C hS (C.2.2 _ _ mlX11_226 rfl) lkX11_226 ⟨Nat.le_of_ble_eq_true rfl, Nat.le_of_ble_eq_true rfl⟩ (rvh0 C hP (by decide)) hP rfl hl.1 rfl (lv_room (Nat.le_of_ble_eq_true rfl)) dX11_holders_29 ⟨Nat.zero_le _, Nat.zero_le _⟩) hS (fun H locs hP hS => ?_)
      refine lv_iload_n F.1 F.2.1 dX11_holders_32 rfl (lv_at hl 1 rfl) ?_
      obtain ⟨r461, hc, hE⟩ := bnd1_some hE
      refine aft_i (run_S (rest := [.int x2]) F (kX11_bit hc) (okX Z) C hS lkX11_181 ⟨Nat.le_of_ble_eq_true rfl, Nat.le_of_ble_eq_true rfl⟩ hP rfl hl.1 rfl (lv_room (Nat.le_of_ble_eq_true rfl)) dX11_holders_33 ⟨Nat.zero_le _, Nat.zero_le _⟩) hS (fun H locs hP hS => ?_)
      refine lv_iload_n F.1 F.2.1 dX11_holders_36 rfl (lv_at hl 3 rfl) ?_
      refine rj_ishl F.1 F.2.1 dX11_holders_37 ?_
      refine lv_ior F.1 F.2.1 dX11_holders_38 ?_
      refine lv_istore_n (lv' := [(2, .int (x2 ||| (jshl r461 x3))), (0, .ref (oA Z 0)), (1, .int p1), (3, .int x3)]) F.1 F.2.1 dX11_holders_39 rfl hl (by decide) rfl (fun ls hl => ?_)
      refine lv_iinc (v := x3 + 1) (lv' := [(3, .int (x3 + 1)), (2, .int (x2 ||| (jshl r461 x3))), (0, .ref (oA Z 0)), (1, .int p1)]) F.1 F.2.1 dX11_holders_40 hl (k := 3) rfl rfl (by decide) rfl (fun ls hl => ?_)
      refine lv_goto (tgt := 17) F.1 F.2.1 dX11_holders_43 (by decide) ?_
      exact h17 ztz ztn (x2 ||| (jshl r461 x3)) (x3 + 1) hE _ _ hP hS ls (lv_sub hl [2, 3, 1, 0] rfl)
set_option maxRecDepth 100000 in
set_option maxHeartbeats 4000000 in
theorem kX11_holders {l : Launch} {Z : ZC} {HS : Nat → Nat → Nat → Int32} {zkb : Int32} {zdr : Int32} {zky : Nat → Int32} {zpn : Int32} {zps : Int32} {ztz : Int32} {ztn : Nat → Int64} {zxz : Int32} {zxa : Int32} {zsg : Nat → Int32} {za0 : Int32} {za1 : Int32} {za2 : Int32} {za3 : Int32} {za4 : Int32} {zfr : Nat → Int32} {zcd : Int32} {zgo : Nat → Int32} {ztd : Int32} {ztv : Int32} {zcl : Nat → Int32} {zca : Nat → Int32} {zwa : Nat → Int32} {zpt : Nat → Int32} {zpf : Nat → Int32} {N : Nat} {p1 : Int32} {r' : Int32} {ztz' : Int32} {ztn' : Nat → Int64} (hE : fX11_holders N ztz ztn HS p1 = some (r', ztz', ztn')) : Mg l yX11_holders cX11_holders 4 (some .int) (rmk 3 68) (KX Z) (AX Z) [.ref (oA Z 0), .int p1] (PX Z HS zkb zdr zky zpn zps ztz ztn zxz zxa zsg za0 za1 za2 za3 za4 zfr zcd zgo ztd ztv zcl zca zwa zpt zpf) (Qi (KX Z) (AX Z) (PX Z HS zkb zdr zky zpn zps ztz' ztn' zxz zxa zsg za0 za1 za2 za3 za4 zfr zcd zgo ztd ztv zcl zca zwa zpt zpf) r') := by
  refine Mg.start (lv := [(0, .ref (oA Z 0)), (1, .int p1)]) (by decide) rfl (Nat.le_of_ble_eq_true rfl) rfl ?_
  intro p e s m below meth c F hr hlk C hP ls hl
  have hS : va_S (AX Z) s.heap s.heap [] := va_S.rf
  unfold fX11_holders at hE
  refine lv_aload_n F.1 F.2.1 dX11_holders_0 rfl (lv_at hl 0 rfl) ?_
  refine gX11_10 F C hP dX11_holders_1 ?_
  refine lv_iload_n F.1 F.2.1 dX11_holders_4 rfl (lv_at hl 1 rfl) ?_
  obtain ⟨r459, hc, hE⟩ := bnd1_some hE
  refine aft_i (run_N (rest := []) F (kX3_has (by decide) rfl hc) (okX Z) C hS (C.2.2 _ _ mlX11_156 rfl) lkX11_156 ⟨Nat.le_of_ble_eq_true rfl, Nat.le_of_ble_eq_true rfl⟩ (rvh0 C hP (by decide)) hP rfl hl.1 rfl (lv_room (Nat.le_of_ble_eq_true rfl)) dX11_holders_5 ⟨Nat.zero_le _, Nat.zero_le _⟩) hS (fun H locs hP hS => ?_)
  refine lv_if_ne (tgt := 13) F.1 F.2.1 dX11_holders_8 (by decide) (fun hc => ?_) (fun hc => ?_)
  · have hE := ifn hE hc
    refine lv_iconst (v := 0) F.1 F.2.1 dX11_holders_13 (by decide) ?_
    refine lv_istore_n (lv' := [(2, .int 0), (0, .ref (oA Z 0)), (1, .int p1)]) F.1 F.2.1 dX11_holders_14 rfl hl (by decide) rfl (fun ls hl => ?_)
    refine lv_iconst (v := 0) F.1 F.2.1 dX11_holders_15 (by decide) ?_
    refine lv_istore_n (lv' := [(3, .int 0), (2, .int 0), (0, .ref (oA Z 0)), (1, .int p1)]) F.1 F.2.1 dX11_holders_16 rfl hl (by decide) rfl (fun ls hl => ?_)
    exact qX11_holders_17 F hr hlk C N ztz ztn 0 0 hE _ _ hP hS ls (lv_sub hl [2, 3, 1, 0] rfl)
  · have hE := ifp hE hc
    refine lv_iconst (v := (-1)) F.1 F.2.1 dX11_holders_11 (by decide) ?_
    have w0 := Option.some.inj hE
    obtain ⟨g0, w1⟩ := Prod.mk.inj w0
    obtain ⟨g1, w2⟩ := Prod.mk.inj w1
    subst g0 g1 w2
    exact ret_i F hr hlk hP hS dX11_holders_12
set_option maxRecDepth 100000 in
set_option maxHeartbeats 4000000 in
theorem qX11_way_75 {p : Program} {l : Launch} {e : Env} {s : State} {m : MethodId} {args : Array Value} {below : List Frame} {meth : Method} {c : Code} {Z : ZC} {HS : Nat → Nat → Nat → Int32} {zkb : Int32} {zdr : Int32} {zky : Nat → Int32} {zpn : Int32} {zps : Int32} {zxz : Int32} {zxa : Int32} {zsg : Nat → Int32} {za0 : Int32} {za1 : Int32} {za2 : Int32} {za3 : Int32} {za4 : Int32} {zcd : Int32} {zgo : Nat → Int32} {ztd : Int32} {ztv : Int32} {zcl : Nat → Int32} {zca : Nat → Int32} {zwa : Nat → Int32} {zpt : Nat → Int32} {zpf : Nat → Int32} {N : Nat} {p1 : Int32} {r' : Int32} {ztz' : Int32} {ztn' : Nat → Int64} {zfr' : Nat → Int32} (F : CallFix p m c cX11_way 4 s args bigW RX11) (hr : meth.sig.returnType = (some .int)) (hlk : meth.locks = false) (C : KX Z s) : ∀ n : Nat, ∀ (ztz : Int32) (ztn : Nat → Int64) (zfr : Nat → Int32) (x2 : Int32) (x3 : Int32), fX11_way_75 N HS p1 n ztz ztn zfr x2 x3 = some (r', ztz', ztn', zfr') → ∀ (H : Heap) (locs : List Loc), PX Z HS zkb zdr zky zpn zps ztz ztn zxz zxa zsg za0 za1 za2 za3 za4 zfr zcd zgo ztd ztv zcl zca zwa zpt zpf H → va_S (AX Z) s.heap H locs → ∀ ls : Array Slot, lv_has ls 4 [(0, .ref (oA Z 0)), (2, .int x2), (3, .int x3)] → W p l e (rmk 3 72) s m args below meth c H locs 0 0 (MQ below (Qi (KX Z) (AX Z) (PX Z HS zkb zdr zky zpn zps ztz' ztn' zxz zxa zsg za0 za1 za2 za3 za4 zfr' zcd zgo ztd ztv zcl zca zwa zpt zpf) r') args s 0 0 (AX Z)) (F0 m 75 ls []) := by
  intro n
  induction n with
  | zero => intro ztz ztn zfr x2 x3 hE; cases hE
  | succ n h75 =>
    intro ztz ztn zfr x2 x3 hE H locs hP hS ls hl
    have hE : fX11_way_75b N HS p1 (fX11_way_75 N HS p1 n) ztz ztn zfr x2 x3 = some (r', ztz', ztn', zfr') := hE
    refine lv_iload_n F.1 F.2.1 dX11_way_75 rfl (lv_at hl 2 rfl) ?_
    refine lv_if_le (tgt := 115) F.1 F.2.1 dX11_way_76 (by decide) (fun hc => ?_) (fun hc => ?_)
    · have hE := ifp hE hc
      refine lv_aload_n F.1 F.2.1 dX11_way_115 rfl (lv_at hl 0 rfl) ?_
      refine gX11_33 F C hP dX11_way_116 ?_
      refine gX11_252 F C hP dX11_way_119 ?_
      have w0 := Option.some.inj hE
      obtain ⟨g0, w1⟩ := Prod.mk.inj w0
      obtain ⟨g1, w2⟩ := Prod.mk.inj w1
      obtain ⟨g2, w3⟩ := Prod.mk.inj w2
      subst g0 g1 g2 w3
      exact ret_i F hr hlk hP hS dX11_way_122
    · have hE := ifn hE hc
      refine lv_iload_n F.1 F.2.1 dX11_way_79 rfl (lv_at hl 1 rfl) ?_
      refine lv_iconst (v := (-1)) F.1 F.2.1 dX11_way_80 (by decide) ?_
      refine lv_icmp_eq (tgt := 115) F.1 F.2.1 dX11_way_81 (by decide) (fun hc => ?_) (fun hc => ?_)
      · have hE := ifp hE hc
        refine lv_aload_n F.1 F.2.1 dX11_way_115 rfl (lv_at hl 0 rfl) ?_
        refine gX11_33 F C hP dX11_way_116 ?_
        refine gX11_252 F C hP dX11_way_119 ?_
        have w0 := Option.some.inj hE
        obtain ⟨g0, w1⟩ := Prod.mk.inj w0
        obtain ⟨g1, w2⟩ := Prod.mk.inj w1
        obtain ⟨g2, w3⟩ := Prod.mk.inj w2
        subst g0 g1 g2 w3
        exact ret_i F hr hlk hP hS dX11_way_122
      · have hE := ifn hE hc
        refine lv_aload_n F.1 F.2.1 dX11_way_84 rfl (lv_at hl 0 rfl) ?_
        refine gX11_54 F C hP dX11_way_85 ?_
        refine lv_aload_n F.1 F.2.1 dX11_way_88 rfl (lv_at hl 0 rfl) ?_
        refine gX11_10 F C hP dX11_way_89 ?_
        refine lv_iload_n F.1 F.2.1 dX11_way_92 rfl (lv_at hl 1 rfl) ?_
        obtain ⟨r492, hc, hE⟩ := bnd1_some hE
        refine aft_i (run_N (rest := [.ref (oA Z 9)]) F (kX3_fieldBits (by decide) rfl hc) (okX Z) C hS (C.2.2 _ _ mlX11_226 rfl) lkX11_226 ⟨Nat.le_of_ble_eq_true rfl, Nat.le_of_ble_eq_true rfl⟩ (rvh0 C hP (by decide)) hP rfl hl.1 rfl (lv_room (Nat.le_of_ble_eq_true rfl)) dX11_way_93 ⟨Nat.zero_le _, Nat.zero_le _⟩) hS (fun H locs hP hS => ?_)
        obtain ⟨r493, hc, hE⟩ := bnd1_some hE
        refine aft_i (run_N (rest := []) F (kX10_nearest hc) (okX Z) C hS (C.2.2 _ _ mlX11_246 rfl) lkX11_246 ⟨Nat.le_of_ble_eq_true rfl, Nat.le_of_ble_eq_true rfl⟩ (rvo9 C hP) hP rfl hl.1 rfl (lv_room (Nat.le_of_ble_eq_true rfl)) dX11_way_96 ⟨Nat.zero_le _, Nat.zero_le _⟩) hS (fun H locs hP hS => ?_)
        refine lv_istore_n (lv' := [(2, .int r493), (0, .ref (oA Z 0)), (3, .int x3)]) F.1 F.2.1 dX11_way_99 rfl hl (by decide) rfl (fun ls hl => ?_)
        refine lv_aload_n F.1 F.2.1 dX11_way_100 rfl (lv_at hl 1 rfl) ?_
        refine gX11_33 F C hP dX11_way_101 ?_
        refine lv_iload_n F.1 F.2.1 dX11_way_104 rfl (lv_at hl 0 rfl) ?_
        refine lv_i2l (v := r493.toInt64) F.1 F.2.1 dX11_way_105 rfl ?_
        obtain ⟨ztz_494, ztn_494, hc, hE⟩ := bnd2_some hE
        refine aft_v (run_N (rest := []) F (kX8_adds hc) (okX Z) C hS (C.2.2 _ _ mlX11_223 rfl) lkX11_223 ⟨Nat.le_of_ble_eq_true rfl, Nat.le_of_ble_eq_true rfl⟩ (rvo4 C hP) hP rfl hl.1 rfl (lv_room (Nat.le_of_ble_eq_true rfl)) dX11_way_106 ⟨Nat.zero_le _, Nat.zero_le _⟩) hS (fun H locs hP hS => ?_)
        refine lv_iinc (v := x3 + (-1)) (lv' := [(3, .int (x3 + (-1))), (2, .int r493), (0, .ref (oA Z 0))]) F.1 F.2.1 dX11_way_109 hl (k := 2) rfl rfl (by decide) rfl (fun ls hl => ?_)
        refine lv_goto (tgt := 75) F.1 F.2.1 dX11_way_112 (by decide) ?_
        exact h75 ztz_494 ztn_494 zfr r493 (x3 + (-1)) hE _ _ hP hS ls (lv_sub hl [2, 1, 0] rfl)
set_option maxRecDepth 100000 in
set_option maxHeartbeats 4000000 in
theorem kX11_way {l : Launch} {Z : ZC} {HS : Nat → Nat → Nat → Int32} {zkb : Int32} {zdr : Int32} {zky : Nat → Int32} {zpn : Int32} {zps : Int32} {ztz : Int32} {ztn : Nat → Int64} {zxz : Int32} {zxa : Int32} {zsg : Nat → Int32} {za0 : Int32} {za1 : Int32} {za2 : Int32} {za3 : Int32} {za4 : Int32} {zfr : Nat → Int32} {zcd : Int32} {zgo : Nat → Int32} {ztd : Int32} {ztv : Int32} {zcl : Nat → Int32} {zca : Nat → Int32} {zwa : Nat → Int32} {zpt : Nat → Int32} {zpf : Nat → Int32} {N : Nat} {p1 : Int32} {r' : Int32} {ztz' : Int32} {ztn' : Nat → Int64} {zfr' : Nat → Int32} (hE : fX11_way N ztz ztn zfr HS p1 = some (r', ztz', ztn', zfr')) : Mg l yX11_way cX11_way 4 (some .int) (rmk 3 72) (KX Z) (AX Z) [.ref (oA Z 0), .int p1] (PX Z HS zkb zdr zky zpn zps ztz ztn zxz zxa zsg za0 za1 za2 za3 za4 zfr zcd zgo ztd ztv zcl zca zwa zpt zpf) (Qi (KX Z) (AX Z) (PX Z HS zkb zdr zky zpn zps ztz' ztn' zxz zxa zsg za0 za1 za2 za3 za4 zfr' zcd zgo ztd ztv zcl zca zwa zpt zpf) r') := by
  refine Mg.start (lv := [(0, .ref (oA Z 0)), (1, .int p1)]) (by decide) rfl (Nat.le_of_ble_eq_true rfl) rfl ?_
  intro p e s m below meth c F hr hlk C hP ls hl
  have hS : va_S (AX Z) s.heap s.heap [] := va_S.rf
  unfold fX11_way at hE
  refine lv_aload_n F.1 F.2.1 dX11_way_0 rfl (lv_at hl 0 rfl) ?_
  refine gX11_10 F C hP dX11_way_1 ?_
  refine lv_iload_n F.1 F.2.1 dX11_way_4 rfl (lv_at hl 1 rfl) ?_
  obtain ⟨r485, hc, hE⟩ := bnd1_some hE
  refine aft_i (run_N (rest := []) F (kX3_has (by decide) rfl hc) (okX Z) C hS (C.2.2 _ _ mlX11_156 rfl) lkX11_156 ⟨Nat.le_of_ble_eq_true rfl, Nat.le_of_ble_eq_true rfl⟩ (rvh0 C hP (by decide)) hP rfl hl.1 rfl (lv_room (Nat.le_of_ble_eq_true rfl)) dX11_way_5 ⟨Nat.zero_le _, Nat.zero_le _⟩) hS (fun H locs hP hS => ?_)
  refine lv_if_ne (tgt := 13) F.1 F.2.1 dX11_way_8 (by decide) (fun hc => ?_) (fun hc => ?_)
  · have hE := ifn hE hc
    refine lv_aload_n F.1 F.2.1 dX11_way_13 rfl (lv_at hl 0 rfl) ?_
    refine gX11_54 F C hP dX11_way_14 ?_
    refine lv_aload_n F.1 F.2.1 dX11_way_17 rfl (lv_at hl 0 rfl) ?_
    refine gX11_10 F C hP dX11_way_18 ?_
    refine lv_iload_n F.1 F.2.1 dX11_way_21 rfl (lv_at hl 1 rfl) ?_
    obtain ⟨zfr_486, hc, hE⟩ := bnd1_some hE
    refine aft_v (run_N (rest := []) F (kX10_measures (by decide) rfl hc) (okX Z) C hS (C.2.2 _ _ mlX11_239 rfl) lkX11_239 ⟨Nat.le_of_ble_eq_true rfl, Nat.le_of_ble_eq_true rfl⟩ (rvo9 C hP) hP rfl hl.1 rfl (lv_room (Nat.le_of_ble_eq_true rfl)) dX11_way_22 ⟨Nat.zero_le _, Nat.zero_le _⟩) hS (fun H locs hP hS => ?_)
    refine lv_aload_n F.1 F.2.1 dX11_way_25 rfl (lv_at hl 0 rfl) ?_
    refine gX11_54 F C hP dX11_way_26 ?_
    refine lv_aload_n F.1 F.2.1 dX11_way_29 rfl (lv_at hl 0 rfl) ?_
    refine gX11_10 F C hP dX11_way_30 ?_
    refine lv_iconst (v := 0) F.1 F.2.1 dX11_way_33 (by decide) ?_
    obtain ⟨r487, hc, hE⟩ := bnd1_some hE
    refine aft_i (run_N (rest := [.ref (oA Z 9)]) F (kX3_rootBits (by decide) rfl hc) (okX Z) C hS (C.2.2 _ _ mlX11_243 rfl) lkX11_243 ⟨Nat.le_of_ble_eq_true rfl, Nat.le_of_ble_eq_true rfl⟩ (rvh0 C hP (by decide)) hP rfl hl.1 rfl (lv_room (Nat.le_of_ble_eq_true rfl)) dX11_way_34 ⟨Nat.zero_le _, Nat.zero_le _⟩) hS (fun H locs hP hS => ?_)
    obtain ⟨r488, hc, hE⟩ := bnd1_some hE
    refine aft_i (run_N (rest := []) F (kX10_nearest hc) (okX Z) C hS (C.2.2 _ _ mlX11_246 rfl) lkX11_246 ⟨Nat.le_of_ble_eq_true rfl, Nat.le_of_ble_eq_true rfl⟩ (rvo9 C hP) hP rfl hl.1 rfl (lv_room (Nat.le_of_ble_eq_true rfl)) dX11_way_37 ⟨Nat.zero_le _, Nat.zero_le _⟩) hS (fun H locs hP hS => ?_)
    refine lv_istore_n (lv' := [(2, .int r488), (0, .ref (oA Z 0)), (1, .int p1)]) F.1 F.2.1 dX11_way_40 rfl hl (by decide) rfl (fun ls hl => ?_)
    refine lv_iload_n F.1 F.2.1 dX11_way_41 rfl (lv_at hl 0 rfl) ?_
    refine lv_iconst (v := (-1)) F.1 F.2.1 dX11_way_42 (by decide) ?_
    refine lv_icmp_ne (tgt := 49) F.1 F.2.1 dX11_way_43 (by decide) (fun hc => ?_) (fun hc => ?_)
    · have hE := ifn hE hc
      refine lv_aload_n F.1 F.2.1 dX11_way_49 rfl (lv_at hl 1 rfl) ?_
      refine gX11_33 F C hP dX11_way_50 ?_
      obtain ⟨ztz_489, hc, hE⟩ := bnd1_some hE
      refine aft_v (run_N (rest := []) F (kX8_clears hc) (okX Z) C hS (C.2.2 _ _ mlX11_217 rfl) lkX11_217 ⟨Nat.le_of_ble_eq_true rfl, Nat.le_of_ble_eq_true rfl⟩ (rvo4 C hP) hP rfl hl.1 rfl (lv_room (Nat.le_of_ble_eq_true rfl)) dX11_way_53 ⟨Nat.zero_le _, Nat.zero_le _⟩) hS (fun H locs hP hS => ?_)
      refine lv_aload_n F.1 F.2.1 dX11_way_56 rfl (lv_at hl 1 rfl) ?_
      refine gX11_33 F C hP dX11_way_57 ?_
      refine lv_iload_n F.1 F.2.1 dX11_way_60 rfl (lv_at hl 0 rfl) ?_
      refine lv_i2l (v := r488.toInt64) F.1 F.2.1 dX11_way_61 rfl ?_
      obtain ⟨ztz_490, ztn_490, hc, hE⟩ := bnd2_some hE
      refine aft_v (run_N (rest := []) F (kX8_adds hc) (okX Z) C hS (C.2.2 _ _ mlX11_223 rfl) lkX11_223 ⟨Nat.le_of_ble_eq_true rfl, Nat.le_of_ble_eq_true rfl⟩ (rvo4 C hP) hP rfl hl.1 rfl (lv_room (Nat.le_of_ble_eq_true rfl)) dX11_way_62 ⟨Nat.zero_le _, Nat.zero_le _⟩) hS (fun H locs hP hS => ?_)
      refine lv_aload_n F.1 F.2.1 dX11_way_65 rfl (lv_at hl 1 rfl) ?_
      refine gX11_54 F C hP dX11_way_66 ?_
      refine gX11_249 F C hP dX11_way_69 ?_
      refine lv_iload_n F.1 F.2.1 dX11_way_72 rfl (lv_at hl 0 rfl) ?_
      obtain ⟨hi, hE⟩ := grd_some hE
      refine ao10 F C hP hi dX11_way_73 ?_
      obtain ⟨v_491, ev_491, hE⟩ := lt_some hE
      refine lv_seti ev_491 ?_
      refine lv_istore_n (lv' := [(3, .int v_491), (2, .int r488), (0, .ref (oA Z 0)), (1, .int p1)]) F.1 F.2.1 dX11_way_74 rfl hl (by decide) rfl (fun ls hl => ?_)
      exact qX11_way_75 F hr hlk C N ztz_490 ztn_490 zfr_486 r488 v_491 hE _ _ hP hS ls (lv_sub hl [2, 1, 0] rfl)
    · have hE := ifp hE hc
      refine lv_bipush (v := (-2)) F.1 F.2.1 dX11_way_46 (by decide) ?_
      have w0 := Option.some.inj hE
      obtain ⟨g0, w1⟩ := Prod.mk.inj w0
      obtain ⟨g1, w2⟩ := Prod.mk.inj w1
      obtain ⟨g2, w3⟩ := Prod.mk.inj w2
      subst g0 g1 g2 w3
      exact ret_i F hr hlk hP hS dX11_way_48
  · have hE := ifp hE hc
    refine lv_iconst (v := (-1)) F.1 F.2.1 dX11_way_11 (by decide) ?_
    have w0 := Option.some.inj hE
    obtain ⟨g0, w1⟩ := Prod.mk.inj w0
    obtain ⟨g1, w2⟩ := Prod.mk.inj w1
    obtain ⟨g2, w3⟩ := Prod.mk.inj w2
    subst g0 g1 g2 w3
    exact ret_i F hr hlk hP hS dX11_way_12
set_option maxRecDepth 100000 in
set_option maxHeartbeats 4000000 in
theorem kX11_from {l : Launch} {Z : ZC} {HS : Nat → Nat → Nat → Int32} {zkb : Int32} {zdr : Int32} {zky : Nat → Int32} {zpn : Int32} {zps : Int32} {ztz : Int32} {ztn : Nat → Int64} {zxz : Int32} {zxa : Int32} {zsg : Nat → Int32} {za0 : Int32} {za1 : Int32} {za2 : Int32} {za3 : Int32} {za4 : Int32} {zfr : Nat → Int32} {zcd : Int32} {zgo : Nat → Int32} {ztd : Int32} {ztv : Int32} {zcl : Nat → Int32} {zca : Nat → Int32} {zwa : Nat → Int32} {zpt : Nat → Int32} {zpf : Nat → Int32} {N : Nat} {p1 : Int32} {r' : Int32} {ztz' : Int32} {ztn' : Nat → Int64} (hE : fX11_from N ztz ztn HS p1 = some (r', ztz', ztn')) : Mg l yX11_from cX11_from 3 (some .int) (rmk 3 74) (KX Z) (AX Z) [.ref (oA Z 0), .int p1] (PX Z HS zkb zdr zky zpn zps ztz ztn zxz zxa zsg za0 za1 za2 za3 za4 zfr zcd zgo ztd ztv zcl zca zwa zpt zpf) (Qi (KX Z) (AX Z) (PX Z HS zkb zdr zky zpn zps ztz' ztn' zxz zxa zsg za0 za1 za2 za3 za4 zfr zcd zgo ztd ztv zcl zca zwa zpt zpf) r') := by
  refine Mg.start (lv := [(0, .ref (oA Z 0)), (1, .int p1)]) (by decide) rfl (Nat.le_of_ble_eq_true rfl) rfl ?_
  intro p e s m below meth c F hr hlk C hP ls hl
  have hS : va_S (AX Z) s.heap s.heap [] := va_S.rf
  unfold fX11_from at hE
  refine lv_aload_n F.1 F.2.1 dX11_from_0 rfl (lv_at hl 0 rfl) ?_
  refine gX11_10 F C hP dX11_from_1 ?_
  refine lv_iload_n F.1 F.2.1 dX11_from_4 rfl (lv_at hl 1 rfl) ?_
  obtain ⟨r500, hc, hE⟩ := bnd1_some hE
  refine aft_i (run_N (rest := []) F (kX3_has (by decide) rfl hc) (okX Z) C hS (C.2.2 _ _ mlX11_156 rfl) lkX11_156 ⟨Nat.le_of_ble_eq_true rfl, Nat.le_of_ble_eq_true rfl⟩ (rvh0 C hP (by decide)) hP rfl hl.1 rfl (lv_room (Nat.le_of_ble_eq_true rfl)) dX11_from_5 ⟨Nat.zero_le _, Nat.zero_le _⟩) hS (fun H locs hP hS => ?_)
  refine lv_if_ne (tgt := 13) F.1 F.2.1 dX11_from_8 (by decide) (fun hc => ?_) (fun hc => ?_)
  · have hE := ifn hE hc
    refine lv_aload_n F.1 F.2.1 dX11_from_13 rfl (lv_at hl 0 rfl) ?_
    refine gX11_54 F C hP dX11_from_14 ?_
    refine lv_aload_n F.1 F.2.1 dX11_from_17 rfl (lv_at hl 0 rfl) ?_
    refine gX11_10 F C hP dX11_from_18 ?_
    refine lv_aload_n F.1 F.2.1 dX11_from_21 rfl (lv_at hl 0 rfl) ?_
    refine gX11_10 F C hP dX11_from_22 ?_
    refine lv_iload_n F.1 F.2.1 dX11_from_25 rfl (lv_at hl 1 rfl) ?_
    obtain ⟨r501, hc, hE⟩ := bnd1_some hE
    refine aft_i (run_N (rest := [.ref (hA Z 0 0), .ref (oA Z 9)]) F (kX3_fieldBits (by decide) rfl hc) (okX Z) C hS (C.2.2 _ _ mlX11_226 rfl) lkX11_226 ⟨Nat.le_of_ble_eq_true rfl, Nat.le_of_ble_eq_true rfl⟩ (rvh0 C hP (by decide)) hP rfl hl.1 rfl (lv_room (Nat.le_of_ble_eq_true rfl)) dX11_from_26 ⟨Nat.zero_le _, Nat.zero_le _⟩) hS (fun H locs hP hS => ?_)
    refine lv_iconst (v := 0) F.1 F.2.1 dX11_from_29 (by decide) ?_
    obtain ⟨r502, hc, hE⟩ := bnd1_some hE
    refine aft_i (run_N (rest := []) F (kX10_spreads (by decide) rfl hc) (okX Z) C hS (C.2.2 _ _ mlX11_253 rfl) lkX11_253 ⟨Nat.le_of_ble_eq_true rfl, Nat.le_of_ble_eq_true rfl⟩ (rvo9 C hP) hP rfl hl.1 rfl (lv_room (Nat.le_of_ble_eq_true rfl)) dX11_from_30 ⟨Nat.zero_le _, Nat.zero_le _⟩) hS (fun H locs hP hS => ?_)
    refine lv_istore_n (lv' := [(2, .int r502), (0, .ref (oA Z 0)), (1, .int p1)]) F.1 F.2.1 dX11_from_33 rfl hl (by decide) rfl (fun ls hl => ?_)
    refine lv_aload_n F.1 F.2.1 dX11_from_34 rfl (lv_at hl 1 rfl) ?_
    refine gX11_33 F C hP dX11_from_35 ?_
    refine lv_iload_n F.1 F.2.1 dX11_from_38 rfl (lv_at hl 0 rfl) ?_
    refine lv_iload_n F.1 F.2.1 dX11_from_39 rfl (lv_at hl 2 rfl) ?_
    obtain ⟨r503, hc, hE⟩ := bnd1_some hE
    refine aft_i (run_S (rest := [.ref (oA Z 4)]) F (kX11_bit hc) (okX Z) C hS lkX11_181 ⟨Nat.le_of_ble_eq_true rfl, Nat.le_of_ble_eq_true rfl⟩ hP rfl hl.1 rfl (lv_room (Nat.le_of_ble_eq_true rfl)) dX11_from_40 ⟨Nat.zero_le _, Nat.zero_le _⟩) hS (fun H locs hP hS => ?_)
    refine lv_i2l (v := r503.toInt64) F.1 F.2.1 dX11_from_43 rfl ?_
    obtain ⟨ztz_504, ztn_504, hc, hE⟩ := bnd2_some hE
    refine aft_v (run_N (rest := []) F (kX8_tells hc) (okX Z) C hS (C.2.2 _ _ mlX11_114 rfl) lkX11_114 ⟨Nat.le_of_ble_eq_true rfl, Nat.le_of_ble_eq_true rfl⟩ (rvo4 C hP) hP rfl hl.1 rfl (lv_room (Nat.le_of_ble_eq_true rfl)) dX11_from_44 ⟨Nat.zero_le _, Nat.zero_le _⟩) hS (fun H locs hP hS => ?_)
    refine lv_iload_n F.1 F.2.1 dX11_from_47 rfl (lv_at hl 0 rfl) ?_
    refine lv_iconst (v := 1) F.1 F.2.1 dX11_from_48 (by decide) ?_
    refine lv_iload_n F.1 F.2.1 dX11_from_49 rfl (lv_at hl 2 rfl) ?_
    refine rj_ishl F.1 F.2.1 dX11_from_50 ?_
    refine lv_ior F.1 F.2.1 dX11_from_51 ?_
    have w0 := Option.some.inj hE
    obtain ⟨g0, w1⟩ := Prod.mk.inj w0
    obtain ⟨g1, w2⟩ := Prod.mk.inj w1
    subst g0 g1 w2
    exact ret_i F hr hlk hP hS dX11_from_52
  · have hE := ifp hE hc
    refine lv_iconst (v := (-1)) F.1 F.2.1 dX11_from_11 (by decide) ?_
    have w0 := Option.some.inj hE
    obtain ⟨g0, w1⟩ := Prod.mk.inj w0
    obtain ⟨g1, w2⟩ := Prod.mk.inj w1
    subst g0 g1 w2
    exact ret_i F hr hlk hP hS dX11_from_12
set_option maxRecDepth 100000 in
set_option maxHeartbeats 4000000 in
theorem qX11_ringOf_4 {p : Program} {l : Launch} {e : Env} {s : State} {m : MethodId} {args : Array Value} {below : List Frame} {meth : Method} {c : Code} {Z : ZC} {HS : Nat → Nat → Nat → Int32} {zkb : Int32} {zdr : Int32} {zky : Nat → Int32} {zpn : Int32} {zps : Int32} {ztz : Int32} {ztn : Nat → Int64} {zxz : Int32} {zxa : Int32} {zsg : Nat → Int32} {za0 : Int32} {za1 : Int32} {za2 : Int32} {za3 : Int32} {za4 : Int32} {zfr : Nat → Int32} {zcd : Int32} {zgo : Nat → Int32} {ztd : Int32} {ztv : Int32} {zcl : Nat → Int32} {zca : Nat → Int32} {zwa : Nat → Int32} {zpt : Nat → Int32} {zpf : Nat → Int32} {N : Nat} {p1 : Int32} {r' : Int32} (F : CallFix p m c cX11_ringOf 4 s args bigW RX11) (hr : meth.sig.returnType = (some .int)) (hlk : meth.locks = false) (C : KX Z s) : ∀ n : Nat, ∀ (x2 : Int32) (x3 : Int32), fX11_ringOf_4 N zky p1 n x2 x3 = some r' → ∀ (H : Heap) (locs : List Loc), PX Z HS zkb zdr zky zpn zps ztz ztn zxz zxa zsg za0 za1 za2 za3 za4 zfr zcd zgo ztd ztv zcl zca zwa zpt zpf H → va_S (AX Z) s.heap H locs → ∀ ls : Array Slot, lv_has ls 4 [(0, .ref (oA Z 0)), (1, .int p1), (2, .int x2), (3, .int x3)] → W p l e (rmk 1 21) s m args below meth c H locs 0 0 (MQ below (Qi (KX Z) (AX Z) (PX Z HS zkb zdr zky zpn zps ztz ztn zxz zxa zsg za0 za1 za2 za3 za4 zfr zcd zgo ztd ztv zcl zca zwa zpt zpf) r') args s 0 0 (AX Z)) (F0 m 4 ls []) := by
  intro n
  induction n with
  | zero => intro x2 x3 hE; cases hE
  | succ n h4 =>
    intro x2 x3 hE H locs hP hS ls hl
    have hE : fX11_ringOf_4b N zky p1 (fX11_ringOf_4 N zky p1 n) x2 x3 = some r' := hE
    refine lv_iload_n F.1 F.2.1 dX11_ringOf_4 rfl (lv_at hl 3 rfl) ?_
    refine lv_bipush (v := 24) F.1 F.2.1 dX11_ringOf_5 (by decide) ?_
    refine lv_icmp_ge (tgt := 42) F.1 F.2.1 dX11_ringOf_7 (by decide) (fun hc => ?_) (fun hc => ?_)
    · have hE := ifp hE hc
      refine lv_iload_n F.1 F.2.1 dX11_ringOf_42 rfl (lv_at hl 2 rfl) ?_
      obtain rfl := Option.some.inj hE
      exact ret_i F hr hlk hP hS dX11_ringOf_43
    · have hE := ifn hE hc
      refine lv_iload_n F.1 F.2.1 dX11_ringOf_10 rfl (lv_at hl 2 rfl) ?_
      refine lv_aload_n F.1 F.2.1 dX11_ringOf_11 rfl (lv_at hl 0 rfl) ?_
      refine gX11_83 F C hP dX11_ringOf_12 ?_
      refine lv_iload_n F.1 F.2.1 dX11_ringOf_15 rfl (lv_at hl 1 rfl) ?_
      obtain ⟨hi, hE⟩ := grd_some hE
      refine ao20 F C hP hi dX11_ringOf_16 ?_
      refine lv_iload_n F.1 F.2.1 dX11_ringOf_17 rfl (lv_at hl 3 rfl) ?_
      obtain ⟨r508, hc, hE⟩ := bnd1_some hE
      refine aft_i (run_S (rest := [.int x2]) F (kX11_bit hc) (okX Z) C hS lkX11_181 ⟨Nat.le_of_ble_eq_true rfl, Nat.le_of_ble_eq_true rfl⟩ hP rfl hl.1 rfl (lv_room (Nat.le_of_ble_eq_true rfl)) dX11_ringOf_18 ⟨Nat.zero_le _, Nat.zero_le _⟩) hS (fun H locs hP hS => ?_)
      refine lv_aload_n F.1 F.2.1 dX11_ringOf_21 rfl (lv_at hl 0 rfl) ?_
      refine gX11_83 F C hP dX11_ringOf_22 ?_
      refine lv_iload_n F.1 F.2.1 dX11_ringOf_25 rfl (lv_at hl 3 rfl) ?_
      obtain ⟨hi, hE⟩ := grd_some hE
      refine ao20 F C hP hi dX11_ringOf_26 ?_
      refine lv_iload_n F.1 F.2.1 dX11_ringOf_27 rfl (lv_at hl 1 rfl) ?_
      obtain ⟨r509, hc, hE⟩ := bnd1_some hE
      refine aft_i (run_S (rest := [.int r508, .int x2]) F (kX11_bit hc) (okX Z) C hS lkX11_181 ⟨Nat.le_of_ble_eq_true rfl, Nat.le_of_ble_eq_true rfl⟩ hP rfl hl.1 rfl (lv_room (Nat.le_of_ble_eq_true rfl)) dX11_ringOf_28 ⟨Nat.zero_le _, Nat.zero_le _⟩) hS (fun H locs hP hS => ?_)
      refine lv_iand F.1 F.2.1 dX11_ringOf_31 ?_
      refine lv_iload_n F.1 F.2.1 dX11_ringOf_32 rfl (lv_at hl 3 rfl) ?_
      refine rj_ishl F.1 F.2.1 dX11_ringOf_33 ?_
      refine lv_ior F.1 F.2.1 dX11_ringOf_34 ?_
      obtain ⟨v_510, ev_510, hE⟩ := lt_some hE
      refine lv_seti ev_510 ?_
      refine lv_istore_n (lv' := [(2, .int v_510), (0, .ref (oA Z 0)), (1, .int p1), (3, .int x3)]) F.1 F.2.1 dX11_ringOf_35 rfl hl (by decide) rfl (fun ls hl => ?_)
      refine lv_iinc (v := x3 + 1) (lv' := [(3, .int (x3 + 1)), (2, .int v_510), (0, .ref (oA Z 0)), (1, .int p1)]) F.1 F.2.1 dX11_ringOf_36 hl (k := 3) rfl rfl (by decide) rfl (fun ls hl => ?_)
      refine lv_goto (tgt := 4) F.1 F.2.1 dX11_ringOf_39 (by decide) ?_
      exact h4 v_510 (x3 + 1) hE _ _ hP hS ls (lv_sub hl [2, 3, 1, 0] rfl)
set_option maxRecDepth 100000 in
set_option maxHeartbeats 4000000 in
theorem kX11_ringOf {l : Launch} {Z : ZC} {HS : Nat → Nat → Nat → Int32} {zkb : Int32} {zdr : Int32} {zky : Nat → Int32} {zpn : Int32} {zps : Int32} {ztz : Int32} {ztn : Nat → Int64} {zxz : Int32} {zxa : Int32} {zsg : Nat → Int32} {za0 : Int32} {za1 : Int32} {za2 : Int32} {za3 : Int32} {za4 : Int32} {zfr : Nat → Int32} {zcd : Int32} {zgo : Nat → Int32} {ztd : Int32} {ztv : Int32} {zcl : Nat → Int32} {zca : Nat → Int32} {zwa : Nat → Int32} {zpt : Nat → Int32} {zpf : Nat → Int32} {N : Nat} {p1 : Int32} {r' : Int32} (hE : fX11_ringOf N zky p1 = some r') : Mg l yX11_ringOf cX11_ringOf 4 (some .int) (rmk 1 21) (KX Z) (AX Z) [.ref (oA Z 0), .int p1] (PX Z HS zkb zdr zky zpn zps ztz ztn zxz zxa zsg za0 za1 za2 za3 za4 zfr zcd zgo ztd ztv zcl zca zwa zpt zpf) (Qi (KX Z) (AX Z) (PX Z HS zkb zdr zky zpn zps ztz ztn zxz zxa zsg za0 za1 za2 za3 za4 zfr zcd zgo ztd ztv zcl zca zwa zpt zpf) r') := by
  refine Mg.start (lv := [(0, .ref (oA Z 0)), (1, .int p1)]) (by decide) rfl (Nat.le_of_ble_eq_true rfl) rfl ?_
  intro p e s m below meth c F hr hlk C hP ls hl
  have hS : va_S (AX Z) s.heap s.heap [] := va_S.rf
  unfold fX11_ringOf at hE
  refine lv_iconst (v := 0) F.1 F.2.1 dX11_ringOf_0 (by decide) ?_
  refine lv_istore_n (lv' := [(2, .int 0), (0, .ref (oA Z 0)), (1, .int p1)]) F.1 F.2.1 dX11_ringOf_1 rfl hl (by decide) rfl (fun ls hl => ?_)
  refine lv_iconst (v := 0) F.1 F.2.1 dX11_ringOf_2 (by decide) ?_
  refine lv_istore_n (lv' := [(3, .int 0), (2, .int 0), (0, .ref (oA Z 0)), (1, .int p1)]) F.1 F.2.1 dX11_ringOf_3 rfl hl (by decide) rfl (fun ls hl => ?_)
  exact qX11_ringOf_4 F hr hlk C N 0 0 hE _ _ hP hS ls (lv_sub hl [2, 3, 1, 0] rfl)
set_option maxRecDepth 100000 in
set_option maxHeartbeats 4000000 in
theorem qX11_rings_51 {p : Program} {l : Launch} {e : Env} {s : State} {m : MethodId} {args : Array Value} {below : List Frame} {meth : Method} {c : Code} {Z : ZC} {HS : Nat → Nat → Nat → Int32} {zkb : Int32} {zdr : Int32} {zpn : Int32} {zps : Int32} {zxz : Int32} {zxa : Int32} {zsg : Nat → Int32} {za0 : Int32} {za1 : Int32} {za2 : Int32} {za3 : Int32} {za4 : Int32} {zfr : Nat → Int32} {zcd : Int32} {zgo : Nat → Int32} {ztd : Int32} {ztv : Int32} {zcl : Nat → Int32} {zca : Nat → Int32} {zwa : Nat → Int32} {zpt : Nat → Int32} {zpf : Nat → Int32} {N : Nat} {r' : Int32} {zky' : Nat → Int32} {ztz' : Int32} {ztn' : Nat → Int64} (F : CallFix p m c cX11_rings 4 s args bigW RX11) (hr : meth.sig.returnType = (some .int)) (hlk : meth.locks = false) (C : KX Z s) : ∀ n : Nat, ∀ (zky : Nat → Int32) (ztz : Int32) (ztn : Nat → Int64) (x1 : Int32) (x2 : Int32), fX11_rings_51 N HS n zky ztz ztn x1 x2 = some (r', zky', ztz', ztn') → ∀ (H : Heap) (locs : List Loc), PX Z HS zkb zdr zky zpn zps ztz ztn zxz zxa zsg za0 za1 za2 za3 za4 zfr zcd zgo ztd ztv zcl zca zwa zpt zpf H → va_S (AX Z) s.heap H locs → ∀ ls : Array Slot, lv_has ls 4 [(0, .ref (oA Z 0)), (1, .int x1), (2, .int x2)] → W p l e (rmk 3 74) s m args below meth c H locs 0 0 (MQ below (Qi (KX Z) (AX Z) (PX Z HS zkb zdr zky' zpn zps ztz' ztn' zxz zxa zsg za0 za1 za2 za3 za4 zfr zcd zgo ztd ztv zcl zca zwa zpt zpf) r') args s 0 0 (AX Z)) (F0 m 51 ls []) := by
  intro n
  induction n with
  | zero => intro zky ztz ztn x1 x2 hE; cases hE
  | succ n h51 =>
    intro zky ztz ztn x1 x2 hE H locs hP hS ls hl
    have hE : fX11_rings_51b N HS (fX11_rings_51 N HS n) zky ztz ztn x1 x2 = some (r', zky', ztz', ztn') := hE
    refine lv_iload_n F.1 F.2.1 dX11_rings_51 rfl (lv_at hl 2 rfl) ?_
    refine lv_bipush (v := 24) F.1 F.2.1 dX11_rings_52 (by decide) ?_
    refine lv_icmp_ge (tgt := 104) F.1 F.2.1 dX11_rings_54 (by decide) (fun hc => ?_) (fun hc => ?_)
    · have hE := ifp hE hc
      refine lv_aload_n F.1 F.2.1 dX11_rings_104 rfl (lv_at hl 0 rfl) ?_
      refine gX11_33 F C hP dX11_rings_105 ?_
      refine gX11_252 F C hP dX11_rings_108 ?_
      have w0 := Option.some.inj hE
      obtain ⟨g0, w1⟩ := Prod.mk.inj w0
      obtain ⟨g1, w2⟩ := Prod.mk.inj w1
      obtain ⟨g2, w3⟩ := Prod.mk.inj w2
      subst g0 g1 g2 w3
      exact ret_i F hr hlk hP hS dX11_rings_111
    · have hE := ifn hE hc
      refine lv_aload_n F.1 F.2.1 dX11_rings_57 rfl (lv_at hl 0 rfl) ?_
      refine gX11_83 F C hP dX11_rings_58 ?_
      refine lv_iload_n F.1 F.2.1 dX11_rings_61 rfl (lv_at hl 2 rfl) ?_
      obtain ⟨hi, hE⟩ := grd_some hE
      refine ao20 F C hP hi dX11_rings_62 ?_
      refine lv_iload_n F.1 F.2.1 dX11_rings_63 rfl (lv_at hl 2 rfl) ?_
      obtain ⟨r523, hc, hE⟩ := bnd1_some hE
      refine aft_i (run_S (rest := []) F (kX11_bit hc) (okX Z) C hS lkX11_181 ⟨Nat.le_of_ble_eq_true rfl, Nat.le_of_ble_eq_true rfl⟩ hP rfl hl.1 rfl (lv_room (Nat.le_of_ble_eq_true rfl)) dX11_rings_64 ⟨Nat.zero_le _, Nat.zero_le _⟩) hS (fun H locs hP hS => ?_)
      refine lv_iconst (v := 1) F.1 F.2.1 dX11_rings_67 (by decide) ?_
      refine lv_icmp_ne (tgt := 98) F.1 F.2.1 dX11_rings_68 (by decide) (fun hc => ?_) (fun hc => ?_)
      · have hE := ifn hE hc
        refine lv_iinc (v := x2 + 1) (lv' := [(2, .int (x2 + 1)), (0, .ref (oA Z 0)), (1, .int x1)]) F.1 F.2.1 dX11_rings_98 hl (k := 2) rfl rfl (by decide) rfl (fun ls hl => ?_)
        refine lv_goto (tgt := 51) F.1 F.2.1 dX11_rings_101 (by decide) ?_
        exact h51 zky ztz ztn x1 (x2 + 1) hE _ _ hP hS ls (lv_sub hl [1, 2, 0] rfl)
      · have hE := ifp hE hc
        refine lv_iload_n F.1 F.2.1 dX11_rings_71 rfl (lv_at hl 1 rfl) ?_
        refine lv_iload_n F.1 F.2.1 dX11_rings_72 rfl (lv_at hl 2 rfl) ?_
        obtain ⟨r524, hc, hE⟩ := bnd1_some hE
        refine aft_i (run_S (rest := []) F (kX11_bit hc) (okX Z) C hS lkX11_181 ⟨Nat.le_of_ble_eq_true rfl, Nat.le_of_ble_eq_true rfl⟩ hP rfl hl.1 rfl (lv_room (Nat.le_of_ble_eq_true rfl)) dX11_rings_73 ⟨Nat.zero_le _, Nat.zero_le _⟩) hS (fun H locs hP hS => ?_)
        refine lv_if_ne (tgt := 98) F.1 F.2.1 dX11_rings_76 (by decide) (fun hc => ?_) (fun hc => ?_)
        · have hE := ifn hE hc
          refine lv_iinc (v := x2 + 1) (lv' := [(2, .int (x2 + 1)), (0, .ref (oA Z 0)), (1, .int x1)]) F.1 F.2.1 dX11_rings_98 hl (k := 2) rfl rfl (by decide) rfl (fun ls hl => ?_)
          refine lv_goto (tgt := 51) F.1 F.2.1 dX11_rings_101 (by decide) ?_
          exact h51 zky ztz ztn x1 (x2 + 1) hE _ _ hP hS ls (lv_sub hl [1, 2, 0] rfl)
        · have hE := ifp hE hc
          refine lv_aload_n F.1 F.2.1 dX11_rings_79 rfl (lv_at hl 0 rfl) ?_
          refine lv_iload_n F.1 F.2.1 dX11_rings_80 rfl (lv_at hl 2 rfl) ?_
          obtain ⟨r525, hc, hE⟩ := bnd1_some hE
          refine aft_i (run_V (rest := []) F (kX11_ringOf hc) (okX Z) C hS lkX11_257 ⟨Nat.le_of_ble_eq_true rfl, Nat.le_of_ble_eq_true rfl⟩ (rvo0 C hP) hP rfl hl.1 rfl (lv_room (Nat.le_of_ble_eq_true rfl)) dX11_rings_81 ⟨Nat.zero_le _, Nat.zero_le _⟩) hS (fun H locs hP hS => ?_)
          refine lv_istore_n (lv' := [(3, .int r525), (0, .ref (oA Z 0)), (1, .int x1), (2, .int x2)]) F.1 F.2.1 dX11_rings_84 rfl hl (by decide) rfl (fun ls hl => ?_)
          refine lv_iload_n F.1 F.2.1 dX11_rings_85 rfl (lv_at hl 2 rfl) ?_
          refine lv_iload_n F.1 F.2.1 dX11_rings_86 rfl (lv_at hl 0 rfl) ?_
          refine lv_ior F.1 F.2.1 dX11_rings_87 ?_
          refine lv_istore_n (lv' := [(1, .int (x1 ||| r525)), (3, .int r525), (0, .ref (oA Z 0)), (2, .int x2)]) F.1 F.2.1 dX11_rings_88 rfl hl (by decide) rfl (fun ls hl => ?_)
          refine lv_aload_n F.1 F.2.1 dX11_rings_89 rfl (lv_at hl 2 rfl) ?_
          refine gX11_33 F C hP dX11_rings_90 ?_
          refine lv_iload_n F.1 F.2.1 dX11_rings_93 rfl (lv_at hl 1 rfl) ?_
          refine lv_i2l (v := r525.toInt64) F.1 F.2.1 dX11_rings_94 rfl ?_
          obtain ⟨ztz_526, ztn_526, hc, hE⟩ := bnd2_some hE
          refine aft_v (run_N (rest := []) F (kX8_adds hc) (okX Z) C hS (C.2.2 _ _ mlX11_223 rfl) lkX11_223 ⟨Nat.le_of_ble_eq_true rfl, Nat.le_of_ble_eq_true rfl⟩ (rvo4 C hP) hP rfl hl.1 rfl (lv_room (Nat.le_of_ble_eq_true rfl)) dX11_rings_95 ⟨Nat.zero_le _, Nat.zero_le _⟩) hS (fun H locs hP hS => ?_)
          refine lv_iinc (v := x2 + 1) (lv' := [(2, .int (x2 + 1)), (1, .int (x1 ||| r525)), (3, .int r525), (0, .ref (oA Z 0))]) F.1 F.2.1 dX11_rings_98 hl (k := 3) rfl rfl (by decide) rfl (fun ls hl => ?_)
          refine lv_goto (tgt := 51) F.1 F.2.1 dX11_rings_101 (by decide) ?_
          exact h51 zky ztz_526 ztn_526 (x1 ||| r525) (x2 + 1) hE _ _ hP hS ls (lv_sub hl [3, 1, 0] rfl)
set_option maxRecDepth 100000 in
set_option maxHeartbeats 4000000 in
theorem qX11_rings_40 {p : Program} {l : Launch} {e : Env} {s : State} {m : MethodId} {args : Array Value} {below : List Frame} {meth : Method} {c : Code} {Z : ZC} {HS : Nat → Nat → Nat → Int32} {zkb : Int32} {zdr : Int32} {zpn : Int32} {zps : Int32} {zxz : Int32} {zxa : Int32} {zsg : Nat → Int32} {za0 : Int32} {za1 : Int32} {za2 : Int32} {za3 : Int32} {za4 : Int32} {zfr : Nat → Int32} {zcd : Int32} {zgo : Nat → Int32} {ztd : Int32} {ztv : Int32} {zcl : Nat → Int32} {zca : Nat → Int32} {zwa : Nat → Int32} {zpt : Nat → Int32} {zpf : Nat → Int32} {N : Nat} {r' : Int32} {zky' : Nat → Int32} {ztz' : Int32} {ztn' : Nat → Int64} (F : CallFix p m c cX11_rings 4 s args bigW RX11) (hr : meth.sig.returnType = (some .int)) (hlk : meth.locks = false) (C : KX Z s) : ∀ (zky : Nat → Int32) (ztz : Int32) (ztn : Nat → Int64), fX11_rings_40 N HS zky ztz ztn = some (r', zky', ztz', ztn') → ∀ (H : Heap) (locs : List Loc), PX Z HS zkb zdr zky zpn zps ztz ztn zxz zxa zsg za0 za1 za2 za3 za4 zfr zcd zgo ztd ztv zcl zca zwa zpt zpf H → va_S (AX Z) s.heap H locs → ∀ ls : Array Slot, lv_has ls 4 [(0, .ref (oA Z 0))] → W p l e (rmk 3 74) s m args below meth c H locs 0 0 (MQ below (Qi (KX Z) (AX Z) (PX Z HS zkb zdr zky' zpn zps ztz' ztn' zxz zxa zsg za0 za1 za2 za3 za4 zfr zcd zgo ztd ztv zcl zca zwa zpt zpf) r') args s 0 0 (AX Z)) (F0 m 40 ls []) := by
  intro zky ztz ztn hE H locs hP hS ls hl
  unfold fX11_rings_40 at hE
  refine lv_aload_n F.1 F.2.1 dX11_rings_40 rfl (lv_at hl 0 rfl) ?_
  refine gX11_33 F C hP dX11_rings_41 ?_
  obtain ⟨ztz_522, hc, hE⟩ := bnd1_some hE
  refine aft_v (run_N (rest := []) F (kX8_clears hc) (okX Z) C hS (C.2.2 _ _ mlX11_217 rfl) lkX11_217 ⟨Nat.le_of_ble_eq_true rfl, Nat.le_of_ble_eq_true rfl⟩ (rvo4 C hP) hP rfl hl.1 rfl (lv_room (Nat.le_of_ble_eq_true rfl)) dX11_rings_44 ⟨Nat.zero_le _, Nat.zero_le _⟩) hS (fun H locs hP hS => ?_)
  refine lv_iconst (v := 0) F.1 F.2.1 dX11_rings_47 (by decide) ?_
  refine lv_istore_n (lv' := [(1, .int 0), (0, .ref (oA Z 0))]) F.1 F.2.1 dX11_rings_48 rfl hl (by decide) rfl (fun ls hl => ?_)
  refine lv_iconst (v := 0) F.1 F.2.1 dX11_rings_49 (by decide) ?_
  refine lv_istore_n (lv' := [(2, .int 0), (1, .int 0), (0, .ref (oA Z 0))]) F.1 F.2.1 dX11_rings_50 rfl hl (by decide) rfl (fun ls hl => ?_)
  exact qX11_rings_51 F hr hlk C N zky ztz_522 ztn 0 0 hE _ _ hP hS ls (lv_sub hl [2, 1, 0] rfl)
set_option maxRecDepth 100000 in
set_option maxHeartbeats 4000000 in
theorem qX11_rings_2 {p : Program} {l : Launch} {e : Env} {s : State} {m : MethodId} {args : Array Value} {below : List Frame} {meth : Method} {c : Code} {Z : ZC} {HS : Nat → Nat → Nat → Int32} {zkb : Int32} {zdr : Int32} {zpn : Int32} {zps : Int32} {zxz : Int32} {zxa : Int32} {zsg : Nat → Int32} {za0 : Int32} {za1 : Int32} {za2 : Int32} {za3 : Int32} {za4 : Int32} {zfr : Nat → Int32} {zcd : Int32} {zgo : Nat → Int32} {ztd : Int32} {ztv : Int32} {zcl : Nat → Int32} {zca : Nat → Int32} {zwa : Nat → Int32} {zpt : Nat → Int32} {zpf : Nat → Int32} {N : Nat} {r' : Int32} {zky' : Nat → Int32} {ztz' : Int32} {ztn' : Nat → Int64} (F : CallFix p m c cX11_rings 4 s args bigW RX11) (hr : meth.sig.returnType = (some .int)) (hlk : meth.locks = false) (C : KX Z s) : ∀ n : Nat, ∀ (zky : Nat → Int32) (ztz : Int32) (ztn : Nat → Int64) (x1 : Int32), fX11_rings_2 N HS n zky ztz ztn x1 = some (r', zky', ztz', ztn') → ∀ (H : Heap) (locs : List Loc), PX Z HS zkb zdr zky zpn zps ztz ztn zxz zxa zsg za0 za1 za2 za3 za4 zfr zcd zgo ztd ztv zcl zca zwa zpt zpf H → va_S (AX Z) s.heap H locs → ∀ ls : Array Slot, lv_has ls 4 [(0, .ref (oA Z 0)), (1, .int x1)] → W p l e (rmk 3 74) s m args below meth c H locs 0 0 (MQ below (Qi (KX Z) (AX Z) (PX Z HS zkb zdr zky' zpn zps ztz' ztn' zxz zxa zsg za0 za1 za2 za3 za4 zfr zcd zgo ztd ztv zcl zca zwa zpt zpf) r') args s 0 0 (AX Z)) (F0 m 2 ls []) := by
  intro n
  induction n with
  | zero => intro zky ztz ztn x1 hE; cases hE
  | succ n h2 =>
    intro zky ztz ztn x1 hE H locs hP hS ls hl
    have hE : fX11_rings_2b N HS (fX11_rings_2 N HS n) zky ztz ztn x1 = some (r', zky', ztz', ztn') := hE
    refine lv_iload_n F.1 F.2.1 dX11_rings_2 rfl (lv_at hl 1 rfl) ?_
    refine lv_bipush (v := 24) F.1 F.2.1 dX11_rings_3 (by decide) ?_
    refine lv_icmp_ge (tgt := 40) F.1 F.2.1 dX11_rings_5 (by decide) (fun hc => ?_) (fun hc => ?_)
    · have hE := ifp hE hc
      exact qX11_rings_40 F hr hlk C zky ztz ztn hE _ _ hP hS ls (lv_sub hl [0] rfl)
    · have hE := ifn hE hc
      refine lv_aload_n F.1 F.2.1 dX11_rings_8 rfl (lv_at hl 0 rfl) ?_
      refine gX11_83 F C hP dX11_rings_9 ?_
      refine lv_iload_n F.1 F.2.1 dX11_rings_12 rfl (lv_at hl 1 rfl) ?_
      refine lv_aload_n F.1 F.2.1 dX11_rings_13 rfl (lv_at hl 0 rfl) ?_
      refine gX11_54 F C hP dX11_rings_14 ?_
      refine lv_aload_n F.1 F.2.1 dX11_rings_17 rfl (lv_at hl 0 rfl) ?_
      refine gX11_10 F C hP dX11_rings_18 ?_
      refine lv_aload_n F.1 F.2.1 dX11_rings_21 rfl (lv_at hl 0 rfl) ?_
      refine gX11_10 F C hP dX11_rings_22 ?_
      refine lv_iload_n F.1 F.2.1 dX11_rings_25 rfl (lv_at hl 1 rfl) ?_
      obtain ⟨r519, hc, hE⟩ := bnd1_some hE
      refine aft_i (run_N (rest := [.ref (hA Z 0 0), .ref (oA Z 9), .int x1, .ref (oA Z 20)]) F (kX3_fieldBits (by decide) rfl hc) (okX Z) C hS (C.2.2 _ _ mlX11_226 rfl) lkX11_226 ⟨Nat.le_of_ble_eq_true rfl, Nat.le_of_ble_eq_true rfl⟩ (rvh0 C hP (by decide)) hP rfl hl.1 rfl (lv_room (Nat.le_of_ble_eq_true rfl)) dX11_rings_26 ⟨Nat.zero_le _, Nat.zero_le _⟩) hS (fun H locs hP hS => ?_)
      refine lv_iconst (v := 0) F.1 F.2.1 dX11_rings_29 (by decide) ?_
      obtain ⟨r520, hc, hE⟩ := bnd1_some hE
      refine aft_i (run_N (rest := [.int x1, .ref (oA Z 20)]) F (kX10_spreads (by decide) rfl hc) (okX Z) C hS (C.2.2 _ _ mlX11_253 rfl) lkX11_253 ⟨Nat.le_of_ble_eq_true rfl, Nat.le_of_ble_eq_true rfl⟩ (rvo9 C hP) hP rfl hl.1 rfl (lv_room (Nat.le_of_ble_eq_true rfl)) dX11_rings_30 ⟨Nat.zero_le _, Nat.zero_le _⟩) hS (fun H locs hP hS => ?_)
      obtain ⟨hi, hE⟩ := grd_some hE
      obtain ⟨zky_521, ezky_521, hE⟩ := lt_some hE
      refine so20 F C hP hi hS ezky_521.symm dX11_rings_33 (fun H locs hP hS => ?_)
      refine lv_iinc (v := x1 + 1) (lv' := [(1, .int (x1 + 1)), (0, .ref (oA Z 0))]) F.1 F.2.1 dX11_rings_34 hl (k := 1) rfl rfl (by decide) rfl (fun ls hl => ?_)
      refine lv_goto (tgt := 2) F.1 F.2.1 dX11_rings_37 (by decide) ?_
      exact h2 zky_521 ztz ztn (x1 + 1) hE _ _ hP hS ls (lv_sub hl [1, 0] rfl)
set_option maxRecDepth 100000 in
set_option maxHeartbeats 4000000 in
theorem kX11_rings {l : Launch} {Z : ZC} {HS : Nat → Nat → Nat → Int32} {zkb : Int32} {zdr : Int32} {zky : Nat → Int32} {zpn : Int32} {zps : Int32} {ztz : Int32} {ztn : Nat → Int64} {zxz : Int32} {zxa : Int32} {zsg : Nat → Int32} {za0 : Int32} {za1 : Int32} {za2 : Int32} {za3 : Int32} {za4 : Int32} {zfr : Nat → Int32} {zcd : Int32} {zgo : Nat → Int32} {ztd : Int32} {ztv : Int32} {zcl : Nat → Int32} {zca : Nat → Int32} {zwa : Nat → Int32} {zpt : Nat → Int32} {zpf : Nat → Int32} {N : Nat} {r' : Int32} {zky' : Nat → Int32} {ztz' : Int32} {ztn' : Nat → Int64} (hE : fX11_rings N zky ztz ztn HS = some (r', zky', ztz', ztn')) : Mg l yX11_rings cX11_rings 4 (some .int) (rmk 3 74) (KX Z) (AX Z) [.ref (oA Z 0)] (PX Z HS zkb zdr zky zpn zps ztz ztn zxz zxa zsg za0 za1 za2 za3 za4 zfr zcd zgo ztd ztv zcl zca zwa zpt zpf) (Qi (KX Z) (AX Z) (PX Z HS zkb zdr zky' zpn zps ztz' ztn' zxz zxa zsg za0 za1 za2 za3 za4 zfr zcd zgo ztd ztv zcl zca zwa zpt zpf) r') := by
  refine Mg.start (lv := [(0, .ref (oA Z 0))]) (by decide) rfl (Nat.le_of_ble_eq_true rfl) rfl ?_
  intro p e s m below meth c F hr hlk C hP ls hl
  have hS : va_S (AX Z) s.heap s.heap [] := va_S.rf
  unfold fX11_rings at hE
  refine lv_iconst (v := 0) F.1 F.2.1 dX11_rings_0 (by decide) ?_
  refine lv_istore_n (lv' := [(1, .int 0), (0, .ref (oA Z 0))]) F.1 F.2.1 dX11_rings_1 rfl hl (by decide) rfl (fun ls hl => ?_)
  exact qX11_rings_2 F hr hlk C N zky ztz ztn 0 hE _ _ hP hS ls (lv_sub hl [1, 0] rfl)
set_option maxRecDepth 100000 in
set_option maxHeartbeats 4000000 in
theorem kX11_alone {l : Launch} {Z : ZC} {HS : Nat → Nat → Nat → Int32} {zkb : Int32} {zdr : Int32} {zky : Nat → Int32} {zpn : Int32} {zps : Int32} {ztz : Int32} {ztn : Nat → Int64} {zxz : Int32} {zxa : Int32} {zsg : Nat → Int32} {za0 : Int32} {za1 : Int32} {za2 : Int32} {za3 : Int32} {za4 : Int32} {zfr : Nat → Int32} {zcd : Int32} {zgo : Nat → Int32} {ztd : Int32} {ztv : Int32} {zcl : Nat → Int32} {zca : Nat → Int32} {zwa : Nat → Int32} {zpt : Nat → Int32} {zpf : Nat → Int32} {N : Nat} {p1 : Int32} {r' : Int32} {ztz' : Int32} {ztn' : Nat → Int64} (hE : fX11_alone N ztz ztn HS p1 = some (r', ztz', ztn')) : Mg l yX11_alone cX11_alone 3 (some .int) (rmk 5 118) (KX Z) (AX Z) [.ref (oA Z 0), .int p1] (PX Z HS zkb zdr zky zpn zps ztz ztn zxz zxa zsg za0 za1 za2 za3 za4 zfr zcd zgo ztd ztv zcl zca zwa zpt zpf) (Qi (KX Z) (AX Z) (PX Z HS zkb zdr zky zpn zps ztz' ztn' zxz zxa zsg za0 za1 za2 za3 za4 zfr zcd zgo ztd ztv zcl zca zwa zpt zpf) r') := by
  refine Mg.start (lv := [(0, .ref (oA Z 0)), (1, .int p1)]) (by decide) rfl (Nat.le_of_ble_eq_true rfl) rfl ?_
  intro p e s m below meth c F hr hlk C hP ls hl
  have hS : va_S (AX Z) s.heap s.heap [] := va_S.rf
  unfold fX11_alone at hE
  refine lv_aload_n F.1 F.2.1 dX11_alone_0 rfl (lv_at hl 0 rfl) ?_
  refine gX11_10 F C hP dX11_alone_1 ?_
  refine lv_iload_n F.1 F.2.1 dX11_alone_4 rfl (lv_at hl 1 rfl) ?_
  obtain ⟨r537, hc, hE⟩ := bnd1_some hE
  refine aft_i (run_N (rest := []) F (kX3_has (by decide) rfl hc) (okX Z) C hS (C.2.2 _ _ mlX11_156 rfl) lkX11_156 ⟨Nat.le_of_ble_eq_true rfl, Nat.le_of_ble_eq_true rfl⟩ (rvh0 C hP (by decide)) hP rfl hl.1 rfl (lv_room (Nat.le_of_ble_eq_true rfl)) dX11_alone_5 ⟨Nat.zero_le _, Nat.zero_le _⟩) hS (fun H locs hP hS => ?_)
  refine lv_if_ne (tgt := 13) F.1 F.2.1 dX11_alone_8 (by decide) (fun hc => ?_) (fun hc => ?_)
  · have hE := ifn hE hc
    refine lv_aload_n F.1 F.2.1 dX11_alone_13 rfl (lv_at hl 0 rfl) ?_
    refine gX11_54 F C hP dX11_alone_14 ?_
    refine lv_aload_n F.1 F.2.1 dX11_alone_17 rfl (lv_at hl 0 rfl) ?_
    refine gX11_10 F C hP dX11_alone_18 ?_
    refine lv_iload_n F.1 F.2.1 dX11_alone_21 rfl (lv_at hl 1 rfl) ?_
    obtain ⟨r538, hc, hE⟩ := bnd1_some hE
    refine aft_i (run_N (rest := []) F (kX10_hanging (by decide) rfl hc) (okX Z) C hS (C.2.2 _ _ mlX11_260 rfl) lkX11_260 ⟨Nat.le_of_ble_eq_true rfl, Nat.le_of_ble_eq_true rfl⟩ (rvo9 C hP) hP rfl hl.1 rfl (lv_room (Nat.le_of_ble_eq_true rfl)) dX11_alone_22 ⟨Nat.zero_le _, Nat.zero_le _⟩) hS (fun H locs hP hS => ?_)
    refine lv_istore_n (lv' := [(2, .int r538), (0, .ref (oA Z 0)), (1, .int p1)]) F.1 F.2.1 dX11_alone_25 rfl hl (by decide) rfl (fun ls hl => ?_)
    refine lv_iload_n F.1 F.2.1 dX11_alone_26 rfl (lv_at hl 0 rfl) ?_
    refine lv_if_ne (tgt := 33) F.1 F.2.1 dX11_alone_27 (by decide) (fun hc => ?_) (fun hc => ?_)
    · have hE := ifn hE hc
      refine lv_aload_n F.1 F.2.1 dX11_alone_33 rfl (lv_at hl 1 rfl) ?_
      refine gX11_33 F C hP dX11_alone_34 ?_
      refine lv_aload_n F.1 F.2.1 dX11_alone_37 rfl (lv_at hl 1 rfl) ?_
      refine gX11_10 F C hP dX11_alone_38 ?_
      refine lv_iload_n F.1 F.2.1 dX11_alone_41 rfl (lv_at hl 0 rfl) ?_
      obtain ⟨r539, hc, hE⟩ := bnd1_some hE
      refine aft_i (run_N (rest := [.ref (oA Z 4)]) F (kX3_weightOf (by decide) rfl hc) (okX Z) C hS (C.2.2 _ _ mlX11_214 rfl) lkX11_214 ⟨Nat.le_of_ble_eq_true rfl, Nat.le_of_ble_eq_true rfl⟩ (rvh0 C hP (by decide)) hP rfl hl.1 rfl (lv_room (Nat.le_of_ble_eq_true rfl)) dX11_alone_42 ⟨Nat.zero_le _, Nat.zero_le _⟩) hS (fun H locs hP hS => ?_)
      refine lv_i2l (v := r539.toInt64) F.1 F.2.1 dX11_alone_45 rfl ?_
      obtain ⟨ztz_540, ztn_540, hc, hE⟩ := bnd2_some hE
      refine aft_v (run_N (rest := []) F (kX8_tells hc) (okX Z) C hS (C.2.2 _ _ mlX11_114 rfl) lkX11_114 ⟨Nat.le_of_ble_eq_true rfl, Nat.le_of_ble_eq_true rfl⟩ (rvo4 C hP) hP rfl hl.1 rfl (lv_room (Nat.le_of_ble_eq_true rfl)) dX11_alone_46 ⟨Nat.zero_le _, Nat.zero_le _⟩) hS (fun H locs hP hS => ?_)
      refine lv_iload_n F.1 F.2.1 dX11_alone_49 rfl (lv_at hl 0 rfl) ?_
      have w0 := Option.some.inj hE
      obtain ⟨g0, w1⟩ := Prod.mk.inj w0
      obtain ⟨g1, w2⟩ := Prod.mk.inj w1
      subst g0 g1 w2
      exact ret_i F hr hlk hP hS dX11_alone_50
    · have hE := ifp hE hc
      refine lv_bipush (v := (-2)) F.1 F.2.1 dX11_alone_30 (by decide) ?_
      have w0 := Option.some.inj hE
      obtain ⟨g0, w1⟩ := Prod.mk.inj w0
      obtain ⟨g1, w2⟩ := Prod.mk.inj w1
      subst g0 g1 w2
      exact ret_i F hr hlk hP hS dX11_alone_32
  · have hE := ifp hE hc
    refine lv_iconst (v := (-1)) F.1 F.2.1 dX11_alone_11 (by decide) ?_
    have w0 := Option.some.inj hE
    obtain ⟨g0, w1⟩ := Prod.mk.inj w0
    obtain ⟨g1, w2⟩ := Prod.mk.inj w1
    subst g0 g1 w2
    exact ret_i F hr hlk hP hS dX11_alone_12
set_option maxRecDepth 100000 in
set_option maxHeartbeats 4000000 in
theorem qX11_keepers_66 {p : Program} {l : Launch} {e : Env} {s : State} {m : MethodId} {args : Array Value} {below : List Frame} {meth : Method} {c : Code} {Z : ZC} {HS : Nat → Nat → Nat → Int32} {zkb : Int32} {zdr : Int32} {zky : Nat → Int32} {zpn : Int32} {zps : Int32} {zxz : Int32} {zxa : Int32} {zsg : Nat → Int32} {za0 : Int32} {za1 : Int32} {za2 : Int32} {za3 : Int32} {za4 : Int32} {zfr : Nat → Int32} {zcd : Int32} {zgo : Nat → Int32} {ztd : Int32} {ztv : Int32} {zcl : Nat → Int32} {zca : Nat → Int32} {zwa : Nat → Int32} {zpt : Nat → Int32} {zpf : Nat → Int32} {N : Nat} {p1 : Int32} {r' : Int32} {ztz' : Int32} {ztn' : Nat → Int64} (F : CallFix p m c cX11_keepers 5 s args bigW RX11) (hr : meth.sig.returnType = (some .int)) (hlk : meth.locks = false) (C : KX Z s) : ∀ (ztz : Int32) (ztn : Nat → Int64) (x2 : Int32), fX11_keepers_66 N HS p1 ztz ztn x2 = some (r', ztz', ztn') → ∀ (H : Heap) (locs : List Loc), PX Z HS zkb zdr zky zpn zps ztz ztn zxz zxa zsg za0 za1 za2 za3 za4 zfr zcd zgo ztd ztv zcl zca zwa zpt zpf H → va_S (AX Z) s.heap H locs → ∀ ls : Array Slot, lv_has ls 5 [(0, .ref (oA Z 0)), (2, .int x2)] → W p l e (rmk 4 95) s m args below meth c H locs 0 0 (MQ below (Qi (KX Z) (AX Z) (PX Z HS zkb zdr zky zpn zps ztz' ztn' zxz zxa zsg za0 za1 za2 za3 za4 zfr zcd zgo ztd ztv zcl zca zwa zpt zpf) r') args s 0 0 (AX Z)) (F0 m 66 ls []) := by
  intro ztz ztn x2 hE H locs hP hS ls hl
  unfold fX11_keepers_66 at hE
  refine lv_iload_n F.1 F.2.1 dX11_keepers_66 rfl (lv_at hl 1 rfl) ?_
  refine lv_if_ne (tgt := 73) F.1 F.2.1 dX11_keepers_67 (by decide) (fun hc => ?_) (fun hc => ?_)
  · have hE := ifn hE hc
    refine lv_aload_n F.1 F.2.1 dX11_keepers_73 rfl (lv_at hl 0 rfl) ?_
    refine gX11_54 F C hP dX11_keepers_74 ?_
    refine lv_aload_n F.1 F.2.1 dX11_keepers_77 rfl (lv_at hl 0 rfl) ?_
    refine gX11_10 F C hP dX11_keepers_78 ?_
    refine lv_aload_n F.1 F.2.1 dX11_keepers_81 rfl (lv_at hl 0 rfl) ?_
    refine gX11_10 F C hP dX11_keepers_82 ?_
    refine lv_iload_n F.1 F.2.1 dX11_keepers_85 rfl (lv_at hl 1 rfl) ?_
    obtain ⟨r554, hc, hE⟩ := bnd1_some hE
    refine aft_i (run_N (rest := [.ref (hA Z 0 0), .ref (oA Z 9)]) F (kX3_rootBits (by decide) rfl hc) (okX Z) C hS (C.2.2 _ _ mlX11_243 rfl) lkX11_243 ⟨Nat.le_of_ble_eq_true rfl, Nat.le_of_ble_eq_true rfl⟩ (rvh0 C hP (by decide)) hP rfl hl.1 rfl (lv_room (Nat.le_of_ble_eq_true rfl)) dX11_keepers_86 ⟨Nat.zero_le _, Nat.zero_le _⟩) hS (fun H locs hP hS => ?_)
    refine lv_iconst (v := 0) F.1 F.2.1 dX11_keepers_89 (by decide) ?_
    obtain ⟨r555, hc, hE⟩ := bnd1_some hE
    refine aft_i (run_N (rest := []) F (kX10_spreads (by decide) rfl hc) (okX Z) C hS (C.2.2 _ _ mlX11_253 rfl) lkX11_253 ⟨Nat.le_of_ble_eq_true rfl, Nat.le_of_ble_eq_true rfl⟩ (rvo9 C hP) hP rfl hl.1 rfl (lv_room (Nat.le_of_ble_eq_true rfl)) dX11_keepers_90 ⟨Nat.zero_le _, Nat.zero_le _⟩) hS (fun H locs hP hS => ?_)
    refine lv_istore_n (lv' := [(3, .int r555), (0, .ref (oA Z 0)), (2, .int x2)]) F.1 F.2.1 dX11_keepers_93 rfl hl (by decide) rfl (fun ls hl => ?_)
    refine lv_aload_n F.1 F.2.1 dX11_keepers_94 rfl (lv_at hl 1 rfl) ?_
    refine gX11_33 F C hP dX11_keepers_95 ?_
    refine lv_aload_n F.1 F.2.1 dX11_keepers_98 rfl (lv_at hl 1 rfl) ?_
    refine gX11_54 F C hP dX11_keepers_99 ?_
    refine lv_aload_n F.1 F.2.1 dX11_keepers_102 rfl (lv_at hl 1 rfl) ?_
    refine gX11_10 F C hP dX11_keepers_103 ?_
    obtain ⟨r556, hc, hE⟩ := bnd1_some hE
    refine aft_i (run_N (rest := [.ref (oA Z 4)]) F (kX10_reached (by decide) rfl hc) (okX Z) C hS (C.2.2 _ _ mlX11_188 rfl) lkX11_188 ⟨Nat.le_of_ble_eq_true rfl, Nat.le_of_ble_eq_true rfl⟩ (rvo9 C hP) hP rfl hl.1 rfl (lv_room (Nat.le_of_ble_eq_true rfl)) dX11_keepers_106 ⟨Nat.zero_le _, Nat.zero_le _⟩) hS (fun H locs hP hS => ?_)
    refine lv_iload_n F.1 F.2.1 dX11_keepers_109 rfl (lv_at hl 0 rfl) ?_
    refine lv_iconst (v := (-1)) F.1 F.2.1 dX11_keepers_110 (by decide) ?_
    refine lv_ixor F.1 F.2.1 dX11_keepers_111 ?_
    refine lv_iand F.1 F.2.1 dX11_keepers_112 ?_
    obtain ⟨r557, hc, hE⟩ := bnd1_some hE
    refine aft_i (run_S (rest := [.ref (oA Z 4)]) F (kJ6_bitCount_0f7a4 hc) (okX Z) C hS lkX11_264 ⟨Nat.le_of_ble_eq_true rfl, Nat.le_of_ble_eq_true rfl⟩ hP rfl hl.1 rfl (lv_room (Nat.le_of_ble_eq_true rfl)) dX11_keepers_113 ⟨Nat.zero_le _, Nat.zero_le _⟩) hS (fun H locs hP hS => ?_)
    refine lv_i2l (v := r557.toInt64) F.1 F.2.1 dX11_keepers_116 rfl ?_
    obtain ⟨ztz_558, ztn_558, hc, hE⟩ := bnd2_some hE
    refine aft_v (run_N (rest := []) F (kX8_tells hc) (okX Z) C hS (C.2.2 _ _ mlX11_114 rfl) lkX11_114 ⟨Nat.le_of_ble_eq_true rfl, Nat.le_of_ble_eq_true rfl⟩ (rvo4 C hP) hP rfl hl.1 rfl (lv_room (Nat.le_of_ble_eq_true rfl)) dX11_keepers_117 ⟨Nat.zero_le _, Nat.zero_le _⟩) hS (fun H locs hP hS => ?_)
    refine lv_iload_n F.1 F.2.1 dX11_keepers_120 rfl (lv_at hl 2 rfl) ?_
    have w0 := Option.some.inj hE
    obtain ⟨g0, w1⟩ := Prod.mk.inj w0
    obtain ⟨g1, w2⟩ := Prod.mk.inj w1
    subst g0 g1 w2
    exact ret_i F hr hlk hP hS dX11_keepers_121
  · have hE := ifp hE hc
    refine lv_bipush (v := (-2)) F.1 F.2.1 dX11_keepers_70 (by decide) ?_
    have w0 := Option.some.inj hE
    obtain ⟨g0, w1⟩ := Prod.mk.inj w0
    obtain ⟨g1, w2⟩ := Prod.mk.inj w1
    subst g0 g1 w2
    exact ret_i F hr hlk hP hS dX11_keepers_72
set_option maxRecDepth 100000 in
set_option maxHeartbeats 4000000 in
theorem qX11_keepers_17 {p : Program} {l : Launch} {e : Env} {s : State} {m : MethodId} {args : Array Value} {below : List Frame} {meth : Method} {c : Code} {Z : ZC} {HS : Nat → Nat → Nat → Int32} {zkb : Int32} {zdr : Int32} {zky : Nat → Int32} {zpn : Int32} {zps : Int32} {zxz : Int32} {zxa : Int32} {zsg : Nat → Int32} {za0 : Int32} {za1 : Int32} {za2 : Int32} {za3 : Int32} {za4 : Int32} {zfr : Nat → Int32} {zcd : Int32} {zgo : Nat → Int32} {ztd : Int32} {ztv : Int32} {zcl : Nat → Int32} {zca : Nat → Int32} {zwa : Nat → Int32} {zpt : Nat → Int32} {zpf : Nat → Int32} {N : Nat} {p1 : Int32} {r' : Int32} {ztz' : Int32} {ztn' : Nat → Int64} (F : CallFix p m c cX11_keepers 5 s args bigW RX11) (hr : meth.sig.returnType = (some .int)) (hlk : meth.locks = false) (C : KX Z s) : ∀ n : Nat, ∀ (ztz : Int32) (ztn : Nat → Int64) (x2 : Int32) (x3 : Int32), fX11_keepers_17 N HS p1 n ztz ztn x2 x3 = some (r', ztz', ztn') → ∀ (H : Heap) (locs : List Loc), PX Z HS zkb zdr zky zpn zps ztz ztn zxz zxa zsg za0 za1 za2 za3 za4 zfr zcd zgo ztd ztv zcl zca zwa zpt zpf H → va_S (AX Z) s.heap H locs → ∀ ls : Array Slot, lv_has ls 5 [(0, .ref (oA Z 0)), (1, .int p1), (2, .int x2), (3, .int x3)] → W p l e (rmk 4 95) s m args below meth c H locs 0 0 (MQ below (Qi (KX Z) (AX Z) (PX Z HS zkb zdr zky zpn zps ztz' ztn' zxz zxa zsg za0 za1 za2 za3 za4 zfr zcd zgo ztd ztv zcl zca zwa zpt zpf) r') args s 0 0 (AX Z)) (F0 m 17 ls []) := by
  intro n
  induction n with
  | zero => intro ztz ztn x2 x3 hE; cases hE
  | succ n h17 =>
    intro ztz ztn x2 x3 hE H locs hP hS ls hl
    have hE : fX11_keepers_17b N HS p1 (fX11_keepers_17 N HS p1 n) ztz ztn x2 x3 = some (r', ztz', ztn') := hE
    refine lv_iload_n F.1 F.2.1 dX11_keepers_17 rfl (lv_at hl 3 rfl) ?_
    refine lv_bipush (v := 6) F.1 F.2.1 dX11_keepers_18 (by decide) ?_
    refine lv_icmp_ge (tgt := 66) F.1 F.2.1 dX11_keepers_20 (by decide) (fun hc => ?_) (fun hc => ?_)
    · have hE := ifp hE hc
      exact qX11_keepers_66 F hr hlk C ztz ztn x2 hE _ _ hP hS ls (lv_sub hl [0, 2] rfl)
    · have hE := ifn hE hc
      refine lv_aload_n F.1 F.2.1 dX11_keepers_23 rfl (lv_at hl 0 rfl) ?_
      refine gX11_10 F C hP dX11_keepers_24 ?_
      refine lv_iconst (v := 1) F.1 F.2.1 dX11_keepers_27 (by decide) ?_
      refine lv_iload_n F.1 F.2.1 dX11_keepers_28 rfl (lv_at hl 3 rfl) ?_
      refine rj_ishl F.1 F.2.1 dX11_keepers_29 ?_
      refine lv_iconst (v := (-1)) F.1 F.2.1 dX11_keepers_30 (by decide) ?_
      refine lv_ixor F.1 F.2.1 dX11_keepers_31 ?_
      obtain ⟨r551, hc, hE⟩ := bnd1_some hE
      refine aft_i (run_N (rest := []) F (kX3_rootBits (by decide) rfl hc) (okX Z) C hS (C.2.2 _ _ mlX11_243 rfl) lkX11_243 ⟨Nat.le_of_ble_eq_true rfl, Nat.le_of_ble_eq_true rfl⟩ (rvh0 C hP (by decide)) hP rfl hl.1 rfl (lv_room (Nat.le_of_ble_eq_true rfl)) dX11_keepers_32 ⟨Nat.zero_le _, Nat.zero_le _⟩) hS (fun H locs hP hS => ?_)
      refine lv_istore (lv' := [(4, .int r551), (0, .ref (oA Z 0)), (1, .int p1), (2, .int x2), (3, .int x3)]) F.1 F.2.1 dX11_keepers_35 hl (by decide) rfl (fun ls hl => ?_)
      refine lv_iload_n F.1 F.2.1 dX11_keepers_37 rfl (lv_at hl 3 rfl) ?_
      refine lv_aload_n F.1 F.2.1 dX11_keepers_38 rfl (lv_at hl 1 rfl) ?_
      refine gX11_54 F C hP dX11_keepers_39 ?_
      refine lv_aload_n F.1 F.2.1 dX11_keepers_42 rfl (lv_at hl 1 rfl) ?_
      refine gX11_10 F C hP dX11_keepers_43 ?_
      refine lv_iload F.1 F.2.1 dX11_keepers_46 (lv_at hl 0 rfl) ?_
      refine lv_iconst (v := 0) F.1 F.2.1 dX11_keepers_48 (by decide) ?_
      obtain ⟨r552, hc, hE⟩ := bnd1_some hE
      refine aft_i (run_N (rest := [.int x2]) F (kX10_spreads (by decide) rfl hc) (okX Z) C hS (C.2.2 _ _ mlX11_253 rfl) lkX11_253 ⟨Nat.le_of_ble_eq_true rfl, Nat.le_of_ble_eq_true rfl⟩ (rvo9 C hP) hP rfl hl.1 rfl (lv_room (Nat.le_of_ble_eq_true rfl)) dX11_keepers_49 ⟨Nat.zero_le _, Nat.zero_le _⟩) hS (fun H locs hP hS => ?_)
      refine lv_iload_n F.1 F.2.1 dX11_keepers_52 rfl (lv_at hl 2 rfl) ?_
      obtain ⟨r553, hc, hE⟩ := bnd1_some hE
      refine aft_i (run_S (rest := [.int x2]) F (kX11_bit hc) (okX Z) C hS lkX11_181 ⟨Nat.le_of_ble_eq_true rfl, Nat.le_of_ble_eq_true rfl⟩ hP rfl hl.1 rfl (lv_room (Nat.le_of_ble_eq_true rfl)) dX11_keepers_53 ⟨Nat.zero_le _, Nat.zero_le _⟩) hS (fun H locs hP hS => ?_)
      refine lv_iload_n F.1 F.2.1 dX11_keepers_56 rfl (lv_at hl 4 rfl) ?_
      refine rj_ishl F.1 F.2.1 dX11_keepers_57 ?_
      refine lv_ior F.1 F.2.1 dX11_keepers_58 ?_
      refine lv_istore_n (lv' := [(2, .int (x2 ||| (jshl r553 x3))), (4, .int r551), (0, .ref (oA Z 0)), (1, .int p1), (3, .int x3)]) F.1 F.2.1 dX11_keepers_59 rfl hl (by decide) rfl (fun ls hl => ?_)
      refine lv_iinc (v := x3 + 1) (lv' := [(3, .int (x3 + 1)), (2, .int (x2 ||| (jshl r553 x3))), (4, .int r551), (0, .ref (oA Z 0)), (1, .int p1)]) F.1 F.2.1 dX11_keepers_60 hl (k := 4) rfl rfl (by decide) rfl (fun ls hl => ?_)
      refine lv_goto (tgt := 17) F.1 F.2.1 dX11_keepers_63 (by decide) ?_
      exact h17 ztz ztn (x2 ||| (jshl r553 x3)) (x3 + 1) hE _ _ hP hS ls (lv_sub hl [3, 4, 1, 0] rfl)
set_option maxRecDepth 100000 in
set_option maxHeartbeats 4000000 in
theorem kX11_keepers {l : Launch} {Z : ZC} {HS : Nat → Nat → Nat → Int32} {zkb : Int32} {zdr : Int32} {zky : Nat → Int32} {zpn : Int32} {zps : Int32} {ztz : Int32} {ztn : Nat → Int64} {zxz : Int32} {zxa : Int32} {zsg : Nat → Int32} {za0 : Int32} {za1 : Int32} {za2 : Int32} {za3 : Int32} {za4 : Int32} {zfr : Nat → Int32} {zcd : Int32} {zgo : Nat → Int32} {ztd : Int32} {ztv : Int32} {zcl : Nat → Int32} {zca : Nat → Int32} {zwa : Nat → Int32} {zpt : Nat → Int32} {zpf : Nat → Int32} {N : Nat} {p1 : Int32} {r' : Int32} {ztz' : Int32} {ztn' : Nat → Int64} (hE : fX11_keepers N ztz ztn HS p1 = some (r', ztz', ztn')) : Mg l yX11_keepers cX11_keepers 5 (some .int) (rmk 4 95) (KX Z) (AX Z) [.ref (oA Z 0), .int p1] (PX Z HS zkb zdr zky zpn zps ztz ztn zxz zxa zsg za0 za1 za2 za3 za4 zfr zcd zgo ztd ztv zcl zca zwa zpt zpf) (Qi (KX Z) (AX Z) (PX Z HS zkb zdr zky zpn zps ztz' ztn' zxz zxa zsg za0 za1 za2 za3 za4 zfr zcd zgo ztd ztv zcl zca zwa zpt zpf) r') := by
  refine Mg.start (lv := [(0, .ref (oA Z 0)), (1, .int p1)]) (by decide) rfl (Nat.le_of_ble_eq_true rfl) rfl ?_
  intro p e s m below meth c F hr hlk C hP ls hl
  have hS : va_S (AX Z) s.heap s.heap [] := va_S.rf
  unfold fX11_keepers at hE
  refine lv_aload_n F.1 F.2.1 dX11_keepers_0 rfl (lv_at hl 0 rfl) ?_
  refine gX11_10 F C hP dX11_keepers_1 ?_
  refine lv_iload_n F.1 F.2.1 dX11_keepers_4 rfl (lv_at hl 1 rfl) ?_
  obtain ⟨r550, hc, hE⟩ := bnd1_some hE
  refine aft_i (run_N (rest := []) F (kX3_has (by decide) rfl hc) (okX Z) C hS (C.2.2 _ _ mlX11_156 rfl) lkX11_156 ⟨Nat.le_of_ble_eq_true rfl, Nat.le_of_ble_eq_true rfl⟩ (rvh0 C hP (by decide)) hP rfl hl.1 rfl (lv_room (Nat.le_of_ble_eq_true rfl)) dX11_keepers_5 ⟨Nat.zero_le _, Nat.zero_le _⟩) hS (fun H locs hP hS => ?_)
  refine lv_if_ne (tgt := 13) F.1 F.2.1 dX11_keepers_8 (by decide) (fun hc => ?_) (fun hc => ?_)
  · have hE := ifn hE hc
    refine lv_iconst (v := 0) F.1 F.2.1 dX11_keepers_13 (by decide) ?_
    refine lv_istore_n (lv' := [(2, .int 0), (0, .ref (oA Z 0)), (1, .int p1)]) F.1 F.2.1 dX11_keepers_14 rfl hl (by decide) rfl (fun ls hl => ?_)
    refine lv_iconst (v := 0) F.1 F.2.1 dX11_keepers_15 (by decide) ?_
    refine lv_istore_n (lv' := [(3, .int 0), (2, .int 0), (0, .ref (oA Z 0)), (1, .int p1)]) F.1 F.2.1 dX11_keepers_16 rfl hl (by decide) rfl (fun ls hl => ?_)
    exact qX11_keepers_17 F hr hlk C N ztz ztn 0 0 hE _ _ hP hS ls (lv_sub hl [2, 3, 1, 0] rfl)
  · have hE := ifp hE hc
    refine lv_iconst (v := (-1)) F.1 F.2.1 dX11_keepers_11 (by decide) ?_
    have w0 := Option.some.inj hE
    obtain ⟨g0, w1⟩ := Prod.mk.inj w0
    obtain ⟨g1, w2⟩ := Prod.mk.inj w1
    subst g0 g1 w2
    exact ret_i F hr hlk hP hS dX11_keepers_12
set_option maxRecDepth 100000 in
set_option maxHeartbeats 4000000 in
theorem kX11_cut {l : Launch} {Z : ZC} {HS : Nat → Nat → Nat → Int32} {zkb : Int32} {zdr : Int32} {zky : Nat → Int32} {zpn : Int32} {zps : Int32} {ztz : Int32} {ztn : Nat → Int64} {zxz : Int32} {zxa : Int32} {zsg : Nat → Int32} {za0 : Int32} {za1 : Int32} {za2 : Int32} {za3 : Int32} {za4 : Int32} {zfr : Nat → Int32} {zcd : Int32} {zgo : Nat → Int32} {ztd : Int32} {ztv : Int32} {zcl : Nat → Int32} {zca : Nat → Int32} {zwa : Nat → Int32} {zpt : Nat → Int32} {zpf : Nat → Int32} {N : Nat} {p1 : Int32} {p2 : Int32} {r' : Int32} {ztz' : Int32} {ztn' : Nat → Int64} {zcd' : Int32} {zgo' : Nat → Int32} {HS' : Nat → Nat → Nat → Int32} (hE : fX11_cut N ztz ztn zcd zgo HS p1 p2 = some (r', ztz', ztn', zcd', zgo', HS')) : Mg l yX11_cut cX11_cut 3 (some .int) (rmk 6 142) (KX Z) (AX Z) [.ref (oA Z 0), .int p1, .int p2] (PX Z HS zkb zdr zky zpn zps ztz ztn zxz zxa zsg za0 za1 za2 za3 za4 zfr zcd zgo ztd ztv zcl zca zwa zpt zpf) (Qi (KX Z) (AX Z) (PX Z HS' zkb zdr zky zpn zps ztz' ztn' zxz zxa zsg za0 za1 za2 za3 za4 zfr zcd' zgo' ztd ztv zcl zca zwa zpt zpf) r') := by
  refine Mg.start (lv := [(0, .ref (oA Z 0)), (1, .int p1), (2, .int p2)]) (by decide) rfl (Nat.le_of_ble_eq_true rfl) rfl ?_
  intro p e s m below meth c F hr hlk C hP ls hl
  have hS : va_S (AX Z) s.heap s.heap [] := va_S.rf
  unfold fX11_cut at hE
  refine lv_aload_n F.1 F.2.1 dX11_cut_0 rfl (lv_at hl 0 rfl) ?_
  refine gX11_10 F C hP dX11_cut_1 ?_
  refine lv_iload_n F.1 F.2.1 dX11_cut_4 rfl (lv_at hl 1 rfl) ?_
  refine lv_iload_n F.1 F.2.1 dX11_cut_5 rfl (lv_at hl 2 rfl) ?_
  obtain ⟨r565, hc, hE⟩ := bnd1_some hE
  refine aft_i (run_N (rest := []) F (kX3_hasField (by decide) rfl hc) (okX Z) C hS (C.2.2 _ _ mlX11_194 rfl) lkX11_194 ⟨Nat.le_of_ble_eq_true rfl, Nat.le_of_ble_eq_true rfl⟩ (rvh0 C hP (by decide)) hP rfl hl.1 rfl (lv_room (Nat.le_of_ble_eq_true rfl)) dX11_cut_6 ⟨Nat.zero_le _, Nat.zero_le _⟩) hS (fun H locs hP hS => ?_)
  refine lv_if_ne (tgt := 14) F.1 F.2.1 dX11_cut_9 (by decide) (fun hc => ?_) (fun hc => ?_)
  · have hE := ifn hE hc
    refine lv_aload_n F.1 F.2.1 dX11_cut_14 rfl (lv_at hl 0 rfl) ?_
    refine gX11_10 F C hP dX11_cut_15 ?_
    refine lv_iload_n F.1 F.2.1 dX11_cut_18 rfl (lv_at hl 1 rfl) ?_
    refine lv_iload_n F.1 F.2.1 dX11_cut_19 rfl (lv_at hl 2 rfl) ?_
    obtain ⟨r566, hc, hE⟩ := bnd1_some hE
    refine aft_i (run_N (rest := []) F (kX3_fieldAt (by decide) rfl hc) (okX Z) C hS (C.2.2 _ _ mlX11_200 rfl) lkX11_200 ⟨Nat.le_of_ble_eq_true rfl, Nat.le_of_ble_eq_true rfl⟩ (rvh0 C hP (by decide)) hP rfl hl.1 rfl (lv_room (Nat.le_of_ble_eq_true rfl)) dX11_cut_20 ⟨Nat.zero_le _, Nat.zero_le _⟩) hS (fun H locs hP hS => ?_)
    refine lv_iconst (v := (-1)) F.1 F.2.1 dX11_cut_23 (by decide) ?_
    refine lv_icmp_ne (tgt := 30) F.1 F.2.1 dX11_cut_24 (by decide) (fun hc => ?_) (fun hc => ?_)
    · have hE := ifn hE hc
      refine lv_aload_n F.1 F.2.1 dX11_cut_30 rfl (lv_at hl 0 rfl) ?_
      refine gX11_16 F C hP dX11_cut_31 ?_
      refine lv_aload_n F.1 F.2.1 dX11_cut_34 rfl (lv_at hl 0 rfl) ?_
      refine gX11_10 F C hP dX11_cut_35 ?_
      obtain ⟨HS_567, eHS_567, hE⟩ := lt_some hE
      refine aft_v (run_N (rest := []) F (ccX3_copies (by decide) (by decide) (by omega) eHS_567.symm) (okX Z) C hS (C.2.2 _ _ mlX11_269 rfl) lkX11_269 ⟨Nat.le_of_ble_eq_true rfl, Nat.le_of_ble_eq_true rfl⟩ (rvh0 C hP (by decide)) hP rfl hl.1 rfl (lv_room (Nat.le_of_ble_eq_true rfl)) dX11_cut_38 ⟨Nat.zero_le _, Nat.zero_le _⟩) hS (fun H locs hP hS => ?_)
      refine lv_aload_n F.1 F.2.1 dX11_cut_41 rfl (lv_at hl 0 rfl) ?_
      refine gX11_61 F C hP dX11_cut_42 ?_
      refine lv_aload_n F.1 F.2.1 dX11_cut_45 rfl (lv_at hl 0 rfl) ?_
      refine gX11_16 F C hP dX11_cut_46 ?_
      refine lv_iload_n F.1 F.2.1 dX11_cut_49 rfl (lv_at hl 1 rfl) ?_
      refine lv_iload_n F.1 F.2.1 dX11_cut_50 rfl (lv_at hl 2 rfl) ?_
      refine lv_iconst (v := (-1)) F.1 F.2.1 dX11_cut_51 (by decide) ?_
      obtain ⟨zcd_568, zgo_568, X_568, hc, hE⟩ := bnd3_some hE
      obtain ⟨HS_569, eHS_569, hE⟩ := lt_some hE
      refine aft_v (run_N (rest := []) F (kX2_laysField (by decide) rfl eHS_569.symm hc) (okX Z) C hS (C.2.2 _ _ mlX11_272 rfl) lkX11_272 ⟨Nat.le_of_ble_eq_true rfl, Nat.le_of_ble_eq_true rfl⟩ (rvo11 C hP) hP rfl hl.1 rfl (lv_room (Nat.le_of_ble_eq_true rfl)) dX11_cut_52 ⟨Nat.zero_le _, Nat.zero_le _⟩) hS (fun H locs hP hS => ?_)
      refine lv_aload_n F.1 F.2.1 dX11_cut_55 rfl (lv_at hl 0 rfl) ?_
      refine gX11_33 F C hP dX11_cut_56 ?_
      refine lv_aload_n F.1 F.2.1 dX11_cut_59 rfl (lv_at hl 0 rfl) ?_
      refine gX11_16 F C hP dX11_cut_60 ?_
      refine gX11_149 F C hP (by decide) rfl dX11_cut_63 ?_
      refine gX11_153 F C hP (by decide) rfl dX11_cut_66 ?_
      refine lv_i2l (v := ((HS_569 1) 8 1).toInt64) F.1 F.2.1 dX11_cut_69 rfl ?_
      obtain ⟨ztz_570, ztn_570, hc, hE⟩ := bnd2_some hE
      refine aft_v (run_N (rest := []) F (kX8_tells hc) (okX Z) C hS (C.2.2 _ _ mlX11_114 rfl) lkX11_114 ⟨Nat.le_of_ble_eq_true rfl, Nat.le_of_ble_eq_true rfl⟩ (rvo4 C hP) hP rfl hl.1 rfl (lv_room (Nat.le_of_ble_eq_true rfl)) dX11_cut_70 ⟨Nat.zero_le _, Nat.zero_le _⟩) hS (fun H locs hP hS => ?_)
      refine lv_aload_n F.1 F.2.1 dX11_cut_73 rfl (lv_at hl 0 rfl) ?_
      refine gX11_10 F C hP dX11_cut_74 ?_
      refine gX11_208 F C hP (by decide) rfl dX11_cut_77 ?_
      refine lv_aload_n F.1 F.2.1 dX11_cut_80 rfl (lv_at hl 0 rfl) ?_
      refine gX11_16 F C hP dX11_cut_81 ?_
      refine gX11_208 F C hP (by decide) rfl dX11_cut_84 ?_
      refine lv_iconst (v := (-1)) F.1 F.2.1 dX11_cut_87 (by decide) ?_
      refine lv_ixor F.1 F.2.1 dX11_cut_88 ?_
      refine lv_iand F.1 F.2.1 dX11_cut_89 ?_
      have w0 := Option.some.inj hE
      obtain ⟨g0, w1⟩ := Prod.mk.inj w0
      obtain ⟨g1, w2⟩ := Prod.mk.inj w1
      obtain ⟨g2, w3⟩ := Prod.mk.inj w2
      obtain ⟨g3, w4⟩ := Prod.mk.inj w3
      obtain ⟨g4, w5⟩ := Prod.mk.inj w4
      subst g0 g1 g2 g3 g4 w5
      exact ret_i F hr hlk hP hS dX11_cut_90
    · have hE := ifp hE hc
      refine lv_bipush (v := (-2)) F.1 F.2.1 dX11_cut_27 (by decide) ?_
      have w0 := Option.some.inj hE
      obtain ⟨g0, w1⟩ := Prod.mk.inj w0
      obtain ⟨g1, w2⟩ := Prod.mk.inj w1
      obtain ⟨g2, w3⟩ := Prod.mk.inj w2
      obtain ⟨g3, w4⟩ := Prod.mk.inj w3
      obtain ⟨g4, w5⟩ := Prod.mk.inj w4
      subst g0 g1 g2 g3 g4 w5
      exact ret_i F hr hlk hP hS dX11_cut_29
  · have hE := ifp hE hc
    refine lv_iconst (v := (-1)) F.1 F.2.1 dX11_cut_12 (by decide) ?_
    have w0 := Option.some.inj hE
    obtain ⟨g0, w1⟩ := Prod.mk.inj w0
    obtain ⟨g1, w2⟩ := Prod.mk.inj w1
    obtain ⟨g2, w3⟩ := Prod.mk.inj w2
    obtain ⟨g3, w4⟩ := Prod.mk.inj w3
    obtain ⟨g4, w5⟩ := Prod.mk.inj w4
    subst g0 g1 g2 g3 g4 w5
    exact ret_i F hr hlk hP hS dX11_cut_13
set_option maxRecDepth 100000 in
set_option maxHeartbeats 4000000 in
theorem kX11_would {l : Launch} {Z : ZC} {HS : Nat → Nat → Nat → Int32} {zkb : Int32} {zdr : Int32} {zky : Nat → Int32} {zpn : Int32} {zps : Int32} {ztz : Int32} {ztn : Nat → Int64} {zxz : Int32} {zxa : Int32} {zsg : Nat → Int32} {za0 : Int32} {za1 : Int32} {za2 : Int32} {za3 : Int32} {za4 : Int32} {zfr : Nat → Int32} {zcd : Int32} {zgo : Nat → Int32} {ztd : Int32} {ztv : Int32} {zcl : Nat → Int32} {zca : Nat → Int32} {zwa : Nat → Int32} {zpt : Nat → Int32} {zpf : Nat → Int32} {N : Nat} {r' : Int32} {ztz' : Int32} {ztn' : Nat → Int64} {zcd' : Int32} {zgo' : Nat → Int32} {ztd' : Int32} {ztv' : Int32} {zcl' : Nat → Int32} {zca' : Nat → Int32} {zwa' : Nat → Int32} {zpt' : Nat → Int32} {zpf' : Nat → Int32} {HS' : Nat → Nat → Nat → Int32} (hE : fX11_would N ztz ztn zcd zgo ztd ztv zcl zca zwa zpt zpf HS = some (r', ztz', ztn', zcd', zgo', ztd', ztv', zcl', zca', zwa', zpt', zpf', HS')) : Mg l yX11_would cX11_would 2 (some .int) (rmk 6 138) (KX Z) (AX Z) [.ref (oA Z 0)] (PX Z HS zkb zdr zky zpn zps ztz ztn zxz zxa zsg za0 za1 za2 za3 za4 zfr zcd zgo ztd ztv zcl zca zwa zpt zpf) (Qi (KX Z) (AX Z) (PX Z HS' zkb zdr zky zpn zps ztz' ztn' zxz zxa zsg za0 za1 za2 za3 za4 zfr zcd' zgo' ztd' ztv' zcl' zca' zwa' zpt' zpf') r') := by
  refine Mg.start (lv := [(0, .ref (oA Z 0))]) (by decide) rfl (Nat.le_of_ble_eq_true rfl) rfl ?_
  intro p e s m below meth c F hr hlk C hP ls hl
  have hS : va_S (AX Z) s.heap s.heap [] := va_S.rf
  unfold fX11_would at hE
  refine lv_aload_n F.1 F.2.1 dX11_would_0 rfl (lv_at hl 0 rfl) ?_
  refine gX11_10 F C hP dX11_would_1 ?_
  refine gX11_149 F C hP (by decide) rfl dX11_would_4 ?_
  refine gX11_153 F C hP (by decide) rfl dX11_would_7 ?_
  refine lv_if_ne (tgt := 16) F.1 F.2.1 dX11_would_10 (by decide) (fun hc => ?_) (fun hc => ?_)
  · have hE := ifn hE hc
    refine lv_aload_n F.1 F.2.1 dX11_would_16 rfl (lv_at hl 0 rfl) ?_
    refine gX11_16 F C hP dX11_would_17 ?_
    refine lv_aload_n F.1 F.2.1 dX11_would_20 rfl (lv_at hl 0 rfl) ?_
    refine gX11_10 F C hP dX11_would_21 ?_
    obtain ⟨HS_580, eHS_580, hE⟩ := lt_some hE
    refine aft_v (run_N (rest := []) F (ccX3_copies (by decide) (by decide) (by omega) eHS_580.symm) (okX Z) C hS (C.2.2 _ _ mlX11_269 rfl) lkX11_269 ⟨Nat.le_of_ble_eq_true rfl, Nat.le_of_ble_eq_true rfl⟩ (rvh0 C hP (by decide)) hP rfl hl.1 rfl (lv_room (Nat.le_of_ble_eq_true rfl)) dX11_would_24 ⟨Nat.zero_le _, Nat.zero_le _⟩) hS (fun H locs hP hS => ?_)
    refine lv_aload_n F.1 F.2.1 dX11_would_27 rfl (lv_at hl 0 rfl) ?_
    refine gX11_70 F C hP dX11_would_28 ?_
    refine lv_aload_n F.1 F.2.1 dX11_would_31 rfl (lv_at hl 0 rfl) ?_
    refine gX11_16 F C hP dX11_would_32 ?_
    obtain ⟨zcd_581, zgo_581, ztd_581, ztv_581, zcl_581, zca_581, zwa_581, zpt_581, zpf_581, X_581, hc, hE⟩ := bnd10_some hE
    obtain ⟨HS_582, eHS_582, hE⟩ := lt_some hE
    refine aft_v (run_N (rest := []) F (kX9_tries (by decide) rfl eHS_582.symm hc) (okX Z) C hS (C.2.2 _ _ mlX11_276 rfl) lkX11_276 ⟨Nat.le_of_ble_eq_true rfl, Nat.le_of_ble_eq_true rfl⟩ (rvo13 C hP) hP rfl hl.1 rfl (lv_room (Nat.le_of_ble_eq_true rfl)) dX11_would_35 ⟨Nat.zero_le _, Nat.zero_le _⟩) hS (fun H locs hP hS => ?_)
    refine lv_aload_n F.1 F.2.1 dX11_would_38 rfl (lv_at hl 0 rfl) ?_
    refine gX11_16 F C hP dX11_would_39 ?_
    refine gX11_125 F C hP (by decide) rfl dX11_would_42 ?_
    refine gX11_134 F C hP (by decide) rfl dX11_would_45 ?_
    refine lv_iconst (v := 3) F.1 F.2.1 dX11_would_48 (by decide) ?_
    obtain ⟨hi, hE⟩ := grd_some hE
    refine ah13 F C hP (by decide) rfl hi dX11_would_49 ?_
    refine lv_aload_n F.1 F.2.1 dX11_would_50 rfl (lv_at hl 0 rfl) ?_
    refine gX11_10 F C hP dX11_would_51 ?_
    refine gX11_125 F C hP (by decide) rfl dX11_would_54 ?_
    refine gX11_134 F C hP (by decide) rfl dX11_would_57 ?_
    refine lv_iconst (v := 3) F.1 F.2.1 dX11_would_60 (by decide) ?_
    obtain ⟨hi, hE⟩ := grd_some hE
    refine ah13 F C hP (by decide) rfl hi dX11_would_61 ?_
    refine lv_isub F.1 F.2.1 dX11_would_62 ?_
    obtain ⟨v_583, ev_583, hE⟩ := lt_some hE
    refine lv_seti ev_583 ?_
    refine lv_istore_n (lv' := [(1, .int v_583), (0, .ref (oA Z 0))]) F.1 F.2.1 dX11_would_63 rfl hl (by decide) rfl (fun ls hl => ?_)
    refine lv_aload_n F.1 F.2.1 dX11_would_64 rfl (lv_at hl 1 rfl) ?_
    refine gX11_33 F C hP dX11_would_65 ?_
    refine lv_iload_n F.1 F.2.1 dX11_would_68 rfl (lv_at hl 0 rfl) ?_
    refine lv_i2l (v := v_583.toInt64) F.1 F.2.1 dX11_would_69 rfl ?_
    refine lv_aload_n F.1 F.2.1 dX11_would_70 rfl (lv_at hl 1 rfl) ?_
    refine gX11_70 F C hP dX11_would_71 ?_
    refine gX11_137 F C hP dX11_would_74 ?_
    refine lv_i2l (v := ztv_581.toInt64) F.1 F.2.1 dX11_would_77 rfl ?_
    refine lv_aload_n F.1 F.2.1 dX11_would_78 rfl (lv_at hl 1 rfl) ?_
    refine gX11_16 F C hP dX11_would_79 ?_
    refine gX11_149 F C hP (by decide) rfl dX11_would_82 ?_
    refine gX11_153 F C hP (by decide) rfl dX11_would_85 ?_
    refine lv_i2l (v := ((HS_582 1) 8 1).toInt64) F.1 F.2.1 dX11_would_88 rfl ?_
    obtain ⟨ztz_584, ztn_584, hc, hE⟩ := bnd2_some hE
    refine aft_v (run_N (rest := []) F (kX8_tells__ hc) (okX Z) C hS (C.2.2 _ _ mlX11_279 rfl) lkX11_279 ⟨Nat.le_of_ble_eq_true rfl, Nat.le_of_ble_eq_true rfl⟩ (rvo4 C hP) hP rfl hl.1 rfl (lv_room (Nat.le_of_ble_eq_true rfl)) dX11_would_89 ⟨Nat.zero_le _, Nat.zero_le _⟩) hS (fun H locs hP hS => ?_)
    refine lv_aload_n F.1 F.2.1 dX11_would_92 rfl (lv_at hl 1 rfl) ?_
    refine gX11_10 F C hP dX11_would_93 ?_
    refine gX11_208 F C hP (by decide) rfl dX11_would_96 ?_
    refine lv_aload_n F.1 F.2.1 dX11_would_99 rfl (lv_at hl 1 rfl) ?_
    refine gX11_16 F C hP dX11_would_100 ?_
    refine gX11_208 F C hP (by decide) rfl dX11_would_103 ?_
    refine lv_iconst (v := (-1)) F.1 F.2.1 dX11_would_106 (by decide) ?_
    refine lv_ixor F.1 F.2.1 dX11_would_107 ?_
    refine lv_iand F.1 F.2.1 dX11_would_108 ?_
    have w0 := Option.some.inj hE
    obtain ⟨g0, w1⟩ := Prod.mk.inj w0
    obtain ⟨g1, w2⟩ := Prod.mk.inj w1
    obtain ⟨g2, w3⟩ := Prod.mk.inj w2
    obtain ⟨g3, w4⟩ := Prod.mk.inj w3
    obtain ⟨g4, w5⟩ := Prod.mk.inj w4
    obtain ⟨g5, w6⟩ := Prod.mk.inj w5
    obtain ⟨g6, w7⟩ := Prod.mk.inj w6
    obtain ⟨g7, w8⟩ := Prod.mk.inj w7
    obtain ⟨g8, w9⟩ := Prod.mk.inj w8
    obtain ⟨g9, w10⟩ := Prod.mk.inj w9
    obtain ⟨g10, w11⟩ := Prod.mk.inj w10
    obtain ⟨g11, w12⟩ := Prod.mk.inj w11
    subst g0 g1 g2 g3 g4 g5 g6 g7 g8 g9 g10 g11 w12
    exact ret_i F hr hlk hP hS dX11_would_109
  · have hE := ifp hE hc
    refine lv_bipush (v := (-2)) F.1 F.2.1 dX11_would_13 (by decide) ?_
    have w0 := Option.some.inj hE
    obtain ⟨g0, w1⟩ := Prod.mk.inj w0
    obtain ⟨g1, w2⟩ := Prod.mk.inj w1
    obtain ⟨g2, w3⟩ := Prod.mk.inj w2
    obtain ⟨g3, w4⟩ := Prod.mk.inj w3
    obtain ⟨g4, w5⟩ := Prod.mk.inj w4
    obtain ⟨g5, w6⟩ := Prod.mk.inj w5
    obtain ⟨g6, w7⟩ := Prod.mk.inj w6
    obtain ⟨g7, w8⟩ := Prod.mk.inj w7
    obtain ⟨g8, w9⟩ := Prod.mk.inj w8
    obtain ⟨g9, w10⟩ := Prod.mk.inj w9
    obtain ⟨g10, w11⟩ := Prod.mk.inj w10
    obtain ⟨g11, w12⟩ := Prod.mk.inj w11
    subst g0 g1 g2 g3 g4 g5 g6 g7 g8 g9 g10 g11 w12
    exact ret_i F hr hlk hP hS dX11_would_15
set_option maxRecDepth 100000 in
set_option maxHeartbeats 4000000 in
theorem qX11_settles_49 {p : Program} {l : Launch} {e : Env} {s : State} {m : MethodId} {args : Array Value} {below : List Frame} {meth : Method} {c : Code} {Z : ZC} {zkb : Int32} {zdr : Int32} {zky : Nat → Int32} {zpn : Int32} {zps : Int32} {zxz : Int32} {zxa : Int32} {zsg : Nat → Int32} {za0 : Int32} {za1 : Int32} {za2 : Int32} {za3 : Int32} {za4 : Int32} {zfr : Nat → Int32} {N : Nat} {r' : Int32} {ztz' : Int32} {ztn' : Nat → Int64} {zcd' : Int32} {zgo' : Nat → Int32} {ztd' : Int32} {ztv' : Int32} {zcl' : Nat → Int32} {zca' : Nat → Int32} {zwa' : Nat → Int32} {zpt' : Nat → Int32} {zpf' : Nat → Int32} {HS' : Nat → Nat → Nat → Int32} (F : CallFix p m c cX11_settles 2 s args bigW RX11) (hr : meth.sig.returnType = (some .int)) (hlk : meth.locks = false) (C : KX Z s) : ∀ (ztz : Int32) (ztn : Nat → Int64) (zcd : Int32) (zgo : Nat → Int32) (ztd : Int32) (ztv : Int32) (zcl : Nat → Int32) (zca : Nat → Int32) (zwa : Nat → Int32) (zpt : Nat → Int32) (zpf : Nat → Int32) (HS : Nat → Nat → Nat → Int32) (x1 : Int32), fX11_settles_49 N ztz ztn zcd zgo ztd ztv zcl zca zwa zpt zpf HS x1 = some (r', ztz', ztn', zcd', zgo', ztd', ztv', zcl', zca', zwa', zpt', zpf', HS') → ∀ (H : Heap) (locs : List Loc), PX Z HS zkb zdr zky zpn zps ztz ztn zxz zxa zsg za0 za1 za2 za3 za4 zfr zcd zgo ztd ztv zcl zca zwa zpt zpf H → va_S (AX Z) s.heap H locs → ∀ ls : Array Slot, lv_has ls 2 [(0, .ref (oA Z 0)), (1, .int x1)] → W p l e (rmk 6 138) s m args below meth c H locs 0 0 (MQ below (Qi (KX Z) (AX Z) (PX Z HS' zkb zdr zky zpn zps ztz' ztn' zxz zxa zsg za0 za1 za2 za3 za4 zfr zcd' zgo' ztd' ztv' zcl' zca' zwa' zpt' zpf') r') args s 0 0 (AX Z)) (F0 m 49 ls []) := by
  intro ztz ztn zcd zgo ztd ztv zcl zca zwa zpt zpf HS x1 hE H locs hP hS ls hl
  unfold fX11_settles_49 at hE
  refine lv_aload_n F.1 F.2.1 dX11_settles_49 rfl (lv_at hl 0 rfl) ?_
  refine gX11_16 F C hP dX11_settles_50 ?_
  refine gX11_149 F C hP (by decide) rfl dX11_settles_53 ?_
  refine gX11_153 F C hP (by decide) rfl dX11_settles_56 ?_
  refine lv_if_le (tgt := 65) F.1 F.2.1 dX11_settles_59 (by decide) (fun hc => ?_) (fun hc => ?_)
  · have hE := ifp hE hc
    refine lv_aload_n F.1 F.2.1 dX11_settles_65 rfl (lv_at hl 0 rfl) ?_
    refine gX11_33 F C hP dX11_settles_66 ?_
    refine lv_aload_n F.1 F.2.1 dX11_settles_69 rfl (lv_at hl 0 rfl) ?_
    refine gX11_16 F C hP dX11_settles_70 ?_
    obtain ⟨r596, hc, hE⟩ := bnd1_some hE
    refine aft_i (run_N (rest := [.ref (oA Z 4)]) F (kX3_objects (by decide) rfl hc) (okX Z) C hS (C.2.2 _ _ mlX11_146 rfl) lkX11_146 ⟨Nat.le_of_ble_eq_true rfl, Nat.le_of_ble_eq_true rfl⟩ (rvh0 C hP (by decide)) hP rfl hl.1 rfl (lv_room (Nat.le_of_ble_eq_true rfl)) dX11_settles_73 ⟨Nat.zero_le _, Nat.zero_le _⟩) hS (fun H locs hP hS => ?_)
    refine lv_i2l (v := r596.toInt64) F.1 F.2.1 dX11_settles_76 rfl ?_
    refine lv_aload_n F.1 F.2.1 dX11_settles_77 rfl (lv_at hl 0 rfl) ?_
    refine gX11_16 F C hP dX11_settles_78 ?_
    obtain ⟨r597, hc, hE⟩ := bnd1_some hE
    refine aft_i (run_N (rest := [.long r596.toInt64, .ref (oA Z 4)]) F (kX3_objects (by decide) rfl hc) (okX Z) C hS (C.2.2 _ _ mlX11_146 rfl) lkX11_146 ⟨Nat.le_of_ble_eq_true rfl, Nat.le_of_ble_eq_true rfl⟩ (rvh0 C hP (by decide)) hP rfl hl.1 rfl (lv_room (Nat.le_of_ble_eq_true rfl)) dX11_settles_81 ⟨Nat.zero_le _, Nat.zero_le _⟩) hS (fun H locs hP hS => ?_)
    refine lv_aload_n F.1 F.2.1 dX11_settles_84 rfl (lv_at hl 0 rfl) ?_
    refine gX11_54 F C hP dX11_settles_85 ?_
    refine lv_aload_n F.1 F.2.1 dX11_settles_88 rfl (lv_at hl 0 rfl) ?_
    refine gX11_16 F C hP dX11_settles_89 ?_
    obtain ⟨r598, hc, hE⟩ := bnd1_some hE
    refine aft_i (run_N (rest := [.int r597, .long r596.toInt64, .ref (oA Z 4)]) F (kX10_reached (by decide) rfl hc) (okX Z) C hS (C.2.2 _ _ mlX11_188 rfl) lkX11_188 ⟨Nat.le_of_ble_eq_true rfl, Nat.le_of_ble_eq_true rfl⟩ (rvo9 C hP) hP rfl hl.1 rfl (lv_room (Nat.le_of_ble_eq_true rfl)) dX11_settles_92 ⟨Nat.zero_le _, Nat.zero_le _⟩) hS (fun H locs hP hS => ?_)
    obtain ⟨r599, hc, hE⟩ := bnd1_some hE
    refine aft_i (run_S (rest := [.int r597, .long r596.toInt64, .ref (oA Z 4)]) F (kJ6_bitCount_0f7a4 hc) (okX Z) C hS lkX11_264 ⟨Nat.le_of_ble_eq_true rfl, Nat.le_of_ble_eq_true rfl⟩ hP rfl hl.1 rfl (lv_room (Nat.le_of_ble_eq_true rfl)) dX11_settles_95 ⟨Nat.zero_le _, Nat.zero_le _⟩) hS (fun H locs hP hS => ?_)
    refine lv_isub F.1 F.2.1 dX11_settles_98 ?_
    refine lv_i2l (v := (r597 - r599).toInt64) F.1 F.2.1 dX11_settles_99 rfl ?_
    obtain ⟨ztz_600, ztn_600, hc, hE⟩ := bnd2_some hE
    refine aft_v (run_N (rest := []) F (kX8_tells_ hc) (okX Z) C hS (C.2.2 _ _ mlX11_140 rfl) lkX11_140 ⟨Nat.le_of_ble_eq_true rfl, Nat.le_of_ble_eq_true rfl⟩ (rvo4 C hP) hP rfl hl.1 rfl (lv_room (Nat.le_of_ble_eq_true rfl)) dX11_settles_100 ⟨Nat.zero_le _, Nat.zero_le _⟩) hS (fun H locs hP hS => ?_)
    refine lv_iload_n F.1 F.2.1 dX11_settles_103 rfl (lv_at hl 1 rfl) ?_
    have w0 := Option.some.inj hE
    obtain ⟨g0, w1⟩ := Prod.mk.inj w0
    obtain ⟨g1, w2⟩ := Prod.mk.inj w1
    obtain ⟨g2, w3⟩ := Prod.mk.inj w2
    obtain ⟨g3, w4⟩ := Prod.mk.inj w3
    obtain ⟨g4, w5⟩ := Prod.mk.inj w4
    obtain ⟨g5, w6⟩ := Prod.mk.inj w5
    obtain ⟨g6, w7⟩ := Prod.mk.inj w6
    obtain ⟨g7, w8⟩ := Prod.mk.inj w7
    obtain ⟨g8, w9⟩ := Prod.mk.inj w8
    obtain ⟨g9, w10⟩ := Prod.mk.inj w9
    obtain ⟨g10, w11⟩ := Prod.mk.inj w10
    obtain ⟨g11, w12⟩ := Prod.mk.inj w11
    subst g0 g1 g2 g3 g4 g5 g6 g7 g8 g9 g10 g11 w12
    exact ret_i F hr hlk hP hS dX11_settles_104
  · have hE := ifn hE hc
    refine lv_bipush (v := (-2)) F.1 F.2.1 dX11_settles_62 (by decide) ?_
    have w0 := Option.some.inj hE
    obtain ⟨g0, w1⟩ := Prod.mk.inj w0
    obtain ⟨g1, w2⟩ := Prod.mk.inj w1
    obtain ⟨g2, w3⟩ := Prod.mk.inj w2
    obtain ⟨g3, w4⟩ := Prod.mk.inj w3
    obtain ⟨g4, w5⟩ := Prod.mk.inj w4
    obtain ⟨g5, w6⟩ := Prod.mk.inj w5
    obtain ⟨g6, w7⟩ := Prod.mk.inj w6
    obtain ⟨g7, w8⟩ := Prod.mk.inj w7
    obtain ⟨g8, w9⟩ := Prod.mk.inj w8
    obtain ⟨g9, w10⟩ := Prod.mk.inj w9
    obtain ⟨g10, w11⟩ := Prod.mk.inj w10
    obtain ⟨g11, w12⟩ := Prod.mk.inj w11
    subst g0 g1 g2 g3 g4 g5 g6 g7 g8 g9 g10 g11 w12
    exact ret_i F hr hlk hP hS dX11_settles_64
set_option maxRecDepth 100000 in
set_option maxHeartbeats 4000000 in
theorem qX11_settles_13 {p : Program} {l : Launch} {e : Env} {s : State} {m : MethodId} {args : Array Value} {below : List Frame} {meth : Method} {c : Code} {Z : ZC} {zkb : Int32} {zdr : Int32} {zky : Nat → Int32} {zpn : Int32} {zps : Int32} {zxz : Int32} {zxa : Int32} {zsg : Nat → Int32} {za0 : Int32} {za1 : Int32} {za2 : Int32} {za3 : Int32} {za4 : Int32} {zfr : Nat → Int32} {N : Nat} {r' : Int32} {ztz' : Int32} {ztn' : Nat → Int64} {zcd' : Int32} {zgo' : Nat → Int32} {ztd' : Int32} {ztv' : Int32} {zcl' : Nat → Int32} {zca' : Nat → Int32} {zwa' : Nat → Int32} {zpt' : Nat → Int32} {zpf' : Nat → Int32} {HS' : Nat → Nat → Nat → Int32} (F : CallFix p m c cX11_settles 2 s args bigW RX11) (hr : meth.sig.returnType = (some .int)) (hlk : meth.locks = false) (C : KX Z s) : ∀ n : Nat, ∀ (ztz : Int32) (ztn : Nat → Int64) (zcd : Int32) (zgo : Nat → Int32) (ztd : Int32) (ztv : Int32) (zcl : Nat → Int32) (zca : Nat → Int32) (zwa : Nat → Int32) (zpt : Nat → Int32) (zpf : Nat → Int32) (HS : Nat → Nat → Nat → Int32) (x1 : Int32), fX11_settles_13 N n ztz ztn zcd zgo ztd ztv zcl zca zwa zpt zpf HS x1 = some (r', ztz', ztn', zcd', zgo', ztd', ztv', zcl', zca', zwa', zpt', zpf', HS') → ∀ (H : Heap) (locs : List Loc), PX Z HS zkb zdr zky zpn zps ztz ztn zxz zxa zsg za0 za1 za2 za3 za4 zfr zcd zgo ztd ztv zcl zca zwa zpt zpf H → va_S (AX Z) s.heap H locs → ∀ ls : Array Slot, lv_has ls 2 [(0, .ref (oA Z 0)), (1, .int x1)] → W p l e (rmk 6 138) s m args below meth c H locs 0 0 (MQ below (Qi (KX Z) (AX Z) (PX Z HS' zkb zdr zky zpn zps ztz' ztn' zxz zxa zsg za0 za1 za2 za3 za4 zfr zcd' zgo' ztd' ztv' zcl' zca' zwa' zpt' zpf') r') args s 0 0 (AX Z)) (F0 m 13 ls []) := by
  intro n
  induction n with
  | zero => intro ztz ztn zcd zgo ztd ztv zcl zca zwa zpt zpf HS x1 hE; cases hE
  | succ n h13 =>
    intro ztz ztn zcd zgo ztd ztv zcl zca zwa zpt zpf HS x1 hE H locs hP hS ls hl
    have hE : fX11_settles_13b N (fX11_settles_13 N n) ztz ztn zcd zgo ztd ztv zcl zca zwa zpt zpf HS x1 = some (r', ztz', ztn', zcd', zgo', ztd', ztv', zcl', zca', zwa', zpt', zpf', HS') := hE
    refine lv_iload_n F.1 F.2.1 dX11_settles_13 rfl (lv_at hl 1 rfl) ?_
    refine lv_bipush (v := 30) F.1 F.2.1 dX11_settles_14 (by decide) ?_
    refine lv_icmp_ge (tgt := 49) F.1 F.2.1 dX11_settles_16 (by decide) (fun hc => ?_) (fun hc => ?_)
    · have hE := ifp hE hc
      exact qX11_settles_49 F hr hlk C ztz ztn zcd zgo ztd ztv zcl zca zwa zpt zpf HS x1 hE _ _ hP hS ls (lv_sub hl [0, 1] rfl)
    · have hE := ifn hE hc
      refine lv_aload_n F.1 F.2.1 dX11_settles_19 rfl (lv_at hl 0 rfl) ?_
      refine gX11_16 F C hP dX11_settles_20 ?_
      refine gX11_149 F C hP (by decide) rfl dX11_settles_23 ?_
      refine gX11_153 F C hP (by decide) rfl dX11_settles_26 ?_
      refine lv_if_le (tgt := 49) F.1 F.2.1 dX11_settles_29 (by decide) (fun hc => ?_) (fun hc => ?_)
      · have hE := ifp hE hc
        exact qX11_settles_49 F hr hlk C ztz ztn zcd zgo ztd ztv zcl zca zwa zpt zpf HS x1 hE _ _ hP hS ls (lv_sub hl [0, 1] rfl)
      · have hE := ifn hE hc
        refine lv_aload_n F.1 F.2.1 dX11_settles_32 rfl (lv_at hl 0 rfl) ?_
        refine gX11_70 F C hP dX11_settles_33 ?_
        refine lv_aload_n F.1 F.2.1 dX11_settles_36 rfl (lv_at hl 0 rfl) ?_
        refine gX11_16 F C hP dX11_settles_37 ?_
        obtain ⟨zcd_594, zgo_594, ztd_594, ztv_594, zcl_594, zca_594, zwa_594, zpt_594, zpf_594, X_594, hc, hE⟩ := bnd10_some hE
        obtain ⟨HS_595, eHS_595, hE⟩ := lt_some hE
        refine aft_v (run_N (rest := []) F (kX9_tries (by decide) rfl eHS_595.symm hc) (okX Z) C hS (C.2.2 _ _ mlX11_276 rfl) lkX11_276 ⟨Nat.le_of_ble_eq_true rfl, Nat.le_of_ble_eq_true rfl⟩ (rvo13 C hP) hP rfl hl.1 rfl (lv_room (Nat.le_of_ble_eq_true rfl)) dX11_settles_40 ⟨Nat.zero_le _, Nat.zero_le _⟩) hS (fun H locs hP hS => ?_)
        refine lv_iinc (v := x1 + 1) (lv' := [(1, .int (x1 + 1)), (0, .ref (oA Z 0))]) F.1 F.2.1 dX11_settles_43 hl (k := 1) rfl rfl (by decide) rfl (fun ls hl => ?_)
        refine lv_goto (tgt := 13) F.1 F.2.1 dX11_settles_46 (by decide) ?_
        exact h13 ztz ztn zcd_594 zgo_594 ztd_594 ztv_594 zcl_594 zca_594 zwa_594 zpt_594 zpf_594 HS_595 (x1 + 1) hE _ _ hP hS ls (lv_sub hl [1, 0] rfl)
set_option maxRecDepth 100000 in
set_option maxHeartbeats 4000000 in
theorem kX11_settles {l : Launch} {Z : ZC} {HS : Nat → Nat → Nat → Int32} {zkb : Int32} {zdr : Int32} {zky : Nat → Int32} {zpn : Int32} {zps : Int32} {ztz : Int32} {ztn : Nat → Int64} {zxz : Int32} {zxa : Int32} {zsg : Nat → Int32} {za0 : Int32} {za1 : Int32} {za2 : Int32} {za3 : Int32} {za4 : Int32} {zfr : Nat → Int32} {zcd : Int32} {zgo : Nat → Int32} {ztd : Int32} {ztv : Int32} {zcl : Nat → Int32} {zca : Nat → Int32} {zwa : Nat → Int32} {zpt : Nat → Int32} {zpf : Nat → Int32} {N : Nat} {r' : Int32} {ztz' : Int32} {ztn' : Nat → Int64} {zcd' : Int32} {zgo' : Nat → Int32} {ztd' : Int32} {ztv' : Int32} {zcl' : Nat → Int32} {zca' : Nat → Int32} {zwa' : Nat → Int32} {zpt' : Nat → Int32} {zpf' : Nat → Int32} {HS' : Nat → Nat → Nat → Int32} (hE : fX11_settles N ztz ztn zcd zgo ztd ztv zcl zca zwa zpt zpf HS = some (r', ztz', ztn', zcd', zgo', ztd', ztv', zcl', zca', zwa', zpt', zpf', HS')) : Mg l yX11_settles cX11_settles 2 (some .int) (rmk 6 138) (KX Z) (AX Z) [.ref (oA Z 0)] (PX Z HS zkb zdr zky zpn zps ztz ztn zxz zxa zsg za0 za1 za2 za3 za4 zfr zcd zgo ztd ztv zcl zca zwa zpt zpf) (Qi (KX Z) (AX Z) (PX Z HS' zkb zdr zky zpn zps ztz' ztn' zxz zxa zsg za0 za1 za2 za3 za4 zfr zcd' zgo' ztd' ztv' zcl' zca' zwa' zpt' zpf') r') := by
  refine Mg.start (lv := [(0, .ref (oA Z 0))]) (by decide) rfl (Nat.le_of_ble_eq_true rfl) rfl ?_
  intro p e s m below meth c F hr hlk C hP ls hl
  have hS : va_S (AX Z) s.heap s.heap [] := va_S.rf
  unfold fX11_settles at hE
  refine lv_aload_n F.1 F.2.1 dX11_settles_0 rfl (lv_at hl 0 rfl) ?_
  refine gX11_16 F C hP dX11_settles_1 ?_
  refine lv_aload_n F.1 F.2.1 dX11_settles_4 rfl (lv_at hl 0 rfl) ?_
  refine gX11_10 F C hP dX11_settles_5 ?_
  obtain ⟨HS_593, eHS_593, hE⟩ := lt_some hE
  refine aft_v (run_N (rest := []) F (ccX3_copies (by decide) (by decide) (by omega) eHS_593.symm) (okX Z) C hS (C.2.2 _ _ mlX11_269 rfl) lkX11_269 ⟨Nat.le_of_ble_eq_true rfl, Nat.le_of_ble_eq_true rfl⟩ (rvh0 C hP (by decide)) hP rfl hl.1 rfl (lv_room (Nat.le_of_ble_eq_true rfl)) dX11_settles_8 ⟨Nat.zero_le _, Nat.zero_le _⟩) hS (fun H locs hP hS => ?_)
  refine lv_iconst (v := 0) F.1 F.2.1 dX11_settles_11 (by decide) ?_
  refine lv_istore_n (lv' := [(1, .int 0), (0, .ref (oA Z 0))]) F.1 F.2.1 dX11_settles_12 rfl hl (by decide) rfl (fun ls hl => ?_)
  exact qX11_settles_13 F hr hlk C N ztz ztn zcd zgo ztd ztv zcl zca zwa zpt zpf HS_593 0 hE _ _ hP hS ls (lv_sub hl [1, 0] rfl)
set_option maxRecDepth 100000 in
set_option maxHeartbeats 4000000 in
theorem kX11_rankKey {l : Launch} {Z : ZC} {HS : Nat → Nat → Nat → Int32} {zkb : Int32} {zdr : Int32} {zky : Nat → Int32} {zpn : Int32} {zps : Int32} {ztz : Int32} {ztn : Nat → Int64} {zxz : Int32} {zxa : Int32} {zsg : Nat → Int32} {za0 : Int32} {za1 : Int32} {za2 : Int32} {za3 : Int32} {za4 : Int32} {zfr : Nat → Int32} {zcd : Int32} {zgo : Nat → Int32} {ztd : Int32} {ztv : Int32} {zcl : Nat → Int32} {zca : Nat → Int32} {zwa : Nat → Int32} {zpt : Nat → Int32} {zpf : Nat → Int32} {N : Nat} {p1 : Int32} {p2 : Int32} {r' : Int32} (hE : fX11_rankKey N HS p1 p2 = some r') : Mg l yX11_rankKey cX11_rankKey 3 (some .int) (rmk 5 118) (KX Z) (AX Z) [.ref (oA Z 0), .int p1, .int p2] (PX Z HS zkb zdr zky zpn zps ztz ztn zxz zxa zsg za0 za1 za2 za3 za4 zfr zcd zgo ztd ztv zcl zca zwa zpt zpf) (Qi (KX Z) (AX Z) (PX Z HS zkb zdr zky zpn zps ztz ztn zxz zxa zsg za0 za1 za2 za3 za4 zfr zcd zgo ztd ztv zcl zca zwa zpt zpf) r') := by
  refine Mg.start (lv := [(0, .ref (oA Z 0)), (1, .int p1), (2, .int p2)]) (by decide) rfl (Nat.le_of_ble_eq_true rfl) rfl ?_
  intro p e s m below meth c F hr hlk C hP ls hl
  have hS : va_S (AX Z) s.heap s.heap [] := va_S.rf
  unfold fX11_rankKey at hE
  refine lv_iload_n F.1 F.2.1 dX11_rankKey_0 rfl (lv_at hl 2 rfl) ?_
  by_cases hc0 : p2 = 0
  · have hE := ifp hE hc0
    refine lv_lookup (tgt := 28) (off := 27) F.1 F.2.1 dX11_rankKey_1 (by decide) (by rw [hc0]; rfl) (by decide) ?_
    refine lv_aload_n F.1 F.2.1 dX11_rankKey_28 rfl (lv_at hl 0 rfl) ?_
    refine gX11_10 F C hP dX11_rankKey_29 ?_
    refine gX11_166 F C hP (by decide) rfl dX11_rankKey_32 ?_
    refine lv_iload_n F.1 F.2.1 dX11_rankKey_35 rfl (lv_at hl 1 rfl) ?_
    obtain ⟨hi, hE⟩ := grd_some hE
    refine ah4 F C hP (by decide) rfl hi dX11_rankKey_36 ?_
    obtain rfl := Option.some.inj hE
    exact ret_i F hr hlk hP hS dX11_rankKey_37
  have hE := ifn hE hc0
  by_cases hc1 : p2 = 1
  · have hE := ifp hE hc1
    refine lv_lookup (tgt := 38) (off := 37) F.1 F.2.1 dX11_rankKey_1 (by decide) (by rw [hc1]; rfl) (by decide) ?_
    refine lv_aload_n F.1 F.2.1 dX11_rankKey_38 rfl (lv_at hl 0 rfl) ?_
    refine gX11_10 F C hP dX11_rankKey_39 ?_
    refine gX11_172 F C hP (by decide) rfl dX11_rankKey_42 ?_
    refine lv_iload_n F.1 F.2.1 dX11_rankKey_45 rfl (lv_at hl 1 rfl) ?_
    obtain ⟨hi, hE⟩ := grd_some hE
    refine ah2 F C hP (by decide) rfl hi dX11_rankKey_46 ?_
    obtain rfl := Option.some.inj hE
    exact ret_i F hr hlk hP hS dX11_rankKey_47
  have hE := ifn hE hc1
  refine lv_lookup (tgt := 48) (off := 47) F.1 F.2.1 dX11_rankKey_1 (by decide) (by have g0 : ¬ (0 : Int) = (p2).toInt := fun e => sw_ne hc0 e.symm; have g1 : ¬ (1 : Int) = (p2).toInt := fun e => sw_ne hc1 e.symm; simp [Op.lookupswitch.offset, g0, g1]) (by decide) ?_
  refine lv_aload_n F.1 F.2.1 dX11_rankKey_48 rfl (lv_at hl 0 rfl) ?_
  refine gX11_10 F C hP dX11_rankKey_49 ?_
  refine lv_aload_n F.1 F.2.1 dX11_rankKey_52 rfl (lv_at hl 0 rfl) ?_
  refine gX11_54 F C hP dX11_rankKey_53 ?_
  refine lv_aload_n F.1 F.2.1 dX11_rankKey_56 rfl (lv_at hl 0 rfl) ?_
  refine gX11_10 F C hP dX11_rankKey_57 ?_
  refine lv_iload_n F.1 F.2.1 dX11_rankKey_60 rfl (lv_at hl 1 rfl) ?_
  obtain ⟨r603, hc, hE⟩ := bnd1_some hE
  refine aft_i (run_N (rest := [.ref (hA Z 0 0)]) F (kX10_hanging (by decide) rfl hc) (okX Z) C hS (C.2.2 _ _ mlX11_260 rfl) lkX11_260 ⟨Nat.le_of_ble_eq_true rfl, Nat.le_of_ble_eq_true rfl⟩ (rvo9 C hP) hP rfl hl.1 rfl (lv_room (Nat.le_of_ble_eq_true rfl)) dX11_rankKey_61 ⟨Nat.zero_le _, Nat.zero_le _⟩) hS (fun H locs hP hS => ?_)
  obtain ⟨r604, hc, hE⟩ := bnd1_some hE
  refine aft_i (run_N (rest := []) F (kX3_weightOf (by decide) rfl hc) (okX Z) C hS (C.2.2 _ _ mlX11_214 rfl) lkX11_214 ⟨Nat.le_of_ble_eq_true rfl, Nat.le_of_ble_eq_true rfl⟩ (rvh0 C hP (by decide)) hP rfl hl.1 rfl (lv_room (Nat.le_of_ble_eq_true rfl)) dX11_rankKey_64 ⟨Nat.zero_le _, Nat.zero_le _⟩) hS (fun H locs hP hS => ?_)
  obtain rfl := Option.some.inj hE
  exact ret_i F hr hlk hP hS dX11_rankKey_67
set_option maxRecDepth 100000 in
set_option maxHeartbeats 4000000 in
theorem qX11_greatest_4 {p : Program} {l : Launch} {e : Env} {s : State} {m : MethodId} {args : Array Value} {below : List Frame} {meth : Method} {c : Code} {Z : ZC} {HS : Nat → Nat → Nat → Int32} {zkb : Int32} {zdr : Int32} {zky : Nat → Int32} {zpn : Int32} {zps : Int32} {ztz : Int32} {ztn : Nat → Int64} {zxz : Int32} {zxa : Int32} {zsg : Nat → Int32} {za0 : Int32} {za1 : Int32} {za2 : Int32} {za3 : Int32} {za4 : Int32} {zfr : Nat → Int32} {zcd : Int32} {zgo : Nat → Int32} {ztd : Int32} {ztv : Int32} {zcl : Nat → Int32} {zca : Nat → Int32} {zwa : Nat → Int32} {zpt : Nat → Int32} {zpf : Nat → Int32} {N : Nat} {p1 : Int32} {r' : Int32} (F : CallFix p m c cX11_greatest 4 s args bigW RX11) (hr : meth.sig.returnType = (some .int)) (hlk : meth.locks = false) (C : KX Z s) : ∀ n : Nat, ∀ (x2 : Int32) (x3 : Int32), fX11_greatest_4 N zky p1 n x2 x3 = some r' → ∀ (H : Heap) (locs : List Loc), PX Z HS zkb zdr zky zpn zps ztz ztn zxz zxa zsg za0 za1 za2 za3 za4 zfr zcd zgo ztd ztv zcl zca zwa zpt zpf H → va_S (AX Z) s.heap H locs → ∀ ls : Array Slot, lv_has ls 4 [(0, .ref (oA Z 0)), (1, .int p1), (2, .int x2), (3, .int x3)] → W p l e (rmk 1 21) s m args below meth c H locs 0 0 (MQ below (Qi (KX Z) (AX Z) (PX Z HS zkb zdr zky zpn zps ztz ztn zxz zxa zsg za0 za1 za2 za3 za4 zfr zcd zgo ztd ztv zcl zca zwa zpt zpf) r') args s 0 0 (AX Z)) (F0 m 4 ls []) := by
  intro n
  induction n with
  | zero => intro x2 x3 hE; cases hE
  | succ n h4 =>
    intro x2 x3 hE H locs hP hS ls hl
    have hE : fX11_greatest_4b N zky p1 (fX11_greatest_4 N zky p1 n) x2 x3 = some r' := hE
    refine lv_iload_n F.1 F.2.1 dX11_greatest_4 rfl (lv_at hl 3 rfl) ?_
    refine lv_bipush (v := 24) F.1 F.2.1 dX11_greatest_5 (by decide) ?_
    refine lv_icmp_ge (tgt := 50) F.1 F.2.1 dX11_greatest_7 (by decide) (fun hc => ?_) (fun hc => ?_)
    · have hE := ifp hE hc
      refine lv_iload_n F.1 F.2.1 dX11_greatest_50 rfl (lv_at hl 2 rfl) ?_
      obtain rfl := Option.some.inj hE
      exact ret_i F hr hlk hP hS dX11_greatest_51
    · have hE := ifn hE hc
      refine lv_iload_n F.1 F.2.1 dX11_greatest_10 rfl (lv_at hl 1 rfl) ?_
      refine lv_iload_n F.1 F.2.1 dX11_greatest_11 rfl (lv_at hl 3 rfl) ?_
      obtain ⟨r607, hc, hE⟩ := bnd1_some hE
      refine aft_i (run_S (rest := []) F (kX11_bit hc) (okX Z) C hS lkX11_181 ⟨Nat.le_of_ble_eq_true rfl, Nat.le_of_ble_eq_true rfl⟩ hP rfl hl.1 rfl (lv_room (Nat.le_of_ble_eq_true rfl)) dX11_greatest_12 ⟨Nat.zero_le _, Nat.zero_le _⟩) hS (fun H locs hP hS => ?_)
      refine lv_iconst (v := 1) F.1 F.2.1 dX11_greatest_15 (by decide) ?_
      refine lv_icmp_ne (tgt := 44) F.1 F.2.1 dX11_greatest_16 (by decide) (fun hc => ?_) (fun hc => ?_)
      · have hE := ifn hE hc
        refine lv_iinc (v := x3 + 1) (lv' := [(3, .int (x3 + 1)), (0, .ref (oA Z 0)), (1, .int p1), (2, .int x2)]) F.1 F.2.1 dX11_greatest_44 hl (k := 3) rfl rfl (by decide) rfl (fun ls hl => ?_)
        refine lv_goto (tgt := 4) F.1 F.2.1 dX11_greatest_47 (by decide) ?_
        exact h4 x2 (x3 + 1) hE _ _ hP hS ls (lv_sub hl [1, 2, 3, 0] rfl)
      · have hE := ifp hE hc
        refine lv_iload_n F.1 F.2.1 dX11_greatest_19 rfl (lv_at hl 1 rfl) ?_
        refine lv_iload_n F.1 F.2.1 dX11_greatest_20 rfl (lv_at hl 2 rfl) ?_
        obtain ⟨r608, hc, hE⟩ := bnd1_some hE
        refine aft_i (run_S (rest := []) F (kX11_bit hc) (okX Z) C hS lkX11_181 ⟨Nat.le_of_ble_eq_true rfl, Nat.le_of_ble_eq_true rfl⟩ hP rfl hl.1 rfl (lv_room (Nat.le_of_ble_eq_true rfl)) dX11_greatest_21 ⟨Nat.zero_le _, Nat.zero_le _⟩) hS (fun H locs hP hS => ?_)
        refine lv_if_eq (tgt := 42) F.1 F.2.1 dX11_greatest_24 (by decide) (fun hc => ?_) (fun hc => ?_)
        · have hE := ifp hE hc
          refine lv_iload_n F.1 F.2.1 dX11_greatest_42 rfl (lv_at hl 3 rfl) ?_
          refine lv_istore_n (lv' := [(2, .int x3), (0, .ref (oA Z 0)), (1, .int p1), (3, .int x3)]) F.1 F.2.1 dX11_greatest_43 rfl hl (by decide) rfl (fun ls hl => ?_)
          refine lv_iinc (v := x3 + 1) (lv' := [(3, .int (x3 + 1)), (2, .int x3), (0, .ref (oA Z 0)), (1, .int p1)]) F.1 F.2.1 dX11_greatest_44 hl (k := 3) rfl rfl (by decide) rfl (fun ls hl => ?_)
          refine lv_goto (tgt := 4) F.1 F.2.1 dX11_greatest_47 (by decide) ?_
          exact h4 x3 (x3 + 1) hE _ _ hP hS ls (lv_sub hl [2, 3, 1, 0] rfl)
        · have hE := ifn hE hc
          refine lv_aload_n F.1 F.2.1 dX11_greatest_27 rfl (lv_at hl 0 rfl) ?_
          refine gX11_83 F C hP dX11_greatest_28 ?_
          refine lv_iload_n F.1 F.2.1 dX11_greatest_31 rfl (lv_at hl 3 rfl) ?_
          obtain ⟨hi, hE⟩ := grd_some hE
          refine ao20 F C hP hi dX11_greatest_32 ?_
          refine lv_aload_n F.1 F.2.1 dX11_greatest_33 rfl (lv_at hl 0 rfl) ?_
          refine gX11_83 F C hP dX11_greatest_34 ?_
          refine lv_iload_n F.1 F.2.1 dX11_greatest_37 rfl (lv_at hl 2 rfl) ?_
          obtain ⟨hi, hE⟩ := grd_some hE
          refine ao20 F C hP hi dX11_greatest_38 ?_
          refine lv_icmp_le (tgt := 44) F.1 F.2.1 dX11_greatest_39 (by decide) (fun hc => ?_) (fun hc => ?_)
          · have hE := ifp hE hc
            refine lv_iinc (v := x3 + 1) (lv' := [(3, .int (x3 + 1)), (0, .ref (oA Z 0)), (1, .int p1), (2, .int x2)]) F.1 F.2.1 dX11_greatest_44 hl (k := 3) rfl rfl (by decide) rfl (fun ls hl => ?_)
            refine lv_goto (tgt := 4) F.1 F.2.1 dX11_greatest_47 (by decide) ?_
            exact h4 x2 (x3 + 1) hE _ _ hP hS ls (lv_sub hl [1, 2, 3, 0] rfl)
          · have hE := ifn hE hc
            refine lv_iload_n F.1 F.2.1 dX11_greatest_42 rfl (lv_at hl 3 rfl) ?_
            refine lv_istore_n (lv' := [(2, .int x3), (0, .ref (oA Z 0)), (1, .int p1), (3, .int x3)]) F.1 F.2.1 dX11_greatest_43 rfl hl (by decide) rfl (fun ls hl => ?_)
            refine lv_iinc (v := x3 + 1) (lv' := [(3, .int (x3 + 1)), (2, .int x3), (0, .ref (oA Z 0)), (1, .int p1)]) F.1 F.2.1 dX11_greatest_44 hl (k := 3) rfl rfl (by decide) rfl (fun ls hl => ?_)
            refine lv_goto (tgt := 4) F.1 F.2.1 dX11_greatest_47 (by decide) ?_
            exact h4 x3 (x3 + 1) hE _ _ hP hS ls (lv_sub hl [2, 3, 1, 0] rfl)
set_option maxRecDepth 100000 in
set_option maxHeartbeats 4000000 in
theorem kX11_greatest {l : Launch} {Z : ZC} {HS : Nat → Nat → Nat → Int32} {zkb : Int32} {zdr : Int32} {zky : Nat → Int32} {zpn : Int32} {zps : Int32} {ztz : Int32} {ztn : Nat → Int64} {zxz : Int32} {zxa : Int32} {zsg : Nat → Int32} {za0 : Int32} {za1 : Int32} {za2 : Int32} {za3 : Int32} {za4 : Int32} {zfr : Nat → Int32} {zcd : Int32} {zgo : Nat → Int32} {ztd : Int32} {ztv : Int32} {zcl : Nat → Int32} {zca : Nat → Int32} {zwa : Nat → Int32} {zpt : Nat → Int32} {zpf : Nat → Int32} {N : Nat} {p1 : Int32} {r' : Int32} (hE : fX11_greatest N zky p1 = some r') : Mg l yX11_greatest cX11_greatest 4 (some .int) (rmk 1 21) (KX Z) (AX Z) [.ref (oA Z 0), .int p1] (PX Z HS zkb zdr zky zpn zps ztz ztn zxz zxa zsg za0 za1 za2 za3 za4 zfr zcd zgo ztd ztv zcl zca zwa zpt zpf) (Qi (KX Z) (AX Z) (PX Z HS zkb zdr zky zpn zps ztz ztn zxz zxa zsg za0 za1 za2 za3 za4 zfr zcd zgo ztd ztv zcl zca zwa zpt zpf) r') := by
  refine Mg.start (lv := [(0, .ref (oA Z 0)), (1, .int p1)]) (by decide) rfl (Nat.le_of_ble_eq_true rfl) rfl ?_
  intro p e s m below meth c F hr hlk C hP ls hl
  have hS : va_S (AX Z) s.heap s.heap [] := va_S.rf
  unfold fX11_greatest at hE
  refine lv_iconst (v := 0) F.1 F.2.1 dX11_greatest_0 (by decide) ?_
  refine lv_istore_n (lv' := [(2, .int 0), (0, .ref (oA Z 0)), (1, .int p1)]) F.1 F.2.1 dX11_greatest_1 rfl hl (by decide) rfl (fun ls hl => ?_)
  refine lv_iconst (v := 1) F.1 F.2.1 dX11_greatest_2 (by decide) ?_
  refine lv_istore_n (lv' := [(3, .int 1), (2, .int 0), (0, .ref (oA Z 0)), (1, .int p1)]) F.1 F.2.1 dX11_greatest_3 rfl hl (by decide) rfl (fun ls hl => ?_)
  exact qX11_greatest_4 F hr hlk C N 0 1 hE _ _ hP hS ls (lv_sub hl [2, 3, 1, 0] rfl)
set_option maxRecDepth 100000 in
set_option maxHeartbeats 4000000 in
theorem qX11_ranks_75 {p : Program} {l : Launch} {e : Env} {s : State} {m : MethodId} {args : Array Value} {below : List Frame} {meth : Method} {c : Code} {Z : ZC} {HS : Nat → Nat → Nat → Int32} {zkb : Int32} {zdr : Int32} {zpn : Int32} {zps : Int32} {zxz : Int32} {zxa : Int32} {zsg : Nat → Int32} {za0 : Int32} {za1 : Int32} {za2 : Int32} {za3 : Int32} {za4 : Int32} {zfr : Nat → Int32} {zcd : Int32} {zgo : Nat → Int32} {ztd : Int32} {ztv : Int32} {zcl : Nat → Int32} {zca : Nat → Int32} {zwa : Nat → Int32} {zpt : Nat → Int32} {zpf : Nat → Int32} {N : Nat} {p1 : Int32} {r' : Int32} {zky' : Nat → Int32} {ztz' : Int32} {ztn' : Nat → Int64} (F : CallFix p m c cX11_ranks 5 s args bigW RX11) (hr : meth.sig.returnType = (some .int)) (hlk : meth.locks = false) (C : KX Z s) : ∀ n : Nat, ∀ (zky : Nat → Int32) (ztz : Int32) (ztn : Nat → Int64) (x2 : Int32) (x3 : Int32), fX11_ranks_75 N HS p1 n zky ztz ztn x2 x3 = some (r', zky', ztz', ztn') → ∀ (H : Heap) (locs : List Loc), PX Z HS zkb zdr zky zpn zps ztz ztn zxz zxa zsg za0 za1 za2 za3 za4 zfr zcd zgo ztd ztv zcl zca zwa zpt zpf H → va_S (AX Z) s.heap H locs → ∀ ls : Array Slot, lv_has ls 5 [(0, .ref (oA Z 0)), (2, .int x2), (3, .int x3)] → W p l e (rmk 6 140) s m args below meth c H locs 0 0 (MQ below (Qi (KX Z) (AX Z) (PX Z HS zkb zdr zky' zpn zps ztz' ztn' zxz zxa zsg za0 za1 za2 za3 za4 zfr zcd zgo ztd ztv zcl zca zwa zpt zpf) r') args s 0 0 (AX Z)) (F0 m 75 ls []) := by
  intro n
  induction n with
  | zero => intro zky ztz ztn x2 x3 hE; cases hE
  | succ n h75 =>
    intro zky ztz ztn x2 x3 hE H locs hP hS ls hl
    have hE : fX11_ranks_75b N HS p1 (fX11_ranks_75 N HS p1 n) zky ztz ztn x2 x3 = some (r', zky', ztz', ztn') := hE
    refine lv_iload_n F.1 F.2.1 dX11_ranks_75 rfl (lv_at hl 2 rfl) ?_
    refine lv_if_le (tgt := 111) F.1 F.2.1 dX11_ranks_76 (by decide) (fun hc => ?_) (fun hc => ?_)
    · have hE := ifp hE hc
      refine lv_aload_n F.1 F.2.1 dX11_ranks_111 rfl (lv_at hl 0 rfl) ?_
      refine gX11_33 F C hP dX11_ranks_112 ?_
      refine gX11_252 F C hP dX11_ranks_115 ?_
      have w0 := Option.some.inj hE
      obtain ⟨g0, w1⟩ := Prod.mk.inj w0
      obtain ⟨g1, w2⟩ := Prod.mk.inj w1
      obtain ⟨g2, w3⟩ := Prod.mk.inj w2
      subst g0 g1 g2 w3
      exact ret_i F hr hlk hP hS dX11_ranks_118
    · have hE := ifn hE hc
      refine lv_aload_n F.1 F.2.1 dX11_ranks_79 rfl (lv_at hl 0 rfl) ?_
      refine lv_iload_n F.1 F.2.1 dX11_ranks_80 rfl (lv_at hl 1 rfl) ?_
      obtain ⟨r624, hc, hE⟩ := bnd1_some hE
      refine aft_i (run_V (rest := []) F (kX11_greatest hc) (okX Z) C hS lkX11_285 ⟨Nat.le_of_ble_eq_true rfl, Nat.le_of_ble_eq_true rfl⟩ (rvo0 C hP) hP rfl hl.1 rfl (lv_room (Nat.le_of_ble_eq_true rfl)) dX11_ranks_81 ⟨Nat.zero_le _, Nat.zero_le _⟩) hS (fun H locs hP hS => ?_)
      refine lv_istore (lv' := [(4, .int r624), (0, .ref (oA Z 0)), (2, .int x2), (3, .int x3)]) F.1 F.2.1 dX11_ranks_84 hl (by decide) rfl (fun ls hl => ?_)
      refine lv_iload_n F.1 F.2.1 dX11_ranks_86 rfl (lv_at hl 2 rfl) ?_
      refine lv_iconst (v := 1) F.1 F.2.1 dX11_ranks_87 (by decide) ?_
      refine lv_iload F.1 F.2.1 dX11_ranks_88 (lv_at hl 0 rfl) ?_
      refine rj_ishl F.1 F.2.1 dX11_ranks_90 ?_
      refine lv_iconst (v := (-1)) F.1 F.2.1 dX11_ranks_91 (by decide) ?_
      refine lv_ixor F.1 F.2.1 dX11_ranks_92 ?_
      refine lv_iand F.1 F.2.1 dX11_ranks_93 ?_
      obtain ⟨v_625, ev_625, hE⟩ := lt_some hE
      refine lv_seti ev_625 ?_
      refine lv_istore_n (lv' := [(2, .int v_625), (4, .int r624), (0, .ref (oA Z 0)), (3, .int x3)]) F.1 F.2.1 dX11_ranks_94 rfl hl (by decide) rfl (fun ls hl => ?_)
      refine lv_aload_n F.1 F.2.1 dX11_ranks_95 rfl (lv_at hl 2 rfl) ?_
      refine gX11_33 F C hP dX11_ranks_96 ?_
      refine lv_iload F.1 F.2.1 dX11_ranks_99 (lv_at hl 1 rfl) ?_
      refine lv_i2l (v := r624.toInt64) F.1 F.2.1 dX11_ranks_101 rfl ?_
      obtain ⟨ztz_626, ztn_626, hc, hE⟩ := bnd2_some hE
      refine aft_v (run_N (rest := []) F (kX8_adds hc) (okX Z) C hS (C.2.2 _ _ mlX11_223 rfl) lkX11_223 ⟨Nat.le_of_ble_eq_true rfl, Nat.le_of_ble_eq_true rfl⟩ (rvo4 C hP) hP rfl hl.1 rfl (lv_room (Nat.le_of_ble_eq_true rfl)) dX11_ranks_102 ⟨Nat.zero_le _, Nat.zero_le _⟩) hS (fun H locs hP hS => ?_)
      refine lv_iinc (v := x3 + (-1)) (lv' := [(3, .int (x3 + (-1))), (2, .int v_625), (4, .int r624), (0, .ref (oA Z 0))]) F.1 F.2.1 dX11_ranks_105 hl (k := 3) rfl rfl (by decide) rfl (fun ls hl => ?_)
      refine lv_goto (tgt := 75) F.1 F.2.1 dX11_ranks_108 (by decide) ?_
      exact h75 zky ztz_626 ztn_626 v_625 (x3 + (-1)) hE _ _ hP hS ls (lv_sub hl [3, 1, 0] rfl)
set_option maxRecDepth 100000 in
set_option maxHeartbeats 4000000 in
theorem qX11_ranks_52 {p : Program} {l : Launch} {e : Env} {s : State} {m : MethodId} {args : Array Value} {below : List Frame} {meth : Method} {c : Code} {Z : ZC} {HS : Nat → Nat → Nat → Int32} {zkb : Int32} {zdr : Int32} {zpn : Int32} {zps : Int32} {zxz : Int32} {zxa : Int32} {zsg : Nat → Int32} {za0 : Int32} {za1 : Int32} {za2 : Int32} {za3 : Int32} {za4 : Int32} {zfr : Nat → Int32} {zcd : Int32} {zgo : Nat → Int32} {ztd : Int32} {ztv : Int32} {zcl : Nat → Int32} {zca : Nat → Int32} {zwa : Nat → Int32} {zpt : Nat → Int32} {zpf : Nat → Int32} {N : Nat} {p1 : Int32} {r' : Int32} {zky' : Nat → Int32} {ztz' : Int32} {ztn' : Nat → Int64} (F : CallFix p m c cX11_ranks 5 s args bigW RX11) (hr : meth.sig.returnType = (some .int)) (hlk : meth.locks = false) (C : KX Z s) : ∀ (zky : Nat → Int32) (ztz : Int32) (ztn : Nat → Int64), fX11_ranks_52 N HS p1 zky ztz ztn = some (r', zky', ztz', ztn') → ∀ (H : Heap) (locs : List Loc), PX Z HS zkb zdr zky zpn zps ztz ztn zxz zxa zsg za0 za1 za2 za3 za4 zfr zcd zgo ztd ztv zcl zca zwa zpt zpf H → va_S (AX Z) s.heap H locs → ∀ ls : Array Slot, lv_has ls 5 [(0, .ref (oA Z 0))] → W p l e (rmk 6 140) s m args below meth c H locs 0 0 (MQ below (Qi (KX Z) (AX Z) (PX Z HS zkb zdr zky' zpn zps ztz' ztn' zxz zxa zsg za0 za1 za2 za3 za4 zfr zcd zgo ztd ztv zcl zca zwa zpt zpf) r') args s 0 0 (AX Z)) (F0 m 52 ls []) := by
  intro zky ztz ztn hE H locs hP hS ls hl
  unfold fX11_ranks_52 at hE
  refine lv_aload_n F.1 F.2.1 dX11_ranks_52 rfl (lv_at hl 0 rfl) ?_
  refine gX11_33 F C hP dX11_ranks_53 ?_
  obtain ⟨ztz_622, hc, hE⟩ := bnd1_some hE
  refine aft_v (run_N (rest := []) F (kX8_clears hc) (okX Z) C hS (C.2.2 _ _ mlX11_217 rfl) lkX11_217 ⟨Nat.le_of_ble_eq_true rfl, Nat.le_of_ble_eq_true rfl⟩ (rvo4 C hP) hP rfl hl.1 rfl (lv_room (Nat.le_of_ble_eq_true rfl)) dX11_ranks_56 ⟨Nat.zero_le _, Nat.zero_le _⟩) hS (fun H locs hP hS => ?_)
  refine lv_aload_n F.1 F.2.1 dX11_ranks_59 rfl (lv_at hl 0 rfl) ?_
  refine gX11_10 F C hP dX11_ranks_60 ?_
  refine gX11_208 F C hP (by decide) rfl dX11_ranks_63 ?_
  refine lv_istore_n (lv' := [(2, .int ((HS 0) 0 0)), (0, .ref (oA Z 0))]) F.1 F.2.1 dX11_ranks_66 rfl hl (by decide) rfl (fun ls hl => ?_)
  refine lv_aload_n F.1 F.2.1 dX11_ranks_67 rfl (lv_at hl 1 rfl) ?_
  refine gX11_10 F C hP dX11_ranks_68 ?_
  obtain ⟨r623, hc, hE⟩ := bnd1_some hE
  refine aft_i (run_N (rest := []) F (kX3_objects (by decide) rfl hc) (okX Z) C hS (C.2.2 _ _ mlX11_146 rfl) lkX11_146 ⟨Nat.le_of_ble_eq_true rfl, Nat.le_of_ble_eq_true rfl⟩ (rvh0 C hP (by decide)) hP rfl hl.1 rfl (lv_room (Nat.le_of_ble_eq_true rfl)) dX11_ranks_71 ⟨Nat.zero_le _, Nat.zero_le _⟩) hS (fun H locs hP hS => ?_)
  refine lv_istore_n (lv' := [(3, .int r623), (2, .int ((HS 0) 0 0)), (0, .ref (oA Z 0))]) F.1 F.2.1 dX11_ranks_74 rfl hl (by decide) rfl (fun ls hl => ?_)
  exact qX11_ranks_75 F hr hlk C N zky ztz_622 ztn ((HS 0) 0 0) r623 hE _ _ hP hS ls (lv_sub hl [2, 1, 0] rfl)
set_option maxRecDepth 100000 in
set_option maxHeartbeats 4000000 in
theorem qX11_ranks_13 {p : Program} {l : Launch} {e : Env} {s : State} {m : MethodId} {args : Array Value} {below : List Frame} {meth : Method} {c : Code} {Z : ZC} {HS : Nat → Nat → Nat → Int32} {zkb : Int32} {zdr : Int32} {zpn : Int32} {zps : Int32} {zxz : Int32} {zxa : Int32} {zsg : Nat → Int32} {za0 : Int32} {za1 : Int32} {za2 : Int32} {za3 : Int32} {za4 : Int32} {zfr : Nat → Int32} {zcd : Int32} {zgo : Nat → Int32} {ztd : Int32} {ztv : Int32} {zcl : Nat → Int32} {zca : Nat → Int32} {zwa : Nat → Int32} {zpt : Nat → Int32} {zpf : Nat → Int32} {N : Nat} {p1 : Int32} {r' : Int32} {zky' : Nat → Int32} {ztz' : Int32} {ztn' : Nat → Int64} (F : CallFix p m c cX11_ranks 5 s args bigW RX11) (hr : meth.sig.returnType = (some .int)) (hlk : meth.locks = false) (C : KX Z s) : ∀ n : Nat, ∀ (zky : Nat → Int32) (ztz : Int32) (ztn : Nat → Int64) (x2 : Int32), fX11_ranks_13 N HS p1 n zky ztz ztn x2 = some (r', zky', ztz', ztn') → ∀ (H : Heap) (locs : List Loc), PX Z HS zkb zdr zky zpn zps ztz ztn zxz zxa zsg za0 za1 za2 za3 za4 zfr zcd zgo ztd ztv zcl zca zwa zpt zpf H → va_S (AX Z) s.heap H locs → ∀ ls : Array Slot, lv_has ls 5 [(0, .ref (oA Z 0)), (1, .int p1), (2, .int x2)] → W p l e (rmk 6 140) s m args below meth c H locs 0 0 (MQ below (Qi (KX Z) (AX Z) (PX Z HS zkb zdr zky' zpn zps ztz' ztn' zxz zxa zsg za0 za1 za2 za3 za4 zfr zcd zgo ztd ztv zcl zca zwa zpt zpf) r') args s 0 0 (AX Z)) (F0 m 13 ls []) := by
  intro n
  induction n with
  | zero => intro zky ztz ztn x2 hE; cases hE
  | succ n h13 =>
    intro zky ztz ztn x2 hE H locs hP hS ls hl
    have hE : fX11_ranks_13b N HS p1 (fX11_ranks_13 N HS p1 n) zky ztz ztn x2 = some (r', zky', ztz', ztn') := hE
    refine lv_iload_n F.1 F.2.1 dX11_ranks_13 rfl (lv_at hl 2 rfl) ?_
    refine lv_bipush (v := 24) F.1 F.2.1 dX11_ranks_14 (by decide) ?_
    refine lv_icmp_ge (tgt := 52) F.1 F.2.1 dX11_ranks_16 (by decide) (fun hc => ?_) (fun hc => ?_)
    · have hE := ifp hE hc
      exact qX11_ranks_52 F hr hlk C zky ztz ztn hE _ _ hP hS ls (lv_sub hl [0] rfl)
    · have hE := ifn hE hc
      refine lv_aload_n F.1 F.2.1 dX11_ranks_19 rfl (lv_at hl 0 rfl) ?_
      refine gX11_83 F C hP dX11_ranks_20 ?_
      refine lv_iload_n F.1 F.2.1 dX11_ranks_23 rfl (lv_at hl 2 rfl) ?_
      refine lv_aload_n F.1 F.2.1 dX11_ranks_24 rfl (lv_at hl 0 rfl) ?_
      refine gX11_10 F C hP dX11_ranks_25 ?_
      refine lv_iload_n F.1 F.2.1 dX11_ranks_28 rfl (lv_at hl 2 rfl) ?_
      obtain ⟨r618, hc, hE⟩ := bnd1_some hE
      refine aft_i (run_N (rest := [.int x2, .ref (oA Z 20)]) F (kX3_has (by decide) rfl hc) (okX Z) C hS (C.2.2 _ _ mlX11_156 rfl) lkX11_156 ⟨Nat.le_of_ble_eq_true rfl, Nat.le_of_ble_eq_true rfl⟩ (rvh0 C hP (by decide)) hP rfl hl.1 rfl (lv_room (Nat.le_of_ble_eq_true rfl)) dX11_ranks_29 ⟨Nat.zero_le _, Nat.zero_le _⟩) hS (fun H locs hP hS => ?_)
      refine lv_if_eq (tgt := 44) F.1 F.2.1 dX11_ranks_32 (by decide) (fun hc => ?_) (fun hc => ?_)
      · have hE := ifp hE hc
        refine lv_iconst (v := (-1)) F.1 F.2.1 dX11_ranks_44 (by decide) ?_
        obtain ⟨hi, hE⟩ := grd_some hE
        obtain ⟨zky_619, ezky_619, hE⟩ := lt_some hE
        refine so20 F C hP hi hS ezky_619.symm dX11_ranks_45 (fun H locs hP hS => ?_)
        refine lv_iinc (v := x2 + 1) (lv' := [(2, .int (x2 + 1)), (0, .ref (oA Z 0)), (1, .int p1)]) F.1 F.2.1 dX11_ranks_46 hl (k := 2) rfl rfl (by decide) rfl (fun ls hl => ?_)
        refine lv_goto (tgt := 13) F.1 F.2.1 dX11_ranks_49 (by decide) ?_
        exact h13 zky_619 ztz ztn (x2 + 1) hE _ _ hP hS ls (lv_sub hl [1, 2, 0] rfl)
      · have hE := ifn hE hc
        refine lv_aload_n F.1 F.2.1 dX11_ranks_35 rfl (lv_at hl 0 rfl) ?_
        refine lv_iload_n F.1 F.2.1 dX11_ranks_36 rfl (lv_at hl 2 rfl) ?_
        refine lv_iload_n F.1 F.2.1 dX11_ranks_37 rfl (lv_at hl 1 rfl) ?_
        obtain ⟨r620, hc, hE⟩ := bnd1_some hE
        refine aft_i (run_V (rest := [.int x2, .ref (oA Z 20)]) F (kX11_rankKey hc) (okX Z) C hS lkX11_282 ⟨Nat.le_of_ble_eq_true rfl, Nat.le_of_ble_eq_true rfl⟩ (rvo0 C hP) hP rfl hl.1 rfl (lv_room (Nat.le_of_ble_eq_true rfl)) dX11_ranks_38 ⟨Nat.zero_le _, Nat.zero_le _⟩) hS (fun H locs hP hS => ?_)
        refine lv_goto (tgt := 45) F.1 F.2.1 dX11_ranks_41 (by decide) ?_
        obtain ⟨hi, hE⟩ := grd_some hE
        obtain ⟨zky_621, ezky_621, hE⟩ := lt_some hE
        refine so20 F C hP hi hS ezky_621.symm dX11_ranks_45 (fun H locs hP hS => ?_)
        refine lv_iinc (v := x2 + 1) (lv' := [(2, .int (x2 + 1)), (0, .ref (oA Z 0)), (1, .int p1)]) F.1 F.2.1 dX11_ranks_46 hl (k := 2) rfl rfl (by decide) rfl (fun ls hl => ?_)
        refine lv_goto (tgt := 13) F.1 F.2.1 dX11_ranks_49 (by decide) ?_
        exact h13 zky_621 ztz ztn (x2 + 1) hE _ _ hP hS ls (lv_sub hl [1, 2, 0] rfl)
set_option maxRecDepth 100000 in
set_option maxHeartbeats 4000000 in
theorem kX11_ranks {l : Launch} {Z : ZC} {HS : Nat → Nat → Nat → Int32} {zkb : Int32} {zdr : Int32} {zky : Nat → Int32} {zpn : Int32} {zps : Int32} {ztz : Int32} {ztn : Nat → Int64} {zxz : Int32} {zxa : Int32} {zsg : Nat → Int32} {za0 : Int32} {za1 : Int32} {za2 : Int32} {za3 : Int32} {za4 : Int32} {zfr : Nat → Int32} {zcd : Int32} {zgo : Nat → Int32} {ztd : Int32} {ztv : Int32} {zcl : Nat → Int32} {zca : Nat → Int32} {zwa : Nat → Int32} {zpt : Nat → Int32} {zpf : Nat → Int32} {N : Nat} {p1 : Int32} {r' : Int32} {zky' : Nat → Int32} {ztz' : Int32} {ztn' : Nat → Int64} (hE : fX11_ranks N zky ztz ztn HS p1 = some (r', zky', ztz', ztn')) : Mg l yX11_ranks cX11_ranks 5 (some .int) (rmk 6 140) (KX Z) (AX Z) [.ref (oA Z 0), .int p1] (PX Z HS zkb zdr zky zpn zps ztz ztn zxz zxa zsg za0 za1 za2 za3 za4 zfr zcd zgo ztd ztv zcl zca zwa zpt zpf) (Qi (KX Z) (AX Z) (PX Z HS zkb zdr zky' zpn zps ztz' ztn' zxz zxa zsg za0 za1 za2 za3 za4 zfr zcd zgo ztd ztv zcl zca zwa zpt zpf) r') := by
  refine Mg.start (lv := [(0, .ref (oA Z 0)), (1, .int p1)]) (by decide) rfl (Nat.le_of_ble_eq_true rfl) rfl ?_
  intro p e s m below meth c F hr hlk C hP ls hl
  have hS : va_S (AX Z) s.heap s.heap [] := va_S.rf
  unfold fX11_ranks at hE
  refine lv_iload_n F.1 F.2.1 dX11_ranks_0 rfl (lv_at hl 1 rfl) ?_
  refine lv_if_lt (tgt := 9) F.1 F.2.1 dX11_ranks_1 (by decide) (fun hc => ?_) (fun hc => ?_)
  · have hE := ifp hE hc
    refine lv_iconst (v := (-1)) F.1 F.2.1 dX11_ranks_9 (by decide) ?_
    have w0 := Option.some.inj hE
    obtain ⟨g0, w1⟩ := Prod.mk.inj w0
    obtain ⟨g1, w2⟩ := Prod.mk.inj w1
    obtain ⟨g2, w3⟩ := Prod.mk.inj w2
    subst g0 g1 g2 w3
    exact ret_i F hr hlk hP hS dX11_ranks_10
  · have hE := ifn hE hc
    refine lv_iload_n F.1 F.2.1 dX11_ranks_4 rfl (lv_at hl 1 rfl) ?_
    refine lv_iconst (v := 2) F.1 F.2.1 dX11_ranks_5 (by decide) ?_
    refine lv_icmp_le (tgt := 11) F.1 F.2.1 dX11_ranks_6 (by decide) (fun hc => ?_) (fun hc => ?_)
    · have hE := ifp hE hc
      refine lv_iconst (v := 0) F.1 F.2.1 dX11_ranks_11 (by decide) ?_
      refine lv_istore_n (lv' := [(2, .int 0), (0, .ref (oA Z 0)), (1, .int p1)]) F.1 F.2.1 dX11_ranks_12 rfl hl (by decide) rfl (fun ls hl => ?_)
      exact qX11_ranks_13 F hr hlk C N zky ztz ztn 0 hE _ _ hP hS ls (lv_sub hl [1, 2, 0] rfl)
    · have hE := ifn hE hc
      refine lv_iconst (v := (-1)) F.1 F.2.1 dX11_ranks_9 (by decide) ?_
      have w0 := Option.some.inj hE
      obtain ⟨g0, w1⟩ := Prod.mk.inj w0
      obtain ⟨g1, w2⟩ := Prod.mk.inj w1
      obtain ⟨g2, w3⟩ := Prod.mk.inj w2
      subst g0 g1 g2 w3
      exact ret_i F hr hlk hP hS dX11_ranks_10
set_option maxRecDepth 100000 in
set_option maxHeartbeats 4000000 in
theorem kX11_logged {l : Launch} {Z : ZC} {HS : Nat → Nat → Nat → Int32} {zkb : Int32} {zdr : Int32} {zky : Nat → Int32} {zpn : Int32} {zps : Int32} {ztz : Int32} {ztn : Nat → Int64} {zxz : Int32} {zxa : Int32} {zsg : Nat → Int32} {za0 : Int32} {za1 : Int32} {za2 : Int32} {za3 : Int32} {za4 : Int32} {zfr : Nat → Int32} {zcd : Int32} {zgo : Nat → Int32} {ztd : Int32} {ztv : Int32} {zcl : Nat → Int32} {zca : Nat → Int32} {zwa : Nat → Int32} {zpt : Nat → Int32} {zpf : Nat → Int32} {p1 : Int32} {r' : Int32} {ztz' : Int32} {ztn' : Nat → Int64} (hE : fX11_logged ztz ztn HS p1 = some (r', ztz', ztn')) : Mg l yX11_logged cX11_logged 2 (some .int) (rmk 2 44) (KX Z) (AX Z) [.ref (oA Z 0), .int p1] (PX Z HS zkb zdr zky zpn zps ztz ztn zxz zxa zsg za0 za1 za2 za3 za4 zfr zcd zgo ztd ztv zcl zca zwa zpt zpf) (Qi (KX Z) (AX Z) (PX Z HS zkb zdr zky zpn zps ztz' ztn' zxz zxa zsg za0 za1 za2 za3 za4 zfr zcd zgo ztd ztv zcl zca zwa zpt zpf) r') := by
  refine Mg.start (lv := [(0, .ref (oA Z 0)), (1, .int p1)]) (by decide) rfl (Nat.le_of_ble_eq_true rfl) rfl ?_
  intro p e s m below meth c F hr hlk C hP ls hl
  have hS : va_S (AX Z) s.heap s.heap [] := va_S.rf
  unfold fX11_logged at hE
  refine lv_iload_n F.1 F.2.1 dX11_logged_0 rfl (lv_at hl 1 rfl) ?_
  refine lv_if_lt (tgt := 10) F.1 F.2.1 dX11_logged_1 (by decide) (fun hc => ?_) (fun hc => ?_)
  · have hE := ifp hE hc
    refine lv_iconst (v := (-1)) F.1 F.2.1 dX11_logged_10 (by decide) ?_
    have w0 := Option.some.inj hE
    obtain ⟨g0, w1⟩ := Prod.mk.inj w0
    obtain ⟨g1, w2⟩ := Prod.mk.inj w1
    subst g0 g1 w2
    exact ret_i F hr hlk hP hS dX11_logged_11
  · have hE := ifn hE hc
    refine lv_iload_n F.1 F.2.1 dX11_logged_4 rfl (lv_at hl 1 rfl) ?_
    refine lv_bipush (v := 6) F.1 F.2.1 dX11_logged_5 (by decide) ?_
    refine lv_icmp_lt (tgt := 12) F.1 F.2.1 dX11_logged_7 (by decide) (fun hc => ?_) (fun hc => ?_)
    · have hE := ifp hE hc
      refine lv_aload_n F.1 F.2.1 dX11_logged_12 rfl (lv_at hl 0 rfl) ?_
      refine gX11_33 F C hP dX11_logged_13 ?_
      refine lv_aload_n F.1 F.2.1 dX11_logged_16 rfl (lv_at hl 0 rfl) ?_
      refine gX11_10 F C hP dX11_logged_17 ?_
      refine gX11_125 F C hP (by decide) rfl dX11_logged_20 ?_
      refine gX11_297 F C hP (by decide) rfl dX11_logged_23 ?_
      refine lv_i2l (v := ((HS 0) 10 3).toInt64) F.1 F.2.1 dX11_logged_26 rfl ?_
      obtain ⟨ztz_628, ztn_628, hc, hE⟩ := bnd2_some hE
      refine aft_v (run_N (rest := []) F (kX8_tells hc) (okX Z) C hS (C.2.2 _ _ mlX11_114 rfl) lkX11_114 ⟨Nat.le_of_ble_eq_true rfl, Nat.le_of_ble_eq_true rfl⟩ (rvo4 C hP) hP rfl hl.1 rfl (lv_room (Nat.le_of_ble_eq_true rfl)) dX11_logged_27 ⟨Nat.zero_le _, Nat.zero_le _⟩) hS (fun H locs hP hS => ?_)
      refine lv_aload_n F.1 F.2.1 dX11_logged_30 rfl (lv_at hl 0 rfl) ?_
      refine gX11_10 F C hP dX11_logged_31 ?_
      refine gX11_125 F C hP (by decide) rfl dX11_logged_34 ?_
      refine gX11_134 F C hP (by decide) rfl dX11_logged_37 ?_
      refine lv_iload_n F.1 F.2.1 dX11_logged_40 rfl (lv_at hl 1 rfl) ?_
      obtain ⟨hi, hE⟩ := grd_some hE
      refine ah13 F C hP (by decide) rfl hi dX11_logged_41 ?_
      have w0 := Option.some.inj hE
      obtain ⟨g0, w1⟩ := Prod.mk.inj w0
      obtain ⟨g1, w2⟩ := Prod.mk.inj w1
      subst g0 g1 w2
      exact ret_i F hr hlk hP hS dX11_logged_42
    · have hE := ifn hE hc
      refine lv_iconst (v := (-1)) F.1 F.2.1 dX11_logged_10 (by decide) ?_
      have w0 := Option.some.inj hE
      obtain ⟨g0, w1⟩ := Prod.mk.inj w0
      obtain ⟨g1, w2⟩ := Prod.mk.inj w1
      subst g0 g1 w2
      exact ret_i F hr hlk hP hS dX11_logged_11
set_option maxRecDepth 100000 in
set_option maxHeartbeats 4000000 in
theorem qX11_day_133 {p : Program} {l : Launch} {e : Env} {s : State} {m : MethodId} {args : Array Value} {below : List Frame} {meth : Method} {c : Code} {Z : ZC} {zkb : Int32} {zdr : Int32} {zky : Nat → Int32} {zsg : Nat → Int32} {zfr : Nat → Int32} {N : Nat} {r' : Int32} {zpn' : Int32} {zps' : Int32} {ztz' : Int32} {ztn' : Nat → Int64} {zxz' : Int32} {zxa' : Int32} {za0' : Int32} {za1' : Int32} {za2' : Int32} {za3' : Int32} {za4' : Int32} {zcd' : Int32} {zgo' : Nat → Int32} {ztd' : Int32} {ztv' : Int32} {zcl' : Nat → Int32} {zca' : Nat → Int32} {zwa' : Nat → Int32} {zpt' : Nat → Int32} {zpf' : Nat → Int32} {HS' : Nat → Nat → Nat → Int32} (F : CallFix p m c cX11_day 5 s args bigW RX11) (hr : meth.sig.returnType = (some .int)) (hlk : meth.locks = false) (C : KX Z s) : ∀ (zpn : Int32) (zps : Int32) (ztz : Int32) (ztn : Nat → Int64) (zxz : Int32) (zxa : Int32) (za0 : Int32) (za1 : Int32) (za2 : Int32) (za3 : Int32) (za4 : Int32) (zcd : Int32) (zgo : Nat → Int32) (ztd : Int32) (ztv : Int32) (zcl : Nat → Int32) (zca : Nat → Int32) (zwa : Nat → Int32) (zpt : Nat → Int32) (zpf : Nat → Int32) (HS : Nat → Nat → Nat → Int32) (x2 : Int32) (x3 : Int32), fX11_day_133 N zsg zpn zps ztz ztn zxz zxa za0 za1 za2 za3 za4 zcd zgo ztd ztv zcl zca zwa zpt zpf HS x2 x3 = some (r', zpn', zps', ztz', ztn', zxz', zxa', za0', za1', za2', za3', za4', zcd', zgo', ztd', ztv', zcl', zca', zwa', zpt', zpf', HS') → ∀ (H : Heap) (locs : List Loc), PX Z HS zkb zdr zky zpn zps ztz ztn zxz zxa zsg za0 za1 za2 za3 za4 zfr zcd zgo ztd ztv zcl zca zwa zpt zpf H → va_S (AX Z) s.heap H locs → ∀ ls : Array Slot, lv_has ls 5 [(0, .ref (oA Z 0)), (2, .int x2), (3, .int x3)] → W p l e (rmk 7 167) s m args below meth c H locs 0 0 (MQ below (Qi (KX Z) (AX Z) (PX Z HS' zkb zdr zky zpn' zps' ztz' ztn' zxz' zxa' zsg za0' za1' za2' za3' za4' zfr zcd' zgo' ztd' ztv' zcl' zca' zwa' zpt' zpf') r') args s 0 0 (AX Z)) (F0 m 133 ls []) := by
  intro zpn zps ztz ztn zxz zxa za0 za1 za2 za3 za4 zcd zgo ztd ztv zcl zca zwa zpt zpf HS x2 x3 hE H locs hP hS ls hl
  unfold fX11_day_133 at hE
  refine lv_aload_n F.1 F.2.1 dX11_day_133 rfl (lv_at hl 0 rfl) ?_
  refine gX11_33 F C hP dX11_day_134 ?_
  refine lv_iload_n F.1 F.2.1 dX11_day_137 rfl (lv_at hl 2 rfl) ?_
  refine lv_i2l (v := x3.toInt64) F.1 F.2.1 dX11_day_138 rfl ?_
  refine lv_aload_n F.1 F.2.1 dX11_day_139 rfl (lv_at hl 0 rfl) ?_
  refine gX11_10 F C hP dX11_day_140 ?_
  obtain ⟨r693, hc, hE⟩ := bnd1_some hE
  refine aft_i (run_N (rest := [.long x3.toInt64, .ref (oA Z 4)]) F (kX3_objects (by decide) rfl hc) (okX Z) C hS (C.2.2 _ _ mlX11_146 rfl) lkX11_146 ⟨Nat.le_of_ble_eq_true rfl, Nat.le_of_ble_eq_true rfl⟩ (rvh0 C hP (by decide)) hP rfl hl.1 rfl (lv_room (Nat.le_of_ble_eq_true rfl)) dX11_day_143 ⟨Nat.zero_le _, Nat.zero_le _⟩) hS (fun H locs hP hS => ?_)
  refine lv_i2l (v := r693.toInt64) F.1 F.2.1 dX11_day_146 rfl ?_
  obtain ⟨ztz_694, ztn_694, hc, hE⟩ := bnd2_some hE
  refine aft_v (run_N (rest := []) F (kX8_tells_ hc) (okX Z) C hS (C.2.2 _ _ mlX11_140 rfl) lkX11_140 ⟨Nat.le_of_ble_eq_true rfl, Nat.le_of_ble_eq_true rfl⟩ (rvo4 C hP) hP rfl hl.1 rfl (lv_room (Nat.le_of_ble_eq_true rfl)) dX11_day_147 ⟨Nat.zero_le _, Nat.zero_le _⟩) hS (fun H locs hP hS => ?_)
  refine lv_iload_n F.1 F.2.1 dX11_day_150 rfl (lv_at hl 1 rfl) ?_
  have w0 := Option.some.inj hE
  obtain ⟨g0, w1⟩ := Prod.mk.inj w0
  obtain ⟨g1, w2⟩ := Prod.mk.inj w1
  obtain ⟨g2, w3⟩ := Prod.mk.inj w2
  obtain ⟨g3, w4⟩ := Prod.mk.inj w3
  obtain ⟨g4, w5⟩ := Prod.mk.inj w4
  obtain ⟨g5, w6⟩ := Prod.mk.inj w5
  obtain ⟨g6, w7⟩ := Prod.mk.inj w6
  obtain ⟨g7, w8⟩ := Prod.mk.inj w7
  obtain ⟨g8, w9⟩ := Prod.mk.inj w8
  obtain ⟨g9, w10⟩ := Prod.mk.inj w9
  obtain ⟨g10, w11⟩ := Prod.mk.inj w10
  obtain ⟨g11, w12⟩ := Prod.mk.inj w11
  obtain ⟨g12, w13⟩ := Prod.mk.inj w12
  obtain ⟨g13, w14⟩ := Prod.mk.inj w13
  obtain ⟨g14, w15⟩ := Prod.mk.inj w14
  obtain ⟨g15, w16⟩ := Prod.mk.inj w15
  obtain ⟨g16, w17⟩ := Prod.mk.inj w16
  obtain ⟨g17, w18⟩ := Prod.mk.inj w17
  obtain ⟨g18, w19⟩ := Prod.mk.inj w18
  obtain ⟨g19, w20⟩ := Prod.mk.inj w19
  obtain ⟨g20, w21⟩ := Prod.mk.inj w20
  subst g0 g1 g2 g3 g4 g5 g6 g7 g8 g9 g10 g11 g12 g13 g14 g15 g16 g17 g18 g19 g20 w21
  exact ret_i F hr hlk hP hS dX11_day_151
set_option maxRecDepth 100000 in
set_option maxHeartbeats 4000000 in
theorem qX11_day_114 {p : Program} {l : Launch} {e : Env} {s : State} {m : MethodId} {args : Array Value} {below : List Frame} {meth : Method} {c : Code} {Z : ZC} {zkb : Int32} {zdr : Int32} {zky : Nat → Int32} {zsg : Nat → Int32} {zfr : Nat → Int32} {N : Nat} {r' : Int32} {zpn' : Int32} {zps' : Int32} {ztz' : Int32} {ztn' : Nat → Int64} {zxz' : Int32} {zxa' : Int32} {za0' : Int32} {za1' : Int32} {za2' : Int32} {za3' : Int32} {za4' : Int32} {zcd' : Int32} {zgo' : Nat → Int32} {ztd' : Int32} {ztv' : Int32} {zcl' : Nat → Int32} {zca' : Nat → Int32} {zwa' : Nat → Int32} {zpt' : Nat → Int32} {zpf' : Nat → Int32} {HS' : Nat → Nat → Nat → Int32} (F : CallFix p m c cX11_day 5 s args bigW RX11) (hr : meth.sig.returnType = (some .int)) (hlk : meth.locks = false) (C : KX Z s) : ∀ (zpn : Int32) (zps : Int32) (ztz : Int32) (ztn : Nat → Int64) (zxz : Int32) (zxa : Int32) (za0 : Int32) (za1 : Int32) (za2 : Int32) (za3 : Int32) (za4 : Int32) (zcd : Int32) (zgo : Nat → Int32) (ztd : Int32) (ztv : Int32) (zcl : Nat → Int32) (zca : Nat → Int32) (zwa : Nat → Int32) (zpt : Nat → Int32) (zpf : Nat → Int32) (HS : Nat → Nat → Nat → Int32) (x2 : Int32) (x3 : Int32), fX11_day_114 N zsg zpn zps ztz ztn zxz zxa za0 za1 za2 za3 za4 zcd zgo ztd ztv zcl zca zwa zpt zpf HS x2 x3 = some (r', zpn', zps', ztz', ztn', zxz', zxa', za0', za1', za2', za3', za4', zcd', zgo', ztd', ztv', zcl', zca', zwa', zpt', zpf', HS') → ∀ (H : Heap) (locs : List Loc), PX Z HS zkb zdr zky zpn zps ztz ztn zxz zxa zsg za0 za1 za2 za3 za4 zfr zcd zgo ztd ztv zcl zca zwa zpt zpf H → va_S (AX Z) s.heap H locs → ∀ ls : Array Slot, lv_has ls 5 [(0, .ref (oA Z 0)), (2, .int x2), (3, .int x3)] → W p l e (rmk 7 167) s m args below meth c H locs 0 0 (MQ below (Qi (KX Z) (AX Z) (PX Z HS' zkb zdr zky zpn' zps' ztz' ztn' zxz' zxa' zsg za0' za1' za2' za3' za4' zfr zcd' zgo' ztd' ztv' zcl' zca' zwa' zpt' zpf') r') args s 0 0 (AX Z)) (F0 m 114 ls []) := by
  intro zpn zps ztz ztn zxz zxa za0 za1 za2 za3 za4 zcd zgo ztd ztv zcl zca zwa zpt zpf HS x2 x3 hE H locs hP hS ls hl
  unfold fX11_day_114 at hE
  refine lv_aload_n F.1 F.2.1 dX11_day_114 rfl (lv_at hl 0 rfl) ?_
  refine gX11_40 F C hP dX11_day_115 ?_
  refine lv_iconst (v := 0) F.1 F.2.1 dX11_day_118 (by decide) ?_
  refine pX11_91 F C hP hS rfl dX11_day_119 (fun H locs hP hS => ?_)
  refine lv_iload_n F.1 F.2.1 dX11_day_122 rfl (lv_at hl 1 rfl) ?_
  refine lv_if_le (tgt := 133) F.1 F.2.1 dX11_day_123 (by decide) (fun hc => ?_) (fun hc => ?_)
  · have hE := ifp hE hc
    exact qX11_day_133 F hr hlk C zpn zps ztz ztn 0 zxa za0 za1 za2 za3 za4 zcd zgo ztd ztv zcl zca zwa zpt zpf HS x2 x3 hE _ _ hP hS ls (lv_sub hl [0, 1, 2] rfl)
  · have hE := ifn hE hc
    refine lv_aload_n F.1 F.2.1 dX11_day_126 rfl (lv_at hl 0 rfl) ?_
    refine gX11_26 F C hP dX11_day_127 ?_
    obtain ⟨zpn_692, zps_692, hc, hE⟩ := bnd2_some hE
    refine aft_v (run_N (rest := []) F (kX5_keeps hc) (okX Z) C hS (C.2.2 _ _ mlX11_111 rfl) lkX11_111 ⟨Nat.le_of_ble_eq_true rfl, Nat.le_of_ble_eq_true rfl⟩ (rvo2 C hP) hP rfl hl.1 rfl (lv_room (Nat.le_of_ble_eq_true rfl)) dX11_day_130 ⟨Nat.zero_le _, Nat.zero_le _⟩) hS (fun H locs hP hS => ?_)
    exact qX11_day_133 F hr hlk C zpn_692 zps_692 ztz ztn 0 zxa za0 za1 za2 za3 za4 zcd zgo ztd ztv zcl zca zwa zpt zpf HS x2 x3 hE _ _ hP hS ls (lv_sub hl [0, 1, 2] rfl)
set_option maxRecDepth 100000 in
set_option maxHeartbeats 4000000 in
theorem qX11_day_50 {p : Program} {l : Launch} {e : Env} {s : State} {m : MethodId} {args : Array Value} {below : List Frame} {meth : Method} {c : Code} {Z : ZC} {zkb : Int32} {zdr : Int32} {zky : Nat → Int32} {zsg : Nat → Int32} {zfr : Nat → Int32} {N : Nat} {r' : Int32} {zpn' : Int32} {zps' : Int32} {ztz' : Int32} {ztn' : Nat → Int64} {zxz' : Int32} {zxa' : Int32} {za0' : Int32} {za1' : Int32} {za2' : Int32} {za3' : Int32} {za4' : Int32} {zcd' : Int32} {zgo' : Nat → Int32} {ztd' : Int32} {ztv' : Int32} {zcl' : Nat → Int32} {zca' : Nat → Int32} {zwa' : Nat → Int32} {zpt' : Nat → Int32} {zpf' : Nat → Int32} {HS' : Nat → Nat → Nat → Int32} (F : CallFix p m c cX11_day 5 s args bigW RX11) (hr : meth.sig.returnType = (some .int)) (hlk : meth.locks = false) (C : KX Z s) : ∀ n : Nat, ∀ (zpn : Int32) (zps : Int32) (ztz : Int32) (ztn : Nat → Int64) (zxz : Int32) (zxa : Int32) (za0 : Int32) (za1 : Int32) (za2 : Int32) (za3 : Int32) (za4 : Int32) (zcd : Int32) (zgo : Nat → Int32) (ztd : Int32) (ztv : Int32) (zcl : Nat → Int32) (zca : Nat → Int32) (zwa : Nat → Int32) (zpt : Nat → Int32) (zpf : Nat → Int32) (HS : Nat → Nat → Nat → Int32) (x2 : Int32) (x3 : Int32) (x4 : Int32), fX11_day_50 N zsg n zpn zps ztz ztn zxz zxa za0 za1 za2 za3 za4 zcd zgo ztd ztv zcl zca zwa zpt zpf HS x2 x3 x4 = some (r', zpn', zps', ztz', ztn', zxz', zxa', za0', za1', za2', za3', za4', zcd', zgo', ztd', ztv', zcl', zca', zwa', zpt', zpf', HS') → ∀ (H : Heap) (locs : List Loc), PX Z HS zkb zdr zky zpn zps ztz ztn zxz zxa zsg za0 za1 za2 za3 za4 zfr zcd zgo ztd ztv zcl zca zwa zpt zpf H → va_S (AX Z) s.heap H locs → ∀ ls : Array Slot, lv_has ls 5 [(0, .ref (oA Z 0)), (2, .int x2), (3, .int x3), (4, .int x4)] → W p l e (rmk 7 167) s m args below meth c H locs 0 0 (MQ below (Qi (KX Z) (AX Z) (PX Z HS' zkb zdr zky zpn' zps' ztz' ztn' zxz' zxa' zsg za0' za1' za2' za3' za4' zfr zcd' zgo' ztd' ztv' zcl' zca' zwa' zpt' zpf') r') args s 0 0 (AX Z)) (F0 m 50 ls []) := by
  intro n
  induction n with
  | zero => intro zpn zps ztz ztn zxz zxa za0 za1 za2 za3 za4 zcd zgo ztd ztv zcl zca zwa zpt zpf HS x2 x3 x4 hE; cases hE
  | succ n h50 =>
    intro zpn zps ztz ztn zxz zxa za0 za1 za2 za3 za4 zcd zgo ztd ztv zcl zca zwa zpt zpf HS x2 x3 x4 hE H locs hP hS ls hl
    have hE : fX11_day_50b N zsg (fX11_day_50 N zsg n) zpn zps ztz ztn zxz zxa za0 za1 za2 za3 za4 zcd zgo ztd ztv zcl zca zwa zpt zpf HS x2 x3 x4 = some (r', zpn', zps', ztz', ztn', zxz', zxa', za0', za1', za2', za3', za4', zcd', zgo', ztd', ztv', zcl', zca', zwa', zpt', zpf', HS') := hE
    refine lv_iload F.1 F.2.1 dX11_day_50 (lv_at hl 3 rfl) ?_
    refine lv_bipush (v := 80) F.1 F.2.1 dX11_day_52 (by decide) ?_
    refine lv_icmp_ge (tgt := 114) F.1 F.2.1 dX11_day_54 (by decide) (fun hc => ?_) (fun hc => ?_)
    · have hE := ifp hE hc
      exact qX11_day_114 F hr hlk C zpn zps ztz ztn zxz zxa za0 za1 za2 za3 za4 zcd zgo ztd ztv zcl zca zwa zpt zpf HS x2 x3 hE _ _ hP hS ls (lv_sub hl [0, 1, 2] rfl)
    · have hE := ifn hE hc
      refine lv_iload_n F.1 F.2.1 dX11_day_57 rfl (lv_at hl 2 rfl) ?_
      refine lv_if_ne (tgt := 114) F.1 F.2.1 dX11_day_58 (by decide) (fun hc => ?_) (fun hc => ?_)
      · have hE := ifn hE hc
        exact qX11_day_114 F hr hlk C zpn zps ztz ztn zxz zxa za0 za1 za2 za3 za4 zcd zgo ztd ztv zcl zca zwa zpt zpf HS x2 x3 hE _ _ hP hS ls (lv_sub hl [0, 1, 2] rfl)
      · have hE := ifp hE hc
        refine lv_aload_n F.1 F.2.1 dX11_day_61 rfl (lv_at hl 0 rfl) ?_
        refine gX11_40 F C hP dX11_day_62 ?_
        obtain ⟨r688, hc, hE⟩ := bnd1_some hE
        refine aft_i (run_N (rest := []) F (kX7_goesOn hc) (okX Z) C hS (C.2.2 _ _ mlX11_306 rfl) lkX11_306 ⟨Nat.le_of_ble_eq_true rfl, Nat.le_of_ble_eq_true rfl⟩ (rvo6 C hP) hP rfl hl.1 rfl (lv_room (Nat.le_of_ble_eq_true rfl)) dX11_day_65 ⟨Nat.zero_le _, Nat.zero_le _⟩) hS (fun H locs hP hS => ?_)
        refine lv_if_eq (tgt := 114) F.1 F.2.1 dX11_day_68 (by decide) (fun hc => ?_) (fun hc => ?_)
        · have hE := ifp hE hc
          exact qX11_day_114 F hr hlk C zpn zps ztz ztn zxz zxa za0 za1 za2 za3 za4 zcd zgo ztd ztv zcl zca zwa zpt zpf HS x2 x3 hE _ _ hP hS ls (lv_sub hl [0, 1, 2] rfl)
        · have hE := ifn hE hc
          refine lv_aload_n F.1 F.2.1 dX11_day_71 rfl (lv_at hl 0 rfl) ?_
          refine gX11_40 F C hP dX11_day_72 ?_
          refine lv_aload_n F.1 F.2.1 dX11_day_75 rfl (lv_at hl 0 rfl) ?_
          refine gX11_47 F C hP dX11_day_76 ?_
          obtain ⟨zxa_689, za0_689, za1_689, za2_689, za3_689, za4_689, hc, hE⟩ := bnd6_some hE
          refine aft_v (run_N (rest := []) F (kX7_reads hc) (okX Z) C hS (C.2.2 _ _ mlX11_310 rfl) lkX11_310 ⟨Nat.le_of_ble_eq_true rfl, Nat.le_of_ble_eq_true rfl⟩ (rvo6 C hP) hP rfl hl.1 rfl (lv_room (Nat.le_of_ble_eq_true rfl)) dX11_day_79 ⟨Nat.zero_le _, Nat.zero_le _⟩) hS (fun H locs hP hS => ?_)
          refine lv_aload_n F.1 F.2.1 dX11_day_82 rfl (lv_at hl 0 rfl) ?_
          refine gX11_79 F C hP dX11_day_83 ?_
          refine lv_aload_n F.1 F.2.1 dX11_day_86 rfl (lv_at hl 0 rfl) ?_
          refine gX11_10 F C hP dX11_day_87 ?_
          refine lv_aload_n F.1 F.2.1 dX11_day_90 rfl (lv_at hl 0 rfl) ?_
          refine gX11_47 F C hP dX11_day_91 ?_
          obtain ⟨r690, zcd_690, zgo_690, ztd_690, ztv_690, zcl_690, zca_690, zwa_690, zpt_690, zpf_690, X_690, hc, hE⟩ := bnd11_some hE
          obtain ⟨HS_691, eHS_691, hE⟩ := lt_some hE
          refine aft_i (run_N (rest := []) F (kX1_does (by decide) rfl eHS_691.symm hc) (okX Z) C hS (C.2.2 _ _ mlX11_107 rfl) lkX11_107 ⟨Nat.le_of_ble_eq_true rfl, Nat.le_of_ble_eq_true rfl⟩ (rvo19 C hP) hP rfl hl.1 rfl (lv_room (Nat.le_of_ble_eq_true rfl)) dX11_day_94 ⟨Nat.zero_le _, Nat.zero_le _⟩) hS (fun H locs hP hS => ?_)
          refine lv_if_ge (tgt := 105) F.1 F.2.1 dX11_day_97 (by decide) (fun hc => ?_) (fun hc => ?_)
          · have hE := ifp hE hc
            refine lv_iinc (v := x2 + 1) (lv' := [(2, .int (x2 + 1)), (0, .ref (oA Z 0)), (3, .int x3), (4, .int x4)]) F.1 F.2.1 dX11_day_105 hl (k := 1) rfl rfl (by decide) rfl (fun ls hl => ?_)
            refine lv_iinc (v := x4 + 1) (lv' := [(4, .int (x4 + 1)), (2, .int (x2 + 1)), (0, .ref (oA Z 0)), (3, .int x3)]) F.1 F.2.1 dX11_day_108 hl (k := 3) rfl rfl (by decide) rfl (fun ls hl => ?_)
            refine lv_goto (tgt := 50) F.1 F.2.1 dX11_day_111 (by decide) ?_
            exact h50 zpn zps ztz ztn zxz zxa_689 za0_689 za1_689 za2_689 za3_689 za4_689 zcd_690 zgo_690 ztd_690 ztv_690 zcl_690 zca_690 zwa_690 zpt_690 zpf_690 HS_691 (x2 + 1) x3 (x4 + 1) hE _ _ hP hS ls (lv_sub hl [2, 1, 3, 0] rfl)
          · have hE := ifn hE hc
            refine lv_iconst (v := 1) F.1 F.2.1 dX11_day_100 (by decide) ?_
            refine lv_istore_n (lv' := [(3, .int 1), (0, .ref (oA Z 0)), (2, .int x2), (4, .int x4)]) F.1 F.2.1 dX11_day_101 rfl hl (by decide) rfl (fun ls hl => ?_)
            refine lv_goto (tgt := 108) F.1 F.2.1 dX11_day_102 (by decide) ?_
            refine lv_iinc (v := x4 + 1) (lv' := [(4, .int (x4 + 1)), (3, .int 1), (0, .ref (oA Z 0)), (2, .int x2)]) F.1 F.2.1 dX11_day_108 hl (k := 3) rfl rfl (by decide) rfl (fun ls hl => ?_)
            refine lv_goto (tgt := 50) F.1 F.2.1 dX11_day_111 (by decide) ?_
            exact h50 zpn zps ztz ztn zxz zxa_689 za0_689 za1_689 za2_689 za3_689 za4_689 zcd_690 zgo_690 ztd_690 ztv_690 zcl_690 zca_690 zwa_690 zpt_690 zpf_690 HS_691 x2 1 (x4 + 1) hE _ _ hP hS ls (lv_sub hl [2, 3, 1, 0] rfl)
set_option maxRecDepth 100000 in
set_option maxHeartbeats 4000000 in
theorem kX11_day {l : Launch} {Z : ZC} {HS : Nat → Nat → Nat → Int32} {zkb : Int32} {zdr : Int32} {zky : Nat → Int32} {zpn : Int32} {zps : Int32} {ztz : Int32} {ztn : Nat → Int64} {zxz : Int32} {zxa : Int32} {zsg : Nat → Int32} {za0 : Int32} {za1 : Int32} {za2 : Int32} {za3 : Int32} {za4 : Int32} {zfr : Nat → Int32} {zcd : Int32} {zgo : Nat → Int32} {ztd : Int32} {ztv : Int32} {zcl : Nat → Int32} {zca : Nat → Int32} {zwa : Nat → Int32} {zpt : Nat → Int32} {zpf : Nat → Int32} {N : Nat} {r' : Int32} {zpn' : Int32} {zps' : Int32} {ztz' : Int32} {ztn' : Nat → Int64} {zxz' : Int32} {zxa' : Int32} {za0' : Int32} {za1' : Int32} {za2' : Int32} {za3' : Int32} {za4' : Int32} {zcd' : Int32} {zgo' : Nat → Int32} {ztd' : Int32} {ztv' : Int32} {zcl' : Nat → Int32} {zca' : Nat → Int32} {zwa' : Nat → Int32} {zpt' : Nat → Int32} {zpf' : Nat → Int32} {HS' : Nat → Nat → Nat → Int32} (hE : fX11_day N zpn zps ztz ztn zxz zxa zsg za0 za1 za2 za3 za4 zcd zgo ztd ztv zcl zca zwa zpt zpf HS = some (r', zpn', zps', ztz', ztn', zxz', zxa', za0', za1', za2', za3', za4', zcd', zgo', ztd', ztv', zcl', zca', zwa', zpt', zpf', HS')) : Mg l yX11_day cX11_day 5 (some .int) (rmk 7 167) (KX Z) (AX Z) [.ref (oA Z 0)] (PX Z HS zkb zdr zky zpn zps ztz ztn zxz zxa zsg za0 za1 za2 za3 za4 zfr zcd zgo ztd ztv zcl zca zwa zpt zpf) (Qi (KX Z) (AX Z) (PX Z HS' zkb zdr zky zpn' zps' ztz' ztn' zxz' zxa' zsg za0' za1' za2' za3' za4' zfr zcd' zgo' ztd' ztv' zcl' zca' zwa' zpt' zpf') r') := by
  refine Mg.start (lv := [(0, .ref (oA Z 0))]) (by decide) rfl (Nat.le_of_ble_eq_true rfl) rfl ?_
  intro p e s m below meth c F hr hlk C hP ls hl
  have hS : va_S (AX Z) s.heap s.heap [] := va_S.rf
  unfold fX11_day at hE
  refine lv_aload_n F.1 F.2.1 dX11_day_0 rfl (lv_at hl 0 rfl) ?_
  refine gX11_40 F C hP dX11_day_1 ?_
  obtain ⟨r685, hc, hE⟩ := bnd1_some hE
  refine aft_i (run_N (rest := []) F (kX7_fault hc) (okX Z) C hS (C.2.2 _ _ mlX11_300 rfl) lkX11_300 ⟨Nat.le_of_ble_eq_true rfl, Nat.le_of_ble_eq_true rfl⟩ (rvo6 C hP) hP rfl hl.1 rfl (lv_room (Nat.le_of_ble_eq_true rfl)) dX11_day_4 ⟨Nat.zero_le _, Nat.zero_le _⟩) hS (fun H locs hP hS => ?_)
  refine lv_istore_n (lv' := [(1, .int r685), (0, .ref (oA Z 0))]) F.1 F.2.1 dX11_day_7 rfl hl (by decide) rfl (fun ls hl => ?_)
  refine lv_iload_n F.1 F.2.1 dX11_day_8 rfl (lv_at hl 0 rfl) ?_
  refine lv_iconst (v := (-1)) F.1 F.2.1 dX11_day_9 (by decide) ?_
  refine lv_icmp_eq (tgt := 25) F.1 F.2.1 dX11_day_10 (by decide) (fun hc => ?_) (fun hc => ?_)
  · have hE := ifp hE hc
    refine lv_aload_n F.1 F.2.1 dX11_day_25 rfl (lv_at hl 1 rfl) ?_
    refine gX11_26 F C hP dX11_day_26 ?_
    refine lv_aload_n F.1 F.2.1 dX11_day_29 rfl (lv_at hl 1 rfl) ?_
    refine gX11_10 F C hP dX11_day_30 ?_
    obtain ⟨HS_686, hc, hE⟩ := bnd1_some hE
    refine aft_v (run_N (rest := []) F (kX5_marks hc) (okX Z) C hS (C.2.2 _ _ mlX11_103 rfl) lkX11_103 ⟨Nat.le_of_ble_eq_true rfl, Nat.le_of_ble_eq_true rfl⟩ (rvo2 C hP) hP rfl hl.1 rfl (lv_room (Nat.le_of_ble_eq_true rfl)) dX11_day_33 ⟨Nat.zero_le _, Nat.zero_le _⟩) hS (fun H locs hP hS => ?_)
    refine lv_aload_n F.1 F.2.1 dX11_day_36 rfl (lv_at hl 1 rfl) ?_
    refine gX11_40 F C hP dX11_day_37 ?_
    obtain ⟨zxa_687, hc, hE⟩ := bnd1_some hE
    refine aft_v (run_N (rest := []) F (kX7_starts hc) (okX Z) C hS (C.2.2 _ _ mlX11_303 rfl) lkX11_303 ⟨Nat.le_of_ble_eq_true rfl, Nat.le_of_ble_eq_true rfl⟩ (rvo6 C hP) hP rfl hl.1 rfl (lv_room (Nat.le_of_ble_eq_true rfl)) dX11_day_40 ⟨Nat.zero_le _, Nat.zero_le _⟩) hS (fun H locs hP hS => ?_)
    refine lv_iconst (v := 0) F.1 F.2.1 dX11_day_43 (by decide) ?_
    refine lv_istore_n (lv' := [(2, .int 0), (1, .int r685), (0, .ref (oA Z 0))]) F.1 F.2.1 dX11_day_44 rfl hl (by decide) rfl (fun ls hl => ?_)
    refine lv_iconst (v := 0) F.1 F.2.1 dX11_day_45 (by decide) ?_
    refine lv_istore_n (lv' := [(3, .int 0), (2, .int 0), (1, .int r685), (0, .ref (oA Z 0))]) F.1 F.2.1 dX11_day_46 rfl hl (by decide) rfl (fun ls hl => ?_)
    refine lv_iconst (v := 0) F.1 F.2.1 dX11_day_47 (by decide) ?_
    refine lv_istore (lv' := [(4, .int 0), (3, .int 0), (2, .int 0), (1, .int r685), (0, .ref (oA Z 0))]) F.1 F.2.1 dX11_day_48 hl (by decide) rfl (fun ls hl => ?_)
    exact qX11_day_50 F hr hlk C N zpn zps ztz ztn zxz zxa_687 za0 za1 za2 za3 za4 zcd zgo ztd ztv zcl zca zwa zpt zpf HS_686 0 0 0 hE _ _ hP hS ls (lv_sub hl [4, 2, 1, 0] rfl)
  · have hE := ifn hE hc
    refine lv_aload_n F.1 F.2.1 dX11_day_13 rfl (lv_at hl 1 rfl) ?_
    refine gX11_40 F C hP dX11_day_14 ?_
    refine lv_iconst (v := 0) F.1 F.2.1 dX11_day_17 (by decide) ?_
    refine pX11_91 F C hP hS rfl dX11_day_18 (fun H locs hP hS => ?_)
    refine lv_iconst (v := (-1)) F.1 F.2.1 dX11_day_21 (by decide) ?_
    refine lv_iload_n F.1 F.2.1 dX11_day_22 rfl (lv_at hl 0 rfl) ?_
    refine lv_isub F.1 F.2.1 dX11_day_23 ?_
    have w0 := Option.some.inj hE
    obtain ⟨g0, w1⟩ := Prod.mk.inj w0
    obtain ⟨g1, w2⟩ := Prod.mk.inj w1
    obtain ⟨g2, w3⟩ := Prod.mk.inj w2
    obtain ⟨g3, w4⟩ := Prod.mk.inj w3
    obtain ⟨g4, w5⟩ := Prod.mk.inj w4
    obtain ⟨g5, w6⟩ := Prod.mk.inj w5
    obtain ⟨g6, w7⟩ := Prod.mk.inj w6
    obtain ⟨g7, w8⟩ := Prod.mk.inj w7
    obtain ⟨g8, w9⟩ := Prod.mk.inj w8
    obtain ⟨g9, w10⟩ := Prod.mk.inj w9
    obtain ⟨g10, w11⟩ := Prod.mk.inj w10
    obtain ⟨g11, w12⟩ := Prod.mk.inj w11
    obtain ⟨g12, w13⟩ := Prod.mk.inj w12
    obtain ⟨g13, w14⟩ := Prod.mk.inj w13
    obtain ⟨g14, w15⟩ := Prod.mk.inj w14
    obtain ⟨g15, w16⟩ := Prod.mk.inj w15
    obtain ⟨g16, w17⟩ := Prod.mk.inj w16
    obtain ⟨g17, w18⟩ := Prod.mk.inj w17
    obtain ⟨g18, w19⟩ := Prod.mk.inj w18
    obtain ⟨g19, w20⟩ := Prod.mk.inj w19
    obtain ⟨g20, w21⟩ := Prod.mk.inj w20
    subst g0 g1 g2 g3 g4 g5 g6 g7 g8 g9 g10 g11 g12 g13 g14 g15 g16 g17 g18 g19 g20 w21
    exact ret_i F hr hlk hP hS dX11_day_24
set_option maxRecDepth 100000 in
set_option maxHeartbeats 4000000 in
theorem qX5_undoes_26 {p : Program} {l : Launch} {e : Env} {s : State} {m : MethodId} {args : Array Value} {below : List Frame} {meth : Method} {c : Code} {Z : ZC} {zkb : Int32} {zdr : Int32} {zky : Nat → Int32} {ztz : Int32} {ztn : Nat → Int64} {zxz : Int32} {zxa : Int32} {zsg : Nat → Int32} {za0 : Int32} {za1 : Int32} {za2 : Int32} {za3 : Int32} {za4 : Int32} {zfr : Nat → Int32} {zcd : Int32} {zgo : Nat → Int32} {ztd : Int32} {ztv : Int32} {zcl : Nat → Int32} {zca : Nat → Int32} {zwa : Nat → Int32} {zpt : Nat → Int32} {zpf : Nat → Int32} {zpn' : Int32} {zps' : Int32} {HS' : Nat → Nat → Nat → Int32} (F : CallFix p m c cX5_undoes 2 s args bigW RX5) (hr : meth.sig.returnType = none) (hlk : meth.locks = false) (C : KX Z s) : ∀ (zpn : Int32) (zps : Int32) (HS : Nat → Nat → Nat → Int32) (y0 : Int32), fX5_undoes_26 zpn zps HS y0 = some (zpn', zps', HS') → ∀ (H : Heap) (locs : List Loc), PX Z HS zkb zdr zky zpn zps ztz ztn zxz zxa zsg za0 za1 za2 za3 za4 zfr zcd zgo ztd ztv zcl zca zwa zpt zpf H → va_S (AX Z) s.heap H locs → ∀ ls : Array Slot, lv_has ls 2 [(0, .ref (oA Z 2)), (1, .ref (hA Z 0 0))] → W p l e (rmk 3 68) s m args below meth c H locs 0 0 (MQ below (Qv (KX Z) (AX Z) (PX Z HS' zkb zdr zky zpn' zps' ztz ztn zxz zxa zsg za0 za1 za2 za3 za4 zfr zcd zgo ztd ztv zcl zca zwa zpt zpf)) args s 0 0 (AX Z)) (F0 m 26 ls [.int y0, .ref (oA Z 2)]) := by
  intro zpn zps HS y0 hE H locs hP hS ls hl
  unfold fX5_undoes_26 at hE
  refine pX5_18 F C hP hS rfl dX5_undoes_26 (fun H locs hP hS => ?_)
  refine lv_aload_n F.1 F.2.1 dX5_undoes_29 rfl (lv_at hl 0 rfl) ?_
  refine lv_dup F.1 F.2.1 dX5_undoes_30 rfl ?_
  refine gX5_26 F C hP dX5_undoes_31 ?_
  refine lv_iconst (v := 1) F.1 F.2.1 dX5_undoes_34 (by decide) ?_
  refine lv_isub F.1 F.2.1 dX5_undoes_35 ?_
  obtain ⟨zps_697, ezps_697, hE⟩ := lt_some hE
  refine pX5_26 F C hP hS ezps_697.symm dX5_undoes_36 (fun H locs hP hS => ?_)
  refine lv_aload_n F.1 F.2.1 dX5_undoes_39 rfl (lv_at hl 1 rfl) ?_
  refine lv_aload_n F.1 F.2.1 dX5_undoes_40 rfl (lv_at hl 0 rfl) ?_
  refine gX5_11 F C hP dX5_undoes_41 ?_
  refine lv_aload_n F.1 F.2.1 dX5_undoes_44 rfl (lv_at hl 0 rfl) ?_
  refine gX5_18 F C hP dX5_undoes_45 ?_
  obtain ⟨hi, hE⟩ := grd_some hE
  refine ao3 F C hP hi dX5_undoes_48 ?_
  have hj_4 := hj_of4 hi
  obtain ⟨HS_698, eHS_698, hE⟩ := lt_some hE
  refine aft_v (run_N (rest := []) F (ccX3_copies (by decide) hj_4 (by omega) eHS_698.symm) (okX Z) C hS (C.2.2 _ _ mlX5_22 rfl) lkX5_22 ⟨Nat.le_of_ble_eq_true rfl, Nat.le_of_ble_eq_true rfl⟩ (rvh0 C hP (by decide)) hP rfl hl.1 rfl (lv_room (Nat.le_of_ble_eq_true rfl)) dX5_undoes_49 ⟨Nat.zero_le _, Nat.zero_le _⟩) hS (fun H locs hP hS => ?_)
  have w0 := Option.some.inj hE
  obtain ⟨g0, w1⟩ := Prod.mk.inj w0
  obtain ⟨g1, w2⟩ := Prod.mk.inj w1
  subst g0 g1 w2
  exact ret_v F hr hlk hP hS dX5_undoes_52
set_option maxRecDepth 100000 in
set_option maxHeartbeats 4000000 in
theorem kX5_undoes {l : Launch} {Z : ZC} {HS : Nat → Nat → Nat → Int32} {zkb : Int32} {zdr : Int32} {zky : Nat → Int32} {zpn : Int32} {zps : Int32} {ztz : Int32} {ztn : Nat → Int64} {zxz : Int32} {zxa : Int32} {zsg : Nat → Int32} {za0 : Int32} {za1 : Int32} {za2 : Int32} {za3 : Int32} {za4 : Int32} {zfr : Nat → Int32} {zcd : Int32} {zgo : Nat → Int32} {ztd : Int32} {ztv : Int32} {zcl : Nat → Int32} {zca : Nat → Int32} {zwa : Nat → Int32} {zpt : Nat → Int32} {zpf : Nat → Int32} {zpn' : Int32} {zps' : Int32} {HS' : Nat → Nat → Nat → Int32} (hE : fX5_undoes zpn zps HS = some (zpn', zps', HS')) : Mg l yX5_undoes cX5_undoes 2 none (rmk 3 68) (KX Z) (AX Z) [.ref (oA Z 2), .ref (hA Z 0 0)] (PX Z HS zkb zdr zky zpn zps ztz ztn zxz zxa zsg za0 za1 za2 za3 za4 zfr zcd zgo ztd ztv zcl zca zwa zpt zpf) (Qv (KX Z) (AX Z) (PX Z HS' zkb zdr zky zpn' zps' ztz ztn zxz zxa zsg za0 za1 za2 za3 za4 zfr zcd zgo ztd ztv zcl zca zwa zpt zpf)) := by
  refine Mg.start (lv := [(0, .ref (oA Z 2)), (1, .ref (hA Z 0 0))]) (by decide) rfl (Nat.le_of_ble_eq_true rfl) rfl ?_
  intro p e s m below meth c F hr hlk C hP ls hl
  have hS : va_S (AX Z) s.heap s.heap [] := va_S.rf
  unfold fX5_undoes at hE
  refine lv_aload_n F.1 F.2.1 dX5_undoes_0 rfl (lv_at hl 0 rfl) ?_
  refine gX5_26 F C hP dX5_undoes_1 ?_
  refine lv_if_le (tgt := 52) F.1 F.2.1 dX5_undoes_4 (by decide) (fun hc => ?_) (fun hc => ?_)
  · have hE := ifp hE hc
    have w0 := Option.some.inj hE
    obtain ⟨g0, w1⟩ := Prod.mk.inj w0
    obtain ⟨g1, w2⟩ := Prod.mk.inj w1
    subst g0 g1 w2
    exact ret_v F hr hlk hP hS dX5_undoes_52
  · have hE := ifn hE hc
    refine lv_aload_n F.1 F.2.1 dX5_undoes_7 rfl (lv_at hl 0 rfl) ?_
    refine lv_aload_n F.1 F.2.1 dX5_undoes_8 rfl (lv_at hl 0 rfl) ?_
    refine gX5_18 F C hP dX5_undoes_9 ?_
    refine lv_if_ne (tgt := 20) F.1 F.2.1 dX5_undoes_12 (by decide) (fun hc => ?_) (fun hc => ?_)
    · have hE := ifn hE hc
      refine lv_aload_n F.1 F.2.1 dX5_undoes_20 rfl (lv_at hl 0 rfl) ?_
      refine gX5_18 F C hP dX5_undoes_21 ?_
      refine lv_iconst (v := 1) F.1 F.2.1 dX5_undoes_24 (by decide) ?_
      refine lv_isub F.1 F.2.1 dX5_undoes_25 ?_
      exact qX5_undoes_26 F hr hlk C zpn zps HS (zpn - 1) hE _ _ hP hS ls (lv_sub hl [0, 1] rfl)
    · have hE := ifp hE hc
      refine lv_bipush (v := 8) F.1 F.2.1 dX5_undoes_15 (by decide) ?_
      refine lv_goto (tgt := 26) F.1 F.2.1 dX5_undoes_17 (by decide) ?_
      exact qX5_undoes_26 F hr hlk C zpn zps HS 8 hE _ _ hP hS ls (lv_sub hl [0, 1] rfl)
set_option maxRecDepth 100000 in
set_option maxHeartbeats 4000000 in
theorem kX11_undo {l : Launch} {Z : ZC} {HS : Nat → Nat → Nat → Int32} {zkb : Int32} {zdr : Int32} {zky : Nat → Int32} {zpn : Int32} {zps : Int32} {ztz : Int32} {ztn : Nat → Int64} {zxz : Int32} {zxa : Int32} {zsg : Nat → Int32} {za0 : Int32} {za1 : Int32} {za2 : Int32} {za3 : Int32} {za4 : Int32} {zfr : Nat → Int32} {zcd : Int32} {zgo : Nat → Int32} {ztd : Int32} {ztv : Int32} {zcl : Nat → Int32} {zca : Nat → Int32} {zwa : Nat → Int32} {zpt : Nat → Int32} {zpf : Nat → Int32} {r' : Int32} {zpn' : Int32} {zps' : Int32} {HS' : Nat → Nat → Nat → Int32} (hE : fX11_undo zpn zps HS = some (r', zpn', zps', HS')) : Mg l yX11_undo cX11_undo 1 (some .int) (rmk 4 89) (KX Z) (AX Z) [.ref (oA Z 0)] (PX Z HS zkb zdr zky zpn zps ztz ztn zxz zxa zsg za0 za1 za2 za3 za4 zfr zcd zgo ztd ztv zcl zca zwa zpt zpf) (Qi (KX Z) (AX Z) (PX Z HS' zkb zdr zky zpn' zps' ztz ztn zxz zxa zsg za0 za1 za2 za3 za4 zfr zcd zgo ztd ztv zcl zca zwa zpt zpf) r') := by
  refine Mg.start (lv := [(0, .ref (oA Z 0))]) (by decide) rfl (Nat.le_of_ble_eq_true rfl) rfl ?_
  intro p e s m below meth c F hr hlk C hP ls hl
  have hS : va_S (AX Z) s.heap s.heap [] := va_S.rf
  unfold fX11_undo at hE
  refine lv_aload_n F.1 F.2.1 dX11_undo_0 rfl (lv_at hl 0 rfl) ?_
  refine gX11_26 F C hP dX11_undo_1 ?_
  refine gX11_314 F C hP dX11_undo_4 ?_
  refine lv_if_ne (tgt := 12) F.1 F.2.1 dX11_undo_7 (by decide) (fun hc => ?_) (fun hc => ?_)
  · have hE := ifn hE hc
    refine lv_aload_n F.1 F.2.1 dX11_undo_12 rfl (lv_at hl 0 rfl) ?_
    refine gX11_26 F C hP dX11_undo_13 ?_
    refine lv_aload_n F.1 F.2.1 dX11_undo_16 rfl (lv_at hl 0 rfl) ?_
    refine gX11_10 F C hP dX11_undo_17 ?_
    obtain ⟨zpn_700, zps_700, HS_700, hc, hE⟩ := bnd3_some hE
    refine aft_v (run_N (rest := []) F (kX5_undoes hc) (okX Z) C hS (C.2.2 _ _ mlX11_315 rfl) lkX11_315 ⟨Nat.le_of_ble_eq_true rfl, Nat.le_of_ble_eq_true rfl⟩ (rvo2 C hP) hP rfl hl.1 rfl (lv_room (Nat.le_of_ble_eq_true rfl)) dX11_undo_20 ⟨Nat.zero_le _, Nat.zero_le _⟩) hS (fun H locs hP hS => ?_)
    refine lv_aload_n F.1 F.2.1 dX11_undo_23 rfl (lv_at hl 0 rfl) ?_
    refine gX11_26 F C hP dX11_undo_24 ?_
    refine gX11_314 F C hP dX11_undo_27 ?_
    have w0 := Option.some.inj hE
    obtain ⟨g0, w1⟩ := Prod.mk.inj w0
    obtain ⟨g1, w2⟩ := Prod.mk.inj w1
    obtain ⟨g2, w3⟩ := Prod.mk.inj w2
    subst g0 g1 g2 w3
    exact ret_i F hr hlk hP hS dX11_undo_30
  · have hE := ifp hE hc
    refine lv_iconst (v := (-1)) F.1 F.2.1 dX11_undo_10 (by decide) ?_
    have w0 := Option.some.inj hE
    obtain ⟨g0, w1⟩ := Prod.mk.inj w0
    obtain ⟨g1, w2⟩ := Prod.mk.inj w1
    obtain ⟨g2, w3⟩ := Prod.mk.inj w2
    subst g0 g1 g2 w3
    exact ret_i F hr hlk hP hS dX11_undo_11
set_option maxRecDepth 100000 in
set_option maxHeartbeats 4000000 in
theorem kX11_draws {l : Launch} {Z : ZC} {HS : Nat → Nat → Nat → Int32} {zkb : Int32} {zdr : Int32} {zky : Nat → Int32} {zpn : Int32} {zps : Int32} {ztz : Int32} {ztn : Nat → Int64} {zxz : Int32} {zxa : Int32} {zsg : Nat → Int32} {za0 : Int32} {za1 : Int32} {za2 : Int32} {za3 : Int32} {za4 : Int32} {zfr : Nat → Int32} {zcd : Int32} {zgo : Nat → Int32} {ztd : Int32} {ztv : Int32} {zcl : Nat → Int32} {zca : Nat → Int32} {zwa : Nat → Int32} {zpt : Nat → Int32} {zpf : Nat → Int32} {p1 : Int32} {r' : Int32} {zdr' : Int32} (hE : fX11_draws zdr p1 = some (r', zdr')) : Mg l yX11_draws cX11_draws 2 (some .int) (rmk 0 0) (KX Z) (AX Z) [.ref (oA Z 0), .int p1] (PX Z HS zkb zdr zky zpn zps ztz ztn zxz zxa zsg za0 za1 za2 za3 za4 zfr zcd zgo ztd ztv zcl zca zwa zpt zpf) (Qi (KX Z) (AX Z) (PX Z HS zkb zdr' zky zpn zps ztz ztn zxz zxa zsg za0 za1 za2 za3 za4 zfr zcd zgo ztd ztv zcl zca zwa zpt zpf) r') := by
  refine Mg.start (lv := [(0, .ref (oA Z 0)), (1, .int p1)]) (by decide) rfl (Nat.le_of_ble_eq_true rfl) rfl ?_
  intro p e s m below meth c F hr hlk C hP ls hl
  have hS : va_S (AX Z) s.heap s.heap [] := va_S.rf
  unfold fX11_draws at hE
  refine lv_aload_n F.1 F.2.1 dX11_draws_0 rfl (lv_at hl 0 rfl) ?_
  refine lv_aload_n F.1 F.2.1 dX11_draws_1 rfl (lv_at hl 0 rfl) ?_
  refine gX11_318 F C hP dX11_draws_2 ?_
  refine lv_ldcw (v := 1103515245) F.1 F.2.1 F.2.2.2.1 (F.2.2.2.2 _ (bw_t 829 (by decide +kernel) rfl)) dX11_draws_5 ?_
  refine lv_imul F.1 F.2.1 dX11_draws_8 ?_
  refine lv_sipush (v := 12345) F.1 F.2.1 dX11_draws_9 (by decide) ?_
  refine lv_iadd F.1 F.2.1 dX11_draws_12 ?_
  obtain ⟨zdr_702, ezdr_702, hE⟩ := lt_some hE
  refine pX11_318 F C hP hS ezdr_702.symm dX11_draws_13 (fun H locs hP hS => ?_)
  refine lv_iload_n F.1 F.2.1 dX11_draws_16 rfl (lv_at hl 1 rfl) ?_
  refine lv_if_le (tgt := 32) F.1 F.2.1 dX11_draws_17 (by decide) (fun hc => ?_) (fun hc => ?_)
  · have hE := ifp hE hc
    refine lv_iconst (v := 0) F.1 F.2.1 dX11_draws_32 (by decide) ?_
    have w0 := Option.some.inj hE
    obtain ⟨g0, w1⟩ := Prod.mk.inj w0
    subst g0 w1
    exact ret_i F hr hlk hP hS dX11_draws_33
  · have hE := ifn hE hc
    refine lv_aload_n F.1 F.2.1 dX11_draws_20 rfl (lv_at hl 0 rfl) ?_
    refine gX11_318 F C hP dX11_draws_21 ?_
    refine lv_bipush (v := 16) F.1 F.2.1 dX11_draws_24 (by decide) ?_
    refine rj_iushr F.1 F.2.1 dX11_draws_26 ?_
    refine lv_iload_n F.1 F.2.1 dX11_draws_27 rfl (lv_at hl 1 rfl) ?_
    obtain ⟨hi, hE⟩ := grd_some hE
    refine rj_irem F.1 F.2.1 dX11_draws_28 (nzb_ne hi) ?_
    refine lv_goto (tgt := 33) F.1 F.2.1 dX11_draws_29 (by decide) ?_
    have w0 := Option.some.inj hE
    obtain ⟨g0, w1⟩ := Prod.mk.inj w0
    subst g0 w1
    exact ret_i F hr hlk hP hS dX11_draws_33
set_option maxRecDepth 100000 in
set_option maxHeartbeats 4000000 in
theorem kX11_drawsTo {l : Launch} {Z : ZC} {HS : Nat → Nat → Nat → Int32} {zkb : Int32} {zdr : Int32} {zky : Nat → Int32} {zpn : Int32} {zps : Int32} {ztz : Int32} {ztn : Nat → Int64} {zxz : Int32} {zxa : Int32} {zsg : Nat → Int32} {za0 : Int32} {za1 : Int32} {za2 : Int32} {za3 : Int32} {za4 : Int32} {zfr : Nat → Int32} {zcd : Int32} {zgo : Nat → Int32} {ztd : Int32} {ztv : Int32} {zcl : Nat → Int32} {zca : Nat → Int32} {zwa : Nat → Int32} {zpt : Nat → Int32} {zpf : Nat → Int32} {r' : Int32} {zdr' : Int32} (hE : fX11_drawsTo zdr = some (r', zdr')) : Mg l yX11_drawsTo cX11_drawsTo 2 (some .int) (rmk 1 21) (KX Z) (AX Z) [.ref (oA Z 0)] (PX Z HS zkb zdr zky zpn zps ztz ztn zxz zxa zsg za0 za1 za2 za3 za4 zfr zcd zgo ztd ztv zcl zca zwa zpt zpf) (Qi (KX Z) (AX Z) (PX Z HS zkb zdr' zky zpn zps ztz ztn zxz zxa zsg za0 za1 za2 za3 za4 zfr zcd zgo ztd ztv zcl zca zwa zpt zpf) r') := by
  refine Mg.start (lv := [(0, .ref (oA Z 0))]) (by decide) rfl (Nat.le_of_ble_eq_true rfl) rfl ?_
  intro p e s m below meth c F hr hlk C hP ls hl
  have hS : va_S (AX Z) s.heap s.heap [] := va_S.rf
  unfold fX11_drawsTo at hE
  refine lv_aload_n F.1 F.2.1 dX11_drawsTo_0 rfl (lv_at hl 0 rfl) ?_
  refine lv_bipush (v := 25) F.1 F.2.1 dX11_drawsTo_1 (by decide) ?_
  obtain ⟨r704, zdr_704, hc, hE⟩ := bnd2_some hE
  refine aft_i (run_V (rest := []) F (kX11_draws hc) (okX Z) C hS lkX11_324 ⟨Nat.le_of_ble_eq_true rfl, Nat.le_of_ble_eq_true rfl⟩ (rvo0 C hP) hP rfl hl.1 rfl (lv_room (Nat.le_of_ble_eq_true rfl)) dX11_drawsTo_3 ⟨Nat.zero_le _, Nat.zero_le _⟩) hS (fun H locs hP hS => ?_)
  refine lv_istore_n (lv' := [(1, .int r704), (0, .ref (oA Z 0))]) F.1 F.2.1 dX11_drawsTo_6 rfl hl (by decide) rfl (fun ls hl => ?_)
  refine lv_iload_n F.1 F.2.1 dX11_drawsTo_7 rfl (lv_at hl 0 rfl) ?_
  refine lv_bipush (v := 24) F.1 F.2.1 dX11_drawsTo_8 (by decide) ?_
  refine lv_icmp_ne (tgt := 17) F.1 F.2.1 dX11_drawsTo_10 (by decide) (fun hc => ?_) (fun hc => ?_)
  · have hE := ifn hE hc
    refine lv_iload_n F.1 F.2.1 dX11_drawsTo_17 rfl (lv_at hl 0 rfl) ?_
    have w0 := Option.some.inj hE
    obtain ⟨g0, w1⟩ := Prod.mk.inj w0
    subst g0 w1
    exact ret_i F hr hlk hP hS dX11_drawsTo_18
  · have hE := ifp hE hc
    refine lv_iconst (v := (-1)) F.1 F.2.1 dX11_drawsTo_13 (by decide) ?_
    refine lv_goto (tgt := 18) F.1 F.2.1 dX11_drawsTo_14 (by decide) ?_
    have w0 := Option.some.inj hE
    obtain ⟨g0, w1⟩ := Prod.mk.inj w0
    subst g0 w1
    exact ret_i F hr hlk hP hS dX11_drawsTo_18
set_option maxRecDepth 100000 in
set_option maxHeartbeats 4000000 in
theorem kX11_drawsAct {l : Launch} {Z : ZC} {HS : Nat → Nat → Nat → Int32} {zkb : Int32} {zdr : Int32} {zky : Nat → Int32} {zpn : Int32} {zps : Int32} {ztz : Int32} {ztn : Nat → Int64} {zxz : Int32} {zxa : Int32} {zsg : Nat → Int32} {za0 : Int32} {za1 : Int32} {za2 : Int32} {za3 : Int32} {za4 : Int32} {zfr : Nat → Int32} {zcd : Int32} {zgo : Nat → Int32} {ztd : Int32} {ztv : Int32} {zcl : Nat → Int32} {zca : Nat → Int32} {zwa : Nat → Int32} {zpt : Nat → Int32} {zpf : Nat → Int32} {zdr' : Int32} {za0' : Int32} {za1' : Int32} {za2' : Int32} {za3' : Int32} {za4' : Int32} (hE : fX11_drawsAct zdr za0 za1 za2 za3 za4 = some (zdr', za0', za1', za2', za3', za4')) : Mg l yX11_drawsAct cX11_drawsAct 3 none (rmk 2 42) (KX Z) (AX Z) [.ref (oA Z 0)] (PX Z HS zkb zdr zky zpn zps ztz ztn zxz zxa zsg za0 za1 za2 za3 za4 zfr zcd zgo ztd ztv zcl zca zwa zpt zpf) (Qv (KX Z) (AX Z) (PX Z HS zkb zdr' zky zpn zps ztz ztn zxz zxa zsg za0' za1' za2' za3' za4' zfr zcd zgo ztd ztv zcl zca zwa zpt zpf)) := by
  refine Mg.start (lv := [(0, .ref (oA Z 0))]) (by decide) rfl (Nat.le_of_ble_eq_true rfl) rfl ?_
  intro p e s m below meth c F hr hlk C hP ls hl
  have hS : va_S (AX Z) s.heap s.heap [] := va_S.rf
  unfold fX11_drawsAct at hE
  refine lv_aload_n F.1 F.2.1 dX11_drawsAct_0 rfl (lv_at hl 0 rfl) ?_
  refine lv_iconst (v := 4) F.1 F.2.1 dX11_drawsAct_1 (by decide) ?_
  obtain ⟨r717, zdr_717, hc, hE⟩ := bnd2_some hE
  refine aft_i (run_V (rest := []) F (kX11_draws hc) (okX Z) C hS lkX11_324 ⟨Nat.le_of_ble_eq_true rfl, Nat.le_of_ble_eq_true rfl⟩ (rvo0 C hP) hP rfl hl.1 rfl (lv_room (Nat.le_of_ble_eq_true rfl)) dX11_drawsAct_2 ⟨Nat.zero_le _, Nat.zero_le _⟩) hS (fun H locs hP hS => ?_)
  by_cases hc0 : r717 = 0
  · have hE := ifp hE hc0
    refine lv_lookup (tgt := 32) (off := 27) F.1 F.2.1 dX11_drawsAct_5 (by decide) (by rw [hc0]; rfl) (by decide) ?_
    refine lv_aload_n F.1 F.2.1 dX11_drawsAct_32 rfl (lv_at hl 0 rfl) ?_
    refine lv_iconst (v := 5) F.1 F.2.1 dX11_drawsAct_33 (by decide) ?_
    obtain ⟨r718, zdr_718, hc, hE⟩ := bnd2_some hE
    refine aft_i (run_V (rest := []) F (kX11_draws hc) (okX Z) C hS lkX11_324 ⟨Nat.le_of_ble_eq_true rfl, Nat.le_of_ble_eq_true rfl⟩ (rvo0 C hP) hP rfl hl.1 rfl (lv_room (Nat.le_of_ble_eq_true rfl)) dX11_drawsAct_34 ⟨Nat.zero_le _, Nat.zero_le _⟩) hS (fun H locs hP hS => ?_)
    refine lv_istore_n (lv' := [(1, .int r718), (0, .ref (oA Z 0))]) F.1 F.2.1 dX11_drawsAct_37 rfl hl (by decide) rfl (fun ls hl => ?_)
    refine lv_aload_n F.1 F.2.1 dX11_drawsAct_38 rfl (lv_at hl 1 rfl) ?_
    refine lv_bipush (v := 8) F.1 F.2.1 dX11_drawsAct_39 (by decide) ?_
    obtain ⟨r719, zdr_719, hc, hE⟩ := bnd2_some hE
    refine aft_i (run_V (rest := []) F (kX11_draws hc) (okX Z) C hS lkX11_324 ⟨Nat.le_of_ble_eq_true rfl, Nat.le_of_ble_eq_true rfl⟩ (rvo0 C hP) hP rfl hl.1 rfl (lv_room (Nat.le_of_ble_eq_true rfl)) dX11_drawsAct_41 ⟨Nat.zero_le _, Nat.zero_le _⟩) hS (fun H locs hP hS => ?_)
    refine lv_istore_n (lv' := [(2, .int r719), (1, .int r718), (0, .ref (oA Z 0))]) F.1 F.2.1 dX11_drawsAct_44 rfl hl (by decide) rfl (fun ls hl => ?_)
    refine lv_aload_n F.1 F.2.1 dX11_drawsAct_45 rfl (lv_at hl 2 rfl) ?_
    refine gX11_47 F C hP dX11_drawsAct_46 ?_
    refine lv_bipush (v := 110) F.1 F.2.1 dX11_drawsAct_49 (by decide) ?_
    refine lv_iload_n F.1 F.2.1 dX11_drawsAct_51 rfl (lv_at hl 1 rfl) ?_
    refine lv_iconst (v := 1) F.1 F.2.1 dX11_drawsAct_52 (by decide) ?_
    refine lv_iload_n F.1 F.2.1 dX11_drawsAct_53 rfl (lv_at hl 0 rfl) ?_
    refine lv_aload_n F.1 F.2.1 dX11_drawsAct_54 rfl (lv_at hl 2 rfl) ?_
    refine lv_bipush (v := 6) F.1 F.2.1 dX11_drawsAct_55 (by decide) ?_
    obtain ⟨r720, zdr_720, hc, hE⟩ := bnd2_some hE
    refine aft_i (run_V (rest := [.int r719, .int 1, .int r718, .int 110, .ref (oA Z 8)]) F (kX11_draws hc) (okX Z) C hS lkX11_324 ⟨Nat.le_of_ble_eq_true rfl, Nat.le_of_ble_eq_true rfl⟩ (rvo0 C hP) hP rfl hl.1 rfl (lv_room (Nat.le_of_ble_eq_true rfl)) dX11_drawsAct_57 ⟨Nat.zero_le _, Nat.zero_le _⟩) hS (fun H locs hP hS => ?_)
    obtain ⟨za0_721, za1_721, za2_721, za3_721, za4_721, hc, hE⟩ := bnd5_some hE
    refine aft_v (run_N (rest := []) F (kX0_becomes hc) (okX Z) C hS (C.2.2 _ _ mlX11_99 rfl) lkX11_99 ⟨Nat.le_of_ble_eq_true rfl, Nat.le_of_ble_eq_true rfl⟩ (rvo8 C hP) hP rfl hl.1 rfl (lv_room (Nat.le_of_ble_eq_true rfl)) dX11_drawsAct_60 ⟨Nat.zero_le _, Nat.zero_le _⟩) hS (fun H locs hP hS => ?_)
    refine lv_goto (tgt := 124) F.1 F.2.1 dX11_drawsAct_63 (by decide) ?_
    have w0 := Option.some.inj hE
    obtain ⟨g0, w1⟩ := Prod.mk.inj w0
    obtain ⟨g1, w2⟩ := Prod.mk.inj w1
    obtain ⟨g2, w3⟩ := Prod.mk.inj w2
    obtain ⟨g3, w4⟩ := Prod.mk.inj w3
    obtain ⟨g4, w5⟩ := Prod.mk.inj w4
    subst g0 g1 g2 g3 g4 w5
    exact ret_v F hr hlk hP hS dX11_drawsAct_124
  have hE := ifn hE hc0
  by_cases hc1 : r717 = 3
  · have hE := ifp hE hc1
    refine lv_lookup (tgt := 66) (off := 61) F.1 F.2.1 dX11_drawsAct_5 (by decide) (by rw [hc1]; rfl) (by decide) ?_
    refine lv_aload_n F.1 F.2.1 dX11_drawsAct_66 rfl (lv_at hl 0 rfl) ?_
    refine lv_bipush (v := 6) F.1 F.2.1 dX11_drawsAct_67 (by decide) ?_
    obtain ⟨r722, zdr_722, hc, hE⟩ := bnd2_some hE
    refine aft_i (run_V (rest := []) F (kX11_draws hc) (okX Z) C hS lkX11_324 ⟨Nat.le_of_ble_eq_true rfl, Nat.le_of_ble_eq_true rfl⟩ (rvo0 C hP) hP rfl hl.1 rfl (lv_room (Nat.le_of_ble_eq_true rfl)) dX11_drawsAct_69 ⟨Nat.zero_le _, Nat.zero_le _⟩) hS (fun H locs hP hS => ?_)
    refine lv_istore_n (lv' := [(1, .int r722), (0, .ref (oA Z 0))]) F.1 F.2.1 dX11_drawsAct_72 rfl hl (by decide) rfl (fun ls hl => ?_)
    refine lv_aload_n F.1 F.2.1 dX11_drawsAct_73 rfl (lv_at hl 1 rfl) ?_
    refine gX11_47 F C hP dX11_drawsAct_74 ?_
    refine lv_bipush (v := 114) F.1 F.2.1 dX11_drawsAct_77 (by decide) ?_
    refine lv_iload_n F.1 F.2.1 dX11_drawsAct_79 rfl (lv_at hl 0 rfl) ?_
    refine lv_aload_n F.1 F.2.1 dX11_drawsAct_80 rfl (lv_at hl 1 rfl) ?_
    obtain ⟨r723, zdr_723, hc, hE⟩ := bnd2_some hE
    refine aft_i (run_V (rest := [.int r722, .int 114, .ref (oA Z 8)]) F (kX11_drawsTo hc) (okX Z) C hS lkX11_327 ⟨Nat.le_of_ble_eq_true rfl, Nat.le_of_ble_eq_true rfl⟩ (rvo0 C hP) hP rfl hl.1 rfl (lv_room (Nat.le_of_ble_eq_true rfl)) dX11_drawsAct_81 ⟨Nat.zero_le _, Nat.zero_le _⟩) hS (fun H locs hP hS => ?_)
    refine lv_iconst (v := 0) F.1 F.2.1 dX11_drawsAct_84 (by decide) ?_
    refine lv_iconst (v := 0) F.1 F.2.1 dX11_drawsAct_85 (by decide) ?_
    obtain ⟨za0_724, za1_724, za2_724, za3_724, za4_724, hc, hE⟩ := bnd5_some hE
    refine aft_v (run_N (rest := []) F (kX0_becomes hc) (okX Z) C hS (C.2.2 _ _ mlX11_99 rfl) lkX11_99 ⟨Nat.le_of_ble_eq_true rfl, Nat.le_of_ble_eq_true rfl⟩ (rvo8 C hP) hP rfl hl.1 rfl (lv_room (Nat.le_of_ble_eq_true rfl)) dX11_drawsAct_86 ⟨Nat.zero_le _, Nat.zero_le _⟩) hS (fun H locs hP hS => ?_)
    refine lv_goto (tgt := 124) F.1 F.2.1 dX11_drawsAct_89 (by decide) ?_
    have w0 := Option.some.inj hE
    obtain ⟨g0, w1⟩ := Prod.mk.inj w0
    obtain ⟨g1, w2⟩ := Prod.mk.inj w1
    obtain ⟨g2, w3⟩ := Prod.mk.inj w2
    obtain ⟨g3, w4⟩ := Prod.mk.inj w3
    obtain ⟨g4, w5⟩ := Prod.mk.inj w4
    subst g0 g1 g2 g3 g4 w5
    exact ret_v F hr hlk hP hS dX11_drawsAct_124
  have hE := ifn hE hc1
  refine lv_lookup (tgt := 92) (off := 87) F.1 F.2.1 dX11_drawsAct_5 (by decide) (by have g0 : ¬ (0 : Int) = (r717).toInt := fun e => sw_ne hc0 e.symm; have g1 : ¬ (3 : Int) = (r717).toInt := fun e => sw_ne hc1 e.symm; simp [Op.lookupswitch.offset, g0, g1]) (by decide) ?_
  refine lv_aload_n F.1 F.2.1 dX11_drawsAct_92 rfl (lv_at hl 0 rfl) ?_
  refine lv_bipush (v := 24) F.1 F.2.1 dX11_drawsAct_93 (by decide) ?_
  obtain ⟨r725, zdr_725, hc, hE⟩ := bnd2_some hE
  refine aft_i (run_V (rest := []) F (kX11_draws hc) (okX Z) C hS lkX11_324 ⟨Nat.le_of_ble_eq_true rfl, Nat.le_of_ble_eq_true rfl⟩ (rvo0 C hP) hP rfl hl.1 rfl (lv_room (Nat.le_of_ble_eq_true rfl)) dX11_drawsAct_95 ⟨Nat.zero_le _, Nat.zero_le _⟩) hS (fun H locs hP hS => ?_)
  refine lv_istore_n (lv' := [(1, .int r725), (0, .ref (oA Z 0))]) F.1 F.2.1 dX11_drawsAct_98 rfl hl (by decide) rfl (fun ls hl => ?_)
  refine lv_aload_n F.1 F.2.1 dX11_drawsAct_99 rfl (lv_at hl 1 rfl) ?_
  refine lv_iconst (v := 4) F.1 F.2.1 dX11_drawsAct_100 (by decide) ?_
  obtain ⟨r726, zdr_726, hc, hE⟩ := bnd2_some hE
  refine aft_i (run_V (rest := []) F (kX11_draws hc) (okX Z) C hS lkX11_324 ⟨Nat.le_of_ble_eq_true rfl, Nat.le_of_ble_eq_true rfl⟩ (rvo0 C hP) hP rfl hl.1 rfl (lv_room (Nat.le_of_ble_eq_true rfl)) dX11_drawsAct_101 ⟨Nat.zero_le _, Nat.zero_le _⟩) hS (fun H locs hP hS => ?_)
  refine lv_istore_n (lv' := [(2, .int r726), (1, .int r725), (0, .ref (oA Z 0))]) F.1 F.2.1 dX11_drawsAct_104 rfl hl (by decide) rfl (fun ls hl => ?_)
  refine lv_aload_n F.1 F.2.1 dX11_drawsAct_105 rfl (lv_at hl 2 rfl) ?_
  refine gX11_47 F C hP dX11_drawsAct_106 ?_
  refine lv_bipush (v := 115) F.1 F.2.1 dX11_drawsAct_109 (by decide) ?_
  refine lv_iload_n F.1 F.2.1 dX11_drawsAct_111 rfl (lv_at hl 1 rfl) ?_
  refine lv_iload_n F.1 F.2.1 dX11_drawsAct_112 rfl (lv_at hl 0 rfl) ?_
  refine lv_aload_n F.1 F.2.1 dX11_drawsAct_113 rfl (lv_at hl 2 rfl) ?_
  obtain ⟨r727, zdr_727, hc, hE⟩ := bnd2_some hE
  refine aft_i (run_V (rest := [.int r726, .int r725, .int 115, .ref (oA Z 8)]) F (kX11_drawsTo hc) (okX Z) C hS lkX11_327 ⟨Nat.le_of_ble_eq_true rfl, Nat.le_of_ble_eq_true rfl⟩ (rvo0 C hP) hP rfl hl.1 rfl (lv_room (Nat.le_of_ble_eq_true rfl)) dX11_drawsAct_114 ⟨Nat.zero_le _, Nat.zero_le _⟩) hS (fun H locs hP hS => ?_)
  refine lv_iconst (v := 0) F.1 F.2.1 dX11_drawsAct_117 (by decide) ?_
  obtain ⟨za0_728, za1_728, za2_728, za3_728, za4_728, hc, hE⟩ := bnd5_some hE
  refine aft_v (run_N (rest := []) F (kX0_becomes hc) (okX Z) C hS (C.2.2 _ _ mlX11_99 rfl) lkX11_99 ⟨Nat.le_of_ble_eq_true rfl, Nat.le_of_ble_eq_true rfl⟩ (rvo8 C hP) hP rfl hl.1 rfl (lv_room (Nat.le_of_ble_eq_true rfl)) dX11_drawsAct_118 ⟨Nat.zero_le _, Nat.zero_le _⟩) hS (fun H locs hP hS => ?_)
  refine lv_goto (tgt := 124) F.1 F.2.1 dX11_drawsAct_121 (by decide) ?_
  have w0 := Option.some.inj hE
  obtain ⟨g0, w1⟩ := Prod.mk.inj w0
  obtain ⟨g1, w2⟩ := Prod.mk.inj w1
  obtain ⟨g2, w3⟩ := Prod.mk.inj w2
  obtain ⟨g3, w4⟩ := Prod.mk.inj w3
  obtain ⟨g4, w5⟩ := Prod.mk.inj w4
  subst g0 g1 g2 g3 g4 w5
  exact ret_v F hr hlk hP hS dX11_drawsAct_124
set_option maxRecDepth 100000 in
set_option maxHeartbeats 4000000 in
theorem qX11_years_62 {p : Program} {l : Launch} {e : Env} {s : State} {m : MethodId} {args : Array Value} {below : List Frame} {meth : Method} {c : Code} {Z : ZC} {zkb : Int32} {zky : Nat → Int32} {zpn : Int32} {zps : Int32} {zxz : Int32} {zxa : Int32} {zsg : Nat → Int32} {zfr : Nat → Int32} {N : Nat} {p1 : Int32} {p2 : Int32} {r' : Int32} {zdr' : Int32} {ztz' : Int32} {ztn' : Nat → Int64} {za0' : Int32} {za1' : Int32} {za2' : Int32} {za3' : Int32} {za4' : Int32} {zcd' : Int32} {zgo' : Nat → Int32} {ztd' : Int32} {ztv' : Int32} {zcl' : Nat → Int32} {zca' : Nat → Int32} {zwa' : Nat → Int32} {zpt' : Nat → Int32} {zpf' : Nat → Int32} {HS' : Nat → Nat → Nat → Int32} (F : CallFix p m c cX11_years 4 s args bigW RX11) (hr : meth.sig.returnType = (some .int)) (hlk : meth.locks = false) (C : KX Z s) : ∀ (zdr : Int32) (ztz : Int32) (ztn : Nat → Int64) (za0 : Int32) (za1 : Int32) (za2 : Int32) (za3 : Int32) (za4 : Int32) (zcd : Int32) (zgo : Nat → Int32) (ztd : Int32) (ztv : Int32) (zcl : Nat → Int32) (zca : Nat → Int32) (zwa : Nat → Int32) (zpt : Nat → Int32) (zpf : Nat → Int32) (HS : Nat → Nat → Nat → Int32), fX11_years_62 N p1 p2 zdr ztz ztn za0 za1 za2 za3 za4 zcd zgo ztd ztv zcl zca zwa zpt zpf HS = some (r', zdr', ztz', ztn', za0', za1', za2', za3', za4', zcd', zgo', ztd', ztv', zcl', zca', zwa', zpt', zpf', HS') → ∀ (H : Heap) (locs : List Loc), PX Z HS zkb zdr zky zpn zps ztz ztn zxz zxa zsg za0 za1 za2 za3 za4 zfr zcd zgo ztd ztv zcl zca zwa zpt zpf H → va_S (AX Z) s.heap H locs → ∀ ls : Array Slot, lv_has ls 4 [(0, .ref (oA Z 0))] → W p l e (rmk 7 167) s m args below meth c H locs 0 0 (MQ below (Qi (KX Z) (AX Z) (PX Z HS' zkb zdr' zky zpn zps ztz' ztn' zxz zxa zsg za0' za1' za2' za3' za4' zfr zcd' zgo' ztd' ztv' zcl' zca' zwa' zpt' zpf') r') args s 0 0 (AX Z)) (F0 m 62 ls []) := by
  intro zdr ztz ztn za0 za1 za2 za3 za4 zcd zgo ztd ztv zcl zca zwa zpt zpf HS hE H locs hP hS ls hl
  unfold fX11_years_62 at hE
  refine lv_aload_n F.1 F.2.1 dX11_years_62 rfl (lv_at hl 0 rfl) ?_
  refine gX11_33 F C hP dX11_years_63 ?_
  refine lv_aload_n F.1 F.2.1 dX11_years_66 rfl (lv_at hl 0 rfl) ?_
  refine gX11_16 F C hP dX11_years_67 ?_
  refine gX11_125 F C hP (by decide) rfl dX11_years_70 ?_
  refine gX11_297 F C hP (by decide) rfl dX11_years_73 ?_
  refine lv_aload_n F.1 F.2.1 dX11_years_76 rfl (lv_at hl 0 rfl) ?_
  refine gX11_10 F C hP dX11_years_77 ?_
  refine gX11_125 F C hP (by decide) rfl dX11_years_80 ?_
  refine gX11_297 F C hP (by decide) rfl dX11_years_83 ?_
  refine lv_isub F.1 F.2.1 dX11_years_86 ?_
  refine lv_i2l (v := (((HS 1) 10 3) - ((HS 0) 10 3)).toInt64) F.1 F.2.1 dX11_years_87 rfl ?_
  refine lv_aload_n F.1 F.2.1 dX11_years_88 rfl (lv_at hl 0 rfl) ?_
  refine gX11_16 F C hP dX11_years_89 ?_
  refine gX11_149 F C hP (by decide) rfl dX11_years_92 ?_
  refine gX11_153 F C hP (by decide) rfl dX11_years_95 ?_
  refine lv_i2l (v := ((HS 1) 8 1).toInt64) F.1 F.2.1 dX11_years_98 rfl ?_
  obtain ⟨ztz_738, ztn_738, hc, hE⟩ := bnd2_some hE
  refine aft_v (run_N (rest := []) F (kX8_tells_ hc) (okX Z) C hS (C.2.2 _ _ mlX11_140 rfl) lkX11_140 ⟨Nat.le_of_ble_eq_true rfl, Nat.le_of_ble_eq_true rfl⟩ (rvo4 C hP) hP rfl hl.1 rfl (lv_room (Nat.le_of_ble_eq_true rfl)) dX11_years_99 ⟨Nat.zero_le _, Nat.zero_le _⟩) hS (fun H locs hP hS => ?_)
  refine lv_aload_n F.1 F.2.1 dX11_years_102 rfl (lv_at hl 0 rfl) ?_
  refine gX11_16 F C hP dX11_years_103 ?_
  refine gX11_208 F C hP (by decide) rfl dX11_years_106 ?_
  have w0 := Option.some.inj hE
  obtain ⟨g0, w1⟩ := Prod.mk.inj w0
  obtain ⟨g1, w2⟩ := Prod.mk.inj w1
  obtain ⟨g2, w3⟩ := Prod.mk.inj w2
  obtain ⟨g3, w4⟩ := Prod.mk.inj w3
  obtain ⟨g4, w5⟩ := Prod.mk.inj w4
  obtain ⟨g5, w6⟩ := Prod.mk.inj w5
  obtain ⟨g6, w7⟩ := Prod.mk.inj w6
  obtain ⟨g7, w8⟩ := Prod.mk.inj w7
  obtain ⟨g8, w9⟩ := Prod.mk.inj w8
  obtain ⟨g9, w10⟩ := Prod.mk.inj w9
  obtain ⟨g10, w11⟩ := Prod.mk.inj w10
  obtain ⟨g11, w12⟩ := Prod.mk.inj w11
  obtain ⟨g12, w13⟩ := Prod.mk.inj w12
  obtain ⟨g13, w14⟩ := Prod.mk.inj w13
  obtain ⟨g14, w15⟩ := Prod.mk.inj w14
  obtain ⟨g15, w16⟩ := Prod.mk.inj w15
  obtain ⟨g16, w17⟩ := Prod.mk.inj w16
  obtain ⟨g17, w18⟩ := Prod.mk.inj w17
  subst g0 g1 g2 g3 g4 g5 g6 g7 g8 g9 g10 g11 g12 g13 g14 g15 g16 g17 w18
  exact ret_i F hr hlk hP hS dX11_years_109
set_option maxRecDepth 100000 in
set_option maxHeartbeats 4000000 in
theorem qX11_years_31 {p : Program} {l : Launch} {e : Env} {s : State} {m : MethodId} {args : Array Value} {below : List Frame} {meth : Method} {c : Code} {Z : ZC} {zkb : Int32} {zky : Nat → Int32} {zpn : Int32} {zps : Int32} {zxz : Int32} {zxa : Int32} {zsg : Nat → Int32} {zfr : Nat → Int32} {N : Nat} {p1 : Int32} {p2 : Int32} {r' : Int32} {zdr' : Int32} {ztz' : Int32} {ztn' : Nat → Int64} {za0' : Int32} {za1' : Int32} {za2' : Int32} {za3' : Int32} {za4' : Int32} {zcd' : Int32} {zgo' : Nat → Int32} {ztd' : Int32} {ztv' : Int32} {zcl' : Nat → Int32} {zca' : Nat → Int32} {zwa' : Nat → Int32} {zpt' : Nat → Int32} {zpf' : Nat → Int32} {HS' : Nat → Nat → Nat → Int32} (F : CallFix p m c cX11_years 4 s args bigW RX11) (hr : meth.sig.returnType = (some .int)) (hlk : meth.locks = false) (C : KX Z s) : ∀ n : Nat, ∀ (zdr : Int32) (ztz : Int32) (ztn : Nat → Int64) (za0 : Int32) (za1 : Int32) (za2 : Int32) (za3 : Int32) (za4 : Int32) (zcd : Int32) (zgo : Nat → Int32) (ztd : Int32) (ztv : Int32) (zcl : Nat → Int32) (zca : Nat → Int32) (zwa : Nat → Int32) (zpt : Nat → Int32) (zpf : Nat → Int32) (HS : Nat → Nat → Nat → Int32) (x3 : Int32), fX11_years_31 N p1 p2 n zdr ztz ztn za0 za1 za2 za3 za4 zcd zgo ztd ztv zcl zca zwa zpt zpf HS x3 = some (r', zdr', ztz', ztn', za0', za1', za2', za3', za4', zcd', zgo', ztd', ztv', zcl', zca', zwa', zpt', zpf', HS') → ∀ (H : Heap) (locs : List Loc), PX Z HS zkb zdr zky zpn zps ztz ztn zxz zxa zsg za0 za1 za2 za3 za4 zfr zcd zgo ztd ztv zcl zca zwa zpt zpf H → va_S (AX Z) s.heap H locs → ∀ ls : Array Slot, lv_has ls 4 [(0, .ref (oA Z 0)), (2, .int p2), (3, .int x3)] → W p l e (rmk 7 167) s m args below meth c H locs 0 0 (MQ below (Qi (KX Z) (AX Z) (PX Z HS' zkb zdr' zky zpn zps ztz' ztn' zxz zxa zsg za0' za1' za2' za3' za4' zfr zcd' zgo' ztd' ztv' zcl' zca' zwa' zpt' zpf') r') args s 0 0 (AX Z)) (F0 m 31 ls []) := by
  intro n
  induction n with
  | zero => intro zdr ztz ztn za0 za1 za2 za3 za4 zcd zgo ztd ztv zcl zca zwa zpt zpf HS x3 hE; cases hE
  | succ n h31 =>
    intro zdr ztz ztn za0 za1 za2 za3 za4 zcd zgo ztd ztv zcl zca zwa zpt zpf HS x3 hE H locs hP hS ls hl
    have hE : fX11_years_31b N p1 p2 (fX11_years_31 N p1 p2 n) zdr ztz ztn za0 za1 za2 za3 za4 zcd zgo ztd ztv zcl zca zwa zpt zpf HS x3 = some (r', zdr', ztz', ztn', za0', za1', za2', za3', za4', zcd', zgo', ztd', ztv', zcl', zca', zwa', zpt', zpf', HS') := hE
    refine lv_iload_n F.1 F.2.1 dX11_years_31 rfl (lv_at hl 2 rfl) ?_
    refine lv_iload_n F.1 F.2.1 dX11_years_32 rfl (lv_at hl 1 rfl) ?_
    refine lv_icmp_ge (tgt := 62) F.1 F.2.1 dX11_years_33 (by decide) (fun hc => ?_) (fun hc => ?_)
    · have hE := ifp hE hc
      exact qX11_years_62 F hr hlk C zdr ztz ztn za0 za1 za2 za3 za4 zcd zgo ztd ztv zcl zca zwa zpt zpf HS hE _ _ hP hS ls (lv_sub hl [0] rfl)
    · have hE := ifn hE hc
      refine lv_aload_n F.1 F.2.1 dX11_years_36 rfl (lv_at hl 0 rfl) ?_
      obtain ⟨zdr_735, za0_735, za1_735, za2_735, za3_735, za4_735, hc, hE⟩ := bnd6_some hE
      refine aft_v (run_V (rest := []) F (kX11_drawsAct hc) (okX Z) C hS lkX11_321 ⟨Nat.le_of_ble_eq_true rfl, Nat.le_of_ble_eq_true rfl⟩ (rvo0 C hP) hP rfl hl.1 rfl (lv_room (Nat.le_of_ble_eq_true rfl)) dX11_years_37 ⟨Nat.zero_le _, Nat.zero_le _⟩) hS (fun H locs hP hS => ?_)
      refine lv_aload_n F.1 F.2.1 dX11_years_40 rfl (lv_at hl 0 rfl) ?_
      refine gX11_79 F C hP dX11_years_41 ?_
      refine lv_aload_n F.1 F.2.1 dX11_years_44 rfl (lv_at hl 0 rfl) ?_
      refine gX11_16 F C hP dX11_years_45 ?_
      refine lv_aload_n F.1 F.2.1 dX11_years_48 rfl (lv_at hl 0 rfl) ?_
      refine gX11_47 F C hP dX11_years_49 ?_
      obtain ⟨r736, zcd_736, zgo_736, ztd_736, ztv_736, zcl_736, zca_736, zwa_736, zpt_736, zpf_736, X_736, hc, hE⟩ := bnd11_some hE
      obtain ⟨HS_737, eHS_737, hE⟩ := lt_some hE
      refine aft_i (run_N (rest := []) F (kX1_does (by decide) rfl eHS_737.symm hc) (okX Z) C hS (C.2.2 _ _ mlX11_107 rfl) lkX11_107 ⟨Nat.le_of_ble_eq_true rfl, Nat.le_of_ble_eq_true rfl⟩ (rvo19 C hP) hP rfl hl.1 rfl (lv_room (Nat.le_of_ble_eq_true rfl)) dX11_years_52 ⟨Nat.zero_le _, Nat.zero_le _⟩) hS (fun H locs hP hS => ?_)
      refine lv_pop F.1 F.2.1 dX11_years_55 rfl ?_
      refine lv_iinc (v := x3 + 1) (lv' := [(3, .int (x3 + 1)), (0, .ref (oA Z 0)), (2, .int p2)]) F.1 F.2.1 dX11_years_56 hl (k := 2) rfl rfl (by decide) rfl (fun ls hl => ?_)
      refine lv_goto (tgt := 31) F.1 F.2.1 dX11_years_59 (by decide) ?_
      exact h31 zdr_735 ztz ztn za0_735 za1_735 za2_735 za3_735 za4_735 zcd_736 zgo_736 ztd_736 ztv_736 zcl_736 zca_736 zwa_736 zpt_736 zpf_736 HS_737 (x3 + 1) hE _ _ hP hS ls (lv_sub hl [1, 2, 0] rfl)
set_option maxRecDepth 100000 in
set_option maxHeartbeats 4000000 in
theorem kX11_years {l : Launch} {Z : ZC} {HS : Nat → Nat → Nat → Int32} {zkb : Int32} {zdr : Int32} {zky : Nat → Int32} {zpn : Int32} {zps : Int32} {ztz : Int32} {ztn : Nat → Int64} {zxz : Int32} {zxa : Int32} {zsg : Nat → Int32} {za0 : Int32} {za1 : Int32} {za2 : Int32} {za3 : Int32} {za4 : Int32} {zfr : Nat → Int32} {zcd : Int32} {zgo : Nat → Int32} {ztd : Int32} {ztv : Int32} {zcl : Nat → Int32} {zca : Nat → Int32} {zwa : Nat → Int32} {zpt : Nat → Int32} {zpf : Nat → Int32} {N : Nat} {p1 : Int32} {p2 : Int32} {r' : Int32} {zdr' : Int32} {ztz' : Int32} {ztn' : Nat → Int64} {za0' : Int32} {za1' : Int32} {za2' : Int32} {za3' : Int32} {za4' : Int32} {zcd' : Int32} {zgo' : Nat → Int32} {ztd' : Int32} {ztv' : Int32} {zcl' : Nat → Int32} {zca' : Nat → Int32} {zwa' : Nat → Int32} {zpt' : Nat → Int32} {zpf' : Nat → Int32} {HS' : Nat → Nat → Nat → Int32} (hE : fX11_years N zdr ztz ztn za0 za1 za2 za3 za4 zcd zgo ztd ztv zcl zca zwa zpt zpf HS p1 p2 = some (r', zdr', ztz', ztn', za0', za1', za2', za3', za4', zcd', zgo', ztd', ztv', zcl', zca', zwa', zpt', zpf', HS')) : Mg l yX11_years cX11_years 4 (some .int) (rmk 7 167) (KX Z) (AX Z) [.ref (oA Z 0), .int p1, .int p2] (PX Z HS zkb zdr zky zpn zps ztz ztn zxz zxa zsg za0 za1 za2 za3 za4 zfr zcd zgo ztd ztv zcl zca zwa zpt zpf) (Qi (KX Z) (AX Z) (PX Z HS' zkb zdr' zky zpn zps ztz' ztn' zxz zxa zsg za0' za1' za2' za3' za4' zfr zcd' zgo' ztd' ztv' zcl' zca' zwa' zpt' zpf') r') := by
  refine Mg.start (lv := [(0, .ref (oA Z 0)), (1, .int p1), (2, .int p2)]) (by decide) rfl (Nat.le_of_ble_eq_true rfl) rfl ?_
  intro p e s m below meth c F hr hlk C hP ls hl
  have hS : va_S (AX Z) s.heap s.heap [] := va_S.rf
  unfold fX11_years at hE
  refine lv_iload_n F.1 F.2.1 dX11_years_0 rfl (lv_at hl 2 rfl) ?_
  refine lv_iconst (v := 1) F.1 F.2.1 dX11_years_1 (by decide) ?_
  refine lv_icmp_lt (tgt := 11) F.1 F.2.1 dX11_years_2 (by decide) (fun hc => ?_) (fun hc => ?_)
  · have hE := ifp hE hc
    refine lv_iconst (v := (-1)) F.1 F.2.1 dX11_years_11 (by decide) ?_
    have w0 := Option.some.inj hE
    obtain ⟨g0, w1⟩ := Prod.mk.inj w0
    obtain ⟨g1, w2⟩ := Prod.mk.inj w1
    obtain ⟨g2, w3⟩ := Prod.mk.inj w2
    obtain ⟨g3, w4⟩ := Prod.mk.inj w3
    obtain ⟨g4, w5⟩ := Prod.mk.inj w4
    obtain ⟨g5, w6⟩ := Prod.mk.inj w5
    obtain ⟨g6, w7⟩ := Prod.mk.inj w6
    obtain ⟨g7, w8⟩ := Prod.mk.inj w7
    obtain ⟨g8, w9⟩ := Prod.mk.inj w8
    obtain ⟨g9, w10⟩ := Prod.mk.inj w9
    obtain ⟨g10, w11⟩ := Prod.mk.inj w10
    obtain ⟨g11, w12⟩ := Prod.mk.inj w11
    obtain ⟨g12, w13⟩ := Prod.mk.inj w12
    obtain ⟨g13, w14⟩ := Prod.mk.inj w13
    obtain ⟨g14, w15⟩ := Prod.mk.inj w14
    obtain ⟨g15, w16⟩ := Prod.mk.inj w15
    obtain ⟨g16, w17⟩ := Prod.mk.inj w16
    obtain ⟨g17, w18⟩ := Prod.mk.inj w17
    subst g0 g1 g2 g3 g4 g5 g6 g7 g8 g9 g10 g11 g12 g13 g14 g15 g16 g17 w18
    exact ret_i F hr hlk hP hS dX11_years_12
  · have hE := ifn hE hc
    refine lv_iload_n F.1 F.2.1 dX11_years_5 rfl (lv_at hl 2 rfl) ?_
    refine lv_bipush (v := 40) F.1 F.2.1 dX11_years_6 (by decide) ?_
    refine lv_icmp_le (tgt := 13) F.1 F.2.1 dX11_years_8 (by decide) (fun hc => ?_) (fun hc => ?_)
    · have hE := ifp hE hc
      refine lv_aload_n F.1 F.2.1 dX11_years_13 rfl (lv_at hl 0 rfl) ?_
      refine gX11_16 F C hP dX11_years_14 ?_
      refine lv_aload_n F.1 F.2.1 dX11_years_17 rfl (lv_at hl 0 rfl) ?_
      refine gX11_10 F C hP dX11_years_18 ?_
      obtain ⟨HS_734, eHS_734, hE⟩ := lt_some hE
      refine aft_v (run_N (rest := []) F (ccX3_copies (by decide) (by decide) (by omega) eHS_734.symm) (okX Z) C hS (C.2.2 _ _ mlX11_269 rfl) lkX11_269 ⟨Nat.le_of_ble_eq_true rfl, Nat.le_of_ble_eq_true rfl⟩ (rvh0 C hP (by decide)) hP rfl hl.1 rfl (lv_room (Nat.le_of_ble_eq_true rfl)) dX11_years_21 ⟨Nat.zero_le _, Nat.zero_le _⟩) hS (fun H locs hP hS => ?_)
      refine lv_aload_n F.1 F.2.1 dX11_years_24 rfl (lv_at hl 0 rfl) ?_
      refine lv_iload_n F.1 F.2.1 dX11_years_25 rfl (lv_at hl 1 rfl) ?_
      refine pX11_318 F C hP hS rfl dX11_years_26 (fun H locs hP hS => ?_)
      refine lv_iconst (v := 0) F.1 F.2.1 dX11_years_29 (by decide) ?_
      refine lv_istore_n (lv' := [(3, .int 0), (0, .ref (oA Z 0)), (1, .int p1), (2, .int p2)]) F.1 F.2.1 dX11_years_30 rfl hl (by decide) rfl (fun ls hl => ?_)
      exact qX11_years_31 F hr hlk C N p1 ztz ztn za0 za1 za2 za3 za4 zcd zgo ztd ztv zcl zca zwa zpt zpf HS_734 0 hE _ _ hP hS ls (lv_sub hl [1, 3, 0] rfl)
    · have hE := ifn hE hc
      refine lv_iconst (v := (-1)) F.1 F.2.1 dX11_years_11 (by decide) ?_
      have w0 := Option.some.inj hE
      obtain ⟨g0, w1⟩ := Prod.mk.inj w0
      obtain ⟨g1, w2⟩ := Prod.mk.inj w1
      obtain ⟨g2, w3⟩ := Prod.mk.inj w2
      obtain ⟨g3, w4⟩ := Prod.mk.inj w3
      obtain ⟨g4, w5⟩ := Prod.mk.inj w4
      obtain ⟨g5, w6⟩ := Prod.mk.inj w5
      obtain ⟨g6, w7⟩ := Prod.mk.inj w6
      obtain ⟨g7, w8⟩ := Prod.mk.inj w7
      obtain ⟨g8, w9⟩ := Prod.mk.inj w8
      obtain ⟨g9, w10⟩ := Prod.mk.inj w9
      obtain ⟨g10, w11⟩ := Prod.mk.inj w10
      obtain ⟨g11, w12⟩ := Prod.mk.inj w11
      obtain ⟨g12, w13⟩ := Prod.mk.inj w12
      obtain ⟨g13, w14⟩ := Prod.mk.inj w13
      obtain ⟨g14, w15⟩ := Prod.mk.inj w14
      obtain ⟨g15, w16⟩ := Prod.mk.inj w15
      obtain ⟨g16, w17⟩ := Prod.mk.inj w16
      obtain ⟨g17, w18⟩ := Prod.mk.inj w17
      subst g0 g1 g2 g3 g4 g5 g6 g7 g8 g9 g10 g11 g12 g13 g14 g15 g16 g17 w18
      exact ret_i F hr hlk hP hS dX11_years_12
set_option maxRecDepth 100000 in
set_option maxHeartbeats 4000000 in
theorem kX11_keep {l : Launch} {Z : ZC} {HS : Nat → Nat → Nat → Int32} {zkb : Int32} {zdr : Int32} {zky : Nat → Int32} {zpn : Int32} {zps : Int32} {ztz : Int32} {ztn : Nat → Int64} {zxz : Int32} {zxa : Int32} {zsg : Nat → Int32} {za0 : Int32} {za1 : Int32} {za2 : Int32} {za3 : Int32} {za4 : Int32} {zfr : Nat → Int32} {zcd : Int32} {zgo : Nat → Int32} {ztd : Int32} {ztv : Int32} {zcl : Nat → Int32} {zca : Nat → Int32} {zwa : Nat → Int32} {zpt : Nat → Int32} {zpf : Nat → Int32} {p1 : Int32} {r' : Int32} {zkb' : Int32} {HS' : Nat → Nat → Nat → Int32} (hE : fX11_keep zkb HS p1 = some (r', zkb', HS')) : Mg l yX11_keep cX11_keep 2 (some .boolean) (rmk 3 68) (KX Z) (AX Z) [.ref (oA Z 0), .int p1] (PX Z HS zkb zdr zky zpn zps ztz ztn zxz zxa zsg za0 za1 za2 za3 za4 zfr zcd zgo ztd ztv zcl zca zwa zpt zpf) (Qi (KX Z) (AX Z) (PX Z HS' zkb' zdr zky zpn zps ztz ztn zxz zxa zsg za0 za1 za2 za3 za4 zfr zcd zgo ztd ztv zcl zca zwa zpt zpf) r') := by
  refine Mg.start (lv := [(0, .ref (oA Z 0)), (1, .int p1)]) (by decide) rfl (Nat.le_of_ble_eq_true rfl) rfl ?_
  intro p e s m below meth c F hr hlk C hP ls hl
  have hS : va_S (AX Z) s.heap s.heap [] := va_S.rf
  unfold fX11_keep at hE
  refine lv_iload_n F.1 F.2.1 dX11_keep_0 rfl (lv_at hl 1 rfl) ?_
  refine lv_if_lt (tgt := 9) F.1 F.2.1 dX11_keep_1 (by decide) (fun hc => ?_) (fun hc => ?_)
  · have hE := ifp hE hc
    refine lv_iconst (v := 0) F.1 F.2.1 dX11_keep_9 (by decide) ?_
    have w0 := Option.some.inj hE
    obtain ⟨g0, w1⟩ := Prod.mk.inj w0
    obtain ⟨g1, w2⟩ := Prod.mk.inj w1
    subst g0 g1 w2
    exact ret_z F hr rfl hlk hP hS dX11_keep_10
  · have hE := ifn hE hc
    refine lv_iload_n F.1 F.2.1 dX11_keep_4 rfl (lv_at hl 1 rfl) ?_
    refine lv_iconst (v := 2) F.1 F.2.1 dX11_keep_5 (by decide) ?_
    refine lv_icmp_lt (tgt := 11) F.1 F.2.1 dX11_keep_6 (by decide) (fun hc => ?_) (fun hc => ?_)
    · have hE := ifp hE hc
      refine lv_aload_n F.1 F.2.1 dX11_keep_11 rfl (lv_at hl 0 rfl) ?_
      refine gX11_19 F C hP dX11_keep_12 ?_
      refine lv_iload_n F.1 F.2.1 dX11_keep_15 rfl (lv_at hl 1 rfl) ?_
      obtain ⟨hi, hE⟩ := grd_some hE
      refine ao1 F C hP hi dX11_keep_16 ?_
      have hj_2 := hj_of2 hi
      refine lv_aload_n F.1 F.2.1 dX11_keep_17 rfl (lv_at hl 0 rfl) ?_
      refine gX11_10 F C hP dX11_keep_18 ?_
      obtain ⟨HS_741, eHS_741, hE⟩ := lt_some hE
      refine aft_v (run_N (rest := []) F (ccX3_copies hj_2 (by decide) (by omega) eHS_741.symm) (okX Z) C hS (C.2.2 _ _ mlX11_269 rfl) lkX11_269 ⟨Nat.le_of_ble_eq_true rfl, Nat.le_of_ble_eq_true rfl⟩ (rvh0 C hP hj_2) hP rfl hl.1 rfl (lv_room (Nat.le_of_ble_eq_true rfl)) dX11_keep_21 ⟨Nat.zero_le _, Nat.zero_le _⟩) hS (fun H locs hP hS => ?_)
      refine lv_aload_n F.1 F.2.1 dX11_keep_24 rfl (lv_at hl 0 rfl) ?_
      refine lv_dup F.1 F.2.1 dX11_keep_25 rfl ?_
      refine gX11_331 F C hP dX11_keep_26 ?_
      refine lv_iconst (v := 1) F.1 F.2.1 dX11_keep_29 (by decide) ?_
      refine lv_iload_n F.1 F.2.1 dX11_keep_30 rfl (lv_at hl 1 rfl) ?_
      refine rj_ishl F.1 F.2.1 dX11_keep_31 ?_
      refine lv_ior F.1 F.2.1 dX11_keep_32 ?_
      obtain ⟨zkb_742, ezkb_742, hE⟩ := lt_some hE
      refine pX11_331 F C hP hS ezkb_742.symm dX11_keep_33 (fun H locs hP hS => ?_)
      refine lv_iconst (v := 1) F.1 F.2.1 dX11_keep_36 (by decide) ?_
      have w0 := Option.some.inj hE
      obtain ⟨g0, w1⟩ := Prod.mk.inj w0
      obtain ⟨g1, w2⟩ := Prod.mk.inj w1
      subst g0 g1 w2
      exact ret_z F hr rfl hlk hP hS dX11_keep_37
    · have hE := ifn hE hc
      refine lv_iconst (v := 0) F.1 F.2.1 dX11_keep_9 (by decide) ?_
      have w0 := Option.some.inj hE
      obtain ⟨g0, w1⟩ := Prod.mk.inj w0
      obtain ⟨g1, w2⟩ := Prod.mk.inj w1
      subst g0 g1 w2
      exact ret_z F hr rfl hlk hP hS dX11_keep_10
set_option maxRecDepth 100000 in
set_option maxHeartbeats 4000000 in
theorem kX11_again {l : Launch} {Z : ZC} {HS : Nat → Nat → Nat → Int32} {zkb : Int32} {zdr : Int32} {zky : Nat → Int32} {zpn : Int32} {zps : Int32} {ztz : Int32} {ztn : Nat → Int64} {zxz : Int32} {zxa : Int32} {zsg : Nat → Int32} {za0 : Int32} {za1 : Int32} {za2 : Int32} {za3 : Int32} {za4 : Int32} {zfr : Nat → Int32} {zcd : Int32} {zgo : Nat → Int32} {ztd : Int32} {ztv : Int32} {zcl : Nat → Int32} {zca : Nat → Int32} {zwa : Nat → Int32} {zpt : Nat → Int32} {zpf : Nat → Int32} {p1 : Int32} {r' : Int32} {zps' : Int32} {HS' : Nat → Nat → Nat → Int32} (hE : fX11_again zkb zps HS p1 = some (r', zps', HS')) : Mg l yX11_again cX11_again 2 (some .boolean) (rmk 3 68) (KX Z) (AX Z) [.ref (oA Z 0), .int p1] (PX Z HS zkb zdr zky zpn zps ztz ztn zxz zxa zsg za0 za1 za2 za3 za4 zfr zcd zgo ztd ztv zcl zca zwa zpt zpf) (Qi (KX Z) (AX Z) (PX Z HS' zkb zdr zky zpn zps' ztz ztn zxz zxa zsg za0 za1 za2 za3 za4 zfr zcd zgo ztd ztv zcl zca zwa zpt zpf) r') := by
  refine Mg.start (lv := [(0, .ref (oA Z 0)), (1, .int p1)]) (by decide) rfl (Nat.le_of_ble_eq_true rfl) rfl ?_
  intro p e s m below meth c F hr hlk C hP ls hl
  have hS : va_S (AX Z) s.heap s.heap [] := va_S.rf
  unfold fX11_again at hE
  refine lv_iload_n F.1 F.2.1 dX11_again_0 rfl (lv_at hl 1 rfl) ?_
  refine lv_if_lt (tgt := 20) F.1 F.2.1 dX11_again_1 (by decide) (fun hc => ?_) (fun hc => ?_)
  · have hE := ifp hE hc
    refine lv_iconst (v := 0) F.1 F.2.1 dX11_again_20 (by decide) ?_
    have w0 := Option.some.inj hE
    obtain ⟨g0, w1⟩ := Prod.mk.inj w0
    obtain ⟨g1, w2⟩ := Prod.mk.inj w1
    subst g0 g1 w2
    exact ret_z F hr rfl hlk hP hS dX11_again_21
  · have hE := ifn hE hc
    refine lv_iload_n F.1 F.2.1 dX11_again_4 rfl (lv_at hl 1 rfl) ?_
    refine lv_iconst (v := 2) F.1 F.2.1 dX11_again_5 (by decide) ?_
    refine lv_icmp_ge (tgt := 20) F.1 F.2.1 dX11_again_6 (by decide) (fun hc => ?_) (fun hc => ?_)
    · have hE := ifp hE hc
      refine lv_iconst (v := 0) F.1 F.2.1 dX11_again_20 (by decide) ?_
      have w0 := Option.some.inj hE
      obtain ⟨g0, w1⟩ := Prod.mk.inj w0
      obtain ⟨g1, w2⟩ := Prod.mk.inj w1
      subst g0 g1 w2
      exact ret_z F hr rfl hlk hP hS dX11_again_21
    · have hE := ifn hE hc
      refine lv_aload_n F.1 F.2.1 dX11_again_9 rfl (lv_at hl 0 rfl) ?_
      refine gX11_331 F C hP dX11_again_10 ?_
      refine lv_iload_n F.1 F.2.1 dX11_again_13 rfl (lv_at hl 1 rfl) ?_
      obtain ⟨r745, hc, hE⟩ := bnd1_some hE
      refine aft_i (run_S (rest := []) F (kX11_bit hc) (okX Z) C hS lkX11_181 ⟨Nat.le_of_ble_eq_true rfl, Nat.le_of_ble_eq_true rfl⟩ hP rfl hl.1 rfl (lv_room (Nat.le_of_ble_eq_true rfl)) dX11_again_14 ⟨Nat.zero_le _, Nat.zero_le _⟩) hS (fun H locs hP hS => ?_)
      refine lv_if_ne (tgt := 22) F.1 F.2.1 dX11_again_17 (by decide) (fun hc => ?_) (fun hc => ?_)
      · have hE := ifn hE hc
        refine lv_aload_n F.1 F.2.1 dX11_again_22 rfl (lv_at hl 0 rfl) ?_
        refine gX11_10 F C hP dX11_again_23 ?_
        refine lv_aload_n F.1 F.2.1 dX11_again_26 rfl (lv_at hl 0 rfl) ?_
        refine gX11_19 F C hP dX11_again_27 ?_
        refine lv_iload_n F.1 F.2.1 dX11_again_30 rfl (lv_at hl 1 rfl) ?_
        obtain ⟨hi, hE⟩ := grd_some hE
        refine ao1 F C hP hi dX11_again_31 ?_
        have hj_2 := hj_of2 hi
        obtain ⟨HS_746, eHS_746, hE⟩ := lt_some hE
        refine aft_v (run_N (rest := []) F (ccX3_copies (by decide) hj_2 (by omega) eHS_746.symm) (okX Z) C hS (C.2.2 _ _ mlX11_269 rfl) lkX11_269 ⟨Nat.le_of_ble_eq_true rfl, Nat.le_of_ble_eq_true rfl⟩ (rvh0 C hP (by decide)) hP rfl hl.1 rfl (lv_room (Nat.le_of_ble_eq_true rfl)) dX11_again_32 ⟨Nat.zero_le _, Nat.zero_le _⟩) hS (fun H locs hP hS => ?_)
        refine lv_aload_n F.1 F.2.1 dX11_again_35 rfl (lv_at hl 0 rfl) ?_
        refine gX11_26 F C hP dX11_again_36 ?_
        refine lv_iconst (v := 0) F.1 F.2.1 dX11_again_39 (by decide) ?_
        refine pX11_314 F C hP hS rfl dX11_again_40 (fun H locs hP hS => ?_)
        refine lv_iconst (v := 1) F.1 F.2.1 dX11_again_43 (by decide) ?_
        have w0 := Option.some.inj hE
        obtain ⟨g0, w1⟩ := Prod.mk.inj w0
        obtain ⟨g1, w2⟩ := Prod.mk.inj w1
        subst g0 g1 w2
        exact ret_z F hr rfl hlk hP hS dX11_again_44
      · have hE := ifp hE hc
        refine lv_iconst (v := 0) F.1 F.2.1 dX11_again_20 (by decide) ?_
        have w0 := Option.some.inj hE
        obtain ⟨g0, w1⟩ := Prod.mk.inj w0
        obtain ⟨g1, w2⟩ := Prod.mk.inj w1
        subst g0 g1 w2
        exact ret_z F hr rfl hlk hP hS dX11_again_21
set_option maxRecDepth 100000 in
set_option maxHeartbeats 4000000 in
theorem kX11_count {l : Launch} {Z : ZC} {HS : Nat → Nat → Nat → Int32} {zkb : Int32} {zdr : Int32} {zky : Nat → Int32} {zpn : Int32} {zps : Int32} {ztz : Int32} {ztn : Nat → Int64} {zxz : Int32} {zxa : Int32} {zsg : Nat → Int32} {za0 : Int32} {za1 : Int32} {za2 : Int32} {za3 : Int32} {za4 : Int32} {zfr : Nat → Int32} {zcd : Int32} {zgo : Nat → Int32} {ztd : Int32} {ztv : Int32} {zcl : Nat → Int32} {zca : Nat → Int32} {zwa : Nat → Int32} {zpt : Nat → Int32} {zpf : Nat → Int32} {N : Nat} {p1 : Int32} {r' : Int32} (hE : fX11_count N zps ztz zxz HS p1 = some r') : Mg l yX11_count cX11_count 2 (some .int) (rmk 2 43) (KX Z) (AX Z) [.ref (oA Z 0), .int p1] (PX Z HS zkb zdr zky zpn zps ztz ztn zxz zxa zsg za0 za1 za2 za3 za4 zfr zcd zgo ztd ztv zcl zca zwa zpt zpf) (Qi (KX Z) (AX Z) (PX Z HS zkb zdr zky zpn zps ztz ztn zxz zxa zsg za0 za1 za2 za3 za4 zfr zcd zgo ztd ztv zcl zca zwa zpt zpf) r') := by
  refine Mg.start (lv := [(0, .ref (oA Z 0)), (1, .int p1)]) (by decide) rfl (Nat.le_of_ble_eq_true rfl) rfl ?_
  intro p e s m below meth c F hr hlk C hP ls hl
  have hS : va_S (AX Z) s.heap s.heap [] := va_S.rf
  unfold fX11_count at hE
  refine lv_iload_n F.1 F.2.1 dX11_count_0 rfl (lv_at hl 1 rfl) ?_
  by_cases hc0 : p1 = 0
  · have hE := ifp hE hc0
    refine lv_tableIn (tgt := 48) (off := 47) F.1 F.2.1 dX11_count_1 (by rw [hc0]; decide) (by rw [hc0]; decide) (by rw [hc0]; rfl) (by decide) ?_
    refine lv_aload_n F.1 F.2.1 dX11_count_48 rfl (lv_at hl 0 rfl) ?_
    refine gX11_10 F C hP dX11_count_49 ?_
    obtain ⟨r753, hc, hE⟩ := bnd1_some hE
    refine aft_i (run_N (rest := []) F (kX3_objects (by decide) rfl hc) (okX Z) C hS (C.2.2 _ _ mlX11_146 rfl) lkX11_146 ⟨Nat.le_of_ble_eq_true rfl, Nat.le_of_ble_eq_true rfl⟩ (rvh0 C hP (by decide)) hP rfl hl.1 rfl (lv_room (Nat.le_of_ble_eq_true rfl)) dX11_count_52 ⟨Nat.zero_le _, Nat.zero_le _⟩) hS (fun H locs hP hS => ?_)
    obtain rfl := Option.some.inj hE
    exact ret_i F hr hlk hP hS dX11_count_55
  have hE := ifn hE hc0
  by_cases hc1 : p1 = 1
  · have hE := ifp hE hc1
    refine lv_tableIn (tgt := 56) (off := 55) F.1 F.2.1 dX11_count_1 (by rw [hc1]; decide) (by rw [hc1]; decide) (by rw [hc1]; rfl) (by decide) ?_
    refine lv_aload_n F.1 F.2.1 dX11_count_56 rfl (lv_at hl 0 rfl) ?_
    refine gX11_10 F C hP dX11_count_57 ?_
    refine gX11_149 F C hP (by decide) rfl dX11_count_60 ?_
    refine gX11_153 F C hP (by decide) rfl dX11_count_63 ?_
    obtain rfl := Option.some.inj hE
    exact ret_i F hr hlk hP hS dX11_count_66
  have hE := ifn hE hc1
  by_cases hc2 : p1 = 2
  · have hE := ifp hE hc2
    refine lv_tableIn (tgt := 67) (off := 66) F.1 F.2.1 dX11_count_1 (by rw [hc2]; decide) (by rw [hc2]; decide) (by rw [hc2]; rfl) (by decide) ?_
    refine lv_aload_n F.1 F.2.1 dX11_count_67 rfl (lv_at hl 0 rfl) ?_
    refine gX11_10 F C hP dX11_count_68 ?_
    refine gX11_143 F C hP (by decide) rfl dX11_count_71 ?_
    obtain rfl := Option.some.inj hE
    exact ret_i F hr hlk hP hS dX11_count_74
  have hE := ifn hE hc2
  by_cases hc3 : p1 = 3
  · have hE := ifp hE hc3
    refine lv_tableIn (tgt := 75) (off := 74) F.1 F.2.1 dX11_count_1 (by rw [hc3]; decide) (by rw [hc3]; decide) (by rw [hc3]; rfl) (by decide) ?_
    refine lv_aload_n F.1 F.2.1 dX11_count_75 rfl (lv_at hl 0 rfl) ?_
    refine gX11_10 F C hP dX11_count_76 ?_
    obtain ⟨r754, hc, hE⟩ := bnd1_some hE
    refine aft_i (run_N (rest := []) F (kX3_countsTogether (by decide) rfl hc) (okX Z) C hS (C.2.2 _ _ mlX11_334 rfl) lkX11_334 ⟨Nat.le_of_ble_eq_true rfl, Nat.le_of_ble_eq_true rfl⟩ (rvh0 C hP (by decide)) hP rfl hl.1 rfl (lv_room (Nat.le_of_ble_eq_true rfl)) dX11_count_79 ⟨Nat.zero_le _, Nat.zero_le _⟩) hS (fun H locs hP hS => ?_)
    obtain rfl := Option.some.inj hE
    exact ret_i F hr hlk hP hS dX11_count_82
  have hE := ifn hE hc3
  by_cases hc4 : p1 = 4
  · have hE := ifp hE hc4
    refine lv_tableIn (tgt := 83) (off := 82) F.1 F.2.1 dX11_count_1 (by rw [hc4]; decide) (by rw [hc4]; decide) (by rw [hc4]; rfl) (by decide) ?_
    refine lv_aload_n F.1 F.2.1 dX11_count_83 rfl (lv_at hl 0 rfl) ?_
    refine gX11_10 F C hP dX11_count_84 ?_
    refine gX11_125 F C hP (by decide) rfl dX11_count_87 ?_
    refine gX11_297 F C hP (by decide) rfl dX11_count_90 ?_
    obtain rfl := Option.some.inj hE
    exact ret_i F hr hlk hP hS dX11_count_93
  have hE := ifn hE hc4
  by_cases hc5 : p1 = 5
  · have hE := ifp hE hc5
    refine lv_tableIn (tgt := 94) (off := 93) F.1 F.2.1 dX11_count_1 (by rw [hc5]; decide) (by rw [hc5]; decide) (by rw [hc5]; rfl) (by decide) ?_
    refine lv_aload_n F.1 F.2.1 dX11_count_94 rfl (lv_at hl 0 rfl) ?_
    refine gX11_26 F C hP dX11_count_95 ?_
    refine gX11_314 F C hP dX11_count_98 ?_
    obtain rfl := Option.some.inj hE
    exact ret_i F hr hlk hP hS dX11_count_101
  have hE := ifn hE hc5
  by_cases hc6 : p1 = 6
  · have hE := ifp hE hc6
    refine lv_tableIn (tgt := 102) (off := 101) F.1 F.2.1 dX11_count_1 (by rw [hc6]; decide) (by rw [hc6]; decide) (by rw [hc6]; rfl) (by decide) ?_
    refine lv_aload_n F.1 F.2.1 dX11_count_102 rfl (lv_at hl 0 rfl) ?_
    refine gX11_33 F C hP dX11_count_103 ?_
    refine gX11_252 F C hP dX11_count_106 ?_
    obtain rfl := Option.some.inj hE
    exact ret_i F hr hlk hP hS dX11_count_109
  have hE := ifn hE hc6
  by_cases hc7 : p1 = 7
  · have hE := ifp hE hc7
    refine lv_tableIn (tgt := 110) (off := 109) F.1 F.2.1 dX11_count_1 (by rw [hc7]; decide) (by rw [hc7]; decide) (by rw [hc7]; rfl) (by decide) ?_
    refine lv_aload_n F.1 F.2.1 dX11_count_110 rfl (lv_at hl 0 rfl) ?_
    refine gX11_40 F C hP dX11_count_111 ?_
    refine gX11_91 F C hP dX11_count_114 ?_
    obtain rfl := Option.some.inj hE
    exact ret_i F hr hlk hP hS dX11_count_117
  have hE := ifn hE hc7
  refine lv_tableOut (tgt := 118) F.1 F.2.1 dX11_count_1 (by have g0 : ¬ (p1).toInt = 0 := sw_ne hc0; have g1 : ¬ (p1).toInt = 1 := sw_ne hc1; have g2 : ¬ (p1).toInt = 2 := sw_ne hc2; have g3 : ¬ (p1).toInt = 3 := sw_ne hc3; have g4 : ¬ (p1).toInt = 4 := sw_ne hc4; have g5 : ¬ (p1).toInt = 5 := sw_ne hc5; have g6 : ¬ (p1).toInt = 6 := sw_ne hc6; have g7 : ¬ (p1).toInt = 7 := sw_ne hc7; omega) (by decide) ?_
  refine lv_iconst (v := (-1)) F.1 F.2.1 dX11_count_118 (by decide) ?_
  obtain rfl := Option.some.inj hE
  exact ret_i F hr hlk hP hS dX11_count_119
