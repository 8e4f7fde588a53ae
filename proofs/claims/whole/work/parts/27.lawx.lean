/-! the law's helpers: a call that may throw, its answer laid into a row of one long -/
def PO (Z : ZC) (o : Nat) (f : Nat → Int64) (H : Heap) : Prop := va_P Z.1 vwCl [(o, .inl (Z.2.2.2.1, 1, .inr (.inl f)))] H
def AO (Z : ZC) (o : Nat) : Nat → Prop := fun q => AX Z q ∨ q = o
def KXO (Z : ZC) (o : Nat) (s : State) : Prop := KX Z s ∧ vx_Zq Bundle.tN "UNASSIGNED_STACK" Bundle.steD (AO Z o) s s.heap ∧ vx_Zq Bundle.tN "SUPPRESSED_SENTINEL" Bundle.listD (AO Z o) s s.heap ∧ DCW s ∧
  ((∃ a, vk_R "CountedHeap" 161 "no such object" a s) ∧ (∃ a, vk_R "CountedHeap" 192 "no such number of an object" a s) ∧ (∃ a, vk_R "CountedHeap" 198 "no such field" a s) ∧ (∃ a, vk_R "CountedHeap" 203 "no such root" a s) ∧ (∃ a, vk_R "CountedHeap" 289 "no such row of the log" a s) ∧ (∃ a, vk_R "CountedHeap" 337 "no such number of the row" a s)) ∧ ¬ AX Z o
theorem KXO.t {Z : ZC} {o : Nat} {s : State} (h : KXO Z o s) : KXT Z s := ⟨h.1, h.2.1.narrow (fun _ h => Or.inl h), h.2.2.1.narrow (fun _ h => Or.inl h), h.2.2.2.1, h.2.2.2.2.1⟩
theorem okXO (Z : ZC) (o : Nat) : Kok (AO Z o) (KXO Z o) := by
  refine ⟨fun s U locs hW hS h => ?_, fun U g mk a h => ?_⟩
  · have hq : ∀ a : Nat, a < s.heap.size → ¬ AO Z o a → U.heap[a]? = s.heap[a]? := hS.2.1
    obtain ⟨h0, h1, h2, h3, ⟨h4, h5, h6, h7, h8, h9⟩, h10⟩ := h
    exact ⟨⟨h0.1, va_K.moved hW.alike h0.2.1, fun k w hk hn => nest_warm hn hW (h0.2.2 k w hk hn)⟩, vx_Zq.kept (vx_Zq.moved hW.alike h1) hq, vx_Zq.kept (vx_Zq.moved hW.alike h2) hq, fun w hw hd => dc_warm hd hW (h3 w hw hd), ⟨vkR_warm hW h4, vkR_warm hW h5, vkR_warm hW h6, vkR_warm hW h7, vkR_warm hW h8, vkR_warm hW h9⟩, h10⟩
  · obtain ⟨h0, h1, h2, h3, ⟨h4, h5, h6, h7, h8, h9⟩, h10⟩ := h
    have hv : (U.calling g mk a).vm = U.vm := rfl
    exact ⟨(okX Z).2 U g mk a h0, vx_Zq.moved (u := U) (U := U.calling g mk a) (Vm.Alike.refl U.vm) h1, vx_Zq.moved (u := U) (U := U.calling g mk a) (Vm.Alike.refl U.vm) h2, fun w hw hd => dc_same (s := U) (U := U.calling g mk a) hd rfl (h3 w hw hd), ⟨vkR_same hv h4, vkR_same hv h5, vkR_same hv h6, vkR_same hv h7, vkR_same hv h8, vkR_same hv h9⟩, h10⟩
theorem cw_of {R : Room} {p : Program} {m : MethodId} {c : Code} {s : State} {args : Array Value} {cc cy : ByteArray} {nL ny n index mc ms : Nat} {own C0 : String} {y : MethodName} {ret : Option FieldType} {rm : Room} (F : CallFix p m c cc nL s args bigW own) (L : LkV own index C0 y cy ny ret n) (hrc : rm.cells = mc) (hrs : rm.slots = ms) (hR : rm.frames + 1 ≤ R.frames ∧ 8 + (ny + 11) + rm.locals ≤ R.locals) : CallW R s args own C0 index y cy ny ret (Cond.code y cy ny ret :: bigW) rm mc ms n := by
  obtain ⟨⟨l1, l2, l3, l4, l5⟩, hd⟩ := L
  refine cwV n F.2.2.2.2 (C := C0) (fun w hw => ?_) rfl hrc hrs hd hR
  unfold wsV at hw
  rcases List.mem_append.mp hw with h | h
  · simp only [List.mem_cons, List.not_mem_nil, or_false] at h
    rcases h with rfl | rfl | rfl | rfl
    · exact ⟨l1, bw_good l1⟩
    · exact ⟨l2, bw_good l2⟩
    · exact ⟨l3, bw_good l3⟩
    · exact ⟨l4, bw_good l4⟩
  · exact bw_code l5 w h
/-- both pictures in one -/
theorem PXO_cons {Z : ZC} {o : Nat} {f : Nat → Int64} {L : List va_E} {HS : Nat → Nat → Nat → Int32} {H : Heap} : (va_P Z.1 vwCl (lX Z HS L) H ∧ PO Z o f H) ↔ va_P Z.1 vwCl ((o, .inl (Z.2.2.2.1, 1, .inr (.inl f))) :: lX Z HS L) H := by
  constructor
  · intro h
    refine vP_iff.mpr fun q hq => ?_
    rcases List.mem_cons.mp hq with rfl | hq
    · exact vP_iff.mp h.2 _ List.mem_cons_self
    · exact vP_iff.mp h.1 q hq
  · intro h
    exact ⟨vP_iff.mpr fun q hq => vP_iff.mp h q (List.mem_cons_of_mem _ hq), vP_iff.mpr fun q hq => by rw [List.mem_singleton] at hq; subst hq; exact vP_iff.mp h _ List.mem_cons_self⟩
theorem PXO_D {Z : ZC} {o : Nat} {e : va_E} {L : List va_E} {HS : Nat → Nat → Nat → Int32} {s : State} (C : KX Z s) (ho : ¬ AX Z o) : va_D (AO Z o) ((o, e) :: lX Z HS L) := by
  have hd := vD_iff.mp (lX_D (HS := HS) (L := L) C)
  refine vD_iff.mpr ⟨?_, fun q hq => ?_⟩
  · rw [List.map_cons, List.nodup_cons]
    refine ⟨fun hm => ?_, hd.1⟩
    obtain ⟨x, hx, he⟩ := List.mem_map.mp hm
    exact ho (by have h5 := hd.2 x hx; rw [show x.1 = o from he] at h5; exact h5)
  · rcases List.mem_cons.mp hq with rfl | hq
    · exact Or.inr rfl
    · exact Or.inl (hd.2 q hq)
theorem PO_kept {Z : ZC} {o : Nat} {f : Nat → Int64} {H H1 : Heap} (hO : PO Z o f H) (ho : ¬ AX Z o) (hk : ∀ q : Nat, q < H.size → ¬ AX Z q → H1[q]? = H[q]?) : PO Z o f H1 := va_P.kept hO (fun k q h => by
  have hm : q ∈ [(o, (.inl (Z.2.2.2.1, 1, .inr (.inl f)) : va_E))] := by have := List.mem_of_getElem? h; exact this
  rw [List.mem_singleton] at hm
  subst hm
  exact hk o (hO k _ h).lt ho)
theorem tab_one {t : Array ExceptionTableEntry} {a b c d : Nat} (h : t.toList.map (fun h => (h.startPc, h.endPc, h.handlerPc, h.catchType)) = [(a, b, c, d)]) : t.toList = [] ++ (⟨a, b, c, d⟩ : ExceptionTableEntry) :: [] := by
  cases hl : t.toList with
  | nil => rw [hl] at h; cases h
  | cons x xs =>
    rw [hl] at h
    cases xs with
    | nil =>
      simp only [List.map_cons, List.map_nil, List.cons.injEq, and_true, Prod.mk.injEq] at h
      obtain ⟨x1, x2, x3, x4⟩ := x
      obtain ⟨rfl, rfl, rfl, rfl⟩ := h
      rfl
    | cons y ys => simp at h
set_option maxRecDepth 100000 in
set_option maxHeartbeats 4000000 in
theorem kL_object {l : Launch} (hlt : l.stackTraces = false) {Z : ZC} {o : Nat} {f : Nat → Int64} {HS : Nat → Nat → Nat → Int32} {zkb : Int32} {zdr : Int32} {zky : Nat → Int32} {zpn : Int32} {zps : Int32} {ztz : Int32} {ztn : Nat → Int64} {zxz : Int32} {zxa : Int32} {zsg : Nat → Int32} {za0 : Int32} {za1 : Int32} {za2 : Int32} {za3 : Int32} {za4 : Int32} {zfr : Nat → Int32} {zcd : Int32} {zgo : Nat → Int32} {ztd : Int32} {ztv : Int32} {zcl : Nat → Int32} {zca : Nat → Int32} {zwa : Nat → Int32} {zpt : Nat → Int32} {zpf : Nat → Int32} {N : Nat} {p1 : Int32} {p2 : Int32} {r' : Option Int32} (hE : fX11_object N HS p1 p2 = some r') : Met l yL_object (Cond.codeWith yL_object cL_object 5 (some .int) [(0, 10, 13, 13)] :: bigW) (rmx 7 122) (va_Pc [.ref (oA Z 0), .int p1, .int p2, .ref o] (fun U => (PX Z HS zkb zdr zky zpn zps ztz ztn zxz zxa zsg za0 za1 za2 za3 za4 zfr zcd zgo ztd ztv zcl zca zwa zpt zpf U.heap ∧ PO Z o f U.heap) ∧ KXO Z o U)) (va_Qi (fun (r : Int32) (f' : Nat → Int64) => (r' = none ∧ r = 1 ∧ f' = f) ∨ ∃ v, r' = some v ∧ r = 0 ∧ f' = vp_updL f 0 v.toInt64) (fun f' t => PX Z HS zkb zdr zky zpn zps ztz ztn zxz zxa zsg za0 za1 za2 za3 za4 zfr zcd zgo ztd ztv zcl zca zwa zpt zpf t.heap ∧ PO Z o f' t.heap) (AO Z o)) 1 6 (AO Z o) := by
  refine va_MetW (cc := cL_object) (maxL := 5) (ret := some .int) (hh := [(0, 10, 13, 13)]) (by decide) rfl ?_
  intro p e s m args below meth c s₁ B hml hv
  obtain ⟨rfl, ⟨hP, hO⟩, C1⟩ := hv
  have C0 := C1.t
  have hts := atoms_spec (ws := Cond.codeWith yL_object cL_object 5 (some .int) [(0, 10, 13, 13)] :: bigW) B.pre
  have hown : s.vm.findClass RL = some m.cls := findClass_of_methodNamed B.named
  have hex : c.exceptionTable.toList = [] ++ (⟨0, 10, 13, 13⟩ : ExceptionTableEntry) :: [] := by
    obtain ⟨m9, meth9, c9, h0, h1, h2, -, -, h7, -⟩ := Cond.codeWith_spec (hts _ List.mem_cons_self)
    cases Option.some.inj (h0.symm.trans B.named)
    cases Option.some.inj (h1.symm.trans B.method)
    cases Option.some.inj (h2.symm.trans (Stand.of_body B).code)
    exact tab_one h7
  have F : CallFix p m c cL_object 5 s [.ref (oA Z 0), .int p1, .int p2, .ref o].toArray bigW RL := ⟨B.exec, B.bytes, hml, hown, fun w h => hts w (List.mem_cons_of_mem _ h)⟩
  have hr := B.returns
  have hlk := B.notSynchronized
  have hl := lv_entry [.ref (oA Z 0), .int p1, .int p2, .ref o] (n := 5) (Nat.le_of_ble_eq_true rfl)
  rw [lg_entry_eq]
  generalize (lg_sl [.ref (oA Z 0), .int p1, .int p2, .ref o] ++ List.replicate (5 - (lg_sl [.ref (oA Z 0), .int p1, .int p2, .ref o]).length) Slot.unset).toArray = ls at hl ⊢
  have hl : lv_has ls 5 [(0, .ref (oA Z 0)), (1, .int p1), (2, .int p2), (3, .ref o)] := hl
  have hS : va_S (AO Z o) s.heap s.heap [] := va_S.rf
  refine lv_aload_n F.1 F.2.1 dL_object_0 rfl (lv_at hl 3 rfl) ?_
  refine lv_iconst (v := 0) F.1 F.2.1 dL_object_1 (by decide) ?_
  refine lv_aload_n F.1 F.2.1 dL_object_2 rfl (lv_at hl 0 rfl) ?_
  refine lv_iload_n F.1 F.2.1 dL_object_3 rfl (lv_at hl 1 rfl) ?_
  refine lv_iload_n F.1 F.2.1 dL_object_4 rfl (lv_at hl 2 rfl) ?_
  refine vx_calli (vx_runV (As := [.int p1, .int p2]) (rest := [.int 0, .ref o]) F (kX11_object hlt hE) (cw_of F lkL_7 rfl rfl ⟨Nat.le_of_ble_eq_true rfl, Nat.le_of_ble_eq_true rfl⟩) ⟨pre_blind (okXT Z), rvo0 C0.1 hP, fun U hU hw => ⟨rfl, by rw [hU]; exact hP, (okXT Z).1 s U [] hw (by rw [hU]; exact va_S.rf) C0⟩⟩ rfl rfl hl.1 rfl (lv_room (Nat.le_of_ble_eq_true rfl)) dL_object_5 ⟨Nat.le_of_ble_eq_true rfl, Nat.le_of_ble_eq_true rfl⟩) hS (fun _ _ h => Or.inl h) (fun _ h => Or.inl h) (fun _ _ h => Or.inl h) (fun E ce q9 u t H1 locs1 ht hvm hpx hB hz hk hS1 hc1 hc2 hc3 => ?_) (fun r u t H1 locs1 ht hvm hp hB hz hk hS1 => ?_)
  · obtain ⟨rfl, hPx⟩ := hB
    rw [ht] at hPx
    have hO1 := PO_kept hO C1.2.2.2.2.2 hk
    refine vx_catch (own := RL) (name := "java/util/NoSuchElementException") F.2.2.2.1 [] ⟨0, 10, 13, 13⟩ [] hex (fun _ h => nomatch h) rfl (by decide) (F.2.2.2.2 _ (bw_t 853 (by decide +kernel) rfl)) (dc_use rfl (C1.2.2.2.1 _ (List.mem_of_getElem? (i := 860) (by decide +kernel)) rfl)) hc1 hc2 hc3 ?_
    refine lv_astore (lv' := [(4, .ref q9), (0, .ref (oA Z 0)), (1, .int p1), (2, .int p2), (3, .ref o)]) F.1 F.2.1 dL_object_13 hl (by decide) rfl (fun ls hl => ?_)
    refine lv_iconst (v := 1) F.1 F.2.1 dL_object_15 (by decide) ?_
    exact W.iret (v := 1) F.1 F.2.1 hr (fun t ht _ => ⟨⟨1, f, rfl, Or.inl ⟨hpx, rfl, rfl⟩, by subst ht; exact ⟨hPx, hO1⟩⟩, hS1.F ht⟩) hS1.2.2 dL_object_16 (hlocks := hlk)
  · subst ht
    have hO1 := PO_kept hO C1.2.2.2.2.2 hk
    refine lv_i2l (v := r.toInt64) F.1 F.2.1 dL_object_8 rfl ?_
    refine va_last F.1 F.2.1 C1.1.2.1 (PXO_cons.mp ⟨hB, hO1⟩) (PXO_D C1.1 C1.2.2.2.2.2) hS1 0 1 rfl rfl (inb_in (by decide)) dL_object_9 (fun H2 locs2 hP2 _ hS2 => ?_)
    refine lv_goto (tgt := 17) F.1 F.2.1 dL_object_10 (by decide) ?_
    refine lv_iconst (v := 0) F.1 F.2.1 dL_object_17 (by decide) ?_
    obtain ⟨hPx, hO2⟩ := PXO_cons.mpr hP2
    exact W.iret (v := 0) F.1 F.2.1 hr (fun t ht _ => ⟨⟨0, vp_updL f 0 r.toInt64, rfl, Or.inr ⟨r, hp, rfl, rfl⟩, by subst ht; exact ⟨hPx, hO2⟩⟩, hS2.F ht⟩) hS2.2.2 dL_object_18 (hlocks := hlk)

set_option maxRecDepth 100000 in
set_option maxHeartbeats 4000000 in
theorem kL_field {l : Launch} (hlt : l.stackTraces = false) {Z : ZC} {o : Nat} {f : Nat → Int64} {HS : Nat → Nat → Nat → Int32} {zkb : Int32} {zdr : Int32} {zky : Nat → Int32} {zpn : Int32} {zps : Int32} {ztz : Int32} {ztn : Nat → Int64} {zxz : Int32} {zxa : Int32} {zsg : Nat → Int32} {za0 : Int32} {za1 : Int32} {za2 : Int32} {za3 : Int32} {za4 : Int32} {zfr : Nat → Int32} {zcd : Int32} {zgo : Nat → Int32} {ztd : Int32} {ztv : Int32} {zcl : Nat → Int32} {zca : Nat → Int32} {zwa : Nat → Int32} {zpt : Nat → Int32} {zpf : Nat → Int32} {N : Nat} {p1 : Int32} {p2 : Int32} {r' : Option Int32} (hE : fX11_field HS p1 p2 = some r') : Met l yL_field (Cond.codeWith yL_field cL_field 5 (some .int) [(0, 10, 13, 13)] :: bigW) (rmx 7 122) (va_Pc [.ref (oA Z 0), .int p1, .int p2, .ref o] (fun U => (PX Z HS zkb zdr zky zpn zps ztz ztn zxz zxa zsg za0 za1 za2 za3 za4 zfr zcd zgo ztd ztv zcl zca zwa zpt zpf U.heap ∧ PO Z o f U.heap) ∧ KXO Z o U)) (va_Qi (fun (r : Int32) (f' : Nat → Int64) => (r' = none ∧ r = 1 ∧ f' = f) ∨ ∃ v, r' = some v ∧ r = 0 ∧ f' = vp_updL f 0 v.toInt64) (fun f' t => PX Z HS zkb zdr zky zpn zps ztz ztn zxz zxa zsg za0 za1 za2 za3 za4 zfr zcd zgo ztd ztv zcl zca zwa zpt zpf t.heap ∧ PO Z o f' t.heap) (AO Z o)) 1 6 (AO Z o) := by
  refine va_MetW (cc := cL_field) (maxL := 5) (ret := some .int) (hh := [(0, 10, 13, 13)]) (by decide) rfl ?_
  intro p e s m args below meth c s₁ B hml hv
  obtain ⟨rfl, ⟨hP, hO⟩, C1⟩ := hv
  have C0 := C1.t
  have hts := atoms_spec (ws := Cond.codeWith yL_field cL_field 5 (some .int) [(0, 10, 13, 13)] :: bigW) B.pre
  have hown : s.vm.findClass RL = some m.cls := findClass_of_methodNamed B.named
  have hex : c.exceptionTable.toList = [] ++ (⟨0, 10, 13, 13⟩ : ExceptionTableEntry) :: [] := by
    obtain ⟨m9, meth9, c9, h0, h1, h2, -, -, h7, -⟩ := Cond.codeWith_spec (hts _ List.mem_cons_self)
    cases Option.some.inj (h0.symm.trans B.named)
    cases Option.some.inj (h1.symm.trans B.method)
    cases Option.some.inj (h2.symm.trans (Stand.of_body B).code)
    exact tab_one h7
  have F : CallFix p m c cL_field 5 s [.ref (oA Z 0), .int p1, .int p2, .ref o].toArray bigW RL := ⟨B.exec, B.bytes, hml, hown, fun w h => hts w (List.mem_cons_of_mem _ h)⟩
  have hr := B.returns
  have hlk := B.notSynchronized
  have hl := lv_entry [.ref (oA Z 0), .int p1, .int p2, .ref o] (n := 5) (Nat.le_of_ble_eq_true rfl)
  rw [lg_entry_eq]
  generalize (lg_sl [.ref (oA Z 0), .int p1, .int p2, .ref o] ++ List.replicate (5 - (lg_sl [.ref (oA Z 0), .int p1, .int p2, .ref o]).length) Slot.unset).toArray = ls at hl ⊢
  have hl : lv_has ls 5 [(0, .ref (oA Z 0)), (1, .int p1), (2, .int p2), (3, .ref o)] := hl
  have hS : va_S (AO Z o) s.heap s.heap [] := va_S.rf
  refine lv_aload_n F.1 F.2.1 dL_field_0 rfl (lv_at hl 3 rfl) ?_
  refine lv_iconst (v := 0) F.1 F.2.1 dL_field_1 (by decide) ?_
  refine lv_aload_n F.1 F.2.1 dL_field_2 rfl (lv_at hl 0 rfl) ?_
  refine lv_iload_n F.1 F.2.1 dL_field_3 rfl (lv_at hl 1 rfl) ?_
  refine lv_iload_n F.1 F.2.1 dL_field_4 rfl (lv_at hl 2 rfl) ?_
  refine vx_calli (vx_runV (As := [.int p1, .int p2]) (rest := [.int 0, .ref o]) F (kX11_field hlt hE) (cw_of F lkL_15 rfl rfl ⟨Nat.le_of_ble_eq_true rfl, Nat.le_of_ble_eq_true rfl⟩) ⟨pre_blind (okXT Z), rvo0 C0.1 hP, fun U hU hw => ⟨rfl, by rw [hU]; exact hP, (okXT Z).1 s U [] hw (by rw [hU]; exact va_S.rf) C0⟩⟩ rfl rfl hl.1 rfl (lv_room (Nat.le_of_ble_eq_true rfl)) dL_field_5 ⟨Nat.le_of_ble_eq_true rfl, Nat.le_of_ble_eq_true rfl⟩) hS (fun _ _ h => Or.inl h) (fun _ h => Or.inl h) (fun _ _ h => Or.inl h) (fun E ce q9 u t H1 locs1 ht hvm hpx hB hz hk hS1 hc1 hc2 hc3 => ?_) (fun r u t H1 locs1 ht hvm hp hB hz hk hS1 => ?_)
  · obtain ⟨rfl, hPx⟩ := hB
    rw [ht] at hPx
    have hO1 := PO_kept hO C1.2.2.2.2.2 hk
    refine vx_catch (own := RL) (name := "java/util/NoSuchElementException") F.2.2.2.1 [] ⟨0, 10, 13, 13⟩ [] hex (fun _ h => nomatch h) rfl (by decide) (F.2.2.2.2 _ (bw_t 853 (by decide +kernel) rfl)) (dc_use rfl (C1.2.2.2.1 _ (List.mem_of_getElem? (i := 860) (by decide +kernel)) rfl)) hc1 hc2 hc3 ?_
    refine lv_astore (lv' := [(4, .ref q9), (0, .ref (oA Z 0)), (1, .int p1), (2, .int p2), (3, .ref o)]) F.1 F.2.1 dL_field_13 hl (by decide) rfl (fun ls hl => ?_)
    refine lv_iconst (v := 1) F.1 F.2.1 dL_field_15 (by decide) ?_
    exact W.iret (v := 1) F.1 F.2.1 hr (fun t ht _ => ⟨⟨1, f, rfl, Or.inl ⟨hpx, rfl, rfl⟩, by subst ht; exact ⟨hPx, hO1⟩⟩, hS1.F ht⟩) hS1.2.2 dL_field_16 (hlocks := hlk)
  · subst ht
    have hO1 := PO_kept hO C1.2.2.2.2.2 hk
    refine lv_i2l (v := r.toInt64) F.1 F.2.1 dL_field_8 rfl ?_
    refine va_last F.1 F.2.1 C1.1.2.1 (PXO_cons.mp ⟨hB, hO1⟩) (PXO_D C1.1 C1.2.2.2.2.2) hS1 0 1 rfl rfl (inb_in (by decide)) dL_field_9 (fun H2 locs2 hP2 _ hS2 => ?_)
    refine lv_goto (tgt := 17) F.1 F.2.1 dL_field_10 (by decide) ?_
    refine lv_iconst (v := 0) F.1 F.2.1 dL_field_17 (by decide) ?_
    obtain ⟨hPx, hO2⟩ := PXO_cons.mpr hP2
    exact W.iret (v := 0) F.1 F.2.1 hr (fun t ht _ => ⟨⟨0, vp_updL f 0 r.toInt64, rfl, Or.inr ⟨r, hp, rfl, rfl⟩, by subst ht; exact ⟨hPx, hO2⟩⟩, hS2.F ht⟩) hS2.2.2 dL_field_18 (hlocks := hlk)

set_option maxRecDepth 100000 in
set_option maxHeartbeats 4000000 in
theorem kL_root {l : Launch} (hlt : l.stackTraces = false) {Z : ZC} {o : Nat} {f : Nat → Int64} {HS : Nat → Nat → Nat → Int32} {zkb : Int32} {zdr : Int32} {zky : Nat → Int32} {zpn : Int32} {zps : Int32} {ztz : Int32} {ztn : Nat → Int64} {zxz : Int32} {zxa : Int32} {zsg : Nat → Int32} {za0 : Int32} {za1 : Int32} {za2 : Int32} {za3 : Int32} {za4 : Int32} {zfr : Nat → Int32} {zcd : Int32} {zgo : Nat → Int32} {ztd : Int32} {ztv : Int32} {zcl : Nat → Int32} {zca : Nat → Int32} {zwa : Nat → Int32} {zpt : Nat → Int32} {zpf : Nat → Int32} {N : Nat} {p1 : Int32} {r' : Option Int32} (hE : fX11_root HS p1 = some r') : Met l yL_root (Cond.codeWith yL_root cL_root 4 (some .int) [(0, 9, 12, 13)] :: bigW) (rmx 7 122) (va_Pc [.ref (oA Z 0), .int p1, .ref o] (fun U => (PX Z HS zkb zdr zky zpn zps ztz ztn zxz zxa zsg za0 za1 za2 za3 za4 zfr zcd zgo ztd ztv zcl zca zwa zpt zpf U.heap ∧ PO Z o f U.heap) ∧ KXO Z o U)) (va_Qi (fun (r : Int32) (f' : Nat → Int64) => (r' = none ∧ r = 1 ∧ f' = f) ∨ ∃ v, r' = some v ∧ r = 0 ∧ f' = vp_updL f 0 v.toInt64) (fun f' t => PX Z HS zkb zdr zky zpn zps ztz ztn zxz zxa zsg za0 za1 za2 za3 za4 zfr zcd zgo ztd ztv zcl zca zwa zpt zpf t.heap ∧ PO Z o f' t.heap) (AO Z o)) 1 6 (AO Z o) := by
  refine va_MetW (cc := cL_root) (maxL := 4) (ret := some .int) (hh := [(0, 9, 12, 13)]) (by decide) rfl ?_
  intro p e s m args below meth c s₁ B hml hv
  obtain ⟨rfl, ⟨hP, hO⟩, C1⟩ := hv
  have C0 := C1.t
  have hts := atoms_spec (ws := Cond.codeWith yL_root cL_root 4 (some .int) [(0, 9, 12, 13)] :: bigW) B.pre
  have hown : s.vm.findClass RL = some m.cls := findClass_of_methodNamed B.named
  have hex : c.exceptionTable.toList = [] ++ (⟨0, 9, 12, 13⟩ : ExceptionTableEntry) :: [] := by
    obtain ⟨m9, meth9, c9, h0, h1, h2, -, -, h7, -⟩ := Cond.codeWith_spec (hts _ List.mem_cons_self)
    cases Option.some.inj (h0.symm.trans B.named)
    cases Option.some.inj (h1.symm.trans B.method)
    cases Option.some.inj (h2.symm.trans (Stand.of_body B).code)
    exact tab_one h7
  have F : CallFix p m c cL_root 4 s [.ref (oA Z 0), .int p1, .ref o].toArray bigW RL := ⟨B.exec, B.bytes, hml, hown, fun w h => hts w (List.mem_cons_of_mem _ h)⟩
  have hr := B.returns
  have hlk := B.notSynchronized
  have hl := lv_entry [.ref (oA Z 0), .int p1, .ref o] (n := 4) (Nat.le_of_ble_eq_true rfl)
  rw [lg_entry_eq]
  generalize (lg_sl [.ref (oA Z 0), .int p1, .ref o] ++ List.replicate (4 - (lg_sl [.ref (oA Z 0), .int p1, .ref o]).length) Slot.unset).toArray = ls at hl ⊢
  have hl : lv_has ls 4 [(0, .ref (oA Z 0)), (1, .int p1), (2, .ref o)] := hl
  have hS : va_S (AO Z o) s.heap s.heap [] := va_S.rf
  refine lv_aload_n F.1 F.2.1 dL_root_0 rfl (lv_at hl 2 rfl) ?_
  refine lv_iconst (v := 0) F.1 F.2.1 dL_root_1 (by decide) ?_
  refine lv_aload_n F.1 F.2.1 dL_root_2 rfl (lv_at hl 0 rfl) ?_
  refine lv_iload_n F.1 F.2.1 dL_root_3 rfl (lv_at hl 1 rfl) ?_
  refine vx_calli (vx_runV (As := [.int p1]) (rest := [.int 0, .ref o]) F (kX11_root hlt hE) (cw_of F lkL_18 rfl rfl ⟨Nat.le_of_ble_eq_true rfl, Nat.le_of_ble_eq_true rfl⟩) ⟨pre_blind (okXT Z), rvo0 C0.1 hP, fun U hU hw => ⟨rfl, by rw [hU]; exact hP, (okXT Z).1 s U [] hw (by rw [hU]; exact va_S.rf) C0⟩⟩ rfl rfl hl.1 rfl (lv_room (Nat.le_of_ble_eq_true rfl)) dL_root_4 ⟨Nat.le_of_ble_eq_true rfl, Nat.le_of_ble_eq_true rfl⟩) hS (fun _ _ h => Or.inl h) (fun _ h => Or.inl h) (fun _ _ h => Or.inl h) (fun E ce q9 u t H1 locs1 ht hvm hpx hB hz hk hS1 hc1 hc2 hc3 => ?_) (fun r u t H1 locs1 ht hvm hp hB hz hk hS1 => ?_)
  · obtain ⟨rfl, hPx⟩ := hB
    rw [ht] at hPx
    have hO1 := PO_kept hO C1.2.2.2.2.2 hk
    refine vx_catch (own := RL) (name := "java/util/NoSuchElementException") F.2.2.2.1 [] ⟨0, 9, 12, 13⟩ [] hex (fun _ h => nomatch h) rfl (by decide) (F.2.2.2.2 _ (bw_t 853 (by decide +kernel) rfl)) (dc_use rfl (C1.2.2.2.1 _ (List.mem_of_getElem? (i := 860) (by decide +kernel)) rfl)) hc1 hc2 hc3 ?_
    refine lv_astore_n (lv' := [(3, .ref q9), (0, .ref (oA Z 0)), (1, .int p1), (2, .ref o)]) F.1 F.2.1 dL_root_12 rfl hl (by decide) rfl (fun ls hl => ?_)
    refine lv_iconst (v := 1) F.1 F.2.1 dL_root_13 (by decide) ?_
    exact W.iret (v := 1) F.1 F.2.1 hr (fun t ht _ => ⟨⟨1, f, rfl, Or.inl ⟨hpx, rfl, rfl⟩, by subst ht; exact ⟨hPx, hO1⟩⟩, hS1.F ht⟩) hS1.2.2 dL_root_14 (hlocks := hlk)
  · subst ht
    have hO1 := PO_kept hO C1.2.2.2.2.2 hk
    refine lv_i2l (v := r.toInt64) F.1 F.2.1 dL_root_7 rfl ?_
    refine va_last F.1 F.2.1 C1.1.2.1 (PXO_cons.mp ⟨hB, hO1⟩) (PXO_D C1.1 C1.2.2.2.2.2) hS1 0 1 rfl rfl (inb_in (by decide)) dL_root_8 (fun H2 locs2 hP2 _ hS2 => ?_)
    refine lv_goto (tgt := 15) F.1 F.2.1 dL_root_9 (by decide) ?_
    refine lv_iconst (v := 0) F.1 F.2.1 dL_root_15 (by decide) ?_
    obtain ⟨hPx, hO2⟩ := PXO_cons.mpr hP2
    exact W.iret (v := 0) F.1 F.2.1 hr (fun t ht _ => ⟨⟨0, vp_updL f 0 r.toInt64, rfl, Or.inr ⟨r, hp, rfl, rfl⟩, by subst ht; exact ⟨hPx, hO2⟩⟩, hS2.F ht⟩) hS2.2.2 dL_root_16 (hlocks := hlk)

set_option maxRecDepth 100000 in
set_option maxHeartbeats 4000000 in
theorem kL_log {l : Launch} (hlt : l.stackTraces = false) {Z : ZC} {o : Nat} {f : Nat → Int64} {HS : Nat → Nat → Nat → Int32} {zkb : Int32} {zdr : Int32} {zky : Nat → Int32} {zpn : Int32} {zps : Int32} {ztz : Int32} {ztn : Nat → Int64} {zxz : Int32} {zxa : Int32} {zsg : Nat → Int32} {za0 : Int32} {za1 : Int32} {za2 : Int32} {za3 : Int32} {za4 : Int32} {zfr : Nat → Int32} {zcd : Int32} {zgo : Nat → Int32} {ztd : Int32} {ztv : Int32} {zcl : Nat → Int32} {zca : Nat → Int32} {zwa : Nat → Int32} {zpt : Nat → Int32} {zpf : Nat → Int32} {N : Nat} {p1 : Int32} {p2 : Int32} {r' : Option Int32} (hE : fX11_log HS p1 p2 = some r') : Met l yL_log (Cond.codeWith yL_log cL_log 5 (some .int) [(0, 10, 13, 13)] :: bigW) (rmx 7 122) (va_Pc [.ref (oA Z 0), .int p1, .int p2, .ref o] (fun U => (PX Z HS zkb zdr zky zpn zps ztz ztn zxz zxa zsg za0 za1 za2 za3 za4 zfr zcd zgo ztd ztv zcl zca zwa zpt zpf U.heap ∧ PO Z o f U.heap) ∧ KXO Z o U)) (va_Qi (fun (r : Int32) (f' : Nat → Int64) => (r' = none ∧ r = 1 ∧ f' = f) ∨ ∃ v, r' = some v ∧ r = 0 ∧ f' = vp_updL f 0 v.toInt64) (fun f' t => PX Z HS zkb zdr zky zpn zps ztz ztn zxz zxa zsg za0 za1 za2 za3 za4 zfr zcd zgo ztd ztv zcl zca zwa zpt zpf t.heap ∧ PO Z o f' t.heap) (AO Z o)) 1 6 (AO Z o) := by
  refine va_MetW (cc := cL_log) (maxL := 5) (ret := some .int) (hh := [(0, 10, 13, 13)]) (by decide) rfl ?_
  intro p e s m args below meth c s₁ B hml hv
  obtain ⟨rfl, ⟨hP, hO⟩, C1⟩ := hv
  have C0 := C1.t
  have hts := atoms_spec (ws := Cond.codeWith yL_log cL_log 5 (some .int) [(0, 10, 13, 13)] :: bigW) B.pre
  have hown : s.vm.findClass RL = some m.cls := findClass_of_methodNamed B.named
  have hex : c.exceptionTable.toList = [] ++ (⟨0, 10, 13, 13⟩ : ExceptionTableEntry) :: [] := by
    obtain ⟨m9, meth9, c9, h0, h1, h2, -, -, h7, -⟩ := Cond.codeWith_spec (hts _ List.mem_cons_self)
    cases Option.some.inj (h0.symm.trans B.named)
    cases Option.some.inj (h1.symm.trans B.method)
    cases Option.some.inj (h2.symm.trans (Stand.of_body B).code)
    exact tab_one h7
  have F : CallFix p m c cL_log 5 s [.ref (oA Z 0), .int p1, .int p2, .ref o].toArray bigW RL := ⟨B.exec, B.bytes, hml, hown, fun w h => hts w (List.mem_cons_of_mem _ h)⟩
  have hr := B.returns
  have hlk := B.notSynchronized
  have hl := lv_entry [.ref (oA Z 0), .int p1, .int p2, .ref o] (n := 5) (Nat.le_of_ble_eq_true rfl)
  rw [lg_entry_eq]
  generalize (lg_sl [.ref (oA Z 0), .int p1, .int p2, .ref o] ++ List.replicate (5 - (lg_sl [.ref (oA Z 0), .int p1, .int p2, .ref o]).length) Slot.unset).toArray = ls at hl ⊢
  have hl : lv_has ls 5 [(0, .ref (oA Z 0)), (1, .int p1), (2, .int p2), (3, .ref o)] := hl
  have hS : va_S (AO Z o) s.heap s.heap [] := va_S.rf
  refine lv_aload_n F.1 F.2.1 dL_log_0 rfl (lv_at hl 3 rfl) ?_
  refine lv_iconst (v := 0) F.1 F.2.1 dL_log_1 (by decide) ?_
  refine lv_aload_n F.1 F.2.1 dL_log_2 rfl (lv_at hl 0 rfl) ?_
  refine lv_iload_n F.1 F.2.1 dL_log_3 rfl (lv_at hl 1 rfl) ?_
  refine lv_iload_n F.1 F.2.1 dL_log_4 rfl (lv_at hl 2 rfl) ?_
  refine vx_calli (vx_runV (As := [.int p1, .int p2]) (rest := [.int 0, .ref o]) F (kX11_log hlt hE) (cw_of F lkL_22 rfl rfl ⟨Nat.le_of_ble_eq_true rfl, Nat.le_of_ble_eq_true rfl⟩) ⟨pre_blind (okXT Z), rvo0 C0.1 hP, fun U hU hw => ⟨rfl, by rw [hU]; exact hP, (okXT Z).1 s U [] hw (by rw [hU]; exact va_S.rf) C0⟩⟩ rfl rfl hl.1 rfl (lv_room (Nat.le_of_ble_eq_true rfl)) dL_log_5 ⟨Nat.le_of_ble_eq_true rfl, Nat.le_of_ble_eq_true rfl⟩) hS (fun _ _ h => Or.inl h) (fun _ h => Or.inl h) (fun _ _ h => Or.inl h) (fun E ce q9 u t H1 locs1 ht hvm hpx hB hz hk hS1 hc1 hc2 hc3 => ?_) (fun r u t H1 locs1 ht hvm hp hB hz hk hS1 => ?_)
  · obtain ⟨rfl, hPx⟩ := hB
    rw [ht] at hPx
    have hO1 := PO_kept hO C1.2.2.2.2.2 hk
    refine vx_catch (own := RL) (name := "java/util/NoSuchElementException") F.2.2.2.1 [] ⟨0, 10, 13, 13⟩ [] hex (fun _ h => nomatch h) rfl (by decide) (F.2.2.2.2 _ (bw_t 853 (by decide +kernel) rfl)) (dc_use rfl (C1.2.2.2.1 _ (List.mem_of_getElem? (i := 860) (by decide +kernel)) rfl)) hc1 hc2 hc3 ?_
    refine lv_astore (lv' := [(4, .ref q9), (0, .ref (oA Z 0)), (1, .int p1), (2, .int p2), (3, .ref o)]) F.1 F.2.1 dL_log_13 hl (by decide) rfl (fun ls hl => ?_)
    refine lv_iconst (v := 1) F.1 F.2.1 dL_log_15 (by decide) ?_
    exact W.iret (v := 1) F.1 F.2.1 hr (fun t ht _ => ⟨⟨1, f, rfl, Or.inl ⟨hpx, rfl, rfl⟩, by subst ht; exact ⟨hPx, hO1⟩⟩, hS1.F ht⟩) hS1.2.2 dL_log_16 (hlocks := hlk)
  · subst ht
    have hO1 := PO_kept hO C1.2.2.2.2.2 hk
    refine lv_i2l (v := r.toInt64) F.1 F.2.1 dL_log_8 rfl ?_
    refine va_last F.1 F.2.1 C1.1.2.1 (PXO_cons.mp ⟨hB, hO1⟩) (PXO_D C1.1 C1.2.2.2.2.2) hS1 0 1 rfl rfl (inb_in (by decide)) dL_log_9 (fun H2 locs2 hP2 _ hS2 => ?_)
    refine lv_goto (tgt := 17) F.1 F.2.1 dL_log_10 (by decide) ?_
    refine lv_iconst (v := 0) F.1 F.2.1 dL_log_17 (by decide) ?_
    obtain ⟨hPx, hO2⟩ := PXO_cons.mpr hP2
    exact W.iret (v := 0) F.1 F.2.1 hr (fun t ht _ => ⟨⟨0, vp_updL f 0 r.toInt64, rfl, Or.inr ⟨r, hp, rfl, rfl⟩, by subst ht; exact ⟨hPx, hO2⟩⟩, hS2.F ht⟩) hS2.2.2 dL_log_18 (hlocks := hlk)

set_option maxRecDepth 100000 in
set_option maxHeartbeats 4000000 in
theorem kL_row {l : Launch} (hlt : l.stackTraces = false) {Z : ZC} {o : Nat} {f : Nat → Int64} {HS : Nat → Nat → Nat → Int32} {zkb : Int32} {zdr : Int32} {zky : Nat → Int32} {zpn : Int32} {zps : Int32} {ztz : Int32} {ztn : Nat → Int64} {zxz : Int32} {zxa : Int32} {zsg : Nat → Int32} {za0 : Int32} {za1 : Int32} {za2 : Int32} {za3 : Int32} {za4 : Int32} {zfr : Nat → Int32} {zcd : Int32} {zgo : Nat → Int32} {ztd : Int32} {ztv : Int32} {zcl : Nat → Int32} {zca : Nat → Int32} {zwa : Nat → Int32} {zpt : Nat → Int32} {zpf : Nat → Int32} {N : Nat} {p1 : Int32} {r' : Option Int64} (hE : fX11_row ztz ztn p1 = some r') : Met l yL_row (Cond.codeWith yL_row cL_row 4 (some .int) [(0, 8, 11, 13)] :: bigW) (rmx 7 122) (va_Pc [.ref (oA Z 0), .int p1, .ref o] (fun U => (PX Z HS zkb zdr zky zpn zps ztz ztn zxz zxa zsg za0 za1 za2 za3 za4 zfr zcd zgo ztd ztv zcl zca zwa zpt zpf U.heap ∧ PO Z o f U.heap) ∧ KXO Z o U)) (va_Qi (fun (r : Int32) (f' : Nat → Int64) => (r' = none ∧ r = 1 ∧ f' = f) ∨ ∃ v, r' = some v ∧ r = 0 ∧ f' = vp_updL f 0 v) (fun f' t => PX Z HS zkb zdr zky zpn zps ztz ztn zxz zxa zsg za0 za1 za2 za3 za4 zfr zcd zgo ztd ztv zcl zca zwa zpt zpf t.heap ∧ PO Z o f' t.heap) (AO Z o)) 1 6 (AO Z o) := by
  refine va_MetW (cc := cL_row) (maxL := 4) (ret := some .int) (hh := [(0, 8, 11, 13)]) (by decide) rfl ?_
  intro p e s m args below meth c s₁ B hml hv
  obtain ⟨rfl, ⟨hP, hO⟩, C1⟩ := hv
  have C0 := C1.t
  have hts := atoms_spec (ws := Cond.codeWith yL_row cL_row 4 (some .int) [(0, 8, 11, 13)] :: bigW) B.pre
  have hown : s.vm.findClass RL = some m.cls := findClass_of_methodNamed B.named
  have hex : c.exceptionTable.toList = [] ++ (⟨0, 8, 11, 13⟩ : ExceptionTableEntry) :: [] := by
    obtain ⟨m9, meth9, c9, h0, h1, h2, -, -, h7, -⟩ := Cond.codeWith_spec (hts _ List.mem_cons_self)
    cases Option.some.inj (h0.symm.trans B.named)
    cases Option.some.inj (h1.symm.trans B.method)
    cases Option.some.inj (h2.symm.trans (Stand.of_body B).code)
    exact tab_one h7
  have F : CallFix p m c cL_row 4 s [.ref (oA Z 0), .int p1, .ref o].toArray bigW RL := ⟨B.exec, B.bytes, hml, hown, fun w h => hts w (List.mem_cons_of_mem _ h)⟩
  have hr := B.returns
  have hlk := B.notSynchronized
  have hl := lv_entry [.ref (oA Z 0), .int p1, .ref o] (n := 4) (Nat.le_of_ble_eq_true rfl)
  rw [lg_entry_eq]
  generalize (lg_sl [.ref (oA Z 0), .int p1, .ref o] ++ List.replicate (4 - (lg_sl [.ref (oA Z 0), .int p1, .ref o]).length) Slot.unset).toArray = ls at hl ⊢
  have hl : lv_has ls 4 [(0, .ref (oA Z 0)), (1, .int p1), (2, .ref o)] := hl
  have hS : va_S (AO Z o) s.heap s.heap [] := va_S.rf
  refine lv_aload_n F.1 F.2.1 dL_row_0 rfl (lv_at hl 2 rfl) ?_
  refine lv_iconst (v := 0) F.1 F.2.1 dL_row_1 (by decide) ?_
  refine lv_aload_n F.1 F.2.1 dL_row_2 rfl (lv_at hl 0 rfl) ?_
  refine lv_iload_n F.1 F.2.1 dL_row_3 rfl (lv_at hl 1 rfl) ?_
  refine vx_calll (vx_runV (As := [.int p1]) (rest := [.int 0, .ref o]) F (kX11_row hlt hE) (cw_of F lkL_25 rfl rfl ⟨Nat.le_of_ble_eq_true rfl, Nat.le_of_ble_eq_true rfl⟩) ⟨pre_blind (okXT Z), rvo0 C0.1 hP, fun U hU hw => ⟨rfl, by rw [hU]; exact hP, (okXT Z).1 s U [] hw (by rw [hU]; exact va_S.rf) C0⟩⟩ rfl rfl hl.1 rfl (lv_room (Nat.le_of_ble_eq_true rfl)) dL_row_4 ⟨Nat.le_of_ble_eq_true rfl, Nat.le_of_ble_eq_true rfl⟩) hS (fun _ _ h => Or.inl h) (fun _ h => Or.inl h) (fun _ _ h => Or.inl h) (fun E ce q9 u t H1 locs1 ht hvm hpx hB hz hk hS1 hc1 hc2 hc3 => ?_) (fun r u t H1 locs1 ht hvm hp hB hz hk hS1 => ?_)
  · obtain ⟨rfl, hPx⟩ := hB
    rw [ht] at hPx
    have hO1 := PO_kept hO C1.2.2.2.2.2 hk
    refine vx_catch (own := RL) (name := "java/util/NoSuchElementException") F.2.2.2.1 [] ⟨0, 8, 11, 13⟩ [] hex (fun _ h => nomatch h) rfl (by decide) (F.2.2.2.2 _ (bw_t 853 (by decide +kernel) rfl)) (dc_use rfl (C1.2.2.2.1 _ (List.mem_of_getElem? (i := 860) (by decide +kernel)) rfl)) hc1 hc2 hc3 ?_
    refine lv_astore_n (lv' := [(3, .ref q9), (0, .ref (oA Z 0)), (1, .int p1), (2, .ref o)]) F.1 F.2.1 dL_row_11 rfl hl (by decide) rfl (fun ls hl => ?_)
    refine lv_iconst (v := 1) F.1 F.2.1 dL_row_12 (by decide) ?_
    exact W.iret (v := 1) F.1 F.2.1 hr (fun t ht _ => ⟨⟨1, f, rfl, Or.inl ⟨hpx, rfl, rfl⟩, by subst ht; exact ⟨hPx, hO1⟩⟩, hS1.F ht⟩) hS1.2.2 dL_row_13 (hlocks := hlk)
  · subst ht
    have hO1 := PO_kept hO C1.2.2.2.2.2 hk
    refine va_last F.1 F.2.1 C1.1.2.1 (PXO_cons.mp ⟨hB, hO1⟩) (PXO_D C1.1 C1.2.2.2.2.2) hS1 0 1 rfl rfl (inb_in (by decide)) dL_row_7 (fun H2 locs2 hP2 _ hS2 => ?_)
    refine lv_goto (tgt := 14) F.1 F.2.1 dL_row_8 (by decide) ?_
    refine lv_iconst (v := 0) F.1 F.2.1 dL_row_14 (by decide) ?_
    obtain ⟨hPx, hO2⟩ := PXO_cons.mpr hP2
    exact W.iret (v := 0) F.1 F.2.1 hr (fun t ht _ => ⟨⟨0, vp_updL f 0 r, rfl, Or.inr ⟨r, hp, rfl, rfl⟩, by subst ht; exact ⟨hPx, hO2⟩⟩, hS2.F ht⟩) hS2.2.2 dL_row_15 (hlocks := hlk)
