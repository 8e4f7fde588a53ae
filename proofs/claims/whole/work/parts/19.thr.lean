/-! methods that return or throw -/
def rmx (a b : Nat) : Room := { frames := a, cells := 1, slots := 6, locals := b }
def Qxi (A : Nat → Prop) (P1 : Heap → Prop) (r : Option Int32) : Array Value → State → Outcome → State → Prop := va_Qi (fun (r' : Int32) (_ : Unit) => r = some r') (fun _ t => P1 t.heap) A
def Qxl (A : Nat → Prop) (P1 : Heap → Prop) (r : Option Int64) : Array Value → State → Outcome → State → Prop := va_Ql (fun (r' : Int64) (_ : Unit) => r = some r') (fun _ t => P1 t.heap) A
def XCx {α : Type} (A : Nat → Prop) (P1 : Heap → Prop) (r : Option α) : String → State → State → Prop := vx_X (fun (_ : Unit) => r = none) (fun E _ t => E = "java/util/NoSuchElementException" ∧ P1 t.heap) A
def isDC : Cond → Bool
  | .castable _ _ => true
  | .declares _ => true
  | _ => false
theorem dc_warm {w : Cond} (h : isDC w = true) {s U : State} (hW : s.WarmedH U.vm) (hz : va_Nw w s) : va_Nw w U := by
  cases w <;> first | exact va_Nw.warmC hW hz | exact va_Nw.warmD hW hz | cases h
theorem dc_same {w : Cond} (h : isDC w = true) {s U : State} (hv : s.vm = U.vm) (hz : va_Nw w s) : va_Nw w U := by
  cases w <;> first | exact va_Nw.same rfl hv hz | cases h
theorem dc_use {w : Cond} (h : isDC w = true) {args : Array Value} {s : State} (hz : va_Nw w s) : w.before args s = true := by
  cases w <;> first | exact va_Nw.use rfl hz | cases h
def DCW (s : State) : Prop := ∀ w ∈ tables_1, isDC w = true → va_Nw w s
def KXT (Z : ZC) (s : State) : Prop := KX Z s ∧ vx_Zq Bundle.tN "UNASSIGNED_STACK" Bundle.steD (AX Z) s s.heap ∧ vx_Zq Bundle.tN "SUPPRESSED_SENTINEL" Bundle.listD (AX Z) s s.heap ∧ DCW s ∧
  (∃ a, vk_R "CountedHeap" 161 "no such object" a s) ∧ (∃ a, vk_R "CountedHeap" 192 "no such number of an object" a s) ∧ (∃ a, vk_R "CountedHeap" 198 "no such field" a s) ∧ (∃ a, vk_R "CountedHeap" 203 "no such root" a s) ∧ (∃ a, vk_R "CountedHeap" 289 "no such row of the log" a s) ∧ (∃ a, vk_R "CountedHeap" 337 "no such number of the row" a s)
theorem vkR_warm {own tx : String} {k : Nat} {s U : State} (hW : s.WarmedH U.vm) (h : ∃ a, vk_R own k tx a s) : ∃ a, vk_R own k tx a U := h.elim fun a h => ⟨a, vk_R.warm hW h⟩
theorem vkR_same {own tx : String} {k : Nat} {s U : State} (hv : U.vm = s.vm) (h : ∃ a, vk_R own k tx a s) : ∃ a, vk_R own k tx a U := h.elim fun a h => ⟨a, vk_R.same hv h⟩
theorem okXT (Z : ZC) : Kok (AX Z) (KXT Z) := by
  refine ⟨fun s U locs hW hS h => ?_, fun U g mk a h => ?_⟩
  · have hq : ∀ a : Nat, a < s.heap.size → ¬ AX Z a → U.heap[a]? = s.heap[a]? := hS.2.1
    obtain ⟨h0, h1, h2, h3, h4, h5, h6, h7, h8, h9⟩ := h
    exact ⟨(okX Z).1 s U locs hW hS h0, vx_Zq.kept (vx_Zq.moved hW.alike h1) hq, vx_Zq.kept (vx_Zq.moved hW.alike h2) hq, fun w hw hd => dc_warm hd hW (h3 w hw hd), vkR_warm hW h4, vkR_warm hW h5, vkR_warm hW h6, vkR_warm hW h7, vkR_warm hW h8, vkR_warm hW h9⟩
  · obtain ⟨h0, h1, h2, h3, h4, h5, h6, h7, h8, h9⟩ := h
    have hv : (U.calling g mk a).vm = U.vm := rfl
    exact ⟨(okX Z).2 U g mk a h0, vx_Zq.moved (u := U) (U := U.calling g mk a) (Vm.Alike.refl U.vm) h1, vx_Zq.moved (u := U) (U := U.calling g mk a) (Vm.Alike.refl U.vm) h2, fun w hw hd => dc_same (s := U) (U := U.calling g mk a) hd rfl (h3 w hw hd), vkR_same hv h4, vkR_same hv h5, vkR_same hv h6, vkR_same hv h7, vkR_same hv h8, vkR_same hv h9⟩
theorem thr_cl : Cond.classLink RX11 159 "java/util/NoSuchElementException" ∈ bigW := bw_t 858 (by decide +kernel) rfl
theorem thr_in : Cond.initialized "java/util/NoSuchElementException" ∈ bigW := bw_t 21 (by decide +kernel) rfl
theorem thr_good : ∀ w ∈ Cond.classLink RX11 159 "java/util/NoSuchElementException" :: Cond.initialized "java/util/NoSuchElementException" :: nseAt RX11 163, vx_ot w = true := by decide +kernel
theorem thr_bad : ∀ w ∈ nseAt RX11 163, goodWord w = false → isDC w = true := by decide +kernel
theorem thr_tab2 : ∀ w ∈ nseAt RX11 163, isDC w = true → w ∈ tables_1 := by decide +kernel
theorem thr_tab : ∀ w ∈ nseAt RX11 163, w ∈ lw_tbl := by decide +kernel
section THR
variable {p : Program} {l : Launch} {e : Env} {R : Room} {s : State} {m : MethodId} {args : Array Value} {below : List Frame} {meth : Method} {c : Code} {H : Heap} {locs : List Loc} {cells slots : Nat}
theorem thr_at {Z : ZC} {cc : ByteArray} {nL : Nat} {own : String} {w : Cond} (F : CallFix p m c cc nL s args bigW own) (C0 : KXT Z s) (hw : w ∈ nseAt RX11 163) : w.before args s = true := by
  cases hg : goodWord w with
  | true => exact F.2.2.2.2 w (bw_in (thr_tab w hw) hg)
  | false => exact dc_use (thr_bad w hw hg) (C0.2.2.2.1 w (thr_tab2 w hw (thr_bad w hw hg)) (thr_bad w hw hg))
theorem thr_F {A : Nat → Prop} {t : State} (hS : va_S A s.heap H locs) (hz : H.size ≤ t.heap.size) (hk : ∀ q : Nat, q < H.size → t.heap[q]? = H[q]?) : va_F A s t := ⟨Nat.le_trans hS.1 hz, fun q h1 h2 => (hk q (Nat.lt_of_lt_of_le h1 hS.1)).trans (hS.2.1 q h1 h2)⟩
theorem rx_i {cc : ByteArray} {nL pc : Nat} {own : String} {A : Nat → Prop} {P1 : Heap → Prop} {ls : Array Slot} {r : Int32} (F : CallFix p m c cc nL s args bigW own) (hr : meth.sig.returnType = some .int) (hlk : meth.locks = false) (hP : P1 H) (hS : va_S A s.heap H locs) (hdg : decode cc pc = .ok (.ireturn, 1)) :
    W p l e R s m args below meth c H locs cells slots (MQ below (Qxi A P1 (some r)) args s cells slots A) (F0 m pc ls [.int r]) :=
  W.iret F.1 F.2.1 hr (fun t ht _ => ⟨⟨r, (), rfl, rfl, by subst ht; exact hP⟩, hS.F ht⟩) hS.2.2 hdg (hlocks := hlk)
theorem rx_l {cc : ByteArray} {nL pc : Nat} {own : String} {A : Nat → Prop} {P1 : Heap → Prop} {ls : Array Slot} {r : Int64} (F : CallFix p m c cc nL s args bigW own) (hr : meth.sig.returnType = some .long) (hlk : meth.locks = false) (hP : P1 H) (hS : va_S A s.heap H locs) (hdg : decode cc pc = .ok (.lreturn, 1)) :
    W p l e R s m args below meth c H locs cells slots (MQ below (Qxl A P1 (some r)) args s cells slots A) (F0 m pc ls [.long r]) :=
  W.lret F.1 F.2.1 hr (fun t ht _ => ⟨⟨r, (), rfl, rfl, by subst ht; exact hP⟩, hS.F ht⟩) hS.2.2 hdg (hlocks := hlk)
theorem vx_start {y : MethodName} {cc : ByteArray} {n : Nat} {ret : Option FieldType} {a b : Nat} {K : State → Prop} {A : Nat → Prop} {av : List Value} {P0 : Heap → Prop} {Qc : Array Value → State → Outcome → State → Prop} {XC : String → State → State → Prop} {own : String} {lv : List (Nat × Value)}
    (hy : plainName y.cls = true) (ho : y.cls = own) (hn : (lg_sl av).length ≤ n) (hlv : lv_args 0 av = lv)
    (body : ∀ (p : Program) (e : Env) (s : State) (m : MethodId) (below : List Frame) (meth : Method) (c : Code), CallFix p m c cc n s av.toArray bigW own → (∀ x ∈ c.exceptionTable.toList, False) → meth.sig.returnType = ret → meth.locks = false → K s → P0 s.heap → ∀ ls : Array Slot, lv_has ls n lv →
      W p l e (rmx a b) s m av.toArray below meth c s.heap [] 0 0 (vx_MQ below Qc XC av.toArray s 1 6 A) (F0 m 0 ls [])) : vx_Met l y (Cond.code y cc n ret :: bigW) (rmx a b) (va_Pc av (fun U => P0 U.heap ∧ K U)) Qc XC 1 6 A := by
  refine vx_ofW (cc := cc) (maxL := n) (ret := ret) hy rfl ?_
  intro p e s m args below meth c s₁ B hml hex hv
  obtain ⟨rfl, hP, hK⟩ := hv
  have hts := atoms_spec (ws := Cond.code y cc n ret :: bigW) B.pre
  have hown : s.vm.findClass own = some m.cls := by rw [← ho]; exact findClass_of_methodNamed B.named
  have hl := lv_entry av hn
  rw [lg_entry_eq]
  rw [hlv] at hl
  exact body p e s m below meth c ⟨B.exec, B.bytes, hml, hown, fun w h => hts w (List.mem_cons_of_mem _ h)⟩ hex B.returns B.notSynchronized hK hP _ hl
end THR
theorem PX_kept {Z : ZC} {HS : Nat → Nat → Nat → Int32} {zkb : Int32} {zdr : Int32} {zky : Nat → Int32} {zpn : Int32} {zps : Int32} {ztz : Int32} {ztn : Nat → Int64} {zxz : Int32} {zxa : Int32} {zsg : Nat → Int32} {za0 : Int32} {za1 : Int32} {za2 : Int32} {za3 : Int32} {za4 : Int32} {zfr : Nat → Int32} {zcd : Int32} {zgo : Nat → Int32} {ztd : Int32} {ztv : Int32} {zcl : Nat → Int32} {zca : Nat → Int32} {zwa : Nat → Int32} {zpt : Nat → Int32} {zpf : Nat → Int32} {H H1 : Heap} (hP : PX Z HS zkb zdr zky zpn zps ztz ztn zxz zxa zsg za0 za1 za2 za3 za4 zfr zcd zgo ztd ztv zcl zca zwa zpt zpf H) (hz : H.size ≤ H1.size) (hk : ∀ q : Nat, q < H.size → H1[q]? = H[q]?) : PX Z HS zkb zdr zky zpn zps ztz ztn zxz zxa zsg za0 za1 za2 za3 za4 zfr zcd zgo ztd ztv zcl zca zwa zpt zpf H1 := va_P.kept hP (fun k q h => hk _ (hP k q h).lt)
def fX11_object (N : Nat) (HS : Nat → Nat → Nat → Int32) (p1 : Int32) (p2 : Int32) : Option (Option Int32) :=
  bnd1 (fX3_has (HS 0) p1) fun r768 =>
  if r768 = 0 then
    some none
  else
    if p2 = 0 then
      grd (inb p1 24) <|
      some (some ((HS 0) 4 p1.toNatClampNeg))
    else
    if p2 = 1 then
      grd (inb p1 24) <|
      some (some ((HS 0) 1 p1.toNatClampNeg))
    else
    if p2 = 2 then
      grd (inb p1 24) <|
      some (some ((HS 0) 2 p1.toNatClampNeg))
    else
    if p2 = 3 then
      grd (inb p1 24) <|
      some (some ((HS 0) 3 p1.toNatClampNeg))
    else
    if p2 = 4 then
      bnd1 (fX11_bit ((HS 0) 0 1) p1) fun r769 =>
      some (some r769)
    else
    if p2 = 5 then
      bnd1 (fX6_state (HS 0) p1) fun r770 =>
      some (some r770)
    else
    if p2 = 6 then
      bnd1 (fX10_reached N (HS 0)) fun r771 =>
      bnd1 (fX11_bit r771 p1) fun r772 =>
      some (some r772)
    else
      some none
def fX11_field (HS : Nat → Nat → Nat → Int32) (p1 : Int32) (p2 : Int32) : Option (Option Int32) :=
  bnd1 (fX3_hasField (HS 0) p1 p2) fun r775 =>
  if r775 = 0 then
    some none
  else
    bnd1 (fX3_fieldAt (HS 0) p1 p2) fun r776 =>
    some (some r776)
def fX11_root_10 (HS : Nat → Nat → Nat → Int32) (p1 : Int32) : Option (Option Int32) :=
  some none
def fX11_root (HS : Nat → Nat → Nat → Int32) (p1 : Int32) : Option (Option Int32) :=
  if p1 < 0 then
    fX11_root_10 HS p1
  else
    if p1 < 10 then
      if 6 ≤ p1 then
        bnd1 (fX3_weakAt (HS 0) (p1 - 6)) fun r779 =>
        some (some r779)
      else
        bnd1 (fX3_rootAt (HS 0) p1) fun r780 =>
        some (some r780)
    else
      fX11_root_10 HS p1
def fX11_log_23 (HS : Nat → Nat → Nat → Int32) (p1 : Int32) (p2 : Int32) : Option (Option Int32) :=
  some none
def fX11_log (HS : Nat → Nat → Nat → Int32) (p1 : Int32) (p2 : Int32) : Option (Option Int32) :=
  bnd1 (fX4_has (HS 0) p1) fun r784 =>
  if r784 = 0 then
    fX11_log_23 HS p1 p2
  else
    if p2 < 0 then
      fX11_log_23 HS p1 p2
    else
      if p2 ≤ 1 then
        if p2 = 0 then
          bnd1 (fX4_kindAt (HS 0) p1) fun r786 =>
          some (some r786)
        else
          bnd1 (fX4_objectAt (HS 0) p1) fun r785 =>
          some (some r785)
      else
        fX11_log_23 HS p1 p2
def fX11_row_15 (ztz : Int32) (ztn : Nat → Int64) (p1 : Int32) : Option (Option Int64) :=
  some none
def fX11_row (ztz : Int32) (ztn : Nat → Int64) (p1 : Int32) : Option (Option Int64) :=
  if p1 < 0 then
    fX11_row_15 ztz ztn p1
  else
    if p1 < ztz then
      grd (inb p1 24) <|
      some (some (ztn p1.toNatClampNeg))
    else
      fX11_row_15 ztz ztn p1
set_option maxRecDepth 100000 in
set_option maxHeartbeats 4000000 in
theorem kX11_object {l : Launch} (hlt : l.stackTraces = false) {Z : ZC} {HS : Nat → Nat → Nat → Int32} {zkb : Int32} {zdr : Int32} {zky : Nat → Int32} {zpn : Int32} {zps : Int32} {ztz : Int32} {ztn : Nat → Int64} {zxz : Int32} {zxa : Int32} {zsg : Nat → Int32} {za0 : Int32} {za1 : Int32} {za2 : Int32} {za3 : Int32} {za4 : Int32} {zfr : Nat → Int32} {zcd : Int32} {zgo : Nat → Int32} {ztd : Int32} {ztv : Int32} {zcl : Nat → Int32} {zca : Nat → Int32} {zwa : Nat → Int32} {zpt : Nat → Int32} {zpf : Nat → Int32} {N : Nat} {p1 : Int32} {p2 : Int32} {r' : Option Int32} (hE : fX11_object N HS p1 p2 = some r') : vx_Met l yX11_object (Cond.code yX11_object cX11_object 3 (some .int) :: bigW) (rmx 6 100) (va_Pc [.ref (oA Z 0), .int p1, .int p2] (fun U => (PX Z HS zkb zdr zky zpn zps ztz ztn zxz zxa zsg za0 za1 za2 za3 za4 zfr zcd zgo ztd ztv zcl zca zwa zpt zpf) U.heap ∧ KXT Z U)) (Qxi (AX Z) (PX Z HS zkb zdr zky zpn zps ztz ztn zxz zxa zsg za0 za1 za2 za3 za4 zfr zcd zgo ztd ztv zcl zca zwa zpt zpf) r') (XCx (AX Z) (PX Z HS zkb zdr zky zpn zps ztz ztn zxz zxa zsg za0 za1 za2 za3 za4 zfr zcd zgo ztd ztv zcl zca zwa zpt zpf) r') 1 6 (AX Z) := by
  refine vx_start (lv := [(0, .ref (oA Z 0)), (1, .int p1), (2, .int p2)]) (by decide) rfl (Nat.le_of_ble_eq_true rfl) rfl ?_
  intro p e s m below meth c F hex hr hlk C0 hP ls hl
  have C := C0.1
  have hS : va_S (AX Z) s.heap s.heap [] := va_S.rf
  unfold fX11_object at hE
  refine lv_aload_n F.1 F.2.1 dX11_object_0 rfl (lv_at hl 0 rfl) ?_
  refine gX11_10 F C hP dX11_object_1 ?_
  refine lv_iload_n F.1 F.2.1 dX11_object_4 rfl (lv_at hl 1 rfl) ?_
  obtain ⟨r768, hc, hE⟩ := bnd1_some hE
  refine aft_i (run_N (rest := []) F (kX3_has (by decide) rfl hc) (okX Z) C hS (C.2.2 _ _ mlX11_156 rfl) lkX11_156 ⟨Nat.le_of_ble_eq_true rfl, Nat.le_of_ble_eq_true rfl⟩ (rvh0 C hP (by decide)) hP rfl hl.1 rfl (lv_room (Nat.le_of_ble_eq_true rfl)) dX11_object_5 ⟨Nat.zero_le _, Nat.zero_le _⟩) hS (fun H locs hP hS => ?_)
  refine lv_if_ne (tgt := 21) F.1 F.2.1 dX11_object_8 (by decide) (fun hc => ?_) (fun hc => ?_)
  · have hE := ifn hE hc
    refine lv_iload_n F.1 F.2.1 dX11_object_21 rfl (lv_at hl 2 rfl) ?_
    by_cases hc0 : p2 = 0
    · have hE := ifp hE hc0
      refine lv_tableIn (tgt := 64) (off := 42) F.1 F.2.1 dX11_object_22 (by rw [hc0]; decide) (by rw [hc0]; decide) (by rw [hc0]; rfl) (by decide) ?_
      refine lv_aload_n F.1 F.2.1 dX11_object_64 rfl (lv_at hl 0 rfl) ?_
      refine gX11_10 F C hP dX11_object_65 ?_
      refine gX11_166 F C hP (by decide) rfl dX11_object_68 ?_
      refine lv_iload_n F.1 F.2.1 dX11_object_71 rfl (lv_at hl 1 rfl) ?_
      obtain ⟨hi, hE⟩ := grd_some hE
      refine ah4 F C hP (by decide) rfl hi dX11_object_72 ?_
      obtain rfl := Option.some.inj hE
      exact vx_ret (W.widen (k := 1) (n := 6) (Nat.zero_le _) (Nat.zero_le _) (rx_i F hr hlk hP hS dX11_object_73))
    have hE := ifn hE hc0
    by_cases hc1 : p2 = 1
    · have hE := ifp hE hc1
      refine lv_tableIn (tgt := 74) (off := 52) F.1 F.2.1 dX11_object_22 (by rw [hc1]; decide) (by rw [hc1]; decide) (by rw [hc1]; rfl) (by decide) ?_
      refine lv_aload_n F.1 F.2.1 dX11_object_74 rfl (lv_at hl 0 rfl) ?_
      refine gX11_10 F C hP dX11_object_75 ?_
      refine gX11_169 F C hP (by decide) rfl dX11_object_78 ?_
      refine lv_iload_n F.1 F.2.1 dX11_object_81 rfl (lv_at hl 1 rfl) ?_
      obtain ⟨hi, hE⟩ := grd_some hE
      refine ah1 F C hP (by decide) rfl hi dX11_object_82 ?_
      obtain rfl := Option.some.inj hE
      exact vx_ret (W.widen (k := 1) (n := 6) (Nat.zero_le _) (Nat.zero_le _) (rx_i F hr hlk hP hS dX11_object_83))
    have hE := ifn hE hc1
    by_cases hc2 : p2 = 2
    · have hE := ifp hE hc2
      refine lv_tableIn (tgt := 84) (off := 62) F.1 F.2.1 dX11_object_22 (by rw [hc2]; decide) (by rw [hc2]; decide) (by rw [hc2]; rfl) (by decide) ?_
      refine lv_aload_n F.1 F.2.1 dX11_object_84 rfl (lv_at hl 0 rfl) ?_
      refine gX11_10 F C hP dX11_object_85 ?_
      refine gX11_172 F C hP (by decide) rfl dX11_object_88 ?_
      refine lv_iload_n F.1 F.2.1 dX11_object_91 rfl (lv_at hl 1 rfl) ?_
      obtain ⟨hi, hE⟩ := grd_some hE
      refine ah2 F C hP (by decide) rfl hi dX11_object_92 ?_
      obtain rfl := Option.some.inj hE
      exact vx_ret (W.widen (k := 1) (n := 6) (Nat.zero_le _) (Nat.zero_le _) (rx_i F hr hlk hP hS dX11_object_93))
    have hE := ifn hE hc2
    by_cases hc3 : p2 = 3
    · have hE := ifp hE hc3
      refine lv_tableIn (tgt := 94) (off := 72) F.1 F.2.1 dX11_object_22 (by rw [hc3]; decide) (by rw [hc3]; decide) (by rw [hc3]; rfl) (by decide) ?_
      refine lv_aload_n F.1 F.2.1 dX11_object_94 rfl (lv_at hl 0 rfl) ?_
      refine gX11_10 F C hP dX11_object_95 ?_
      refine gX11_175 F C hP (by decide) rfl dX11_object_98 ?_
      refine lv_iload_n F.1 F.2.1 dX11_object_101 rfl (lv_at hl 1 rfl) ?_
      obtain ⟨hi, hE⟩ := grd_some hE
      refine ah3 F C hP (by decide) rfl hi dX11_object_102 ?_
      obtain rfl := Option.some.inj hE
      exact vx_ret (W.widen (k := 1) (n := 6) (Nat.zero_le _) (Nat.zero_le _) (rx_i F hr hlk hP hS dX11_object_103))
    have hE := ifn hE hc3
    by_cases hc4 : p2 = 4
    · have hE := ifp hE hc4
      refine lv_tableIn (tgt := 104) (off := 82) F.1 F.2.1 dX11_object_22 (by rw [hc4]; decide) (by rw [hc4]; decide) (by rw [hc4]; rfl) (by decide) ?_
      refine lv_aload_n F.1 F.2.1 dX11_object_104 rfl (lv_at hl 0 rfl) ?_
      refine gX11_10 F C hP dX11_object_105 ?_
      refine gX11_178 F C hP (by decide) rfl dX11_object_108 ?_
      refine lv_iload_n F.1 F.2.1 dX11_object_111 rfl (lv_at hl 1 rfl) ?_
      obtain ⟨r769, hc, hE⟩ := bnd1_some hE
      refine aft_i (run_S (rest := []) F (kX11_bit hc) (okX Z) C hS lkX11_181 ⟨Nat.le_of_ble_eq_true rfl, Nat.le_of_ble_eq_true rfl⟩ hP rfl hl.1 rfl (lv_room (Nat.le_of_ble_eq_true rfl)) dX11_object_112 ⟨Nat.zero_le _, Nat.zero_le _⟩) hS (fun H locs hP hS => ?_)
      obtain rfl := Option.some.inj hE
      exact vx_ret (W.widen (k := 1) (n := 6) (Nat.zero_le _) (Nat.zero_le _) (rx_i F hr hlk hP hS dX11_object_115))
    have hE := ifn hE hc4
    by_cases hc5 : p2 = 5
    · have hE := ifp hE hc5
      refine lv_tableIn (tgt := 116) (off := 94) F.1 F.2.1 dX11_object_22 (by rw [hc5]; decide) (by rw [hc5]; decide) (by rw [hc5]; rfl) (by decide) ?_
      refine lv_aload_n F.1 F.2.1 dX11_object_116 rfl (lv_at hl 0 rfl) ?_
      refine gX11_10 F C hP dX11_object_117 ?_
      refine gX11_149 F C hP (by decide) rfl dX11_object_120 ?_
      refine lv_iload_n F.1 F.2.1 dX11_object_123 rfl (lv_at hl 1 rfl) ?_
      obtain ⟨r770, hc, hE⟩ := bnd1_some hE
      refine aft_i (run_N (rest := []) F (kX6_state (by decide) rfl hc) (okX Z) C hS (C.2.2 _ _ mlX11_185 rfl) lkX11_185 ⟨Nat.le_of_ble_eq_true rfl, Nat.le_of_ble_eq_true rfl⟩ (rvh8 C hP (by decide)) hP rfl hl.1 rfl (lv_room (Nat.le_of_ble_eq_true rfl)) dX11_object_124 ⟨Nat.zero_le _, Nat.zero_le _⟩) hS (fun H locs hP hS => ?_)
      obtain rfl := Option.some.inj hE
      exact vx_ret (W.widen (k := 1) (n := 6) (Nat.zero_le _) (Nat.zero_le _) (rx_i F hr hlk hP hS dX11_object_127))
    have hE := ifn hE hc5
    by_cases hc6 : p2 = 6
    · have hE := ifp hE hc6
      refine lv_tableIn (tgt := 128) (off := 106) F.1 F.2.1 dX11_object_22 (by rw [hc6]; decide) (by rw [hc6]; decide) (by rw [hc6]; rfl) (by decide) ?_
      refine lv_aload_n F.1 F.2.1 dX11_object_128 rfl (lv_at hl 0 rfl) ?_
      refine gX11_54 F C hP dX11_object_129 ?_
      refine lv_aload_n F.1 F.2.1 dX11_object_132 rfl (lv_at hl 0 rfl) ?_
      refine gX11_10 F C hP dX11_object_133 ?_
      obtain ⟨r771, hc, hE⟩ := bnd1_some hE
      refine aft_i (run_N (rest := []) F (kX10_reached (by decide) rfl hc) (okX Z) C hS (C.2.2 _ _ mlX11_188 rfl) lkX11_188 ⟨Nat.le_of_ble_eq_true rfl, Nat.le_of_ble_eq_true rfl⟩ (rvo9 C hP) hP rfl hl.1 rfl (lv_room (Nat.le_of_ble_eq_true rfl)) dX11_object_136 ⟨Nat.zero_le _, Nat.zero_le _⟩) hS (fun H locs hP hS => ?_)
      refine lv_iload_n F.1 F.2.1 dX11_object_139 rfl (lv_at hl 1 rfl) ?_
      obtain ⟨r772, hc, hE⟩ := bnd1_some hE
      refine aft_i (run_S (rest := []) F (kX11_bit hc) (okX Z) C hS lkX11_181 ⟨Nat.le_of_ble_eq_true rfl, Nat.le_of_ble_eq_true rfl⟩ hP rfl hl.1 rfl (lv_room (Nat.le_of_ble_eq_true rfl)) dX11_object_140 ⟨Nat.zero_le _, Nat.zero_le _⟩) hS (fun H locs hP hS => ?_)
      obtain rfl := Option.some.inj hE
      exact vx_ret (W.widen (k := 1) (n := 6) (Nat.zero_le _) (Nat.zero_le _) (rx_i F hr hlk hP hS dX11_object_143))
    have hE := ifn hE hc6
    refine lv_tableOut (tgt := 144) F.1 F.2.1 dX11_object_22 (by have g0 : ¬ (p2).toInt = 0 := sw_ne hc0; have g1 : ¬ (p2).toInt = 1 := sw_ne hc1; have g2 : ¬ (p2).toInt = 2 := sw_ne hc2; have g3 : ¬ (p2).toInt = 3 := sw_ne hc3; have g4 : ¬ (p2).toInt = 4 := sw_ne hc4; have g5 : ¬ (p2).toInt = 5 := sw_ne hc5; have g6 : ¬ (p2).toInt = 6 := sw_ne hc6; omega) (by decide) ?_
    obtain rfl := Option.some.inj hE
    obtain ⟨sa, hsa⟩ := C0.2.2.2.2.2.1
    exact nse_throwS F.1 F.2.1 hlt F.2.2.2.1 (F.2.2.2.2 _ thr_cl) (F.2.2.2.2 _ thr_in) hsa (fun w hw => thr_at F C0 hw) thr_good C0.2.1 C0.2.2.1 hS (hl.1.trans F.2.2.1.symm) dX11_object_144 dX11_object_147 dX11_object_148 dX11_object_150 dX11_object_153 (fun x h => absurd h (hex x)) (by decide) (by decide) (by decide) (by decide) hlk (fun t ht hz hk => ⟨(), rfl, ⟨rfl, PX_kept hP hz hk⟩, thr_F hS hz hk⟩) hS.2.2 (by decide) (by decide)
  · have hE := ifp hE hc
    obtain rfl := Option.some.inj hE
    obtain ⟨sa, hsa⟩ := C0.2.2.2.2.1
    exact nse_throwS F.1 F.2.1 hlt F.2.2.2.1 (F.2.2.2.2 _ thr_cl) (F.2.2.2.2 _ thr_in) hsa (fun w hw => thr_at F C0 hw) thr_good C0.2.1 C0.2.2.1 hS (hl.1.trans F.2.2.1.symm) dX11_object_11 dX11_object_14 dX11_object_15 dX11_object_17 dX11_object_20 (fun x h => absurd h (hex x)) (by decide) (by decide) (by decide) (by decide) hlk (fun t ht hz hk => ⟨(), rfl, ⟨rfl, PX_kept hP hz hk⟩, thr_F hS hz hk⟩) hS.2.2 (by decide) (by decide)
set_option maxRecDepth 100000 in
set_option maxHeartbeats 4000000 in
theorem kX11_field {l : Launch} (hlt : l.stackTraces = false) {Z : ZC} {HS : Nat → Nat → Nat → Int32} {zkb : Int32} {zdr : Int32} {zky : Nat → Int32} {zpn : Int32} {zps : Int32} {ztz : Int32} {ztn : Nat → Int64} {zxz : Int32} {zxa : Int32} {zsg : Nat → Int32} {za0 : Int32} {za1 : Int32} {za2 : Int32} {za3 : Int32} {za4 : Int32} {zfr : Nat → Int32} {zcd : Int32} {zgo : Nat → Int32} {ztd : Int32} {ztv : Int32} {zcl : Nat → Int32} {zca : Nat → Int32} {zwa : Nat → Int32} {zpt : Nat → Int32} {zpf : Nat → Int32} {p1 : Int32} {p2 : Int32} {r' : Option Int32} (hE : fX11_field HS p1 p2 = some r') : vx_Met l yX11_field (Cond.code yX11_field cX11_field 3 (some .int) :: bigW) (rmx 6 100) (va_Pc [.ref (oA Z 0), .int p1, .int p2] (fun U => (PX Z HS zkb zdr zky zpn zps ztz ztn zxz zxa zsg za0 za1 za2 za3 za4 zfr zcd zgo ztd ztv zcl zca zwa zpt zpf) U.heap ∧ KXT Z U)) (Qxi (AX Z) (PX Z HS zkb zdr zky zpn zps ztz ztn zxz zxa zsg za0 za1 za2 za3 za4 zfr zcd zgo ztd ztv zcl zca zwa zpt zpf) r') (XCx (AX Z) (PX Z HS zkb zdr zky zpn zps ztz ztn zxz zxa zsg za0 za1 za2 za3 za4 zfr zcd zgo ztd ztv zcl zca zwa zpt zpf) r') 1 6 (AX Z) := by
  refine vx_start (lv := [(0, .ref (oA Z 0)), (1, .int p1), (2, .int p2)]) (by decide) rfl (Nat.le_of_ble_eq_true rfl) rfl ?_
  intro p e s m below meth c F hex hr hlk C0 hP ls hl
  have C := C0.1
  have hS : va_S (AX Z) s.heap s.heap [] := va_S.rf
  unfold fX11_field at hE
  refine lv_aload_n F.1 F.2.1 dX11_field_0 rfl (lv_at hl 0 rfl) ?_
  refine gX11_10 F C hP dX11_field_1 ?_
  refine lv_iload_n F.1 F.2.1 dX11_field_4 rfl (lv_at hl 1 rfl) ?_
  refine lv_iload_n F.1 F.2.1 dX11_field_5 rfl (lv_at hl 2 rfl) ?_
  obtain ⟨r775, hc, hE⟩ := bnd1_some hE
  refine aft_i (run_N (rest := []) F (kX3_hasField (by decide) rfl hc) (okX Z) C hS (C.2.2 _ _ mlX11_194 rfl) lkX11_194 ⟨Nat.le_of_ble_eq_true rfl, Nat.le_of_ble_eq_true rfl⟩ (rvh0 C hP (by decide)) hP rfl hl.1 rfl (lv_room (Nat.le_of_ble_eq_true rfl)) dX11_field_6 ⟨Nat.zero_le _, Nat.zero_le _⟩) hS (fun H locs hP hS => ?_)
  refine lv_if_ne (tgt := 22) F.1 F.2.1 dX11_field_9 (by decide) (fun hc => ?_) (fun hc => ?_)
  · have hE := ifn hE hc
    refine lv_aload_n F.1 F.2.1 dX11_field_22 rfl (lv_at hl 0 rfl) ?_
    refine gX11_10 F C hP dX11_field_23 ?_
    refine lv_iload_n F.1 F.2.1 dX11_field_26 rfl (lv_at hl 1 rfl) ?_
    refine lv_iload_n F.1 F.2.1 dX11_field_27 rfl (lv_at hl 2 rfl) ?_
    obtain ⟨r776, hc, hE⟩ := bnd1_some hE
    refine aft_i (run_N (rest := []) F (kX3_fieldAt (by decide) rfl hc) (okX Z) C hS (C.2.2 _ _ mlX11_200 rfl) lkX11_200 ⟨Nat.le_of_ble_eq_true rfl, Nat.le_of_ble_eq_true rfl⟩ (rvh0 C hP (by decide)) hP rfl hl.1 rfl (lv_room (Nat.le_of_ble_eq_true rfl)) dX11_field_28 ⟨Nat.zero_le _, Nat.zero_le _⟩) hS (fun H locs hP hS => ?_)
    obtain rfl := Option.some.inj hE
    exact vx_ret (W.widen (k := 1) (n := 6) (Nat.zero_le _) (Nat.zero_le _) (rx_i F hr hlk hP hS dX11_field_31))
  · have hE := ifp hE hc
    obtain rfl := Option.some.inj hE
    obtain ⟨sa, hsa⟩ := C0.2.2.2.2.2.2.1
    exact nse_throwS F.1 F.2.1 hlt F.2.2.2.1 (F.2.2.2.2 _ thr_cl) (F.2.2.2.2 _ thr_in) hsa (fun w hw => thr_at F C0 hw) thr_good C0.2.1 C0.2.2.1 hS (hl.1.trans F.2.2.1.symm) dX11_field_12 dX11_field_15 dX11_field_16 dX11_field_18 dX11_field_21 (fun x h => absurd h (hex x)) (by decide) (by decide) (by decide) (by decide) hlk (fun t ht hz hk => ⟨(), rfl, ⟨rfl, PX_kept hP hz hk⟩, thr_F hS hz hk⟩) hS.2.2 (by decide) (by decide)
set_option maxRecDepth 100000 in
set_option maxHeartbeats 4000000 in
theorem qX11_root_10 {p : Program} {l : Launch} {e : Env} {s : State} {m : MethodId} {args : Array Value} {below : List Frame} {meth : Method} {c : Code} {Z : ZC} {HS : Nat → Nat → Nat → Int32} {zkb : Int32} {zdr : Int32} {zky : Nat → Int32} {zpn : Int32} {zps : Int32} {ztz : Int32} {ztn : Nat → Int64} {zxz : Int32} {zxa : Int32} {zsg : Nat → Int32} {za0 : Int32} {za1 : Int32} {za2 : Int32} {za3 : Int32} {za4 : Int32} {zfr : Nat → Int32} {zcd : Int32} {zgo : Nat → Int32} {ztd : Int32} {ztv : Int32} {zcl : Nat → Int32} {zca : Nat → Int32} {zwa : Nat → Int32} {zpt : Nat → Int32} {zpf : Nat → Int32} {p1 : Int32} {r' : Option Int32} (hlt : l.stackTraces = false) (hex : ∀ x ∈ c.exceptionTable.toList, False) (F : CallFix p m c cX11_root 2 s args bigW RX11) (hr : meth.sig.returnType = (some .int)) (hlk : meth.locks = false) (C0 : KXT Z s) : fX11_root_10 HS p1 = some r' → ∀ (H : Heap) (locs : List Loc), PX Z HS zkb zdr zky zpn zps ztz ztn zxz zxa zsg za0 za1 za2 za3 za4 zfr zcd zgo ztd ztv zcl zca zwa zpt zpf H → va_S (AX Z) s.heap H locs → ∀ ls : Array Slot, lv_has ls 2 [] → W p l e (rmx 6 100) s m args below meth c H locs 0 0 (vx_MQ below (Qxi (AX Z) (PX Z HS zkb zdr zky zpn zps ztz ztn zxz zxa zsg za0 za1 za2 za3 za4 zfr zcd zgo ztd ztv zcl zca zwa zpt zpf) r') (XCx (AX Z) (PX Z HS zkb zdr zky zpn zps ztz ztn zxz zxa zsg za0 za1 za2 za3 za4 zfr zcd zgo ztd ztv zcl zca zwa zpt zpf) r') args s 1 6 (AX Z)) (F0 m 10 ls []) := by
  intro hE H locs hP hS ls hl
  have C := C0.1
  unfold fX11_root_10 at hE
  obtain rfl := Option.some.inj hE
  obtain ⟨sa, hsa⟩ := C0.2.2.2.2.2.2.2.1
  exact nse_throwS F.1 F.2.1 hlt F.2.2.2.1 (F.2.2.2.2 _ thr_cl) (F.2.2.2.2 _ thr_in) hsa (fun w hw => thr_at F C0 hw) thr_good C0.2.1 C0.2.2.1 hS (hl.1.trans F.2.2.1.symm) dX11_root_10 dX11_root_13 dX11_root_14 dX11_root_16 dX11_root_19 (fun x h => absurd h (hex x)) (by decide) (by decide) (by decide) (by decide) hlk (fun t ht hz hk => ⟨(), rfl, ⟨rfl, PX_kept hP hz hk⟩, thr_F hS hz hk⟩) hS.2.2 (by decide) (by decide)
set_option maxRecDepth 100000 in
set_option maxHeartbeats 4000000 in
theorem kX11_root {l : Launch} (hlt : l.stackTraces = false) {Z : ZC} {HS : Nat → Nat → Nat → Int32} {zkb : Int32} {zdr : Int32} {zky : Nat → Int32} {zpn : Int32} {zps : Int32} {ztz : Int32} {ztn : Nat → Int64} {zxz : Int32} {zxa : Int32} {zsg : Nat → Int32} {za0 : Int32} {za1 : Int32} {za2 : Int32} {za3 : Int32} {za4 : Int32} {zfr : Nat → Int32} {zcd : Int32} {zgo : Nat → Int32} {ztd : Int32} {ztv : Int32} {zcl : Nat → Int32} {zca : Nat → Int32} {zwa : Nat → Int32} {zpt : Nat → Int32} {zpf : Nat → Int32} {p1 : Int32} {r' : Option Int32} (hE : fX11_root HS p1 = some r') : vx_Met l yX11_root (Cond.code yX11_root cX11_root 2 (some .int) :: bigW) (rmx 6 100) (va_Pc [.ref (oA Z 0), .int p1] (fun U => (PX Z HS zkb zdr zky zpn zps ztz ztn zxz zxa zsg za0 za1 za2 za3 za4 zfr zcd zgo ztd ztv zcl zca zwa zpt zpf) U.heap ∧ KXT Z U)) (Qxi (AX Z) (PX Z HS zkb zdr zky zpn zps ztz ztn zxz zxa zsg za0 za1 za2 za3 za4 zfr zcd zgo ztd ztv zcl zca zwa zpt zpf) r') (XCx (AX Z) (PX Z HS zkb zdr zky zpn zps ztz ztn zxz zxa zsg za0 za1 za2 za3 za4 zfr zcd zgo ztd ztv zcl zca zwa zpt zpf) r') 1 6 (AX Z) := by
  refine vx_start (lv := [(0, .ref (oA Z 0)), (1, .int p1)]) (by decide) rfl (Nat.le_of_ble_eq_true rfl) rfl ?_
  intro p e s m below meth c F hex hr hlk C0 hP ls hl
  have C := C0.1
  have hS : va_S (AX Z) s.heap s.heap [] := va_S.rf
  unfold fX11_root at hE
  refine lv_iload_n F.1 F.2.1 dX11_root_0 rfl (lv_at hl 1 rfl) ?_
  refine lv_if_lt (tgt := 10) F.1 F.2.1 dX11_root_1 (by decide) (fun hc => ?_) (fun hc => ?_)
  · have hE := ifp hE hc
    exact qX11_root_10 hlt hex F hr hlk C0 hE _ _ hP hS ls (lv_sub hl [] rfl)
  · have hE := ifn hE hc
    refine lv_iload_n F.1 F.2.1 dX11_root_4 rfl (lv_at hl 1 rfl) ?_
    refine lv_bipush (v := 10) F.1 F.2.1 dX11_root_5 (by decide) ?_
    refine lv_icmp_lt (tgt := 20) F.1 F.2.1 dX11_root_7 (by decide) (fun hc => ?_) (fun hc => ?_)
    · have hE := ifp hE hc
      refine lv_iload_n F.1 F.2.1 dX11_root_20 rfl (lv_at hl 1 rfl) ?_
      refine lv_bipush (v := 6) F.1 F.2.1 dX11_root_21 (by decide) ?_
      refine lv_icmp_ge (tgt := 37) F.1 F.2.1 dX11_root_23 (by decide) (fun hc => ?_) (fun hc => ?_)
      · have hE := ifp hE hc
        refine lv_aload_n F.1 F.2.1 dX11_root_37 rfl (lv_at hl 0 rfl) ?_
        refine gX11_10 F C hP dX11_root_38 ?_
        refine lv_iload_n F.1 F.2.1 dX11_root_41 rfl (lv_at hl 1 rfl) ?_
        refine lv_bipush (v := 6) F.1 F.2.1 dX11_root_42 (by decide) ?_
        refine lv_isub F.1 F.2.1 dX11_root_44 ?_
        obtain ⟨r779, hc, hE⟩ := bnd1_some hE
        refine aft_i (run_N (rest := []) F (kX3_weakAt (by decide) rfl hc) (okX Z) C hS (C.2.2 _ _ mlX11_122 rfl) lkX11_122 ⟨Nat.le_of_ble_eq_true rfl, Nat.le_of_ble_eq_true rfl⟩ (rvh0 C hP (by decide)) hP rfl hl.1 rfl (lv_room (Nat.le_of_ble_eq_true rfl)) dX11_root_45 ⟨Nat.zero_le _, Nat.zero_le _⟩) hS (fun H locs hP hS => ?_)
        obtain rfl := Option.some.inj hE
        exact vx_ret (W.widen (k := 1) (n := 6) (Nat.zero_le _) (Nat.zero_le _) (rx_i F hr hlk hP hS dX11_root_48))
      · have hE := ifn hE hc
        refine lv_aload_n F.1 F.2.1 dX11_root_26 rfl (lv_at hl 0 rfl) ?_
        refine gX11_10 F C hP dX11_root_27 ?_
        refine lv_iload_n F.1 F.2.1 dX11_root_30 rfl (lv_at hl 1 rfl) ?_
        obtain ⟨r780, hc, hE⟩ := bnd1_some hE
        refine aft_i (run_N (rest := []) F (kX3_rootAt (by decide) rfl hc) (okX Z) C hS (C.2.2 _ _ mlX11_205 rfl) lkX11_205 ⟨Nat.le_of_ble_eq_true rfl, Nat.le_of_ble_eq_true rfl⟩ (rvh0 C hP (by decide)) hP rfl hl.1 rfl (lv_room (Nat.le_of_ble_eq_true rfl)) dX11_root_31 ⟨Nat.zero_le _, Nat.zero_le _⟩) hS (fun H locs hP hS => ?_)
        refine lv_goto (tgt := 48) F.1 F.2.1 dX11_root_34 (by decide) ?_
        obtain rfl := Option.some.inj hE
        exact vx_ret (W.widen (k := 1) (n := 6) (Nat.zero_le _) (Nat.zero_le _) (rx_i F hr hlk hP hS dX11_root_48))
    · have hE := ifn hE hc
      exact qX11_root_10 hlt hex F hr hlk C0 hE _ _ hP hS ls (lv_sub hl [] rfl)
set_option maxRecDepth 100000 in
set_option maxHeartbeats 4000000 in
theorem qX11_log_23 {p : Program} {l : Launch} {e : Env} {s : State} {m : MethodId} {args : Array Value} {below : List Frame} {meth : Method} {c : Code} {Z : ZC} {HS : Nat → Nat → Nat → Int32} {zkb : Int32} {zdr : Int32} {zky : Nat → Int32} {zpn : Int32} {zps : Int32} {ztz : Int32} {ztn : Nat → Int64} {zxz : Int32} {zxa : Int32} {zsg : Nat → Int32} {za0 : Int32} {za1 : Int32} {za2 : Int32} {za3 : Int32} {za4 : Int32} {zfr : Nat → Int32} {zcd : Int32} {zgo : Nat → Int32} {ztd : Int32} {ztv : Int32} {zcl : Nat → Int32} {zca : Nat → Int32} {zwa : Nat → Int32} {zpt : Nat → Int32} {zpf : Nat → Int32} {p1 : Int32} {p2 : Int32} {r' : Option Int32} (hlt : l.stackTraces = false) (hex : ∀ x ∈ c.exceptionTable.toList, False) (F : CallFix p m c cX11_log 3 s args bigW RX11) (hr : meth.sig.returnType = (some .int)) (hlk : meth.locks = false) (C0 : KXT Z s) : fX11_log_23 HS p1 p2 = some r' → ∀ (H : Heap) (locs : List Loc), PX Z HS zkb zdr zky zpn zps ztz ztn zxz zxa zsg za0 za1 za2 za3 za4 zfr zcd zgo ztd ztv zcl zca zwa zpt zpf H → va_S (AX Z) s.heap H locs → ∀ ls : Array Slot, lv_has ls 3 [] → W p l e (rmx 6 100) s m args below meth c H locs 0 0 (vx_MQ below (Qxi (AX Z) (PX Z HS zkb zdr zky zpn zps ztz ztn zxz zxa zsg za0 za1 za2 za3 za4 zfr zcd zgo ztd ztv zcl zca zwa zpt zpf) r') (XCx (AX Z) (PX Z HS zkb zdr zky zpn zps ztz ztn zxz zxa zsg za0 za1 za2 za3 za4 zfr zcd zgo ztd ztv zcl zca zwa zpt zpf) r') args s 1 6 (AX Z)) (F0 m 23 ls []) := by
  intro hE H locs hP hS ls hl
  have C := C0.1
  unfold fX11_log_23 at hE
  obtain rfl := Option.some.inj hE
  obtain ⟨sa, hsa⟩ := C0.2.2.2.2.2.2.2.2.1
  exact nse_throwSW F.1 F.2.1 hlt F.2.2.2.1 (F.2.2.2.2 _ thr_cl) (F.2.2.2.2 _ thr_in) hsa (fun w hw => thr_at F C0 hw) thr_good C0.2.1 C0.2.2.1 hS (hl.1.trans F.2.2.1.symm) dX11_log_23 dX11_log_26 dX11_log_27 dX11_log_30 dX11_log_33 (fun x h => absurd h (hex x)) (by decide) (by decide) (by decide) (by decide) hlk (fun t ht hz hk => ⟨(), rfl, ⟨rfl, PX_kept hP hz hk⟩, thr_F hS hz hk⟩) hS.2.2 (by decide) (by decide)
set_option maxRecDepth 100000 in
set_option maxHeartbeats 4000000 in
theorem kX11_log {l : Launch} (hlt : l.stackTraces = false) {Z : ZC} {HS : Nat → Nat → Nat → Int32} {zkb : Int32} {zdr : Int32} {zky : Nat → Int32} {zpn : Int32} {zps : Int32} {ztz : Int32} {ztn : Nat → Int64} {zxz : Int32} {zxa : Int32} {zsg : Nat → Int32} {za0 : Int32} {za1 : Int32} {za2 : Int32} {za3 : Int32} {za4 : Int32} {zfr : Nat → Int32} {zcd : Int32} {zgo : Nat → Int32} {ztd : Int32} {ztv : Int32} {zcl : Nat → Int32} {zca : Nat → Int32} {zwa : Nat → Int32} {zpt : Nat → Int32} {zpf : Nat → Int32} {p1 : Int32} {p2 : Int32} {r' : Option Int32} (hE : fX11_log HS p1 p2 = some r') : vx_Met l yX11_log (Cond.code yX11_log cX11_log 3 (some .int) :: bigW) (rmx 6 100) (va_Pc [.ref (oA Z 0), .int p1, .int p2] (fun U => (PX Z HS zkb zdr zky zpn zps ztz ztn zxz zxa zsg za0 za1 za2 za3 za4 zfr zcd zgo ztd ztv zcl zca zwa zpt zpf) U.heap ∧ KXT Z U)) (Qxi (AX Z) (PX Z HS zkb zdr zky zpn zps ztz ztn zxz zxa zsg za0 za1 za2 za3 za4 zfr zcd zgo ztd ztv zcl zca zwa zpt zpf) r') (XCx (AX Z) (PX Z HS zkb zdr zky zpn zps ztz ztn zxz zxa zsg za0 za1 za2 za3 za4 zfr zcd zgo ztd ztv zcl zca zwa zpt zpf) r') 1 6 (AX Z) := by
  refine vx_start (lv := [(0, .ref (oA Z 0)), (1, .int p1), (2, .int p2)]) (by decide) rfl (Nat.le_of_ble_eq_true rfl) rfl ?_
  intro p e s m below meth c F hex hr hlk C0 hP ls hl
  have C := C0.1
  have hS : va_S (AX Z) s.heap s.heap [] := va_S.rf
  unfold fX11_log at hE
  refine lv_aload_n F.1 F.2.1 dX11_log_0 rfl (lv_at hl 0 rfl) ?_
  refine gX11_10 F C hP dX11_log_1 ?_
  refine gX11_125 F C hP (by decide) rfl dX11_log_4 ?_
  refine lv_iload_n F.1 F.2.1 dX11_log_7 rfl (lv_at hl 1 rfl) ?_
  obtain ⟨r784, hc, hE⟩ := bnd1_some hE
  refine aft_i (run_N (rest := []) F (kX4_has (by decide) rfl hc) (okX Z) C hS (C.2.2 _ _ mlX11_288 rfl) lkX11_288 ⟨Nat.le_of_ble_eq_true rfl, Nat.le_of_ble_eq_true rfl⟩ (rvh10 C hP (by decide)) hP rfl hl.1 rfl (lv_room (Nat.le_of_ble_eq_true rfl)) dX11_log_8 ⟨Nat.zero_le _, Nat.zero_le _⟩) hS (fun H locs hP hS => ?_)
  refine lv_if_eq (tgt := 23) F.1 F.2.1 dX11_log_11 (by decide) (fun hc => ?_) (fun hc => ?_)
  · have hE := ifp hE hc
    exact qX11_log_23 hlt hex F hr hlk C0 hE _ _ hP hS ls (lv_sub hl [] rfl)
  · have hE := ifn hE hc
    refine lv_iload_n F.1 F.2.1 dX11_log_14 rfl (lv_at hl 2 rfl) ?_
    refine lv_if_lt (tgt := 23) F.1 F.2.1 dX11_log_15 (by decide) (fun hc => ?_) (fun hc => ?_)
    · have hE := ifp hE hc
      exact qX11_log_23 hlt hex F hr hlk C0 hE _ _ hP hS ls (lv_sub hl [] rfl)
    · have hE := ifn hE hc
      refine lv_iload_n F.1 F.2.1 dX11_log_18 rfl (lv_at hl 2 rfl) ?_
      refine lv_iconst (v := 1) F.1 F.2.1 dX11_log_19 (by decide) ?_
      refine lv_icmp_le (tgt := 34) F.1 F.2.1 dX11_log_20 (by decide) (fun hc => ?_) (fun hc => ?_)
      · have hE := ifp hE hc
        refine lv_iload_n F.1 F.2.1 dX11_log_34 rfl (lv_at hl 2 rfl) ?_
        refine lv_if_ne (tgt := 52) F.1 F.2.1 dX11_log_35 (by decide) (fun hc => ?_) (fun hc => ?_)
        · have hE := ifn hE hc
          refine lv_aload_n F.1 F.2.1 dX11_log_52 rfl (lv_at hl 0 rfl) ?_
          refine gX11_10 F C hP dX11_log_53 ?_
          refine gX11_125 F C hP (by decide) rfl dX11_log_56 ?_
          refine lv_iload_n F.1 F.2.1 dX11_log_59 rfl (lv_at hl 1 rfl) ?_
          obtain ⟨r785, hc, hE⟩ := bnd1_some hE
          refine aft_i (run_N (rest := []) F (kX4_objectAt (by decide) rfl hc) (okX Z) C hS (C.2.2 _ _ mlX11_294 rfl) lkX11_294 ⟨Nat.le_of_ble_eq_true rfl, Nat.le_of_ble_eq_true rfl⟩ (rvh10 C hP (by decide)) hP rfl hl.1 rfl (lv_room (Nat.le_of_ble_eq_true rfl)) dX11_log_60 ⟨Nat.zero_le _, Nat.zero_le _⟩) hS (fun H locs hP hS => ?_)
          obtain rfl := Option.some.inj hE
          exact vx_ret (W.widen (k := 1) (n := 6) (Nat.zero_le _) (Nat.zero_le _) (rx_i F hr hlk hP hS dX11_log_63))
        · have hE := ifp hE hc
          refine lv_aload_n F.1 F.2.1 dX11_log_38 rfl (lv_at hl 0 rfl) ?_
          refine gX11_10 F C hP dX11_log_39 ?_
          refine gX11_125 F C hP (by decide) rfl dX11_log_42 ?_
          refine lv_iload_n F.1 F.2.1 dX11_log_45 rfl (lv_at hl 1 rfl) ?_
          obtain ⟨r786, hc, hE⟩ := bnd1_some hE
          refine aft_i (run_N (rest := []) F (kX4_kindAt (by decide) rfl hc) (okX Z) C hS (C.2.2 _ _ mlX11_291 rfl) lkX11_291 ⟨Nat.le_of_ble_eq_true rfl, Nat.le_of_ble_eq_true rfl⟩ (rvh10 C hP (by decide)) hP rfl hl.1 rfl (lv_room (Nat.le_of_ble_eq_true rfl)) dX11_log_46 ⟨Nat.zero_le _, Nat.zero_le _⟩) hS (fun H locs hP hS => ?_)
          refine lv_goto (tgt := 63) F.1 F.2.1 dX11_log_49 (by decide) ?_
          obtain rfl := Option.some.inj hE
          exact vx_ret (W.widen (k := 1) (n := 6) (Nat.zero_le _) (Nat.zero_le _) (rx_i F hr hlk hP hS dX11_log_63))
      · have hE := ifn hE hc
        exact qX11_log_23 hlt hex F hr hlk C0 hE _ _ hP hS ls (lv_sub hl [] rfl)
set_option maxRecDepth 100000 in
set_option maxHeartbeats 4000000 in
theorem qX11_row_15 {p : Program} {l : Launch} {e : Env} {s : State} {m : MethodId} {args : Array Value} {below : List Frame} {meth : Method} {c : Code} {Z : ZC} {HS : Nat → Nat → Nat → Int32} {zkb : Int32} {zdr : Int32} {zky : Nat → Int32} {zpn : Int32} {zps : Int32} {ztz : Int32} {ztn : Nat → Int64} {zxz : Int32} {zxa : Int32} {zsg : Nat → Int32} {za0 : Int32} {za1 : Int32} {za2 : Int32} {za3 : Int32} {za4 : Int32} {zfr : Nat → Int32} {zcd : Int32} {zgo : Nat → Int32} {ztd : Int32} {ztv : Int32} {zcl : Nat → Int32} {zca : Nat → Int32} {zwa : Nat → Int32} {zpt : Nat → Int32} {zpf : Nat → Int32} {p1 : Int32} {r' : Option Int64} (hlt : l.stackTraces = false) (hex : ∀ x ∈ c.exceptionTable.toList, False) (F : CallFix p m c cX11_row 2 s args bigW RX11) (hr : meth.sig.returnType = (some .long)) (hlk : meth.locks = false) (C0 : KXT Z s) : fX11_row_15 ztz ztn p1 = some r' → ∀ (H : Heap) (locs : List Loc), PX Z HS zkb zdr zky zpn zps ztz ztn zxz zxa zsg za0 za1 za2 za3 za4 zfr zcd zgo ztd ztv zcl zca zwa zpt zpf H → va_S (AX Z) s.heap H locs → ∀ ls : Array Slot, lv_has ls 2 [] → W p l e (rmx 6 100) s m args below meth c H locs 0 0 (vx_MQ below (Qxl (AX Z) (PX Z HS zkb zdr zky zpn zps ztz ztn zxz zxa zsg za0 za1 za2 za3 za4 zfr zcd zgo ztd ztv zcl zca zwa zpt zpf) r') (XCx (AX Z) (PX Z HS zkb zdr zky zpn zps ztz ztn zxz zxa zsg za0 za1 za2 za3 za4 zfr zcd zgo ztd ztv zcl zca zwa zpt zpf) r') args s 1 6 (AX Z)) (F0 m 15 ls []) := by
  intro hE H locs hP hS ls hl
  have C := C0.1
  unfold fX11_row_15 at hE
  obtain rfl := Option.some.inj hE
  obtain ⟨sa, hsa⟩ := C0.2.2.2.2.2.2.2.2.2
  exact nse_throwSW F.1 F.2.1 hlt F.2.2.2.1 (F.2.2.2.2 _ thr_cl) (F.2.2.2.2 _ thr_in) hsa (fun w hw => thr_at F C0 hw) thr_good C0.2.1 C0.2.2.1 hS (hl.1.trans F.2.2.1.symm) dX11_row_15 dX11_row_18 dX11_row_19 dX11_row_22 dX11_row_25 (fun x h => absurd h (hex x)) (by decide) (by decide) (by decide) (by decide) hlk (fun t ht hz hk => ⟨(), rfl, ⟨rfl, PX_kept hP hz hk⟩, thr_F hS hz hk⟩) hS.2.2 (by decide) (by decide)
set_option maxRecDepth 100000 in
set_option maxHeartbeats 4000000 in
theorem kX11_row {l : Launch} (hlt : l.stackTraces = false) {Z : ZC} {HS : Nat → Nat → Nat → Int32} {zkb : Int32} {zdr : Int32} {zky : Nat → Int32} {zpn : Int32} {zps : Int32} {ztz : Int32} {ztn : Nat → Int64} {zxz : Int32} {zxa : Int32} {zsg : Nat → Int32} {za0 : Int32} {za1 : Int32} {za2 : Int32} {za3 : Int32} {za4 : Int32} {zfr : Nat → Int32} {zcd : Int32} {zgo : Nat → Int32} {ztd : Int32} {ztv : Int32} {zcl : Nat → Int32} {zca : Nat → Int32} {zwa : Nat → Int32} {zpt : Nat → Int32} {zpf : Nat → Int32} {p1 : Int32} {r' : Option Int64} (hE : fX11_row ztz ztn p1 = some r') : vx_Met l yX11_row (Cond.code yX11_row cX11_row 2 (some .long) :: bigW) (rmx 6 100) (va_Pc [.ref (oA Z 0), .int p1] (fun U => (PX Z HS zkb zdr zky zpn zps ztz ztn zxz zxa zsg za0 za1 za2 za3 za4 zfr zcd zgo ztd ztv zcl zca zwa zpt zpf) U.heap ∧ KXT Z U)) (Qxl (AX Z) (PX Z HS zkb zdr zky zpn zps ztz ztn zxz zxa zsg za0 za1 za2 za3 za4 zfr zcd zgo ztd ztv zcl zca zwa zpt zpf) r') (XCx (AX Z) (PX Z HS zkb zdr zky zpn zps ztz ztn zxz zxa zsg za0 za1 za2 za3 za4 zfr zcd zgo ztd ztv zcl zca zwa zpt zpf) r') 1 6 (AX Z) := by
  refine vx_start (lv := [(0, .ref (oA Z 0)), (1, .int p1)]) (by decide) rfl (Nat.le_of_ble_eq_true rfl) rfl ?_
  intro p e s m below meth c F hex hr hlk C0 hP ls hl
  have C := C0.1
  have hS : va_S (AX Z) s.heap s.heap [] := va_S.rf
  unfold fX11_row at hE
  refine lv_iload_n F.1 F.2.1 dX11_row_0 rfl (lv_at hl 1 rfl) ?_
  refine lv_if_lt (tgt := 15) F.1 F.2.1 dX11_row_1 (by decide) (fun hc => ?_) (fun hc => ?_)
  · have hE := ifp hE hc
    exact qX11_row_15 hlt hex F hr hlk C0 hE _ _ hP hS ls (lv_sub hl [] rfl)
  · have hE := ifn hE hc
    refine lv_iload_n F.1 F.2.1 dX11_row_4 rfl (lv_at hl 1 rfl) ?_
    refine lv_aload_n F.1 F.2.1 dX11_row_5 rfl (lv_at hl 0 rfl) ?_
    refine gX11_33 F C hP dX11_row_6 ?_
    refine gX11_252 F C hP dX11_row_9 ?_
    refine lv_icmp_lt (tgt := 26) F.1 F.2.1 dX11_row_12 (by decide) (fun hc => ?_) (fun hc => ?_)
    · have hE := ifp hE hc
      refine lv_aload_n F.1 F.2.1 dX11_row_26 rfl (lv_at hl 0 rfl) ?_
      refine gX11_33 F C hP dX11_row_27 ?_
      refine gX11_339 F C hP dX11_row_30 ?_
      refine lv_iload_n F.1 F.2.1 dX11_row_33 rfl (lv_at hl 1 rfl) ?_
      obtain ⟨hi, hE⟩ := grd_some hE
      refine ao5 F C hP hi dX11_row_34 ?_
      obtain rfl := Option.some.inj hE
      exact vx_ret (W.widen (k := 1) (n := 6) (Nat.zero_le _) (Nat.zero_le _) (rx_l F hr hlk hP hS dX11_row_35))
    · have hE := ifn hE hc
      exact qX11_row_15 hlt hex F hr hlk C0 hE _ _ hP hS ls (lv_sub hl [] rfl)
