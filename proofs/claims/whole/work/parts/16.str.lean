theorem mlJ0_495 : tables_1[1441]? = some (Cond.methodLink RJ0 495 yJ1_charAt_3b067) := by decide +kernel
theorem mstat_J1_charAt_3b067 : Cond.static yJ1_charAt_3b067 ∈ bigW := bw_t 1442 (by decide +kernel) rfl
theorem mini_J1 : Cond.initialized RJ1 ∈ bigW := bw_t 23 (by decide +kernel) rfl
theorem mcode_J1_charAt_3b067 : Cond.code yJ1_charAt_3b067 cJ1_charAt_3b067 2 (some .char) ∈ bigW := bw_t 1443 (by decide +kernel) rfl
theorem lkJ0_495 : LkS RJ0 495 yJ1_charAt_3b067 cJ1_charAt_3b067 2 (some .char) 2 := ⟨⟨bw_t 1441 mlJ0_495 rfl, mstat_J1_charAt_3b067, mini_J1, mcode_J1_charAt_3b067⟩, ⟨by decide, by decide, by decide +kernel⟩⟩
theorem mlJ0_498 : tables_1[1452]? = some (Cond.methodLink RJ0 498 yJ2_charAt_3b067) := by decide +kernel
theorem mstat_J2_charAt_3b067 : Cond.static yJ2_charAt_3b067 ∈ bigW := bw_t 1453 (by decide +kernel) rfl
theorem mini_J2 : Cond.initialized RJ2 ∈ bigW := bw_t 25 (by decide +kernel) rfl
theorem mcode_J2_charAt_3b067 : Cond.code yJ2_charAt_3b067 cJ2_charAt_3b067 2 (some .char) ∈ bigW := bw_t 1454 (by decide +kernel) rfl
theorem lkJ0_498 : LkS RJ0 498 yJ2_charAt_3b067 cJ2_charAt_3b067 2 (some .char) 2 := ⟨⟨bw_t 1452 mlJ0_498 rfl, mstat_J2_charAt_3b067, mini_J2, mcode_J2_charAt_3b067⟩, ⟨by decide, by decide, by decide +kernel⟩⟩
theorem mlJ0_1059 : tables_1[1449]? = some (Cond.methodLink RJ0 1059 yJ3_checkIndex_8e157) := by decide +kernel
theorem mstat_J3_checkIndex_8e157 : Cond.static yJ3_checkIndex_8e157 ∈ bigW := bw_t 1450 (by decide +kernel) rfl
theorem mini_J3 : Cond.initialized RJ3 ∈ bigW := bw_t 24 (by decide +kernel) rfl
theorem mcode_J3_checkIndex_8e157 : Cond.code yJ3_checkIndex_8e157 cJ3_checkIndex_8e157 3 (some .int) ∈ bigW := bw_t 1451 (by decide +kernel) rfl
theorem lkJ0_1059 : LkS RJ0 1059 yJ3_checkIndex_8e157 cJ3_checkIndex_8e157 3 (some .int) 3 := ⟨⟨bw_t 1449 mlJ0_1059 rfl, mstat_J3_checkIndex_8e157, mini_J3, mcode_J3_checkIndex_8e157⟩, ⟨by decide, by decide, by decide +kernel⟩⟩
theorem mlJ1_9 : tables_1[1444]? = some (Cond.methodLink RJ1 9 yJ0_checkIndex_df160) := by decide +kernel
theorem mstat_J0_checkIndex_df160 : Cond.static yJ0_checkIndex_df160 ∈ bigW := bw_t 1445 (by decide +kernel) rfl
theorem mcode_J0_checkIndex_df160 : Cond.code yJ0_checkIndex_df160 cJ0_checkIndex_df160 2 none ∈ bigW := bw_t 1446 (by decide +kernel) rfl
theorem lkJ1_9 : LkS RJ1 9 yJ0_checkIndex_df160 cJ0_checkIndex_df160 2 none 2 := ⟨⟨bw_t 1444 mlJ1_9 rfl, mstat_J0_checkIndex_df160, mini_J0, mcode_J0_checkIndex_df160⟩, ⟨by decide, by decide, by decide +kernel⟩⟩
theorem mlJ0_335 : tables_1[1427]? = some (Cond.methodLink RJ0 335 yJ0_coder_7d493) := by decide +kernel
theorem minst_J0_coder_7d493 : Cond.instanceMethod yJ0_coder_7d493 ∈ bigW := bw_t 1428 (by decide +kernel) rfl
theorem msel_J0_coder_7d493 : Cond.selects RJ0 yJ0_coder_7d493 yJ0_coder_7d493 ∈ bigW := bw_t 1429 (by decide +kernel) rfl
theorem mcode_J0_coder_7d493 : Cond.code yJ0_coder_7d493 cJ0_coder_7d493 1 (some .byte) ∈ bigW := bw_t 1430 (by decide +kernel) rfl
theorem lkJ0_335 : LkV RJ0 335 RJ0 yJ0_coder_7d493 cJ0_coder_7d493 1 (some .byte) 0 := ⟨⟨bw_t 1427 mlJ0_335 rfl, minst_J0_coder_7d493, msel_J0_coder_7d493, mini_J0, mcode_J0_coder_7d493⟩, rfl, ⟨by decide, by decide, by decide +kernel⟩⟩
theorem mlJ0_492 : tables_1[1437]? = some (Cond.methodLink RJ0 492 yJ0_isLatin1_aae02) := by decide +kernel
theorem minst_J0_isLatin1_aae02 : Cond.instanceMethod yJ0_isLatin1_aae02 ∈ bigW := bw_t 1438 (by decide +kernel) rfl
theorem msel_J0_isLatin1_aae02 : Cond.selects RJ0 yJ0_isLatin1_aae02 yJ0_isLatin1_aae02 ∈ bigW := bw_t 1439 (by decide +kernel) rfl
theorem mcode_J0_isLatin1_aae02 : Cond.code yJ0_isLatin1_aae02 cJ0_isLatin1_aae02 1 (some .boolean) ∈ bigW := bw_t 1440 (by decide +kernel) rfl
theorem lkJ0_492 : LkV RJ0 492 RJ0 yJ0_isLatin1_aae02 cJ0_isLatin1_aae02 1 (some .boolean) 0 := ⟨⟨bw_t 1437 mlJ0_492 rfl, minst_J0_isLatin1_aae02, msel_J0_isLatin1_aae02, mini_J0, mcode_J0_isLatin1_aae02⟩, rfl, ⟨by decide, by decide, by decide +kernel⟩⟩

/-! texts -/
section MFK
variable {p : Program} {l : Launch} {e : Env} {R : Room} {s : State} {m : MethodId} {args : Array Value} {below : List Frame} {meth : Method} {c : Code} {H : Heap} {locs : List Loc} {cells slots : Nat}
theorem Mg.startF {y : MethodName} {cc : ByteArray} {n : Nat} {ret : Option FieldType} {a b : Nat} {K : State → Prop} {A : Nat → Prop} {av : List Value} {P0 : Heap → Prop} {Qc : Array Value → State → Outcome → State → Prop} {own : String} {lv : List (Nat × Value)}
    (hy : plainFor y = true) (ho : y.cls = own) (hn : (lg_sl av).length ≤ n) (hlv : lv_args 0 av = lv)
    (body : ∀ (p : Program) (e : Env) (s : State) (m : MethodId) (below : List Frame) (meth : Method) (c : Code), CallFix p m c cc n s av.toArray bigW own → meth.sig.returnType = ret → meth.locks = false → K s → P0 s.heap → ∀ ls : Array Slot, lv_has ls n lv →
      W p l e (rmk a b) s m av.toArray below meth c s.heap [] 0 0 (MQ below Qc av.toArray s 0 0 A) (F0 m 0 ls [])) : Mg l y cc n ret (rmk a b) K A av P0 Qc := by
  refine va_MetF (cc := cc) (maxL := n) (ret := ret) hy rfl ?_
  intro p e s m args below meth c s₁ B hml hv
  obtain ⟨rfl, hP, hK⟩ := hv
  have hts := atoms_spec (ws := Cond.code y cc n ret :: bigW) B.pre
  have hown : s.vm.findClass own = some m.cls := by rw [← ho]; exact findClass_of_methodNamed B.named
  have hl := lv_entry av hn
  rw [lg_entry_eq]
  rw [hlv] at hl
  exact body p e s m below meth c ⟨B.exec, B.bytes, hml, hown, fun w h => hts w (List.mem_cons_of_mem _ h)⟩ B.returns B.notSynchronized hK hP _ hl
theorem ret_t {cc : ByteArray} {nL pc : Nat} {own : String} {K : State → Prop} {A : Nat → Prop} {P1 : Heap → Prop} {ls : Array Slot} {r : Int32} {ty : FieldType} (F : CallFix p m c cc nL s args bigW own) (hr : meth.sig.returnType = some ty) (hn : narrow ty (.int r) = .int r) (hlk : meth.locks = false) (hP : P1 H) (hS : va_S A s.heap H locs) (hdg : decode cc pc = .ok (.ireturn, 1)) :
    W p l e R s m args below meth c H locs cells slots (MQ below (Qi K A P1 r) args s cells slots A) (F0 m pc ls [.int r]) :=
  W.zret F.1 F.2.1 hr hn (fun t ht _ => ⟨⟨r, (), rfl, rfl, by subst ht; exact hP⟩, hS.F ht⟩) hS.2.2 hdg (hlocks := hlk)
end MFK
theorem va_ldcSW {p : Program} {l : Launch} {e : Env} {R : Room} {s : State} {m : MethodId} {args : Array Value} {below : List Frame} {meth : Method} {c : Code} {H : Heap} {locs : List Loc} {cells slots : Nat} {Q : State → Prop} {cc : ByteArray} {pc : Nat} {ls : Array Slot} {rest : List Value} (hexec : p.tables.exec = Jvm.exec) (hb : c.code = cc) {own tx : String} {index q : Nat} (hown : s.vm.findClass own = some m.cls) (hZ : vk_R own index tx q s) (hdg : decode cc pc = .ok (.ldc_w index, 3))
    (k : W p l e R s m args below meth c H locs cells slots Q (F0 m (pc + 3) ls (.ref q :: rest))) : W p l e R s m args below meth c H locs cells slots Q (F0 m pc ls rest) := by
  intro T hT X
  obtain ⟨t, a1, b1⟩ := k T hT X
  refine ⟨t, ?_, b1⟩
  obtain ⟨k1, cf, i, a', hk, hcf, hcp, -, hr, hev'⟩ := Cond.stringRef_spec hown hZ.1
  cases hZ.2.symm.trans hev'
  obtain ⟨k', hk', he⟩ := X.warmed.alike.2.2 _ _ hk
  have hr' : k'.resolved[index]? = some (some (.string q)) := by
    rcases X.warmed.entry hk hk' index with h | ⟨h, -⟩
    · rw [h]; exact hr
    · rw [hr] at h; cases h
  subst hb
  jvm_step X.here [hexec, hdg, Op.ldc_w.wp_string (e := e) (s := T) (f := F0 m pc ls rest) X.here.top hk' (by rw [he]; exact hcf) hcp hr']
  exact a1
def lenS : List Nat := [10, 6]
def bytS : List (List Int32) := [[48, 49, 50, 51, 52, 53, 54, 55, 56, 57], [110, 115, 114, 119, 107, 116]]
def strCh (i k : Nat) : Int32 := (((bytS.getD i []).getD k 0 &&& 255).toUInt32 % 65536).toInt32
theorem strCh_n : ∀ i, i < 2 → ∀ k, k < lenS.getD i 0 → narrow .char (.int (strCh i k)) = .int (strCh i k) := by decide +kernel
theorem lenS_sh : ∀ i, i < 2 → jshr (Int32.ofNat (lenS.getD i 0)) 0 = Int32.ofNat (lenS.getD i 0) := by decide +kernel
theorem lenS_lt : ∀ i, i < 2 → lenS.getD i 0 < 100 := by decide
abbrev YS : Type := (Nat → Nat) × (Nat → Nat)
def STR (A : Nat → Prop) (Y : YS) (U : State) (H : Heap) : Prop := vk_S 2 lenS bytS Y.1 Y.2 A U H ∧ va_Z "java/lang/String" "COMPACT_STRINGS" "Z" (.int 1) A U H ∧ va_Zq "jdk/internal/util/Preconditions" "SIOOBE_FORMATTER" "Ljava/util/function/BiFunction;" A U H
def KMS (Z : ZC) (Y : YS) (s : State) : Prop := KM Z s ∧ STR (AM Z) Y s s.heap ∧ vk_R "CountedHeapModel" 41 "0123456789" (Y.1 0) s ∧ vk_R "CountedHeapModel" 302 "nsrwkt" (Y.1 1) s
theorem okMS (Z : ZC) (Y : YS) : Kok (AM Z) (KMS Z Y) := by
  refine ⟨fun s U locs hW hS h => ⟨(okM Z).1 s U locs hW hS h.1, ?_, vk_R.warm hW h.2.2.1, vk_R.warm hW h.2.2.2⟩, fun U g mk a h => ⟨(okM Z).2 U g mk a h.1, ?_, vk_R.same (u := U) (U := U.calling g mk a) rfl h.2.2.1, vk_R.same (u := U) (U := U.calling g mk a) rfl h.2.2.2⟩⟩
  · have hq : ∀ a : Nat, a < s.heap.size → ¬ AM Z a → U.heap[a]? = s.heap[a]? := hS.2.1
    exact ⟨vk_S.kept (vk_S.moved hW.alike h.2.1.1) hq, va_Z.kept (va_Z.moved hW.alike h.2.1.2.1) hq, va_Zq.kept (va_Zq.moved hW.alike h.2.1.2.2) hq⟩
  · exact ⟨vk_S.moved (u := U) (U := U.calling g mk a) (Vm.Alike.refl U.vm) h.2.1.1, va_Z.moved (u := U) (U := U.calling g mk a) (Vm.Alike.refl U.vm) h.2.1.2.1, va_Zq.moved (u := U) (U := U.calling g mk a) (Vm.Alike.refl U.vm) h.2.1.2.2⟩
section STRS
variable {l : Launch} {Z : ZC} {Y : YS} {P : Heap → Prop} {i : Nat} {k : Int32}
theorem kS_coder (hi : i < 2) : Mg l yJ0_coder_7d493 cJ0_coder_7d493 1 (some .byte) (rmk 0 0) (KMS Z Y) (AM Z) [.ref (Y.1 i)] P (Qi (KMS Z Y) (AM Z) P 0) := by
  refine Mg.startF (lv := [(0, .ref (Y.1 i))]) (by decide +kernel) rfl (Nat.le_of_ble_eq_true rfl) rfl ?_
  intro p e s m below meth c F hr hlk C hP ls hl
  have hS : va_S (AM Z) s.heap s.heap [] := va_S.rf
  refine va_gets F.1 F.2.1 C.2.1.2.1 hS F.2.2.2.1 (F.2.2.2.2 _ (bw_t 1431 (by decide +kernel) rfl)) (fun _ h => h) dJ0_coder_7d493_0 ?_
  refine lv_if_eq (tgt := 13) F.1 F.2.1 dJ0_coder_7d493_3 (by decide) (fun hc => absurd hc (by decide)) (fun hc => ?_)
  refine lv_aload_n F.1 F.2.1 dJ0_coder_7d493_6 rfl (lv_at hl 0 rfl) ?_
  refine vk_getf F.1 F.2.1 ((C.2.1.1.1 i hi).2.1) hS F.2.2.2.1 (F.2.2.2.2 _ (bw_t 1540 (by decide +kernel) rfl)) (fun _ h => h) dJ0_coder_7d493_7 ?_
  refine lv_goto (tgt := 14) F.1 F.2.1 dJ0_coder_7d493_10 (by decide) ?_
  exact ret_t F hr rfl hlk hP hS dJ0_coder_7d493_14
theorem kS_isLatin1 (hi : i < 2) : Mg l yJ0_isLatin1_aae02 cJ0_isLatin1_aae02 1 (some .boolean) (rmk 0 0) (KMS Z Y) (AM Z) [.ref (Y.1 i)] P (Qi (KMS Z Y) (AM Z) P 1) := by
  refine Mg.startF (lv := [(0, .ref (Y.1 i))]) (by decide +kernel) rfl (Nat.le_of_ble_eq_true rfl) rfl ?_
  intro p e s m below meth c F hr hlk C hP ls hl
  have hS : va_S (AM Z) s.heap s.heap [] := va_S.rf
  refine va_gets F.1 F.2.1 C.2.1.2.1 hS F.2.2.2.1 (F.2.2.2.2 _ (bw_t 1431 (by decide +kernel) rfl)) (fun _ h => h) dJ0_isLatin1_aae02_0 ?_
  refine lv_if_eq (tgt := 17) F.1 F.2.1 dJ0_isLatin1_aae02_3 (by decide) (fun hc => absurd hc (by decide)) (fun hc => ?_)
  refine lv_aload_n F.1 F.2.1 dJ0_isLatin1_aae02_6 rfl (lv_at hl 0 rfl) ?_
  refine vk_getf F.1 F.2.1 ((C.2.1.1.1 i hi).2.1) hS F.2.2.2.1 (F.2.2.2.2 _ (bw_t 1540 (by decide +kernel) rfl)) (fun _ h => h) dJ0_isLatin1_aae02_7 ?_
  refine lv_if_ne (tgt := 17) F.1 F.2.1 dJ0_isLatin1_aae02_10 (by decide) (fun hc => absurd rfl hc) (fun hc => ?_)
  refine lv_iconst (v := 1) F.1 F.2.1 dJ0_isLatin1_aae02_13 (by decide) ?_
  refine lv_goto (tgt := 18) F.1 F.2.1 dJ0_isLatin1_aae02_14 (by decide) ?_
  exact ret_t F hr rfl hlk hP hS dJ0_isLatin1_aae02_18
theorem kS_length (hi : i < 2) : Mg l yJ0_length_8abf5 cJ0_length_8abf5 1 (some .int) (rmk 1 20) (KMS Z Y) (AM Z) [.ref (Y.1 i)] P (Qi (KMS Z Y) (AM Z) P (Int32.ofNat (lenS.getD i 0))) := by
  refine Mg.startF (lv := [(0, .ref (Y.1 i))]) (by decide +kernel) rfl (Nat.le_of_ble_eq_true rfl) rfl ?_
  intro p e s m below meth c F hr hlk C hP ls hl
  have hS : va_S (AM Z) s.heap s.heap [] := va_S.rf
  refine lv_aload_n F.1 F.2.1 dJ0_length_8abf5_0 rfl (lv_at hl 0 rfl) ?_
  refine vk_getf F.1 F.2.1 ((C.2.1.1.1 i hi).2.2.1) hS F.2.2.2.1 (F.2.2.2.2 _ (bw_t 1539 (by decide +kernel) rfl)) (fun _ h => h) dJ0_length_8abf5_1 ?_
  refine va_tlen F.1 F.2.1 ((C.2.1.1.1 i hi).2.2.2) hS rfl dJ0_length_8abf5_4 ?_
  refine lv_aload_n F.1 F.2.1 dJ0_length_8abf5_5 rfl (lv_at hl 0 rfl) ?_
  refine aft_i (run_V (rest := [.int (Int32.ofNat (lenS.getD i 0))]) F (kS_coder hi (P := P)) (okMS Z Y) C hS lkJ0_335 ⟨Nat.le_of_ble_eq_true rfl, Nat.le_of_ble_eq_true rfl⟩ (vk_recv C.2.1.1 hi hS) hP rfl hl.1 rfl (lv_room (Nat.le_of_ble_eq_true rfl)) dJ0_length_8abf5_6 ⟨Nat.zero_le _, Nat.zero_le _⟩) hS (fun H locs hP hS => ?_)
  refine rj_ishr F.1 F.2.1 dJ0_length_8abf5_9 ?_
  rw [lenS_sh i hi]
  exact ret_i F hr hlk hP hS dJ0_length_8abf5_10
theorem kS_pre {n : Int32} {v : Value} (hv : v.category = 1) (h1 : ¬ k < 0) (h2 : k < n) : Mg l yJ3_checkIndex_8e157 cJ3_checkIndex_8e157 3 (some .int) (rmk 0 0) (KMS Z Y) (AM Z) [.int k, .int n, v] P (Qi (KMS Z Y) (AM Z) P k) := by
  refine Mg.startF (lv := [(0, .int k), (1, .int n), (2, v)]) (by decide +kernel) rfl (by have e1 : (Value.int k).category = 1 := rfl; have e2 : (Value.int n).category = 1 := rfl; simp [lg_sl, hv, e1, e2]) (by have e1 : (Value.int k).category = 1 := rfl; have e2 : (Value.int n).category = 1 := rfl; simp [lv_args, e1, e2]) ?_
  intro p e s m below meth c F hr hlk C hP ls hl
  have hS : va_S (AM Z) s.heap s.heap [] := va_S.rf
  refine lv_iload_n F.1 F.2.1 dJ3_checkIndex_8e157_0 rfl (lv_at hl 0 rfl) ?_
  refine lv_if_lt (tgt := 9) F.1 F.2.1 dJ3_checkIndex_8e157_1 (by decide) (fun hc => absurd hc h1) (fun hc => ?_)
  refine lv_iload_n F.1 F.2.1 dJ3_checkIndex_8e157_4 rfl (lv_at hl 0 rfl) ?_
  refine lv_iload_n F.1 F.2.1 dJ3_checkIndex_8e157_5 rfl (lv_at hl 1 rfl) ?_
  refine lv_icmp_lt (tgt := 16) F.1 F.2.1 dJ3_checkIndex_8e157_6 (by decide) (fun hc => ?_) (fun hc => absurd h2 hc)
  refine lv_iload_n F.1 F.2.1 dJ3_checkIndex_8e157_16 rfl (lv_at hl 0 rfl) ?_
  exact ret_i F hr hlk hP hS dJ3_checkIndex_8e157_17
theorem kS_check {n : Int32} (h1 : ¬ k < 0) (h2 : k < n) : Mg l yJ0_checkIndex_df160 cJ0_checkIndex_df160 2 none (rmk 1 22) (KMS Z Y) (AM Z) [.int k, .int n] P (Qv (KMS Z Y) (AM Z) P) := by
  refine Mg.startF (lv := [(0, .int k), (1, .int n)]) (by decide +kernel) rfl (Nat.le_of_ble_eq_true rfl) rfl ?_
  intro p e s m below meth c F hr hlk C hP ls hl
  have hS : va_S (AM Z) s.heap s.heap [] := va_S.rf
  refine lv_iload_n F.1 F.2.1 dJ0_checkIndex_df160_0 rfl (lv_at hl 0 rfl) ?_
  refine lv_iload_n F.1 F.2.1 dJ0_checkIndex_df160_1 rfl (lv_at hl 1 rfl) ?_
  rcases C.2.1.2.2 with hZ | ⟨t, hZ⟩
  · refine va_gets F.1 F.2.1 hZ hS F.2.2.2.1 (F.2.2.2.2 _ (bw_t 1447 (by decide +kernel) rfl)) (fun _ h => h) dJ0_checkIndex_df160_2 ?_
    refine aft_i (run_S (rest := []) F (kS_pre (P := P) (v := .null) rfl h1 h2) (okMS Z Y) C hS lkJ0_1059 ⟨Nat.le_of_ble_eq_true rfl, Nat.le_of_ble_eq_true rfl⟩ hP rfl hl.1 rfl (lv_room (Nat.le_of_ble_eq_true rfl)) dJ0_checkIndex_df160_5 ⟨Nat.zero_le _, Nat.zero_le _⟩) hS (fun H locs hP hS => ?_)
    refine lv_pop F.1 F.2.1 dJ0_checkIndex_df160_8 rfl ?_
    exact ret_v F hr hlk hP hS dJ0_checkIndex_df160_9
  · refine va_gets F.1 F.2.1 hZ hS F.2.2.2.1 (F.2.2.2.2 _ (bw_t 1447 (by decide +kernel) rfl)) (fun _ h => h) dJ0_checkIndex_df160_2 ?_
    refine aft_i (run_S (rest := []) F (kS_pre (P := P) (v := .ref t) rfl h1 h2) (okMS Z Y) C hS lkJ0_1059 ⟨Nat.le_of_ble_eq_true rfl, Nat.le_of_ble_eq_true rfl⟩ hP rfl hl.1 rfl (lv_room (Nat.le_of_ble_eq_true rfl)) dJ0_checkIndex_df160_5 ⟨Nat.zero_le _, Nat.zero_le _⟩) hS (fun H locs hP hS => ?_)
    refine lv_pop F.1 F.2.1 dJ0_checkIndex_df160_8 rfl ?_
    exact ret_v F hr hlk hP hS dJ0_checkIndex_df160_9
theorem inb_lt {n : Nat} (hn : n < 100) (h : inb k n = true) : ¬ k < 0 ∧ k < Int32.ofNat n ∧ k.toNatClampNeg < n := by
  simp [inb] at h
  obtain ⟨h1, h2⟩ := h
  have h3 : ¬ k < 0 := by simpa using h1
  refine ⟨h3, ?_, h2⟩
  rw [Int32.lt_iff_toInt_lt]
  have e1 : (Int32.ofNat n).toInt = (n : Int) := by
    rw [Int32.toInt_ofNat_of_lt (by omega)]
  have e2 : 0 ≤ k.toInt := by
    rw [Int32.lt_iff_toInt_lt] at h3
    have : (0 : Int32).toInt = 0 := by decide
    omega
  rw [e1]
  have e3 : k.toNatClampNeg = k.toInt.toNat := rfl
  omega
theorem kS_latin (hi : i < 2) (hk : inb k (lenS.getD i 0) = true) : Mg l yJ1_charAt_3b067 cJ1_charAt_3b067 2 (some .char) (rmk 2 43) (KMS Z Y) (AM Z) [.ref (Y.2 i), .int k] P (Qi (KMS Z Y) (AM Z) P (strCh i k.toNatClampNeg)) := by
  obtain ⟨h1, h2, h3⟩ := inb_lt (lenS_lt i hi) hk
  refine Mg.startF (lv := [(0, .ref (Y.2 i)), (1, .int k)]) (by decide +kernel) rfl (Nat.le_of_ble_eq_true rfl) rfl ?_
  intro p e s m below meth c F hr hlk C hP ls hl
  have hS : va_S (AM Z) s.heap s.heap [] := va_S.rf
  refine lv_iload_n F.1 F.2.1 dJ1_charAt_3b067_0 rfl (lv_at hl 1 rfl) ?_
  refine lv_aload_n F.1 F.2.1 dJ1_charAt_3b067_1 rfl (lv_at hl 0 rfl) ?_
  refine va_tlen F.1 F.2.1 ((C.2.1.1.1 i hi).2.2.2) hS rfl dJ1_charAt_3b067_2 ?_
  refine aft_v (run_S (rest := []) F (kS_check (P := P) h1 h2) (okMS Z Y) C hS lkJ1_9 ⟨Nat.le_of_ble_eq_true rfl, Nat.le_of_ble_eq_true rfl⟩ hP rfl hl.1 rfl (lv_room (Nat.le_of_ble_eq_true rfl)) dJ1_charAt_3b067_3 ⟨Nat.zero_le _, Nat.zero_le _⟩) hS (fun H locs hP hS => ?_)
  refine lv_aload_n F.1 F.2.1 dJ1_charAt_3b067_6 rfl (lv_at hl 0 rfl) ?_
  refine lv_iload_n F.1 F.2.1 dJ1_charAt_3b067_7 rfl (lv_at hl 1 rfl) ?_
  refine va_tb F.1 F.2.1 ((C.2.1.1.1 i hi).2.2.2) hS (inb_in hk) rfl dJ1_charAt_3b067_8 ?_
  refine lv_sipush (v := 255) F.1 F.2.1 dJ1_charAt_3b067_9 (by decide) ?_
  refine lv_iand F.1 F.2.1 dJ1_charAt_3b067_12 ?_
  refine lv_i2c (v := strCh i k.toNatClampNeg) F.1 F.2.1 dJ1_charAt_3b067_13 rfl ?_
  exact ret_t F hr (strCh_n i hi _ h3) hlk hP hS dJ1_charAt_3b067_14
theorem kS_charAt (hi : i < 2) (hk : inb k (lenS.getD i 0) = true) : Mg l yJ0_charAt_5068e cJ0_charAt_5068e 2 (some .char) (rmk 3 64) (KMS Z Y) (AM Z) [.ref (Y.1 i), .int k] P (Qi (KMS Z Y) (AM Z) P (strCh i k.toNatClampNeg)) := by
  obtain ⟨h1, h2, h3⟩ := inb_lt (lenS_lt i hi) hk
  refine Mg.startF (lv := [(0, .ref (Y.1 i)), (1, .int k)]) (by decide +kernel) rfl (Nat.le_of_ble_eq_true rfl) rfl ?_
  intro p e s m below meth c F hr hlk C hP ls hl
  have hS : va_S (AM Z) s.heap s.heap [] := va_S.rf
  refine lv_aload_n F.1 F.2.1 dJ0_charAt_5068e_0 rfl (lv_at hl 0 rfl) ?_
  refine aft_i (run_V (rest := []) F (kS_isLatin1 hi (P := P)) (okMS Z Y) C hS lkJ0_492 ⟨Nat.le_of_ble_eq_true rfl, Nat.le_of_ble_eq_true rfl⟩ (vk_recv C.2.1.1 hi hS) hP rfl hl.1 rfl (lv_room (Nat.le_of_ble_eq_true rfl)) dJ0_charAt_5068e_1 ⟨Nat.zero_le _, Nat.zero_le _⟩) hS (fun H locs hP hS => ?_)
  refine lv_if_eq (tgt := 16) F.1 F.2.1 dJ0_charAt_5068e_4 (by decide) (fun hc => absurd hc (by decide)) (fun hc => ?_)
  refine lv_aload_n F.1 F.2.1 dJ0_charAt_5068e_7 rfl (lv_at hl 0 rfl) ?_
  refine vk_getf F.1 F.2.1 ((C.2.1.1.1 i hi).2.2.1) hS F.2.2.2.1 (F.2.2.2.2 _ (bw_t 1539 (by decide +kernel) rfl)) (fun _ h => h) dJ0_charAt_5068e_8 ?_
  refine lv_iload_n F.1 F.2.1 dJ0_charAt_5068e_11 rfl (lv_at hl 1 rfl) ?_
  refine aft_i (run_S (rest := []) F (kS_latin hi hk (P := P)) (okMS Z Y) C hS lkJ0_495 ⟨Nat.le_of_ble_eq_true rfl, Nat.le_of_ble_eq_true rfl⟩ hP rfl hl.1 rfl (lv_room (Nat.le_of_ble_eq_true rfl)) dJ0_charAt_5068e_12 ⟨Nat.zero_le _, Nat.zero_le _⟩) hS (fun H locs hP hS => ?_)
  exact ret_t F hr (strCh_n i hi _ h3) hlk hP hS dJ0_charAt_5068e_15
end STRS
