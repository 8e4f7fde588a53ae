/-! the law's loop over any relation between the two states that all calls keep -/
abbrev CSt : Type := (Nat → Nat → Nat → Int32) × Int32 × Int32 × (Nat → Int32) × Int32 × Int32 × Int32 × (Nat → Int64) × Int32 × Int32 × (Nat → Int32) × Int32 × Int32 × Int32 × Int32 × Int32 × (Nat → Int32) × Int32 × (Nat → Int32) × Int32 × Int32 × (Nat → Int32) × (Nat → Int32) × (Nat → Int32) × (Nat → Int32) × (Nat → Int32)
abbrev MSt : Type := Int32 × Int32 × (Nat → Int64) × (Nat → Int32) × Int32 × Int32 × Int32 × (Nat → Int32) × Int32 × Int32 × (Nat → Int32) × (Nat → Int32) × Int32 × Int32 × (Nat → Int32) × (Nat → Int32) × (Nat → Int32) × (Nat → Int32) × (Nat → Int32) × Int32 × (Nat → Int32)
theorem PM_kept {Z : ZC} {mth : Int32} {mto : Int32} {mrw : Nat → Int64} {mta : Nat → Int32} {mtp : Int32} {mat : Int32} {mtt : Int32} {mme : Nat → Int32} {mun : Int32} {mde : Int32} {mco : Nat → Int32} {mcn : Nat → Int32} {mvi : Int32} {men : Int32} {mfa : Nat → Int32} {mac : Nat → Int32} {mfi : Nat → Int32} {mse : Nat → Int32} {mtd : Nat → Int32} {mra : Int32} {mkp : Nat → Int32} {H H1 : Heap} {A1 : Nat → Prop} {s : State} (C : KM Z s) (hP : PM Z mth mto mrw mta mtp mat mtt mme mun mde mco mcn mvi men mfa mac mfi mse mtd mra mkp H) (hk : ∀ q : Nat, q < H.size → ¬ A1 q → H1[q]? = H[q]?) (hd : ∀ q, AM Z q → ¬ A1 q) : PM Z mth mto mrw mta mtp mat mtt mme mun mde mco mcn mvi men mfa mac mfi mse mtd mra mkp H1 := va_P.kept hP (fun k q h => hk _ (hP k q h).lt (hd _ ((lM_D C).2 k q h)))
theorem PX_kept2 {Z : ZC} {HS : Nat → Nat → Nat → Int32} {zkb : Int32} {zdr : Int32} {zky : Nat → Int32} {zpn : Int32} {zps : Int32} {ztz : Int32} {ztn : Nat → Int64} {zxz : Int32} {zxa : Int32} {zsg : Nat → Int32} {za0 : Int32} {za1 : Int32} {za2 : Int32} {za3 : Int32} {za4 : Int32} {zfr : Nat → Int32} {zcd : Int32} {zgo : Nat → Int32} {ztd : Int32} {ztv : Int32} {zcl : Nat → Int32} {zca : Nat → Int32} {zwa : Nat → Int32} {zpt : Nat → Int32} {zpf : Nat → Int32} {H H1 : Heap} {A1 : Nat → Prop} {s : State} (C : KX Z s) (hP : PX Z HS zkb zdr zky zpn zps ztz ztn zxz zxa zsg za0 za1 za2 za3 za4 zfr zcd zgo ztd ztv zcl zca zwa zpt zpf H) (hk : ∀ q : Nat, q < H.size → ¬ A1 q → H1[q]? = H[q]?) (hd : ∀ q, AX Z q → ¬ A1 q) : PX Z HS zkb zdr zky zpn zps ztz ztn zxz zxa zsg za0 za1 za2 za3 za4 zfr zcd zgo ztd ztv zcl zca zwa zpt zpf H1 := va_P.kept hP (fun k q h => hk _ (hP k q h).lt (hd _ ((lX_D C).2 k q h)))
theorem PO_kept2 {Z : ZC} {o : Nat} {f : Nat → Int64} {H H1 : Heap} {A1 : Nat → Prop} (hO : PO Z o f H) (ho : ¬ A1 o) (hk : ∀ q : Nat, q < H.size → ¬ A1 q → H1[q]? = H[q]?) : PO Z o f H1 := va_P.kept hO (fun k q h => by
  have hm : q ∈ [(o, (.inl (Z.2.2.2.1, 1, .inr (.inl f)) : va_E))] := List.mem_of_getElem? h
  rw [List.mem_singleton] at hm
  subst hm
  exact hk o (hO k _ h).lt ho)
/-- where things lie, and what is known of the start -/
def LW (s : State) (Z Zm : ZC) (Y : YS) (o : Nat) : Prop := (KX Z s ∧ KM Zm s ∧ KMS Zm Y s ∧ KXO Z o s) ∧ (∀ q, AX Z q → s.heap.size ≤ q) ∧ (∀ q, AM Zm q → s.heap.size ≤ q) ∧ s.heap.size ≤ o ∧ (∀ q, AX Z q → ¬ AM Zm q) ∧ ¬ AM Zm o
section LCALL
variable {p : Program} {l : Launch} {e : Env} {R : Room} {s : State} {m : MethodId} {args : Array Value} {below : List Frame} {meth : Method} {c : Code} {H : Heap} {locs : List Loc} {cells slots : Nat} {Q : State → Prop} {cc cy : ByteArray} {nL ny a b n pc index : Nat} {own C0 : String} {y : MethodName} {ret : Option FieldType} {K : State → Prop} {A1 : Nat → Prop} {b0 : Addr} {As rest st : List Value} {P0 P1 : Heap → Prop} {ls : Array Slot} {Qc : Array Value → State → Outcome → State → Prop}
theorem lw_S (hS : va_S (fun q : Nat => s.heap.size ≤ q) s.heap H locs) : va_S A1 s.heap H [] := ⟨hS.1, fun q hq _ => hS.2.1 q hq (Nat.not_le.mpr hq), fun _ h => nomatch h⟩
theorem lw_V (F : CallFix p m c cc nL s args bigW own) (hM : Mg l y cy ny ret (rmk a b) K A1 (.ref b0 :: As) P0 Qc) (hk : Kok A1 K) (hKs : K s) (hS : va_S (fun q : Nat => s.heap.size ≤ q) s.heap H locs) (L : LkV own index C0 y cy ny ret n) (hR : a + 1 ≤ R.frames ∧ 8 + (ny + 11) + b ≤ R.locals) (hrv : Rcv s H C0 b0) (hP : P0 H)
    (hn : As.length = n) (hsz : ls.size = nL) (hst : st = As.reverse ++ .ref b0 :: rest) (hW : 2 * (F0 m pc ls st).monitorRoom + (rest.map fun v => v.category).sum ≤ 8) (hdg : decode cc pc = .ok (.invokevirtual index, 3)) (hf : cells ≤ R.cells ∧ slots ≤ R.slots) :
    va_Run p l e R s m args below meth c H locs cells slots 0 0 (F0 m pc ls st) rest (Qc (Value.ref b0 :: As).toArray) A1 :=
  va_runV F hM (cw_of F L rfl rfl hR) ⟨pre_blind hk, hrv, fun U hU hw => ⟨rfl, by rw [hU]; exact hP, hk.1 s U [] hw (by rw [hU]; exact lw_S hS) hKs⟩⟩ rfl hn hsz hst hW hdg hf
theorem lw_i {av : Array Value} {r : Int32} (hr : va_Run p l e R s m args below meth c H locs cells slots 0 0 (F0 m pc ls st) rest (Qi K A1 P1 r av) A1) (hS : va_S (fun q : Nat => s.heap.size ≤ q) s.heap H locs) (hA : ∀ q, A1 q → s.heap.size ≤ q)
    (kk : ∀ (H1 : Heap) (locs : List Loc), P1 H1 → (∀ q : Nat, q < H.size → ¬ A1 q → H1[q]? = H[q]?) → va_S (fun q : Nat => s.heap.size ≤ q) s.heap H1 locs → W p l e R s m args below meth c H1 locs cells slots Q (F0 m (pc + 3) ls (.int r :: rest))) : W p l e R s m args below meth c H locs cells slots Q (F0 m pc ls st) :=
  va_calli hr hS (fun q _ h => hA q h) (fun q h => hA q h) (fun r' u t H1 locs1 ht _ hw hB _ hk hS1 => by subst hw; subst ht; exact kk _ _ hB hk hS1)
theorem lw_l {av : Array Value} {r : Int64} (hr : va_Run p l e R s m args below meth c H locs cells slots 0 0 (F0 m pc ls st) rest (Ql K A1 P1 r av) A1) (hS : va_S (fun q : Nat => s.heap.size ≤ q) s.heap H locs) (hA : ∀ q, A1 q → s.heap.size ≤ q)
    (kk : ∀ (H1 : Heap) (locs : List Loc), P1 H1 → (∀ q : Nat, q < H.size → ¬ A1 q → H1[q]? = H[q]?) → va_S (fun q : Nat => s.heap.size ≤ q) s.heap H1 locs → W p l e R s m args below meth c H1 locs cells slots Q (F0 m (pc + 3) ls (.long r :: rest))) : W p l e R s m args below meth c H locs cells slots Q (F0 m pc ls st) :=
  va_calll hr hS (fun q _ h => hA q h) (fun q h => hA q h) (fun r' u t H1 locs1 ht _ hw hB _ hk hS1 => by subst hw; subst ht; exact kk _ _ hB hk hS1)
end LCALL
theorem law_gt {L i : Nat} (hL : L ≤ 2560) (hi : i ≤ 2560) : (nI L - 5 < nI i) ↔ L < i + 5 := by
  rw [Int32.lt_iff_toInt_lt, Int32.toInt_sub, nI_toInt (by omega), nI_toInt (by omega), show (5 : Int32).toInt = 5 by decide, Int.bmod_def]
  omega
section LCX
variable {p : Program} {l : Launch} {e : Env} {R : Room} {s : State} {m : MethodId} {args : Array Value} {below : List Frame} {meth : Method} {c : Code} {H : Heap} {locs : List Loc} {cells slots : Nat} {Q : State → Prop} {cc cy : ByteArray} {nL ny a b n pc index : Nat} {own : String} {y : MethodName} {ret : Option FieldType} {K : State → Prop} {A1 : Nat → Prop} {As rest st : List Value} {P0 : Heap → Prop} {ls : Array Slot} {Qc : Array Value → State → Outcome → State → Prop} {hh : List (Nat × Nat × Nat × Nat)}
theorem lw_X (F : CallFix p m c cc nL s args bigW own) (hM : Met l y (Cond.codeWith y cy ny ret hh :: bigW) (rmx a b) (va_Pc As (fun U => P0 U.heap ∧ K U)) Qc 1 6 A1) (hk : Kok A1 K) (hKs : K s) (hS : va_S (fun q : Nat => s.heap.size ≤ q) s.heap H locs) (l1 : Cond.methodLink own index y ∈ bigW) (l2 : Cond.static y ∈ bigW) (l3 : Cond.initialized y.cls ∈ bigW) (l4 : Cond.codeWith y cy ny ret hh ∈ bigW) (hd : y.cls ≠ "java/lang/invoke/MethodHandle" ∧ y.cls ≠ "java/lang/invoke/VarHandle" ∧ (parseMethodDescriptor y.desc).map (fun d => d.parameters.length) = some n) (hR : a + 1 ≤ R.frames ∧ 8 + (ny + 11) + b ≤ R.locals) (hP : P0 H)
    (hn : As.length = n) (hsz : ls.size = nL) (hst : st = As.reverse ++ rest) (hW : 2 * (F0 m pc ls st).monitorRoom + (rest.map fun v => v.category).sum ≤ 8) (hdg : decode cc pc = .ok (.invokestatic index, 3)) (hf : cells + 1 ≤ R.cells ∧ slots + 6 ≤ R.slots) :
    va_Run p l e R s m args below meth c H locs cells slots 1 6 (F0 m pc ls st) rest (Qc As.toArray) A1 := by
  refine vx_runSW F hM ⟨⟨rfl, rfl, hR.1, hR.2, fun w hw a' U hW => ?_, List.mem_cons_self⟩, F.2.2.2.2 _ l4, F.2.2.2.2 _ l3, ⟨hd.1, hd.2.1⟩, fun sig h => ?_, F.2.2.2.2 _ l1, F.2.2.2.2 _ l2⟩ ⟨pre_blind hk, fun U hU hw => ⟨rfl, by rw [hU]; exact hP, hk.1 s U [] hw (by rw [hU]; exact lw_S hS) hKs⟩⟩ rfl hn hsz hst hW hdg hf
  · have hm : w ∈ bigW := (List.mem_cons.mp hw).elim (fun e => e ▸ l4) id
    exact word_at hW (bw_good hm) (F.2.2.2.2 w hm)
  · have h2 := hd.2.2
    rw [h] at h2
    exact (Option.some.inj h2).symm
end LCX
/-! THE CLAIM OUT OF ONE WALK OF THE LAW'S BODY. Your part is whole_start (and what it stands on); all else here is the same for every law, but numbers. -/
def R_law : String := "CountedHeapLaw"
def lw_P (b : Addr) (xs : List Int32) (args : Array Value) (s : State) : Prop := args = #[.ref b] ∧ s.IntsAt b xs ∧ xs.length ≤ 2560 ∧ (Jvm.Cond.and given_1 narrow_1).before args s = true
def lw_Q (_ : Array Value) (s : State) (o : Outcome) (t : State) : Prop := o = .returned (some (.int 1)) ∧ Framed s o t [] 601024 7293034
def lw_Z (below : List Frame) (a : Array Value) (s : State) : State → Prop := fun t => ∃ o, t.status = .running ∧ Ended t below o ∧ lw_Q a s o t
/-- the law's own end, with 1 on the stack, nothing written that was there before, its room as the claim has it -/
theorem lw_ret {p : Program} {l : Launch} {e : Env} {s : State} {m : MethodId} {below : List Frame} {meth : Method} {c : Code} {b : Nat} (hx : p.tables.exec = Jvm.exec) (hb : c.code = code) (hr : meth.sig.returnType = ret) (hlocks : meth.locks = false) {pc : Nat} {H : Heap} {ls : Array Slot} (hdg : decode code pc = .ok (.ireturn, 1)) : W p l e room_1 s m #[Value.ref b] below meth c H [] 601024 7293034 (lw_Z below #[Value.ref b] s) (F0 m pc ls [.int 1]) := by
  intro T hT X
  obtain ⟨fs, hret, hrun, hended, hW, hframe⟩ := X.leave (v := some (.int 1)) (hlocks := hlocks) (fun h => by rw [hr] at h; cases h)
  have hmeth' : T.vm.method? m = some meth := X.method'
  refine ⟨T.setFrames fs, ?_, .returned (some (.int 1)), hrun, hended, rfl, ⟨_, rfl⟩, hW, hframe⟩
  jvm_step X.here [X.here.top, hx, hb, hdg, hmeth', hr, ret, narrow_b1]
  (try refine ⟨rfl, ?_⟩); (try refine ⟨rfl, ?_⟩)
  first | (intro acts; rw [hret _ acts rfl rfl rfl]) | rw [hret _ _ rfl rfl rfl]
  exact Steps.refl _
/-- what holds at the law's entry: the machine, the code, the tables' words (any of lw_tbl by 'hts w (by decide +kernel)'), the script of L ints xs at the cell b, what the Statement gives of the start (any of its parts by flat_of_before) -/
def lw_At (p : Program) (s : State) (m : MethodId) (meth : Method) (c : Code) (b L : Nat) (xs : Nat → Int32) : Prop :=
  p.tables.exec = Jvm.exec ∧ c.code = code ∧ meth.sig.returnType = ret ∧ c.maxLocals = 8 ∧ s.vm.findClass R_law = some m.cls ∧ (∀ w ∈ lw_tbl, w.before #[Value.ref b] s = true) ∧ va_X b L xs s s.heap ∧ b < s.heap.size ∧ meth.locks = false ∧ (Jvm.Cond.and given_1 narrow_1).before #[Value.ref b] s = true
