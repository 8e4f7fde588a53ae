/-! constructors: methods that make cells -/
abbrev YC : Type := va_G × ClassId × ClassId × ClassId × ClassId
def tysC (Y : YC) : List (ClassId × FieldType) := [(Y.2.1, .int), (Y.2.2.1, .long), (Y.2.2.2.1, .object "CountedHeap$Heap"), (Y.2.2.2.2, .boolean)]
def KC (Y : YC) (s : State) : Prop := va_K Y.1 vwCl (tysC Y) s ∧ NW s ∧ va_AO "CountedHeap$Heap" s
theorem KC.warm {Y : YC} {s U : State} (hW : s.WarmedH U.vm) (h : KC Y s) : KC Y U := ⟨va_K.moved hW.alike h.1, fun k w hk hn => nest_warm hn hW (h.2.1 k w hk hn), va_AO.moved hW.alike h.2.2⟩
theorem KC.call {Y : YC} {U : State} {g : JFrame} {mk : MethodId} {a : Array Value} (h : KC Y U) : KC Y (U.calling g mk a) := ⟨va_K.moved (u := U) (U := U.calling g mk a) (Vm.Alike.refl U.vm) h.1, fun k w hk hn => nest_same (s := U) (U := U.calling g mk a) hn rfl (h.2.1 k w hk hn), va_AO.moved (u := U) (U := U.calling g mk a) (Vm.Alike.refl U.vm) h.2.2⟩
def rmc (a b mc ms : Nat) : Room := { frames := a, cells := mc, slots := ms, locals := b }
def Mc (l : Launch) (y : MethodName) (cc : ByteArray) (n a b : Nat) (Y : YC) (av : List Value) (w0 : va_W) (sz : Nat) (B : Heap → Prop) (mc ms : Nat) : Prop :=
  Met l y (Cond.code y cc n none :: bigW) (rmc a b mc ms) (va_Pc av (fun U => U.heap.size = sz ∧ va_P Y.1 vwCl w0 U.heap ∧ KC Y U ∧ va_D (fun _ => True) w0)) (va_Qv (fun (_ : Unit) => True) (fun _ t => B t.heap) (va_A w0 sz)) mc ms (va_A w0 sz)
theorem Mc.start {l : Launch} {y : MethodName} {cc : ByteArray} {n a b mc ms sz : Nat} {Y : YC} {av : List Value} {w0 : va_W} {B : Heap → Prop} {own : String} {lv : List (Nat × Value)}
    (hy : plainName y.cls = true) (ho : y.cls = own) (hn : (lg_sl av).length ≤ n) (hlv : lv_args 0 av = lv)
    (body : ∀ (p : Program) (e : Env) (s : State) (m : MethodId) (below : List Frame) (meth : Method) (c : Code) (A : Nat → Prop), CallFix p m c cc n s av.toArray bigW own → meth.sig.returnType = none → meth.locks = false → meth.name = y.name → KC Y s → s.heap.size = sz → va_P Y.1 vwCl w0 s.heap → va_D A w0 → (∀ q : Nat, s.heap.size ≤ q → A q) → A = va_A w0 sz → ∀ ls : Array Slot, lv_has ls n lv →
      W p l e (rmc a b mc ms) s m av.toArray below meth c s.heap [] 0 0 (MQ below (va_Qv (fun (_ : Unit) => True) (fun _ t => B t.heap) A) av.toArray s mc ms A) (F0 m 0 ls [])) : Mc l y cc n a b Y av w0 sz B mc ms := by
  refine Met.ofW (cc := cc) (maxL := n) (ret := none) hy rfl ?_
  intro p e s m args below meth c s₁ Bd hml hv
  obtain ⟨rfl, hsz, hP, hK, hD⟩ := hv
  have hts := atoms_spec (ws := Cond.code y cc n none :: bigW) Bd.pre
  have hown : s.vm.findClass own = some m.cls := by rw [← ho]; exact findClass_of_methodNamed Bd.named
  have hl := lv_entry av hn
  rw [lg_entry_eq]
  rw [hlv] at hl
  exact body p e s m below meth c (va_A w0 sz) ⟨Bd.exec, Bd.bytes, hml, hown, fun w h => hts w (List.mem_cons_of_mem _ h)⟩ Bd.returns Bd.notSynchronized (name_of_methodNamed Bd.named Bd.method).1 hK hsz hP (hD.self) (fun q h => Or.inr (by rw [← hsz]; exact h)) rfl _ hl
theorem vP_iff {D : va_G} {cl : List vw_C} {ws : va_W} {H : Heap} : va_P D cl ws H ↔ ∀ q ∈ ws, va_at D cl q H := ⟨fun h q hq => by obtain ⟨i, hi⟩ := List.getElem?_of_mem hq; exact h i q hi, fun h k q hk => h q (List.mem_of_getElem? hk)⟩
theorem vD_iff {A : Nat → Prop} {ws : va_W} : va_D A ws ↔ (ws.map Prod.fst).Nodup ∧ ∀ q ∈ ws, A q.1 := by
  constructor
  · intro h
    refine ⟨?_, fun q hq => by obtain ⟨i, hi⟩ := List.getElem?_of_mem hq; exact h.2 i q hi⟩
    rw [List.Nodup, List.pairwise_iff_getElem]
    intro i j hi hj hij he
    simp at hi hj he
    exact absurd (h.1 i j ws[i] ws[j] (List.getElem?_eq_getElem hi) (List.getElem?_eq_getElem hj) he) (by omega)
  · intro h
    refine ⟨fun i j p q hi hj he => ?_, fun k q hk => h.2 q (List.mem_of_getElem? hk)⟩
    obtain ⟨hi1, hi2⟩ := List.getElem?_eq_some_iff.mp hi
    obtain ⟨hj1, hj2⟩ := List.getElem?_eq_some_iff.mp hj
    have hn := h.1
    rw [List.Nodup, List.pairwise_iff_getElem] at hn
    rcases Nat.lt_trichotomy i j with hlt | heq | hgt
    · exact (hn i j (by simpa using hi1) (by simpa using hj1) hlt (by simp [hi2, hj2, he])).elim
    · exact heq
    · exact (hn j i (by simpa using hj1) (by simpa using hi1) hgt (by simp [hi2, hj2, he])).elim
theorem ct_perm {D : va_G} {cl : List vw_C} {A : Nat → Prop} {ws ws' : va_W} {H : Heap} (h : ws.Perm ws') (hP : va_P D cl ws H) (hD : va_D A ws) : va_P D cl ws' H ∧ va_D A ws' :=
  ⟨vP_iff.mpr fun q hq => vP_iff.mp hP q (h.mem_iff.mpr hq), vD_iff.mpr ⟨(List.Perm.nodup_iff (h.map Prod.fst)).mp (vD_iff.mp hD).1, fun q hq => (vD_iff.mp hD).2 q (h.mem_iff.mpr hq)⟩⟩
/-- a cell that was made at the end comes ahead of what is kept closed -/
theorem ct_mv {D : va_G} {cl : List vw_C} {A : Nat → Prop} {f B : va_W} {c : Nat × va_E} {H : Heap} (hP : va_P D cl ((f ++ B) ++ [c]) H) (hD : va_D A ((f ++ B) ++ [c])) : va_P D cl (f ++ (c :: B)) H ∧ va_D A (f ++ (c :: B)) := by
  refine ct_perm ?_ hP hD
  rw [List.append_assoc]
  exact List.Perm.append_left f (List.perm_append_comm (l₁ := B) (l₂ := [c]))
/-- behind a call on one cell -/
theorem ct_join {D : va_G} {cl : List vw_C} {A : Nat → Prop} {f1 f2 w1 : va_W} {c : Nat × va_E} {H H1 : Heap} (hP : va_P D cl (f1 ++ c :: f2) H) (hD : va_D A (f1 ++ c :: f2)) (hk : ∀ q : Nat, q < H.size → ¬ va_A [c] H.size q → H1[q]? = H[q]?) (hF : ∀ q, va_A [c] H.size q → A q) (hP1 : va_P D cl w1 H1) (hD1 : va_D (va_A [c] H.size) w1) : va_P D cl (f1 ++ (w1 ++ f2)) H1 ∧ va_D A (f1 ++ (w1 ++ f2)) := by
  have hp := vP_iff.mp hP
  have hd := vD_iff.mp hD
  have hd1 := vD_iff.mp hD1
  have hn : ∀ q, q ∈ f1 ++ f2 → q.1 < H.size ∧ q.1 ≠ c.1 := by
    intro q hq
    have hm : q ∈ f1 ++ c :: f2 := by
      rcases List.mem_append.mp hq with h | h
      · exact List.mem_append_left _ h
      · exact List.mem_append_right _ (List.mem_cons_of_mem _ h)
    refine ⟨(hp q hm).lt, fun he => ?_⟩
    have h3 : ((c :: (f1 ++ f2)).map Prod.fst).Nodup := (List.Perm.nodup_iff ((List.perm_middle (a := c) (l₁ := f1) (l₂ := f2)).map Prod.fst)).mp hd.1
    rw [List.map_cons, List.nodup_cons] at h3
    exact h3.1 (List.mem_map.mpr ⟨q, hq, he⟩)
  have ha : ∀ q, q ∈ f1 ++ f2 → ¬ va_A [c] H.size q.1 := by
    intro q hq h
    obtain ⟨h1, h2⟩ := hn q hq
    rcases h with ⟨k, e, h⟩ | h
    · rcases k with _ | k
      · simp at h; exact h2 (by rw [h])
      · simp at h
    · omega
  constructor
  · refine vP_iff.mpr fun q hq => ?_
    rcases List.mem_append.mp hq with h | h
    · have hm := List.mem_append_left f2 h
      exact (hp q (List.mem_append_left _ h)).kept (hk q.1 (hn q hm).1 (ha q hm))
    · rcases List.mem_append.mp h with h | h
      · exact vP_iff.mp hP1 q h
      · have hm := List.mem_append_right f1 h
        exact (hp q (List.mem_append_right _ (List.mem_cons_of_mem _ h))).kept (hk q.1 (hn q hm).1 (ha q hm))
  · refine vD_iff.mpr ⟨?_, fun q hq => ?_⟩
    · have h3 : ((c :: (f1 ++ f2)).map Prod.fst).Nodup := (List.Perm.nodup_iff ((List.perm_middle (a := c) (l₁ := f1) (l₂ := f2)).map Prod.fst)).mp hd.1
      rw [List.map_cons, List.nodup_cons] at h3
      have h4 : ((w1 ++ (f1 ++ f2)).map Prod.fst).Nodup := by
        rw [List.map_append, List.nodup_append]
        refine ⟨hd1.1, h3.2, fun a h1 b h2 he => ?_⟩
        obtain ⟨x, hx, rfl⟩ := List.mem_map.mp h1
        obtain ⟨z, hz, rfl⟩ := List.mem_map.mp h2
        exact ha z hz (by rw [← he]; exact hd1.2 x hx)
      refine (List.Perm.nodup_iff (List.Perm.map Prod.fst ?_)).mp h4
      rw [← List.append_assoc, ← List.append_assoc]
      exact List.Perm.append_right f2 List.perm_append_comm
    · rcases List.mem_append.mp hq with h | h
      · exact hd.2 q (List.mem_append_left _ h)
      · rcases List.mem_append.mp h with h | h
        · exact hF _ (hd1.2 q h)
        · exact hd.2 q (List.mem_append_right _ (List.mem_cons_of_mem _ h))
theorem ct_free {A : Nat → Prop} {f1 f2 : va_W} {c : Nat × va_E} {s : State} {H : Heap} {locs : List Loc} (hD : va_D A (f1 ++ c :: f2)) (hS : va_S A s.heap H locs) (hA : ∀ q : Nat, s.heap.size ≤ q → A q) : ∀ q, va_A [c] H.size q → A q := by
  intro q h
  rcases h with ⟨k, e, h⟩ | h
  · rcases k with _ | k
    · simp at h; subst h; exact (vD_iff.mp hD).2 _ (List.mem_append_right _ List.mem_cons_self)
    · simp at h
  · exact hA q (Nat.le_trans hS.1 h)
section CT
variable {p : Program} {l : Launch} {e : Env} {R : Room} {s : State} {m : MethodId} {args : Array Value} {below : List Frame} {meth : Method} {c : Code} {H : Heap} {locs : List Loc} {cells slots : Nat} {Q : State → Prop} {cc cy : ByteArray} {nL ny a b n pc index mc ms : Nat} {own host : String} {y : MethodName} {A : Nat → Prop} {ls : Array Slot} {rest st As : List Value} {Y : YC} {ws f1 f2 : va_W} {B : Heap → Prop}
theorem cid_int {cA : ClassId} (C : KC Y s) (h : va_K Y.1 vwCl (tysC Y ++ [(cA, .int)]) s) : cA = Y.2.1 := by
  have h1 := (h.2 4 (cA, .int) rfl).2
  have h2 := (C.1.2 0 (Y.2.1, .int) rfl).2
  exact Option.some.inj (h1.symm.trans h2)
theorem cid_long {cA : ClassId} (C : KC Y s) (h : va_K Y.1 vwCl (tysC Y ++ [(cA, .long)]) s) : cA = Y.2.2.1 := by
  have h1 := (h.2 4 (cA, .long) rfl).2
  have h2 := (C.1.2 1 (Y.2.2.1, .long) rfl).2
  exact Option.some.inj (h1.symm.trans h2)
theorem cid_bool {cA : ClassId} (C : KC Y s) (h : va_K Y.1 vwCl (tysC Y ++ [(cA, .boolean)]) s) : cA = Y.2.2.2.2 := by
  have h1 := (h.2 4 (cA, .boolean) rfl).2
  have h2 := (C.1.2 3 (Y.2.2.2.2, .boolean) rfl).2
  exact Option.some.inj (h1.symm.trans h2)
theorem cid_heap {cA : ClassId} (C : KC Y s) (h : va_K Y.1 vwCl (tysC Y ++ [(cA, .object "CountedHeap$Heap")]) s) : cA = Y.2.2.2.1 := by
  obtain ⟨_, _, _, _, _, h1⟩ := (h.2 4 (cA, .object "CountedHeap$Heap") rfl).2
  obtain ⟨_, _, _, _, _, h2⟩ := (C.1.2 2 (Y.2.2.2.1, .object "CountedHeap$Heap") rfl).2
  exact Option.some.inj (h1.symm.trans h2)
theorem ct_newi (F : CallFix p m c cc nL s args bigW own) (C : KC Y s) (hP : va_P Y.1 vwCl ws H) (hD : va_D A ws) (hS : va_S A s.heap H locs) (hA : ∀ q : Nat, s.heap.size ≤ q → A q) {k : Int32} {N : Nat} (hk : ¬ k < 0) (hN : k.toNatClampNeg = N) (hb : N * 4 ≤ 536870912) (hc : cells + 1 ≤ R.cells) (hs : slots + N ≤ R.slots) (hdg : decode cc pc = .ok (.newarray .int, 2))
    (kk : ∀ (q : Nat) (H : Heap), va_P Y.1 vwCl (ws ++ [(q, .inl (Y.2.1, N, .inl (fun _ => 0)))]) H → va_D A (ws ++ [(q, .inl (Y.2.1, N, .inl (fun _ => 0)))]) → va_S A s.heap H locs → W p l e R s m args below meth c H locs (cells + 1) (slots + N) Q (F0 m (pc + 2) ls (.ref q :: rest))) : W p l e R s m args below meth c H locs cells slots Q (F0 m pc ls (.int k :: rest)) :=
  va_newa (atype := .int) (ty := .int) (a0 := (N, .inl (fun _ => 0))) F.1 F.2.1 (F.2.2.2.2 _ (bw_t 66 (by decide +kernel) rfl)) rfl C.1 hP hD hS hA (fun _ => rfl) hk hN hb hc hs hdg (fun q cA H1 hK1 hP1 hD1 hS1 => by
    have e1 := cid_int C hK1
    subst e1
    exact kk q H1 hP1 hD1 hS1)
theorem ct_newl (F : CallFix p m c cc nL s args bigW own) (C : KC Y s) (hP : va_P Y.1 vwCl ws H) (hD : va_D A ws) (hS : va_S A s.heap H locs) (hA : ∀ q : Nat, s.heap.size ≤ q → A q) {k : Int32} {N : Nat} (hk : ¬ k < 0) (hN : k.toNatClampNeg = N) (hb : N * 8 ≤ 536870912) (hc : cells + 1 ≤ R.cells) (hs : slots + N ≤ R.slots) (hdg : decode cc pc = .ok (.newarray .long, 2))
    (kk : ∀ (q : Nat) (H : Heap), va_P Y.1 vwCl (ws ++ [(q, .inl (Y.2.2.1, N, .inr (.inl (fun _ => 0))))]) H → va_D A (ws ++ [(q, .inl (Y.2.2.1, N, .inr (.inl (fun _ => 0))))]) → va_S A s.heap H locs → W p l e R s m args below meth c H locs (cells + 1) (slots + N) Q (F0 m (pc + 2) ls (.ref q :: rest))) : W p l e R s m args below meth c H locs cells slots Q (F0 m pc ls (.int k :: rest)) :=
  va_newa (atype := .long) (ty := .long) (a0 := (N, .inr (.inl (fun _ => 0)))) F.1 F.2.1 (F.2.2.2.2 _ (bw_t 191 (by decide +kernel) rfl)) rfl C.1 hP hD hS hA (fun _ => rfl) hk hN hb hc hs hdg (fun q cA H1 hK1 hP1 hD1 hS1 => by
    have e1 := cid_long C hK1
    subst e1
    exact kk q H1 hP1 hD1 hS1)
theorem ct_newz (F : CallFix p m c cc nL s args bigW own) (C : KC Y s) (hP : va_P Y.1 vwCl ws H) (hD : va_D A ws) (hS : va_S A s.heap H locs) (hA : ∀ q : Nat, s.heap.size ≤ q → A q) {k : Int32} {N : Nat} (hk : ¬ k < 0) (hN : k.toNatClampNeg = N) (hb : N * 1 ≤ 536870912) (hc : cells + 1 ≤ R.cells) (hs : slots + N ≤ R.slots) (hdg : decode cc pc = .ok (.newarray .boolean, 2))
    (kk : ∀ (q : Nat) (H : Heap), va_P Y.1 vwCl (ws ++ [(q, .inl (Y.2.2.2.2, N, .inl (fun _ => 0)))]) H → va_D A (ws ++ [(q, .inl (Y.2.2.2.2, N, .inl (fun _ => 0)))]) → va_S A s.heap H locs → W p l e R s m args below meth c H locs (cells + 1) (slots + N) Q (F0 m (pc + 2) ls (.ref q :: rest))) : W p l e R s m args below meth c H locs cells slots Q (F0 m pc ls (.int k :: rest)) :=
  va_newa (atype := .boolean) (ty := .boolean) (a0 := (N, .inl (fun _ => 0))) F.1 F.2.1 (F.2.2.2.2 _ (bw_t 1063 (by decide +kernel) rfl)) rfl C.1 hP hD hS hA (fun _ => rfl) hk hN hb hc hs hdg (fun q cA H1 hK1 hP1 hD1 hS1 => by
    have e1 := cid_bool C hK1
    subst e1
    exact kk q H1 hP1 hD1 hS1)
theorem ct_newh (F : CallFix p m c cc nL s args bigW own) (C : KC Y s) (hP : va_P Y.1 vwCl ws H) (hD : va_D A ws) (hS : va_S A s.heap H locs) (hA : ∀ q : Nat, s.heap.size ≤ q → A q) (hcl : (Cond.classLink own index "CountedHeap$Heap").before args s = true) {k : Int32} {N : Nat} (hk : ¬ k < 0) (hN : k.toNatClampNeg = N) (hb : N * 4 ≤ 536870912) (hc : cells + 1 ≤ R.cells) (hs : slots + N ≤ R.slots) (hdg : decode cc pc = .ok (.anewarray index, 3))
    (kk : ∀ (q : Nat) (H : Heap), va_P Y.1 vwCl (ws ++ [(q, .inl (Y.2.2.2.1, N, .inr (.inr (.inr (.inr (fun _ => none))))))]) H → va_D A (ws ++ [(q, .inl (Y.2.2.2.1, N, .inr (.inr (.inr (.inr (fun _ => none))))))]) → va_S A s.heap H locs → W p l e R s m args below meth c H locs (cells + 1) (slots + N) Q (F0 m (pc + 3) ls (.ref q :: rest))) : W p l e R s m args below meth c H locs cells slots Q (F0 m pc ls (.int k :: rest)) :=
  va_newq F.1 F.2.1 F.2.2.2.1 hcl C.2.2 C.1 hP hD hS hA hk hN hb hc hs hdg (fun q cA H1 hK1 hP1 hD1 hS1 => by
    have e1 := cid_heap C hK1
    subst e1
    exact kk q H1 hP1 hD1 hS1)
/-- a constructor of a nest mate, called on the cell that was made for it -/
theorem ct_call {b0 : Nat} {e0 : va_E} (F : CallFix p m c cc nL s args bigW own) (C : KC Y s) (hM : Mc l y cy ny a b Y (.ref b0 :: As) [(b0, e0)] H.size B mc ms) (hl : va_Nw (.methodLinkNest own index y host) s) (h1 : Cond.instanceMethod y ∈ bigW) (h2 : Cond.initialized y.cls ∈ bigW) (h3 : Cond.code y cy ny none ∈ bigW) (hi : y.name = "<init>") (hd : y.cls ≠ "java/lang/invoke/MethodHandle" ∧ y.cls ≠ "java/lang/invoke/VarHandle" ∧ (parseMethodDescriptor y.desc).map (fun d => d.parameters.length) = some n)
    (hR : a + 1 ≤ R.frames ∧ 8 + (ny + 11) + b ≤ R.locals) (hP : va_P Y.1 vwCl (f1 ++ (b0, e0) :: f2) H) (hD : va_D A (f1 ++ (b0, e0) :: f2)) (hS : va_S A s.heap H locs) (hA : ∀ q : Nat, s.heap.size ≤ q → A q)
    (hn : As.length = n) (hsz : ls.size = nL) (hst : st = As.reverse ++ .ref b0 :: rest) (hW : 2 * (F0 m pc ls st).monitorRoom + (rest.map fun v => v.category).sum ≤ 8) (hdg : decode cc pc = .ok (.invokespecial index, 3)) (hf : cells + mc ≤ R.cells ∧ slots + ms ≤ R.slots)
    (kk : ∀ (H1 : Heap) (locs : List Loc), (∀ w1 : va_W, va_P Y.1 vwCl w1 H1 → va_D (va_A [(b0, e0)] H.size) w1 → va_P Y.1 vwCl (f1 ++ (w1 ++ f2)) H1 ∧ va_D A (f1 ++ (w1 ++ f2))) → B H1 → va_S A s.heap H1 locs → W p l e R s m args below meth c H1 locs (cells + mc) (slots + ms) Q (F0 m (pc + 3) ls rest)) : W p l e R s m args below meth c H locs cells slots Q (F0 m pc ls st) := by
  have hPc : va_P Y.1 vwCl [(b0, e0)] H := vP_iff.mpr fun q hq => vP_iff.mp hP q (by rw [List.mem_singleton] at hq; subst hq; exact List.mem_append_right _ List.mem_cons_self)
  have hFc := ct_free hD hS hA
  refine va_callv (va_runIN F hM ⟨va_cnB n F.2.2.2.2 (bw_code h3) rfl rfl rfl hl (F.2.2.2.2 _ h2) hd hR, hi, F.2.2.2.2 _ h1⟩ ⟨fun a U g mk q => ⟨q.1, q.2.1, q.2.2.1, q.2.2.2.1.call, q.2.2.2.2⟩, fun U hU hw => ⟨rfl, by rw [hU], by rw [hU]; exact hPc, C.warm hw, vD_iff.mpr ⟨by simp, fun _ _ => trivial⟩⟩⟩ rfl hn hsz hst hW hdg hf) hS (fun q _ h => hFc q h) hFc (fun u t H1 locs1 ht _ _ hB _ hk1 hS1 => ?_)
  subst ht
  exact kk _ _ (fun w1 hP1 hD1 => ct_join hP hD hk1 hFc hP1 hD1) hB hS1
/-- a static method that works on one cell and makes none -/
theorem ct_stat {b0 : Nat} {e0 : va_E} (F : CallFix p m c cc nL s args bigW own) (C : KC Y s) (hM : Mc l y cy ny a b Y (.ref b0 :: As) [(b0, e0)] H.size B 0 0) (hl : Cond.methodLink own index y ∈ bigW) (h1 : Cond.static y ∈ bigW) (h2 : Cond.initialized y.cls ∈ bigW) (h3 : Cond.code y cy ny none ∈ bigW) (hd : y.cls ≠ "java/lang/invoke/MethodHandle" ∧ y.cls ≠ "java/lang/invoke/VarHandle" ∧ (parseMethodDescriptor y.desc).map (fun d => d.parameters.length) = some n)
    (hR : a + 1 ≤ R.frames ∧ 8 + (ny + 11) + b ≤ R.locals) (hP : va_P Y.1 vwCl (f1 ++ (b0, e0) :: f2) H) (hD : va_D A (f1 ++ (b0, e0) :: f2)) (hS : va_S A s.heap H locs) (hA : ∀ q : Nat, s.heap.size ≤ q → A q)
    (hn : As.length + 1 = n) (hsz : ls.size = nL) (hst : st = As.reverse ++ .ref b0 :: rest) (hW : 2 * (F0 m pc ls st).monitorRoom + (rest.map fun v => v.category).sum ≤ 8) (hdg : decode cc pc = .ok (.invokestatic index, 3)) (hf : cells ≤ R.cells ∧ slots ≤ R.slots)
    (kk : ∀ (H1 : Heap) (locs : List Loc), (∀ w1 : va_W, va_P Y.1 vwCl w1 H1 → va_D (va_A [(b0, e0)] H.size) w1 → va_P Y.1 vwCl (f1 ++ (w1 ++ f2)) H1 ∧ va_D A (f1 ++ (w1 ++ f2))) → B H1 → va_S A s.heap H1 locs → W p l e R s m args below meth c H1 locs cells slots Q (F0 m (pc + 3) ls rest)) : W p l e R s m args below meth c H locs cells slots Q (F0 m pc ls st) := by
  have hPc : va_P Y.1 vwCl [(b0, e0)] H := vP_iff.mpr fun q hq => vP_iff.mp hP q (by rw [List.mem_singleton] at hq; subst hq; exact List.mem_append_right _ List.mem_cons_self)
  have hFc := ct_free hD hS hA
  refine va_callv (va_runS (As := .ref b0 :: As) F hM ⟨callB_of n F.2.2.2.2 (bw_code h3) rfl rfl rfl (F.2.2.2.2 _ h2) (F.2.2.2.2 _ hl) hd hR, F.2.2.2.2 _ h1⟩ ⟨fun a U g mk q => ⟨q.1, q.2.1, q.2.2.1, q.2.2.2.1.call, q.2.2.2.2⟩, fun U hU hw => ⟨rfl, by rw [hU], by rw [hU]; exact hPc, C.warm hw, vD_iff.mpr ⟨by simp, fun _ _ => trivial⟩⟩⟩ rfl (by simpa using hn) hsz (by rw [hst]; simp) hW hdg hf) hS (fun q _ h => hFc q h) hFc (fun u t H1 locs1 ht _ _ hB _ hk1 hS1 => ?_)
  subst ht
  exact kk _ _ (fun w1 hP1 hD1 => ct_join hP hD hk1 hFc hP1 hD1) hB hS1
theorem ct_ret {B : Heap → Prop} (F : CallFix p m c cc nL s args bigW own) (hr : meth.sig.returnType = none) (hlk : meth.locks = false) (hB : B H) (hS : va_S A s.heap H locs) (hdg : decode cc pc = .ok (.return_, 1)) :
    W p l e R s m args below meth c H locs cells slots (MQ below (va_Qv (fun (_ : Unit) => True) (fun _ t => B t.heap) A) args s cells slots A) (F0 m pc ls []) :=
  W.vret F.1 F.2.1 hr (fun t ht _ => ⟨⟨(), rfl, trivial, by subst ht; exact hB⟩, hS.F ht⟩) hS.2.2 hdg (hlocks := hlk)
end CT
