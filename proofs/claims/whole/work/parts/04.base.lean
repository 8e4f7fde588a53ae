/-! words: all that the tables say and that can be handed on -/
def bigW : List Cond := lw_tbl.filter goodWord
theorem bw_in {w : Cond} (h : w ∈ lw_tbl) (g : goodWord w = true) : w ∈ bigW := List.mem_filter.mpr ⟨h, g⟩
theorem bw_t {w : Cond} (k : Nat) (h : tables_1[k]? = some w) (g : goodWord w = true) : w ∈ bigW := bw_in (List.mem_append_right _ (List.mem_of_getElem? h)) g
theorem bw_s {w : Cond} (k : Nat) (h : (k2_sels lw_privs)[k]? = some w) (g : goodWord w = true) : w ∈ bigW := bw_in (List.mem_append_left _ (List.mem_of_getElem? h)) g
theorem bw_good {w : Cond} (h : w ∈ bigW) : (w.onTables && w.keeps) = true ∨ ∃ ty, w = .arrayClass ty := good_of_word (List.mem_filter.mp h).2
theorem bw_code {y : MethodName} {cc : ByteArray} {n : Nat} {r : Option FieldType} (h : Cond.code y cc n r ∈ bigW) : GoodIn bigW (Cond.code y cc n r :: bigW) := fun w hw => by
  have hm : w ∈ bigW := (List.mem_cons.mp hw).elim (fun e => e ▸ h) id
  exact ⟨hm, bw_good hm⟩
/-! options -/
def bnd1 {α β : Type} (o : Option α) (k : α → Option β) : Option β := match o with | none => none | some a => k a
def bnd2 {α β γ : Type} (o : Option (α × β)) (k : α → β → Option γ) : Option γ := match o with | none => none | some (a, b) => k a b
def bnd3 {α β γ δ : Type} (o : Option (α × β × γ)) (k : α → β → γ → Option δ) : Option δ := match o with | none => none | some (a, b, c) => k a b c
def bnd4 {α β γ δ ε : Type} (o : Option (α × β × γ × δ)) (k : α → β → γ → δ → Option ε) : Option ε := match o with | none => none | some (a, b, c, d) => k a b c d
def bnd5 {α β γ δ ε ζ : Type} (o : Option (α × β × γ × δ × ε)) (k : α → β → γ → δ → ε → Option ζ) : Option ζ := match o with | none => none | some (a, b, c, d, e) => k a b c d e
def bnd6 {α β γ δ ε ζ η : Type} (o : Option (α × β × γ × δ × ε × ζ)) (k : α → β → γ → δ → ε → ζ → Option η) : Option η := match o with | none => none | some (a, b, c, d, e, f) => k a b c d e f
def bnd7 {α β γ δ ε ζ η θ : Type} (o : Option (α × β × γ × δ × ε × ζ × η)) (k : α → β → γ → δ → ε → ζ → η → Option θ) : Option θ := match o with | none => none | some (a, b, c, d, e, f, g) => k a b c d e f g
def bnd8 {α β γ δ ε ζ η θ ι : Type} (o : Option (α × β × γ × δ × ε × ζ × η × θ)) (k : α → β → γ → δ → ε → ζ → η → θ → Option ι) : Option ι := match o with | none => none | some (a, b, c, d, e, f, g, h) => k a b c d e f g h
def bnd9 {α β γ δ ε ζ η θ ι κ : Type} (o : Option (α × β × γ × δ × ε × ζ × η × θ × ι)) (k : α → β → γ → δ → ε → ζ → η → θ → ι → Option κ) : Option κ := match o with | none => none | some (a, b, c, d, e, f, g, h, i) => k a b c d e f g h i
def bnd10 {α β γ δ ε ζ η θ ι κ μ : Type} (o : Option (α × β × γ × δ × ε × ζ × η × θ × ι × κ)) (k : α → β → γ → δ → ε → ζ → η → θ → ι → κ → Option μ) : Option μ := match o with | none => none | some (a, b, c, d, e, f, g, h, i, j) => k a b c d e f g h i j
def bnd11 {α β γ δ ε ζ η θ ι κ μ ν : Type} (o : Option (α × β × γ × δ × ε × ζ × η × θ × ι × κ × μ)) (k : α → β → γ → δ → ε → ζ → η → θ → ι → κ → μ → Option ν) : Option ν := match o with | none => none | some (a, b, c, d, e, f, g, h, i, j, x) => k a b c d e f g h i j x
def bnd12 {α β γ δ ε ζ η θ ι κ μ ν ξ : Type} (o : Option (α × β × γ × δ × ε × ζ × η × θ × ι × κ × μ × ν)) (k : α → β → γ → δ → ε → ζ → η → θ → ι → κ → μ → ν → Option ξ) : Option ξ := match o with | none => none | some (a, b, c, d, e, f, g, h, i, j, x, y) => k a b c d e f g h i j x y
theorem bnd1_some {α β : Type} {o : Option α} {k : α → Option β} {r : β} (h : bnd1 o k = some r) : ∃ a, o = some a ∧ k a = some r := by
  cases o with
  | none => cases h
  | some a => exact ⟨a, rfl, h⟩
theorem bnd2_some {α β γ : Type} {o : Option (α × β)} {k : α → β → Option γ} {r : γ} (h : bnd2 o k = some r) : ∃ a b, o = some (a, b) ∧ k a b = some r := by
  cases o with
  | none => cases h
  | some a => exact ⟨_, _, rfl, h⟩
theorem bnd3_some {α β γ δ : Type} {o : Option (α × β × γ)} {k : α → β → γ → Option δ} {r : δ} (h : bnd3 o k = some r) : ∃ a b c, o = some (a, b, c) ∧ k a b c = some r := by
  cases o with
  | none => cases h
  | some a => exact ⟨_, _, _, rfl, h⟩
theorem bnd4_some {α β γ δ ε : Type} {o : Option (α × β × γ × δ)} {k : α → β → γ → δ → Option ε} {r : ε} (h : bnd4 o k = some r) : ∃ a b c d, o = some (a, b, c, d) ∧ k a b c d = some r := by
  cases o with
  | none => cases h
  | some a => exact ⟨_, _, _, _, rfl, h⟩
theorem bnd5_some {α β γ δ ε ζ : Type} {o : Option (α × β × γ × δ × ε)} {k : α → β → γ → δ → ε → Option ζ} {r : ζ} (h : bnd5 o k = some r) : ∃ a b c d e, o = some (a, b, c, d, e) ∧ k a b c d e = some r := by
  cases o with
  | none => cases h
  | some a => exact ⟨_, _, _, _, _, rfl, h⟩
theorem bnd6_some {α β γ δ ε ζ η : Type} {o : Option (α × β × γ × δ × ε × ζ)} {k : α → β → γ → δ → ε → ζ → Option η} {r : η} (h : bnd6 o k = some r) : ∃ a b c d e f, o = some (a, b, c, d, e, f) ∧ k a b c d e f = some r := by
  cases o with
  | none => cases h
  | some a => exact ⟨_, _, _, _, _, _, rfl, h⟩
theorem bnd7_some {α β γ δ ε ζ η θ : Type} {o : Option (α × β × γ × δ × ε × ζ × η)} {k : α → β → γ → δ → ε → ζ → η → Option θ} {r : θ} (h : bnd7 o k = some r) : ∃ a b c d e f g, o = some (a, b, c, d, e, f, g) ∧ k a b c d e f g = some r := by
  cases o with
  | none => cases h
  | some a => exact ⟨_, _, _, _, _, _, _, rfl, h⟩
theorem bnd8_some {α β γ δ ε ζ η θ ι : Type} {o : Option (α × β × γ × δ × ε × ζ × η × θ)} {k : α → β → γ → δ → ε → ζ → η → θ → Option ι} {r : ι} (h : bnd8 o k = some r) : ∃ a b c d e f g i, o = some (a, b, c, d, e, f, g, i) ∧ k a b c d e f g i = some r := by
  cases o with
  | none => cases h
  | some a => exact ⟨_, _, _, _, _, _, _, _, rfl, h⟩
theorem bnd9_some {α β γ δ ε ζ η θ ι κ : Type} {o : Option (α × β × γ × δ × ε × ζ × η × θ × ι)} {k : α → β → γ → δ → ε → ζ → η → θ → ι → Option κ} {r : κ} (h : bnd9 o k = some r) : ∃ a b c d e f g i j, o = some (a, b, c, d, e, f, g, i, j) ∧ k a b c d e f g i j = some r := by
  cases o with
  | none => cases h
  | some a => exact ⟨_, _, _, _, _, _, _, _, _, rfl, h⟩
theorem bnd10_some {α β γ δ ε ζ η θ ι κ μ : Type} {o : Option (α × β × γ × δ × ε × ζ × η × θ × ι × κ)} {k : α → β → γ → δ → ε → ζ → η → θ → ι → κ → Option μ} {r : μ} (h : bnd10 o k = some r) : ∃ a b c d e f g i j x, o = some (a, b, c, d, e, f, g, i, j, x) ∧ k a b c d e f g i j x = some r := by
  cases o with
  | none => cases h
  | some a => exact ⟨_, _, _, _, _, _, _, _, _, _, rfl, h⟩
theorem bnd11_some {α β γ δ ε ζ η θ ι κ μ ν : Type} {o : Option (α × β × γ × δ × ε × ζ × η × θ × ι × κ × μ)} {k : α → β → γ → δ → ε → ζ → η → θ → ι → κ → μ → Option ν} {r : ν} (h : bnd11 o k = some r) : ∃ a b c d e f g i j x y, o = some (a, b, c, d, e, f, g, i, j, x, y) ∧ k a b c d e f g i j x y = some r := by
  cases o with
  | none => cases h
  | some a => exact ⟨_, _, _, _, _, _, _, _, _, _, _, rfl, h⟩
theorem bnd12_some {α β γ δ ε ζ η θ ι κ μ ν ξ : Type} {o : Option (α × β × γ × δ × ε × ζ × η × θ × ι × κ × μ × ν)} {k : α → β → γ → δ → ε → ζ → η → θ → ι → κ → μ → ν → Option ξ} {r : ξ} (h : bnd12 o k = some r) : ∃ a b c d e f g i j x y z, o = some (a, b, c, d, e, f, g, i, j, x, y, z) ∧ k a b c d e f g i j x y z = some r := by
  cases o with
  | none => cases h
  | some a => exact ⟨_, _, _, _, _, _, _, _, _, _, _, _, rfl, h⟩
/-- a test that must hold -/
def grd {α : Type} (b : Bool) (o : Option α) : Option α := match b with | true => o | false => none
theorem grd_some {α : Type} {b : Bool} {o : Option α} {r : α} (h : grd b o = some r) : b = true ∧ o = some r := by
  cases b with
  | false => cases h
  | true => exact ⟨rfl, h⟩
theorem ifp {α : Type} {q : Prop} {d : Decidable q} {a b : Option α} {r : α} (h : ite q a b = some r) (hq : q) : a = some r := by rw [if_pos hq] at h; exact h
theorem ifn {α : Type} {q : Prop} {d : Decidable q} {a b : Option α} {r : α} (h : ite q a b = some r) (hq : ¬ q) : b = some r := by rw [if_neg hq] at h; exact h
/-- a name for a value -/
def lt {α β : Type} (a : α) (k : α → Option β) : Option β := k a
theorem lt_some {α β : Type} {a : α} {k : α → Option β} {r : β} (h : lt a k = some r) : ∃ b, b = a ∧ k b = some r := ⟨a, rfl, h⟩
/-! numbers -/
def inb (i : Int32) (n : Nat) : Bool := !(decide (i < 0) || decide (n ≤ i.toNatClampNeg))
theorem inb_in {i : Int32} {n : Nat} (h : inb i n = true) : vp_in i n := by
  intro q
  simp [inb] at h
  rcases q with q | q
  · exact absurd q (by simpa using h.1)
  · omega
def jushr (x y : Int32) : Int32 := (x.toUInt32 >>> (y.toUInt32 &&& Int32.toUInt32 31)).toInt32
def jshl (x y : Int32) : Int32 := x <<< (y &&& 31)
def jshr (x y : Int32) : Int32 := x >>> (y &&& 31)
def jrem (x y : Int32) : Int32 := x - x / y * y
def nzb (y : Int32) : Bool := !decide (y = 0)
theorem nzb_ne {y : Int32} (h : nzb y = true) : ¬ y = 0 := by simpa [nzb] using h
section JROWS
variable {p : Program} {l : Launch} {e : Env} {R : Room} {s : State} {m : MethodId} {args : Array Value} {below : List Frame} {meth : Method} {c : Code} {H : Heap} {locs : List Loc} {cells slots : Nat} {Q : State → Prop} {cc : ByteArray} {pc : Nat} {ls : Array Slot} {rest : List Value}
theorem rj_ishl (hexec : p.tables.exec = Jvm.exec) (hb : c.code = cc) {x y : Int32} (hdg : decode cc pc = .ok (.ishl, 1)) (k : W p l e R s m args below meth c H locs cells slots Q (F0 m (pc + 1) ls (.int (jshl x y) :: rest))) : W p l e R s m args below meth c H locs cells slots Q (F0 m pc ls (.int y :: .int x :: rest)) := lv_ishl hexec hb hdg k
theorem rj_ishr (hexec : p.tables.exec = Jvm.exec) (hb : c.code = cc) {x y : Int32} (hdg : decode cc pc = .ok (.ishr, 1)) (k : W p l e R s m args below meth c H locs cells slots Q (F0 m (pc + 1) ls (.int (jshr x y) :: rest))) : W p l e R s m args below meth c H locs cells slots Q (F0 m pc ls (.int y :: .int x :: rest)) := lv_ishr hexec hb hdg k
theorem rj_iushr (hexec : p.tables.exec = Jvm.exec) (hb : c.code = cc) {x y : Int32} (hdg : decode cc pc = .ok (.iushr, 1)) (k : W p l e R s m args below meth c H locs cells slots Q (F0 m (pc + 1) ls (.int (jushr x y) :: rest))) : W p l e R s m args below meth c H locs cells slots Q (F0 m pc ls (.int y :: .int x :: rest)) := lv_iushr hexec hb hdg rfl k
theorem rj_irem (hexec : p.tables.exec = Jvm.exec) (hb : c.code = cc) {x y : Int32} (hdg : decode cc pc = .ok (.irem, 1)) (hne : ¬ y = 0) (k : W p l e R s m args below meth c H locs cells slots Q (F0 m (pc + 1) ls (.int (jrem x y) :: rest))) : W p l e R s m args below meth c H locs cells slots Q (F0 m pc ls (.int y :: .int x :: rest)) := lv_irem hexec hb hdg hne k
end JROWS
/-! contracts of methods that make no cells -/
def rmk (a b : Nat) : Room := { frames := a, cells := 0, slots := 0, locals := b }
def Qi (K : State → Prop) (A : Nat → Prop) (P1 : Heap → Prop) (r : Int32) : Array Value → State → Outcome → State → Prop := va_Qi (fun (r' : Int32) (_ : Unit) => r' = r) (fun _ t => P1 t.heap) A
def Ql (K : State → Prop) (A : Nat → Prop) (P1 : Heap → Prop) (r : Int64) : Array Value → State → Outcome → State → Prop := va_Ql (fun (r' : Int64) (_ : Unit) => r' = r) (fun _ t => P1 t.heap) A
def Qv (K : State → Prop) (A : Nat → Prop) (P1 : Heap → Prop) : Array Value → State → Outcome → State → Prop := va_Qv (fun (_ : Unit) => True) (fun _ t => P1 t.heap) A
def Mg (l : Launch) (y : MethodName) (cc : ByteArray) (n : Nat) (ret : Option FieldType) (rm : Room) (K : State → Prop) (A : Nat → Prop) (av : List Value) (P0 : Heap → Prop) (Qc : Array Value → State → Outcome → State → Prop) : Prop :=
  Met l y (Cond.code y cc n ret :: bigW) rm (va_Pc av (fun U => P0 U.heap ∧ K U)) Qc 0 0 A
/-- what a method's facts about the state need: they go over to warmer states, and into a call -/
def Kok (A : Nat → Prop) (K : State → Prop) : Prop := (∀ (s U : State) (locs : List Loc), s.WarmedH U.vm → va_S A s.heap U.heap locs → K s → K U) ∧ ∀ (U : State) (g : JFrame) (mk : MethodId) (a : Array Value), K U → K (U.calling g mk a)
theorem Mg.start {l : Launch} {y : MethodName} {cc : ByteArray} {n : Nat} {ret : Option FieldType} {a b : Nat} {K : State → Prop} {A : Nat → Prop} {av : List Value} {P0 : Heap → Prop} {Qc : Array Value → State → Outcome → State → Prop} {own : String} {lv : List (Nat × Value)}
    (hy : plainName y.cls = true) (ho : y.cls = own) (hn : (lg_sl av).length ≤ n) (hlv : lv_args 0 av = lv)
    (body : ∀ (p : Program) (e : Env) (s : State) (m : MethodId) (below : List Frame) (meth : Method) (c : Code), CallFix p m c cc n s av.toArray bigW own → meth.sig.returnType = ret → meth.locks = false → K s → P0 s.heap → ∀ ls : Array Slot, lv_has ls n lv →
      W p l e (rmk a b) s m av.toArray below meth c s.heap [] 0 0 (MQ below Qc av.toArray s 0 0 A) (F0 m 0 ls [])) : Mg l y cc n ret (rmk a b) K A av P0 Qc := by
  refine Met.ofW (cc := cc) (maxL := n) (ret := ret) hy rfl ?_
  intro p e s m args below meth c s₁ B hml hv
  obtain ⟨rfl, hP, hK⟩ := hv
  have hts := atoms_spec (ws := Cond.code y cc n ret :: bigW) B.pre
  have hown : s.vm.findClass own = some m.cls := by rw [← ho]; exact findClass_of_methodNamed B.named
  have hl := lv_entry av hn
  rw [lg_entry_eq]
  rw [hlv] at hl
  exact body p e s m below meth c ⟨B.exec, B.bytes, hml, hown, fun w h => hts w (List.mem_cons_of_mem _ h)⟩ B.returns B.notSynchronized hK hP _ hl
/-- a call's words: a method of an object -/
def LkV (own : String) (index : Nat) (C0 : String) (y : MethodName) (cy : ByteArray) (ny : Nat) (ret : Option FieldType) (k : Nat) : Prop :=
  (Cond.methodLink own index y ∈ bigW ∧ Cond.instanceMethod y ∈ bigW ∧ Cond.selects C0 y y ∈ bigW ∧ Cond.initialized C0 ∈ bigW ∧ Cond.code y cy ny ret ∈ bigW) ∧ (y.cls = C0 ∧ y.cls ≠ "java/lang/invoke/MethodHandle" ∧ y.cls ≠ "java/lang/invoke/VarHandle" ∧ (parseMethodDescriptor y.desc).map (fun d => d.parameters.length) = some k)
/-- the same, a nest mate's -/
def LkN (C0 : String) (y : MethodName) (cy : ByteArray) (ny : Nat) (ret : Option FieldType) (k : Nat) : Prop :=
  (Cond.instanceMethod y ∈ bigW ∧ Cond.selects C0 y y ∈ bigW ∧ Cond.initialized y.cls ∈ bigW ∧ Cond.code y cy ny ret ∈ bigW) ∧ (y.cls ≠ "java/lang/invoke/MethodHandle" ∧ y.cls ≠ "java/lang/invoke/VarHandle" ∧ (parseMethodDescriptor y.desc).map (fun d => d.parameters.length) = some k)
/-- a static method -/
def LkS (own : String) (index : Nat) (y : MethodName) (cy : ByteArray) (ny : Nat) (ret : Option FieldType) (k : Nat) : Prop :=
  (Cond.methodLink own index y ∈ bigW ∧ Cond.static y ∈ bigW ∧ Cond.initialized y.cls ∈ bigW ∧ Cond.code y cy ny ret ∈ bigW) ∧ (y.cls ≠ "java/lang/invoke/MethodHandle" ∧ y.cls ≠ "java/lang/invoke/VarHandle" ∧ (parseMethodDescriptor y.desc).map (fun d => d.parameters.length) = some k)
def LkSN (y : MethodName) (cy : ByteArray) (ny : Nat) (ret : Option FieldType) (k : Nat) : Prop :=
  (Cond.static y ∈ bigW ∧ Cond.initialized y.cls ∈ bigW ∧ Cond.code y cy ny ret ∈ bigW) ∧ (y.cls ≠ "java/lang/invoke/MethodHandle" ∧ y.cls ≠ "java/lang/invoke/VarHandle" ∧ (parseMethodDescriptor y.desc).map (fun d => d.parameters.length) = some k)
section CALLS
variable {p : Program} {l : Launch} {e : Env} {R : Room} {s : State} {m : MethodId} {args : Array Value} {below : List Frame} {meth : Method} {c : Code} {H : Heap} {locs : List Loc} {cells slots : Nat} {Q : State → Prop}
variable {cc cy : ByteArray} {nL ny a b n pc index : Nat} {own C0 host : String} {y : MethodName} {ret : Option FieldType} {K : State → Prop} {A : Nat → Prop} {b0 : Addr} {As rest st : List Value} {P0 P1 : Heap → Prop} {ls : Array Slot} {Qc : Array Value → State → Outcome → State → Prop}
/-- the receiver is an object of a known kind -/
def Rcv (s : State) (H : Heap) (C0 : String) (b0 : Addr) : Prop := ∃ cell : Cell, H[b0]? = some cell ∧ cell.vm.isStatics = false ∧ s.vm.findClass C0 = some cell.cls
theorem pre_blind {av : List Value} (hk : Kok A K) : FrameBlind (va_Pc av (fun U => P0 U.heap ∧ K U)) := fun a U g mk q => ⟨q.1, q.2.1, hk.2 U g mk a q.2.2⟩
theorem run_V (F : CallFix p m c cc nL s args bigW own) (hM : Mg l y cy ny ret (rmk a b) K A (.ref b0 :: As) P0 Qc) (hk : Kok A K) (hKs : K s) (hS : va_S A s.heap H locs) (L : LkV own index C0 y cy ny ret n) (hR : a + 1 ≤ R.frames ∧ 8 + (ny + 11) + b ≤ R.locals) (hrv : Rcv s H C0 b0) (hP : P0 H)
    (hn : As.length = n) (hsz : ls.size = nL) (hst : st = As.reverse ++ .ref b0 :: rest) (hW : 2 * (F0 m pc ls st).monitorRoom + (rest.map fun v => v.category).sum ≤ 8) (hdg : decode cc pc = .ok (.invokevirtual index, 3)) (hf : cells ≤ R.cells ∧ slots ≤ R.slots) :
    va_Run p l e R s m args below meth c H locs cells slots 0 0 (F0 m pc ls st) rest (Qc (Value.ref b0 :: As).toArray) A := by
  obtain ⟨⟨l1, l2, l3, l4, l5⟩, hd⟩ := L
  refine va_runV F hM (cwV n F.2.2.2.2 (C := C0) (fun w hw => ?_) rfl rfl rfl hd hR) ⟨pre_blind hk, hrv, fun U hU hw => ⟨rfl, by rw [hU]; exact hP, hk.1 s U locs hw (by rw [hU]; exact hS) hKs⟩⟩ rfl hn hsz hst hW hdg hf
  unfold wsV at hw
  rcases List.mem_append.mp hw with h | h
  · simp only [List.mem_cons, List.not_mem_nil, or_false] at h
    rcases h with rfl | rfl | rfl | rfl
    · exact ⟨l1, bw_good l1⟩
    · exact ⟨l2, bw_good l2⟩
    · exact ⟨l3, bw_good l3⟩
    · exact ⟨l4, bw_good l4⟩
  · exact bw_code l5 w h
theorem run_N (F : CallFix p m c cc nL s args bigW own) (hM : Mg l y cy ny ret (rmk a b) K A (.ref b0 :: As) P0 Qc) (hk : Kok A K) (hKs : K s) (hS : va_S A s.heap H locs) (hl : va_Nw (.methodLinkNest own index y host) s) (L : LkN C0 y cy ny ret n) (hR : a + 1 ≤ R.frames ∧ 8 + (ny + 11) + b ≤ R.locals) (hrv : Rcv s H C0 b0) (hP : P0 H)
    (hn : As.length = n) (hsz : ls.size = nL) (hst : st = As.reverse ++ .ref b0 :: rest) (hW : 2 * (F0 m pc ls st).monitorRoom + (rest.map fun v => v.category).sum ≤ 8) (hdg : decode cc pc = .ok (.invokevirtual index, 3)) (hf : cells ≤ R.cells ∧ slots ≤ R.slots) :
    va_Run p l e R s m args below meth c H locs cells slots 0 0 (F0 m pc ls st) rest (Qc (Value.ref b0 :: As).toArray) A := by
  obtain ⟨⟨l2, l3, l4, l5⟩, hd⟩ := L
  exact va_runVN F hM ⟨va_cnB n F.2.2.2.2 (bw_code l5) rfl rfl rfl hl (F.2.2.2.2 _ l4) hd hR, F.2.2.2.2 _ l2, F.2.2.2.2 _ l3⟩ ⟨pre_blind hk, hrv, fun U hU hw => ⟨rfl, by rw [hU]; exact hP, hk.1 s U locs hw (by rw [hU]; exact hS) hKs⟩⟩ rfl hn hsz hst hW hdg hf
theorem run_S (F : CallFix p m c cc nL s args bigW own) (hM : Mg l y cy ny ret (rmk a b) K A As P0 Qc) (hk : Kok A K) (hKs : K s) (hS : va_S A s.heap H locs) (L : LkS own index y cy ny ret n) (hR : a + 1 ≤ R.frames ∧ 8 + (ny + 11) + b ≤ R.locals) (hP : P0 H)
    (hn : As.length = n) (hsz : ls.size = nL) (hst : st = As.reverse ++ rest) (hW : 2 * (F0 m pc ls st).monitorRoom + (rest.map fun v => v.category).sum ≤ 8) (hdg : decode cc pc = .ok (.invokestatic index, 3)) (hf : cells ≤ R.cells ∧ slots ≤ R.slots) :
    va_Run p l e R s m args below meth c H locs cells slots 0 0 (F0 m pc ls st) rest (Qc As.toArray) A := by
  obtain ⟨⟨l1, l2, l4, l5⟩, hd⟩ := L
  exact va_runS F hM ⟨callB_of n F.2.2.2.2 (bw_code l5) rfl rfl rfl (F.2.2.2.2 _ l4) (F.2.2.2.2 _ l1) hd hR, F.2.2.2.2 _ l2⟩ ⟨pre_blind hk, fun U hU hw => ⟨rfl, by rw [hU]; exact hP, hk.1 s U locs hw (by rw [hU]; exact hS) hKs⟩⟩ rfl hn hsz hst hW hdg hf
theorem run_SN (F : CallFix p m c cc nL s args bigW own) (hM : Mg l y cy ny ret (rmk a b) K A As P0 Qc) (hk : Kok A K) (hKs : K s) (hS : va_S A s.heap H locs) (hl : va_Nw (.methodLinkNest own index y host) s) (L : LkSN y cy ny ret n) (hR : a + 1 ≤ R.frames ∧ 8 + (ny + 11) + b ≤ R.locals) (hP : P0 H)
    (hn : As.length = n) (hsz : ls.size = nL) (hst : st = As.reverse ++ rest) (hW : 2 * (F0 m pc ls st).monitorRoom + (rest.map fun v => v.category).sum ≤ 8) (hdg : decode cc pc = .ok (.invokestatic index, 3)) (hf : cells ≤ R.cells ∧ slots ≤ R.slots) :
    va_Run p l e R s m args below meth c H locs cells slots 0 0 (F0 m pc ls st) rest (Qc As.toArray) A := by
  obtain ⟨⟨l2, l4, l5⟩, hd⟩ := L
  exact va_runSN F hM ⟨va_cnB n F.2.2.2.2 (bw_code l5) rfl rfl rfl hl (F.2.2.2.2 _ l4) hd hR, F.2.2.2.2 _ l2, trivial⟩ ⟨pre_blind hk, fun U hU hw => ⟨rfl, by rw [hU]; exact hP, hk.1 s U locs hw (by rw [hU]; exact hS) hKs⟩⟩ rfl hn hsz hst hW hdg hf
theorem aft_i {av : Array Value} {r : Int32} (hr : va_Run p l e R s m args below meth c H locs cells slots 0 0 (F0 m pc ls st) rest (Qi K A P1 r av) A) (hS : va_S A s.heap H locs)
    (kk : ∀ (H : Heap) (locs : List Loc), P1 H → va_S A s.heap H locs → W p l e R s m args below meth c H locs cells slots Q (F0 m (pc + 3) ls (.int r :: rest))) : W p l e R s m args below meth c H locs cells slots Q (F0 m pc ls st) :=
  va_calli hr hS (fun _ _ h => h) (fun _ h => h) (fun r' u t H1 locs1 ht _ hw hB _ _ hS1 => by subst hw; subst ht; exact kk _ _ hB hS1)
theorem aft_l {av : Array Value} {r : Int64} (hr : va_Run p l e R s m args below meth c H locs cells slots 0 0 (F0 m pc ls st) rest (Ql K A P1 r av) A) (hS : va_S A s.heap H locs)
    (kk : ∀ (H : Heap) (locs : List Loc), P1 H → va_S A s.heap H locs → W p l e R s m args below meth c H locs cells slots Q (F0 m (pc + 3) ls (.long r :: rest))) : W p l e R s m args below meth c H locs cells slots Q (F0 m pc ls st) :=
  va_calll hr hS (fun _ _ h => h) (fun _ h => h) (fun r' u t H1 locs1 ht _ hw hB _ _ hS1 => by subst hw; subst ht; exact kk _ _ hB hS1)
theorem aft_v {av : Array Value} (hr : va_Run p l e R s m args below meth c H locs cells slots 0 0 (F0 m pc ls st) rest (Qv K A P1 av) A) (hS : va_S A s.heap H locs)
    (kk : ∀ (H : Heap) (locs : List Loc), P1 H → va_S A s.heap H locs → W p l e R s m args below meth c H locs cells slots Q (F0 m (pc + 3) ls rest)) : W p l e R s m args below meth c H locs cells slots Q (F0 m pc ls st) :=
  va_callv hr hS (fun _ _ h => h) (fun _ h => h) (fun u t H1 locs1 ht _ _ hB _ _ hS1 => by subst ht; exact kk _ _ hB hS1)
theorem ret_i {r : Int32} (F : CallFix p m c cc nL s args bigW own) (hr : meth.sig.returnType = some .int) (hlk : meth.locks = false) (hP : P1 H) (hS : va_S A s.heap H locs) (hdg : decode cc pc = .ok (.ireturn, 1)) :
    W p l e R s m args below meth c H locs cells slots (MQ below (Qi K A P1 r) args s cells slots A) (F0 m pc ls [.int r]) :=
  W.iret F.1 F.2.1 hr (fun t ht _ => ⟨⟨r, (), rfl, rfl, by subst ht; exact hP⟩, hS.F ht⟩) hS.2.2 hdg (hlocks := hlk)
theorem ret_z {r : Int32} (F : CallFix p m c cc nL s args bigW own) (hr : meth.sig.returnType = some .boolean) (hn : narrow .boolean (.int r) = .int r) (hlk : meth.locks = false) (hP : P1 H) (hS : va_S A s.heap H locs) (hdg : decode cc pc = .ok (.ireturn, 1)) :
    W p l e R s m args below meth c H locs cells slots (MQ below (Qi K A P1 r) args s cells slots A) (F0 m pc ls [.int r]) :=
  W.zret F.1 F.2.1 hr hn (fun t ht _ => ⟨⟨r, (), rfl, rfl, by subst ht; exact hP⟩, hS.F ht⟩) hS.2.2 hdg (hlocks := hlk)
theorem ret_l {r : Int64} (F : CallFix p m c cc nL s args bigW own) (hr : meth.sig.returnType = some .long) (hlk : meth.locks = false) (hP : P1 H) (hS : va_S A s.heap H locs) (hdg : decode cc pc = .ok (.lreturn, 1)) :
    W p l e R s m args below meth c H locs cells slots (MQ below (Ql K A P1 r) args s cells slots A) (F0 m pc ls [.long r]) :=
  W.lret F.1 F.2.1 hr (fun t ht _ => ⟨⟨r, (), rfl, rfl, by subst ht; exact hP⟩, hS.F ht⟩) hS.2.2 hdg (hlocks := hlk)
theorem ret_v (F : CallFix p m c cc nL s args bigW own) (hr : meth.sig.returnType = none) (hlk : meth.locks = false) (hP : P1 H) (hS : va_S A s.heap H locs) (hdg : decode cc pc = .ok (.return_, 1)) :
    W p l e R s m args below meth c H locs cells slots (MQ below (Qv K A P1) args s cells slots A) (F0 m pc ls []) :=
  W.vret F.1 F.2.1 hr (fun t ht _ => ⟨⟨(), rfl, trivial, by subst ht; exact hP⟩, hS.F ht⟩) hS.2.2 hdg (hlocks := hlk)
end CALLS
