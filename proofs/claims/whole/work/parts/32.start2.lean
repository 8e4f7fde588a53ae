/-! the start: strings and statics -/
abbrev fW : List Cond := flatC (Jvm.Cond.and given_1 narrow_1)
def FR (s : State) : Nat → Prop := fun q => s.heap.size ≤ q
theorem FR_no {s : State} : ∀ a : Nat, a < s.heap.size → ¬ FR s a := fun _ h => Nat.not_le.mpr h
def tmS : Nat → Term := fun i => match i with | 0 => .string "CountedHeapModel" 41 | _ => .string "CountedHeapModel" 302
def stW (args : Array Value) (s : State) : Prop := (∀ w ∈ lw_tbl, w.before args s = true) ∧ (∀ w ∈ fW, w.before args s = true)
theorem stW.t {args : Array Value} {s : State} (h : stW args s) {w : Cond} (hw : w ∈ tables_1) : w.before args s = true := h.1 w (List.mem_append_right _ hw)
set_option maxRecDepth 20000
theorem st_S {args : Array Value} {s : State} (h : stW args s) : ∃ adK adV : Nat → Nat, vk_S 2 lenS bytS adK adV (FR s) s s.heap ∧ ∀ i : Nat, i < 2 → (tmS i).eval args s none [] s = some (.ref (adK i)) := by
  refine vk_Sof (tm := tmS) (len := lenS) (byt := bytS) (by decide) ?_ ?_ ?_ ?_ ?_ ?_ FR_no
  · intro i hi
    match i, hi with
    | 0, _ => exact h.2 _ (by decide +kernel)
    | 1, _ => exact h.2 _ (by decide +kernel)
  · intro i hi
    match i, hi with
    | 0, _ => exact h.2 _ (by decide +kernel)
    | 1, _ => exact h.2 _ (by decide +kernel)
  · intro i hi
    match i, hi with
    | 0, _ => exact h.2 _ (by decide +kernel)
    | 1, _ => exact h.2 _ (by decide +kernel)
  · intro i hi
    match i, hi with
    | 0, _ => exact h.2 _ (by decide +kernel)
    | 1, _ => exact h.2 _ (by decide +kernel)
  · intro i hi j hj
    match i, hi with
    | 0, _ => exact h.2 _ ((by decide +kernel : ∀ j : Nat, j < 10 → Cond.eq (.elem (.field (tmS 0) "java/lang/String" "value" "[B") (.int (Int32.ofNat j))) (.int ((bytS.getD 0 []).getD j 0)) ∈ fW) j hj)
    | 1, _ => exact h.2 _ ((by decide +kernel : ∀ j : Nat, j < 6 → Cond.eq (.elem (.field (tmS 1) "java/lang/String" "value" "[B") (.int (Int32.ofNat j))) (.int ((bytS.getD 1 []).getD j 0)) ∈ fW) j hj)
  · intro i j hi hj hne
    match i, hi, j, hj with
    | 0, _, 0, _ => exact absurd rfl hne
    | 0, _, 1, _ => exact Or.inr (h.2 _ (by decide +kernel))
    | 1, _, 0, _ => exact Or.inl (h.2 _ (by decide +kernel))
    | 1, _, 1, _ => exact absurd rfl hne
theorem st_CS {args : Array Value} {s : State} (h : stW args s) : va_Z "java/lang/String" "COMPACT_STRINGS" "Z" (.int 1) (FR s) s s.heap := va_Zof (h.t (by decide +kernel)) (h.t (by decide +kernel)) (va_eqi (h.2 _ (by decide +kernel))) FR_no
theorem st_SI {args : Array Value} {s : State} (h : stW args s) : va_Zq "jdk/internal/util/Preconditions" "SIOOBE_FORMATTER" "Ljava/util/function/BiFunction;" (FR s) s s.heap := va_Zqof (h.t (by decide +kernel)) (h.t (by decide +kernel)) (h.2 _ (by decide +kernel)) FR_no
theorem st_US {args : Array Value} {s : State} (h : stW args s) : vx_Zq Bundle.tN "UNASSIGNED_STACK" Bundle.steD (FR s) s s.heap := vx_Zqof (h.t (by decide +kernel)) (h.t (by decide +kernel)) (h.2 _ (by decide +kernel)) FR_no
theorem st_SS {args : Array Value} {s : State} (h : stW args s) : vx_Zq Bundle.tN "SUPPRESSED_SENTINEL" Bundle.listD (FR s) s s.heap := vx_Zqof (h.t (by decide +kernel)) (h.t (by decide +kernel)) (h.2 _ (by decide +kernel)) FR_no
theorem st_R {args : Array Value} {s : State} {own tx : String} {k : Nat} (h : stW args s) (h1 : Cond.stringRef own k tx ∈ tables_1) (h2 : Cond.exactly (.string own k) "java/lang/String" ∈ fW) : ∃ a, vk_R own k tx a s := by
  obtain ⟨a, c, cA, kA, q1, -⟩ := Cond.exactly_spec (args := args) (first := s) (o := none) (s := s) (idx := []) (t := .string own k) (cls := "java/lang/String") (h.2 _ h2)
  exact ⟨a, vk_R.of (h.t h1) q1⟩
theorem st_KMS {args : Array Value} {s : State} (h : stW args s) : ∃ Y : YS, ∀ Z : ZC, KM Z s → (∀ q, AM Z q → s.heap.size ≤ q) → KMS Z Y s := by
  obtain ⟨a, b, h1, h2⟩ := st_S h
  exact ⟨(a, b), fun Z hK hA => ⟨hK, ⟨h1.narrow hA, (st_CS h).narrow hA, (st_SI h).narrow hA⟩, vk_R.of (h.t (by decide +kernel)) (h2 0 (by decide)), vk_R.of (h.t (by decide +kernel)) (h2 1 (by decide))⟩⟩
theorem st_KXO {args : Array Value} {s : State} (h : stW args s) {Z : ZC} {o : Nat} (hK : KX Z s) (hA : ∀ q, AX Z q → s.heap.size ≤ q) (ho : s.heap.size ≤ o) (hn : ¬ AX Z o) : KXO Z o s := by
  have hAO : ∀ q, AO Z o q → FR s q := fun q h => h.elim (fun h => hA q h) (fun h => h ▸ ho)
  exact ⟨hK, (st_US h).narrow hAO, (st_SS h).narrow hAO, st_DC h.1, ⟨st_R h (by decide +kernel) (by decide +kernel), st_R h (by decide +kernel) (by decide +kernel), st_R h (by decide +kernel) (by decide +kernel), st_R h (by decide +kernel) (by decide +kernel), st_R h (by decide +kernel) (by decide +kernel), st_R h (by decide +kernel) (by decide +kernel)⟩, hn⟩
