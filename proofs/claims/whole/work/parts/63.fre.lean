/-! a trial: all suspects go off the list; white ones; freeing them -/
theorem M_108 {N : Nat} (hN : 1000 ≤ N) {m0 : Nat → Int32} {b : Nat} (hb : b ≤ 5124) {mco mcn : Nat → Int32} {mvi : Int32} : ∀ (n : Nat) (A : AS) (mm : Nat → Int32) (f : Nat), WF A → (a_ls A).length = n → RM m0 b mm A → n < f → ∃ mm', fX12_runsTrial_108 N (nI b) f mm mco mcn mvi = fX12_runsTrial_128 N (nI b) mm' mco mcn mvi ∧ RM m0 b mm' (clA A) := by
  intro n
  induction n with
  | zero =>
    intro A mm f w hl hR hf
    obtain ⟨f', rfl⟩ : ∃ f', f = f' + 1 := ⟨f - 1, by omega⟩
    refine ⟨mm, ?_, ?_⟩
    · show fX12_runsTrial_108b N (nI b) (fX12_runsTrial_108 N (nI b) f') mm mco mcn mvi = _
      unfold fX12_runsTrial_108b
      rw [M_listed hR hb, b1_s, hl, if_pos (by decide)]
    · have e1 : a_ls A = [] := List.length_eq_zero_iff.mp hl
      have e2 : a_mt A = fun _ => false := by
        funext o
        cases e : a_mt A o with
        | false => rfl
        | true => have := W_mt w e; rw [e1] at this; cases this
      have e3 : clA A = u_mt (u_ls A (a_ls A)) (a_mt A) := by unfold clA; rw [e1, e2]
      rw [e3]; exact hR
  | succ n ih =>
    intro A mm f w hl hR hf
    obtain ⟨f', rfl⟩ : ∃ f', f = f' + 1 := ⟨f - 1, by omega⟩
    have hlen := W_len w
    obtain ⟨m1, e1, r1⟩ := M_goesOff hR hb (W_l24 w) (k := n) (by omega) (N := N) (by omega)
    have w1 : WF (goA A n) := by rw [← dr_go w (by omega)]; exact W_dr w _
    have hl1 : (a_ls (goA A n)).length = n := by
      show ((a_ls A).eraseIdx n).length = n
      rw [List.length_eraseIdx, if_pos (by omega)]; omega
    obtain ⟨mm', e2, r2⟩ := ih (goA A n) m1 f' w1 hl1 r1 (by omega)
    refine ⟨mm', ?_, r2⟩
    show fX12_runsTrial_108b N (nI b) (fX12_runsTrial_108 N (nI b) f') mm mco mcn mvi = _
    unfold fX12_runsTrial_108b
    rw [M_listed hR hb, b1_s, hl, if_neg (by rw [le_f0 (by omega)]; omega), b1_s, nI_pred, e1, b1_s, e2]
theorem flag_c (x : Bool) : fX12_flag (bI x) = some (bI x) := by cases x <;> rfl
theorem M_whites {N : Nat} (hN : 24 < N) {mco : Nat → Int32} {c : Nat → Nat} (hC : CP mco c) : fX12_whites N mco = some (bs (fun o => decide (c o = 2))) := by
  have hs : ∀ (n j : Nat) (s : Unit), j < 24 → True → (∃ s' : Unit, True ∧ fX12_whites_4 N mco (n + 1) (bsn (fun o => decide (c o = 2)) j) (nI j) = fX12_whites_4 N mco n (bsn (fun o => decide (c o = 2)) (j + 1)) (nI (j + 1))) ∨ ∃ r, fX12_whites_4 N mco (n + 1) (bsn (fun o => decide (c o = 2)) j) (nI j) = some r ∧ r = bs (fun o => decide (c o = 2)) := by
    intro n j s hj _
    left
    refine ⟨(), trivial, ?_⟩
    obtain ⟨h1, h2⟩ := hC j hj
    show fX12_whites_4b N mco (fX12_whites_4 N mco n) (bsn (fun o => decide (c o = 2)) j) (nI j) = fX12_whites_4 N mco n (bsn (fun o => decide (c o = 2)) j ||| jshl (bI (decide (c j = 2))) (nI j)) (nI (j + 1))
    unfold fX12_whites_4b fX12_whites_26
    rw [if_neg (by rw [le_24 (by omega)]; omega), inb_n hj (by decide), grd_t, cl_n (by omega), h1]
    by_cases q : c j = 2
    · rw [q, if_pos (show nI 2 = 2 from rfl), show fX12_flag 1 = some (bI true) from rfl, b1_s, nI_1]
      rfl
    · rw [if_neg (by rw [show (2 : Int32) = nI 2 from rfl, eq_n (by omega) (by omega)]; exact q), show fX12_flag 0 = some (bI false) from rfl, b1_s, nI_1, decide_eq_false q]
  have he : ∀ (n : Nat) (s : Unit), True → ∃ r, fX12_whites_4 N mco (n + 1) (bsn (fun o => decide (c o = 2)) 24) (nI 24) = some r ∧ r = bs (fun o => decide (c o = 2)) := by
    intro n s _
    refine ⟨_, ?_, rfl⟩
    show fX12_whites_4b N mco (fX12_whites_4 N mco n) (bsn (fun o => decide (c o = 2)) 24) (nI 24) = _
    unfold fX12_whites_4b
    rw [if_pos (by rw [le_24 (by omega)]; omega)]
    rfl
  obtain ⟨r, e, h⟩ := lpC (fun n j (_ : Unit) => fX12_whites_4 N mco n (bsn (fun o => decide (c o = 2)) j) (nI j)) (fun _ _ => True) (fun r => r = bs (fun o => decide (c o = 2))) 24 hs he N 0 () (by omega) trivial (by omega)
  rw [← h]
  exact e
theorem M_has (p : Nat → Bool) {i : Nat} (hi : i < 24) : fX12_has (bs p) (nI i) = some (bI (p i)) := by
  unfold fX12_has
  rw [bs_bitm p hi]
  cases p i <;> rfl
theorem M_hasEnd {m0 mm : Nat → Int32} {b : Nat} {A : AS} (h : RM m0 b mm A) (hb : b ≤ 5124) {o : Nat} (ho : o < 24) (ht : a_th A o = true) (he : a_en A o ≤ 7) : fX12_hasEnd mm (nI b) (nI o) = some (bI (hE A o)) := by
  unfold fX12_hasEnd hE
  rw [M_of3 h hb ho ht, b1_s, M_of4 h hb ho ht, b1_s, ht]
  by_cases q : a_en A o = 0
  · rw [if_pos (by rw [le_f0 (by omega)]; exact q)]; simp [q, bI]
  · rw [if_neg (by rw [le_f0 (by omega)]; exact q)]
    cases a_rn A o <;> simp [q, bI]
theorem M_withEnds {m0 mm : Nat → Int32} {b : Nat} {A : AS} (h : RM m0 b mm A) (hb : b ≤ 5124) (w : WF A) {N : Nat} (hN : 24 < N) {p : Nat → Bool} (hp : ∀ o, o < 24 → p o = true → a_th A o = true) : fX12_withEnds N mm (nI b) (bs p) = some (bs (fun o => p o && hE A o)) := by
  have hs : ∀ (n j : Nat) (s : Unit), j < 24 → True → (∃ s' : Unit, True ∧ fX12_withEnds_4 N mm (nI b) (bs p) (n + 1) (bsn (fun o => p o && hE A o) j) (nI j) = fX12_withEnds_4 N mm (nI b) (bs p) n (bsn (fun o => p o && hE A o) (j + 1)) (nI (j + 1))) ∨ ∃ r, fX12_withEnds_4 N mm (nI b) (bs p) (n + 1) (bsn (fun o => p o && hE A o) j) (nI j) = some r ∧ r = bs (fun o => p o && hE A o) := by
    intro n j s hj _
    left
    refine ⟨(), trivial, ?_⟩
    show fX12_withEnds_4b N mm (nI b) (bs p) (fX12_withEnds_4 N mm (nI b) (bs p) n) (bsn (fun o => p o && hE A o) j) (nI j) = fX12_withEnds_4 N mm (nI b) (bs p) n (bsn (fun o => p o && hE A o) j ||| jshl (bI (p j && hE A j)) (nI j)) (nI (j + 1))
    unfold fX12_withEnds_4b fX12_withEnds_31 fX12_withEnds_32
    rw [if_neg (by rw [le_24 (by omega)]; omega), M_has p hj, b1_s]
    cases q : p j with
    | false =>
      rw [if_pos (show bI false = 0 from rfl), show fX12_flag 0 = some (bI false) from rfl, b1_s, nI_1]
      rfl
    | true =>
      rw [if_neg (by decide), M_hasEnd h hb hj (hp j hj q) (W_en w j), b1_s]
      cases hE A j with
      | false =>
        rw [if_pos (show bI false = 0 from rfl), show fX12_flag 0 = some (bI false) from rfl, b1_s, nI_1]
        rfl
      | true =>
        rw [if_neg (by decide), show fX12_flag 1 = some (bI true) from rfl, b1_s, nI_1]
        rfl
  have he : ∀ (n : Nat) (s : Unit), True → ∃ r, fX12_withEnds_4 N mm (nI b) (bs p) (n + 1) (bsn (fun o => p o && hE A o) 24) (nI 24) = some r ∧ r = bs (fun o => p o && hE A o) := by
    intro n s _
    refine ⟨_, ?_, rfl⟩
    show fX12_withEnds_4b N mm (nI b) (bs p) (fX12_withEnds_4 N mm (nI b) (bs p) n) (bsn (fun o => p o && hE A o) 24) (nI 24) = _
    unfold fX12_withEnds_4b
    rw [if_pos (by rw [le_24 (by omega)]; omega)]
    rfl
  obtain ⟨r, e, hr⟩ := lpC (fun n j (_ : Unit) => fX12_withEnds_4 N mm (nI b) (bs p) n (bsn (fun o => p o && hE A o) j) (nI j)) (fun _ _ => True) (fun r => r = bs (fun o => p o && hE A o)) 24 hs he N 0 () (by omega) trivial (by omega)
  rw [← hr]
  exact e
theorem C_whiteEnd {X : Nat → Nat → Int32} {A : AS} (h : RC X A) (w : WF A) {N : Nat} (hN : 24 < N) {zcl : Nat → Int32} {c : Nat → Nat} (hC : CP zcl c) : ∃ r, fX9_hasWhiteEnd N zcl X = some r ∧ (r = 0 ↔ ∀ o, o < 24 → ¬ (c o = 2 ∧ hE A o = true)) := by
  have hs : ∀ (n j : Nat) (s : Unit), j < 24 → (∀ o, o < j → ¬ (c o = 2 ∧ hE A o = true)) → (∃ s' : Unit, (∀ o, o < j + 1 → ¬ (c o = 2 ∧ hE A o = true)) ∧ fX9_hasWhiteEnd_2 N zcl X (n + 1) (nI j) = fX9_hasWhiteEnd_2 N zcl X n (nI (j + 1))) ∨ ∃ r, fX9_hasWhiteEnd_2 N zcl X (n + 1) (nI j) = some r ∧ (r = 0 ↔ ∀ o, o < 24 → ¬ (c o = 2 ∧ hE A o = true)) := by
    intro n j s hj hI
    obtain ⟨h1, h2⟩ := hC j hj
    have ce : fX3_hasEndToRun X (nI j) = some (bI (hE A j)) := C_hasEnd h hj (W_en w j)
    have key : fX9_hasWhiteEnd_2 N zcl X (n + 1) (nI j) = if nI (c j) = 2 then (if bI (hE A j) = 0 then fX9_hasWhiteEnd_2 N zcl X n (nI (j + 1)) else some 1) else fX9_hasWhiteEnd_2 N zcl X n (nI (j + 1)) := by
      show fX9_hasWhiteEnd_2b N zcl X (fX9_hasWhiteEnd_2 N zcl X n) (nI j) = _
      unfold fX9_hasWhiteEnd_2b
      rw [if_neg (by rw [le_24 (by omega)]; omega), inb_n hj (by decide), grd_t, cl_n (by omega), h1, ce, b1_s, nI_1]
    have hext : ¬ (c j = 2 ∧ hE A j = true) → ∀ o, o < j + 1 → ¬ (c o = 2 ∧ hE A o = true) := by
      intro hn o ho
      by_cases q : o = j
      · rw [q]; exact hn
      · exact hI o (by omega)
    by_cases q : c j = 2
    · cases q2 : hE A j with
      | false => left; exact ⟨(), hext (fun q3 => by rw [q2] at q3; cases q3.2), by rw [key, q, if_pos (show nI 2 = 2 from rfl), q2, if_pos (show bI false = 0 from rfl)]⟩
      | true =>
        right
        refine ⟨1, by rw [key, q, if_pos (show nI 2 = 2 from rfl), q2, if_neg (by decide)], fun q3 => absurd q3 (by decide), fun q3 => absurd ⟨q, q2⟩ (q3 j hj)⟩
    · left
      exact ⟨(), hext (fun q3 => q q3.1), by rw [key, if_neg (by rw [show (2 : Int32) = nI 2 from rfl, eq_n (by omega) (by omega)]; exact q)]⟩
  have he : ∀ (n : Nat) (s : Unit), (∀ o, o < 24 → ¬ (c o = 2 ∧ hE A o = true)) → ∃ r, fX9_hasWhiteEnd_2 N zcl X (n + 1) (nI 24) = some r ∧ (r = 0 ↔ ∀ o, o < 24 → ¬ (c o = 2 ∧ hE A o = true)) := by
    intro n s hI
    refine ⟨0, ?_, fun _ => hI, fun _ => rfl⟩
    show fX9_hasWhiteEnd_2b N zcl X (fX9_hasWhiteEnd_2 N zcl X n) (nI 24) = _
    unfold fX9_hasWhiteEnd_2b
    rw [if_pos (by rw [le_24 (by omega)]; omega)]
  exact lpC (fun n j (_ : Unit) => fX9_hasWhiteEnd_2 N zcl X n (nI j)) (fun j _ => ∀ o, o < j → ¬ (c o = 2 ∧ hE A o = true)) (fun r => (r = 0 ↔ ∀ o, o < 24 → ¬ (c o = 2 ∧ hE A o = true))) 24 hs he N 0 () (by omega) (fun o ho => absurd ho (Nat.not_lt_zero o)) (by omega)
/-! freeing white ones -/
def emF (F : Nat → Nat → Option Nat) (o : Nat) : Nat → Nat → Option Nat := fun i j => if i = o then none else F i j
theorem C_fdc {X : Nat → Nat → Int32} {A : AS} {F1 F2 : Nat → Nat → Option Nat} (h : RC X (u_fd A F1)) (e : ∀ o k, o < 24 → k < 4 → F1 o k = F2 o k) : RC X (u_fd A F2) := by
  obtain ⟨h1, h2, h3, h4, h5, h6, h7, h8, h9⟩ := h
  exact ⟨h1, h2, h3, h4, h5, h6, h7, fun o k ho hk => by rw [h8 o k ho hk]; exact congrArg oI (e o k ho hk), h9⟩
theorem C_empties {X : Nat → Nat → Int32} {A : AS} (h : RC X A) {o : Nat} (ho : o < 24) {N : Nat} (hN : 4 < N) : ∃ X', fX3_empties N X (nI o) = some X' ∧ RC X' (u_fd A (emF (a_fd A) o)) := by
  have hs : ∀ (n j : Nat) (Y : Nat → Nat → Int32), j < 4 → RC Y (u_fd A (fun i k => if i = o ∧ k < j then none else a_fd A i k)) → (∃ s', RC s' (u_fd A (fun i k => if i = o ∧ k < j + 1 then none else a_fd A i k)) ∧ fX3_empties_2 N (nI o) (n + 1) Y (nI j) = fX3_empties_2 N (nI o) n s' (nI (j + 1))) ∨ ∃ r, fX3_empties_2 N (nI o) (n + 1) Y (nI j) = some r ∧ RC r (u_fd A (emF (a_fd A) o)) := by
    intro n j Y hj hY
    left
    have hY2 := C_fd hY (o := o) (k := j) none hj
    refine ⟨up2 Y 5 (o * 4 + j) (-1), C_fdc hY2 (fun i k _ _ => ?_), ?_⟩
    · show f2 (fun i k => if i = o ∧ k < j then none else a_fd A i k) o j none i k = _
      unfold f2
      by_cases q : i = o ∧ k = j
      · rw [if_pos q, if_pos (by omega)]
      · rw [if_neg q]
        show (if i = o ∧ k < j then none else a_fd A i k) = _
        by_cases q2 : i = o ∧ k < j
        · rw [if_pos q2, if_pos (by omega)]
        · rw [if_neg q2, if_neg (by omega)]
    · show fX3_empties_2b N (nI o) (fX3_empties_2 N (nI o) n) Y (nI j) = _
      unfold fX3_empties_2b
      rw [if_neg (by rw [le_4 (by omega)]; omega), ad4, inb_n (by omega) (by decide), grd_t, cl_n (by omega), lt_e, nI_1]
  have he : ∀ (n : Nat) (Y : Nat → Nat → Int32), RC Y (u_fd A (fun i k => if i = o ∧ k < 4 then none else a_fd A i k)) → ∃ r, fX3_empties_2 N (nI o) (n + 1) Y (nI 4) = some r ∧ RC r (u_fd A (emF (a_fd A) o)) := by
    intro n Y hY
    refine ⟨Y, ?_, C_fdc hY (fun i k _ hk => ?_)⟩
    · show fX3_empties_2b N (nI o) (fX3_empties_2 N (nI o) n) Y (nI 4) = _
      unfold fX3_empties_2b
      rw [if_pos (by rw [le_4 (by omega)]; omega)]
    · show (if i = o ∧ k < 4 then none else a_fd A i k) = if i = o then none else a_fd A i k
      by_cases q : i = o
      · rw [if_pos q, if_pos ⟨q, hk⟩]
      · rw [if_neg q, if_neg (fun q2 => q q2.1)]
  refine lpC (fun n j (Y : Nat → Nat → Int32) => fX3_empties_2 N (nI o) n Y (nI j)) (fun j Y => RC Y (u_fd A (fun i k => if i = o ∧ k < j then none else a_fd A i k))) (fun r => RC r (u_fd A (emF (a_fd A) o))) 4 hs he N 0 X (by omega) (C_fdc (F1 := a_fd A) h (fun i k _ _ => by rw [if_neg (by omega)])) (by omega)
def fr1 (A : AS) (o : Nat) : AS := lsA (u_fd (lgA A 2 o) (emF (a_fd A) o)) o
def frA (A : AS) (c : Nat → Nat) : Nat → AS
  | 0 => A
  | n + 1 => if c n = 2 then fr1 (frA A c n) n else frA A c n
theorem C_fr1 {X : Nat → Nat → Int32} {A : AS} (h : RC X A) (hw : ∀ w, SM (a_wk A w)) {o : Nat} (ho : o < 24) (hg : (a_lg A).1 < 2147470000) {N : Nat} (hN : 24 < N) : ∃ X1 X2 X3, fX4_adds X 2 (nI o) = some X1 ∧ fX3_empties N X1 (nI o) = some X2 ∧ fX3_loses N X2 (nI o) = some X3 ∧ RC X3 (fr1 A o) := by
  obtain ⟨X1, e1, r1⟩ := C_log h (kd := 2) (by decide) ho (by omega)
  obtain ⟨X2, e2, r2⟩ := C_empties r1 ho (N := N) (by omega)
  obtain ⟨X3, e3, r3⟩ := C_loses r2 hw ho (by show (a_lg A).1 + 1 < _; omega) (N := N) (by omega)
  exact ⟨X1, X2, X3, e1, e2, e3, r3⟩
theorem RM_irC {m0 mm : Nat → Int32} {b : Nat} {A : AS} {t1 t2 : Nat → Int} (h : RM m0 b mm (u_ct A t1)) (e : ∀ o, o < 24 → a_th A o = true → t1 o = t2 o) : RM m0 b mm (u_ct A t2) := by
  obtain ⟨h1, h2, h3, h4, h5, h6, h7, h8, h9, h10, h11, h12, h13, h14, h15, h16, h17⟩ := h
  exact ⟨h1, h2, h3, h4, h5, h6, h7, h8, h9, h10, h11, h12, h13, h14, h15, fun o ho ht => by rw [h16 o ho ht]; exact congrArg cI (e o ho ht), h17⟩
theorem RM_irF {m0 mm : Nat → Int32} {b : Nat} {A : AS} {F1 F2 : Nat → Nat → Option Nat} (h : RM m0 b mm (u_fd A F1)) (e : ∀ o k, o < 24 → k < 4 → a_th A o = true → F1 o k = F2 o k) : RM m0 b mm (u_fd A F2) := by
  obtain ⟨h1, h2, h3, h4, h5, h6, h7, h8, h9, h10, h11, h12, h13, h14, h15, h16, h17, h18, h19⟩ := h
  exact ⟨h1, h2, h3, h4, h5, h6, h7, h8, h9, h10, h11, h12, h13, h14, h15, h16, h17, fun o k ho hk ht => by rw [h18 o k ho hk ht]; exact congrArg oI (e o k ho hk ht), h19⟩
theorem wc_fd (A : AS) (F : Nat → Nat → Option Nat) (o : Nat) : ∀ j, wcA (u_fd A F) o j = u_fd (wcA A o j) F := by
  intro j
  induction j with
  | zero => rfl
  | succ j ih =>
    show (if a_wk (wcA (u_fd A F) o j) j = some o then lgA (u_wk (wcA (u_fd A F) o j) (fs (a_wk (wcA (u_fd A F) o j)) j none)) 5 o else wcA (u_fd A F) o j) = u_fd (if a_wk (wcA A o j) j = some o then lgA (u_wk (wcA A o j) (fs (a_wk (wcA A o j)) j none)) 5 o else wcA A o j) F
    rw [ih]
    by_cases q : a_wk (wcA A o j) j = some o
    · rw [if_pos q]
      have q2 : a_wk (u_fd (wcA A o j) F) j = some o := q
      rw [if_pos q2]
      rfl
    · rw [if_neg q]
      have q2 : ¬ a_wk (u_fd (wcA A o j) F) j = some o := q
      rw [if_neg q2]
theorem M_fr1 {m0 mm : Nat → Int32} {b : Nat} {A : AS} (h : RM m0 b mm A) (hb : b ≤ 5124) (hw : ∀ w, SM (a_wk A w)) {o : Nat} (ho : o < 24) (hg : (a_lg A).1 < 2147470000) {N : Nat} (hN : 24 < N) : ∃ m1 m2 m3 m4, fX12_logs mm (nI b) 2 (nI o) = some m1 ∧ fX12_clearsWeak N m1 (nI b) (nI o) = some m2 ∧ fX12_puts m2 (nI b) (nI o) 0 0 = some m3 ∧ fX12_puts m3 (nI b) (nI o) 5 0 = some m4 ∧ RM m0 b m4 (fr1 A o) := by
  obtain ⟨m1, e1, r1⟩ := M_log h hb (kd := 2) (o := o) (by decide) (by omega)
  obtain ⟨m2, e2, r2⟩ := M_clearsWeak r1 hb hw ho (by show (a_lg A).1 + 1 < _; omega) (N := N) (by omega)
  obtain ⟨m3, e3, r3⟩ := M_put0 r2 hb ho
  obtain ⟨m4, e4, r4⟩ := M_put5 r3 hb ho 0
  refine ⟨m1, m2, m3, m4, e1, e2, e3, e4, ?_⟩
  have hth : a_th (wcA (lgA A 2 o) o 4) = a_th A := by
    obtain ⟨f, g, ef, _⟩ := wc_form (lgA A 2 o) o 4
    rw [ef]
    rfl
  have hfd : a_fd (wcA (lgA A 2 o) o 4) = a_fd A := by
    obtain ⟨f, g, ef, _⟩ := wc_form (lgA A 2 o) o 4
    rw [ef]
    rfl
  have e5 : fr1 A o = u_fd (u_th (wcA (lgA A 2 o) o 4) (fs (a_th A) o false)) (emF (a_fd A) o) := by
    unfold fr1 lsA
    rw [wc_fd]
    rfl
  rw [hth] at r4
  rw [e5]
  have hno : ∀ x, fs (a_th A) o false x = true → x ≠ o := fun x q q2 => by rw [q2, fs_s] at q; cases q
  have r5 : RM m0 b m4 (u_ct (u_th (wcA (lgA A 2 o) o 4) (fs (a_th A) o false)) (a_ct (wcA (lgA A 2 o) o 4))) := RM_irC r4 (fun x _ q => by
    have q2 : fs (a_th A) o false x = true := q
    exact fs_n (hno x q2))
  refine RM_irF (A := u_th (wcA (lgA A 2 o) o 4) (fs (a_th A) o false)) (F1 := a_fd (wcA (lgA A 2 o) o 4)) r5 (fun x k _ _ q => ?_)
  have q2 : fs (a_th A) o false x = true := q
  rw [hfd]
  show a_fd A x k = if x = o then none else a_fd A x k
  rw [if_neg (hno x q2)]
