/-! who is reached -/
def nxn (F : Nat → Nat → Option Nat) (i : Nat) : Nat → Nat → Bool
  | 0 => fun _ => false
  | j + 1 => fun o => nxn F i j o || decide (F i j = some o)
def nx (F : Nat → Nat → Option Nat) (i : Nat) : Nat → Bool := nxn F i 4
theorem nxn_iff (F : Nat → Nat → Option Nat) (i : Nat) (o : Nat) : ∀ n, nxn F i n o = true ↔ ∃ k, k < n ∧ F i k = some o := by
  intro n
  induction n with
  | zero => exact ⟨(fun h => by cases h), fun ⟨k, h, _⟩ => absurd h (Nat.not_lt_zero k)⟩
  | succ n ih =>
    show (nxn F i n o || decide (F i n = some o)) = true ↔ _
    rw [Bool.or_eq_true, ih, decide_eq_true_eq]
    constructor
    · rintro (⟨k, h1, h2⟩ | h)
      · exact ⟨k, by omega, h2⟩
      · exact ⟨n, by omega, h⟩
    · rintro ⟨k, h1, h2⟩
      by_cases q : k = n
      · subst q; exact Or.inr h2
      · exact Or.inl ⟨k, by omega, h2⟩
theorem nx_iff {F : Nat → Nat → Option Nat} {i o : Nat} : nx F i o = true ↔ ∃ k, k < 4 ∧ F i k = some o := nxn_iff F i o 4
theorem nx_s {F : Nat → Nat → Option Nat} {i j : Nat} (h : SM (F i j)) (hs : bs (nxn F i j) = bs (nxn F i j)) : (match F i j with | none => bs (nxn F i j) | some t => bs (nxn F i j) ||| jshl 1 (nI t)) = bs (nxn F i (j + 1)) := by
  cases e : F i j with
  | none =>
    show bs (nxn F i j) = bs (nxn F i (j + 1))
    exact bs_ext (fun o _ => by
      show _ = (nxn F i j o || decide (F i j = some o))
      rw [e]; simp)
  | some t =>
    show bs (nxn F i j) ||| jshl 1 (nI t) = bs (nxn F i (j + 1))
    rw [bs_set _ (h t e)]
    exact bs_ext (fun o _ => by
      show _ = (nxn F i j o || decide (F i j = some o))
      rw [e]
      unfold fs
      by_cases q : o = t
      · rw [if_pos q, q]; simp
      · rw [if_neg q, decide_eq_false (sm_ne q)]; simp)
theorem C_fieldBits {X : Nat → Nat → Int32} {A : AS} (h : RC X A) (w : WF A) {i : Nat} (hi : i < 24) {N : Nat} (hN : 24 < N) : fX3_fieldBits N X (nI i) = some (bs (nx (a_fd A) i)) := by
  have hs : ∀ (n j : Nat) (s : Unit), j < 4 → True → (∃ s' : Unit, True ∧ fX3_fieldBits_4 N X (nI i) (n + 1) (bs (nxn (a_fd A) i j)) (nI j) = fX3_fieldBits_4 N X (nI i) n (bs (nxn (a_fd A) i (j + 1))) (nI (j + 1))) ∨ ∃ r, fX3_fieldBits_4 N X (nI i) (n + 1) (bs (nxn (a_fd A) i j)) (nI j) = some r ∧ r = bs (nx (a_fd A) i) := by
    intro n j s hj _
    left
    refine ⟨(), trivial, ?_⟩
    show fX3_fieldBits_4b N X (nI i) (fX3_fieldBits_4 N X (nI i) n) (bs (nxn (a_fd A) i j)) (nI j) = _
    unfold fX3_fieldBits_4b
    rw [if_neg (by rw [le_4 (by omega)]; omega), C_fieldAt h hi hj, b1_s, ← nx_s (W_sf w i j) rfl, nI_1]
    cases e : a_fd A i j with
    | none => rw [oI_n, if_pos rfl]
    | some t =>
      have := W_sf w i j t e
      rw [oI_s, if_neg (nI_ne1 (by omega))]
  have he : ∀ (n : Nat) (s : Unit), True → ∃ r, fX3_fieldBits_4 N X (nI i) (n + 1) (bs (nxn (a_fd A) i 4)) (nI 4) = some r ∧ r = bs (nx (a_fd A) i) := by
    intro n s _
    refine ⟨_, ?_, rfl⟩
    show fX3_fieldBits_4b N X (nI i) (fX3_fieldBits_4 N X (nI i) n) (bs (nxn (a_fd A) i 4)) (nI 4) = _
    unfold fX3_fieldBits_4b
    rw [if_pos (by rw [le_4 (by omega)]; omega)]
    rfl
  obtain ⟨r, e, hr⟩ := lpC (fun n j (_ : Unit) => fX3_fieldBits_4 N X (nI i) n (bs (nxn (a_fd A) i j)) (nI j)) (fun _ _ => True) (fun r => r = bs (nx (a_fd A) i)) 4 hs he N 0 () (by omega) trivial (by omega)
  unfold fX3_fieldBits
  have e' : fX3_fieldBits_4 N X (nI i) N (bs (fun _ => false)) 0 = some r := e
  rw [bs_zero] at e'
  rw [e', hr]
theorem nxn_my {A : AS} (w : WF A) (i : Nat) : nxn (a_fd A) i (a_my A i) = nx (a_fd A) i := by
  funext o
  have h1 := nxn_iff (a_fd A) i o (a_my A i)
  have h2 := nxn_iff (a_fd A) i o 4
  have hmy := W_my w i
  have : nxn (a_fd A) i (a_my A i) o = true ↔ nx (a_fd A) i o = true := by
    rw [h1, nx_iff]
    constructor
    · rintro ⟨k, a, b⟩; exact ⟨k, by omega, b⟩
    · rintro ⟨k, a, b⟩; exact ⟨k, (W_fd w b).2.1, b⟩
  cases e1 : nxn (a_fd A) i (a_my A i) o with
  | true => exact (this.mp e1).symm
  | false =>
    cases e2 : nx (a_fd A) i o with
    | false => rfl
    | true => rw [this.mpr e2] at e1; cases e1
theorem or0 (x : Int32) : x ||| 0 = x := b_ext (fun i _ => by rw [b_or, b_0, Bool.or_false])
theorem M_next {m0 mm : Nat → Int32} {b : Nat} {A : AS} (h : RM m0 b mm A) (hb : b ≤ 5124) (w : WF A) {i : Nat} (ht : a_th A i = true) {N : Nat} (hN : 24 < N) : fX12_next N mm (nI b) (nI i) = some (bs (nx (a_fd A) i)) := by
  have hi := W_th w ht
  have hmy := W_my w i
  have hs : ∀ (n j : Nat) (s : Unit), j < a_my A i → True → (∃ s' : Unit, True ∧ fX12_next_4 N mm (nI b) (nI i) (n + 1) (bs (nxn (a_fd A) i j)) (nI j) = fX12_next_4 N mm (nI b) (nI i) n (bs (nxn (a_fd A) i (j + 1))) (nI (j + 1))) ∨ ∃ r, fX12_next_4 N mm (nI b) (nI i) (n + 1) (bs (nxn (a_fd A) i j)) (nI j) = some r ∧ r = bs (nx (a_fd A) i) := by
    intro n j s hj _
    left
    refine ⟨(), trivial, ?_⟩
    show fX12_next_4b N mm (nI b) (nI i) (fX12_next_4 N mm (nI b) (nI i) n) (bs (nxn (a_fd A) i j)) (nI j) = _
    unfold fX12_next_4b
    rw [M_of1 h hb hi ht, b1_s, if_neg (by rw [le_n (by omega) (by omega)]; omega), M_fieldOf h hb hi (by omega) ht, b1_s, b1_s, ← nx_s (W_sf w i j) rfl, nI_1]
    cases e : a_fd A i j with
    | none => rw [oI_n, if_pos neg1_lt, or0]
    | some t =>
      have := W_sf w i j t e
      rw [oI_s, if_neg (nI_nlt0 (by omega))]
  have he : ∀ (n : Nat) (s : Unit), True → ∃ r, fX12_next_4 N mm (nI b) (nI i) (n + 1) (bs (nxn (a_fd A) i (a_my A i))) (nI (a_my A i)) = some r ∧ r = bs (nx (a_fd A) i) := by
    intro n s _
    refine ⟨bs (nxn (a_fd A) i (a_my A i)), ?_, by rw [nxn_my w]⟩
    show fX12_next_4b N mm (nI b) (nI i) (fX12_next_4 N mm (nI b) (nI i) n) (bs (nxn (a_fd A) i (a_my A i))) (nI (a_my A i)) = _
    unfold fX12_next_4b
    rw [M_of1 h hb hi ht, b1_s, if_pos (by rw [le_n (by omega) (by omega)]; omega)]
  obtain ⟨r, e, hr⟩ := lpC (fun n j (_ : Unit) => fX12_next_4 N mm (nI b) (nI i) n (bs (nxn (a_fd A) i j)) (nI j)) (fun _ _ => True) (fun r => r = bs (nx (a_fd A) i)) (a_my A i) hs he N 0 () (by omega) trivial (by omega)
  unfold fX12_next
  have e' : fX12_next_4 N mm (nI b) (nI i) N (bs (fun _ => false)) 0 = some r := e
  rw [bs_zero] at e'
  rw [e', hr]
def rtn (R : Nat → Option Nat) (q : Nat → Bool) : Nat → Nat → Bool
  | 0 => fun _ => false
  | r + 1 => fun o => rtn R q r o || (!q r && decide (R r = some o))
theorem rtn_iff (R : Nat → Option Nat) (q : Nat → Bool) (o : Nat) : ∀ n, rtn R q n o = true ↔ ∃ r, r < n ∧ q r = false ∧ R r = some o := by
  intro n
  induction n with
  | zero => exact ⟨(fun h => by cases h), fun ⟨k, h, _⟩ => absurd h (Nat.not_lt_zero k)⟩
  | succ n ih =>
    show (rtn R q n o || (!q n && decide (R n = some o))) = true ↔ _
    rw [Bool.or_eq_true, ih, Bool.and_eq_true, decide_eq_true_eq, Bool.not_eq_true']
    constructor
    · rintro (⟨k, h1, h2⟩ | h)
      · exact ⟨k, by omega, h2⟩
      · exact ⟨n, by omega, h⟩
    · rintro ⟨k, h1, h2⟩
      by_cases e : k = n
      · subst e; exact Or.inr h2
      · exact Or.inl ⟨k, by omega, h2⟩
theorem rt_s {R : Nat → Option Nat} {q : Nat → Bool} {j : Nat} (h : SM (R j)) : (match R j with | none => bs (rtn R q j) | some t => if q j = true then bs (rtn R q j) else bs (rtn R q j) ||| jshl 1 (nI t)) = bs (rtn R q (j + 1)) := by
  cases e : R j with
  | none =>
    show bs (rtn R q j) = bs (rtn R q (j + 1))
    exact bs_ext (fun o _ => by
      show _ = (rtn R q j o || (!q j && decide (R j = some o)))
      rw [e]; simp)
  | some t =>
    cases eq : q j with
    | true =>
      show bs (rtn R q j) = bs (rtn R q (j + 1))
      exact bs_ext (fun o _ => by
        show _ = (rtn R q j o || (!q j && decide (R j = some o)))
        rw [eq]; simp)
    | false =>
      show bs (rtn R q j) ||| jshl 1 (nI t) = bs (rtn R q (j + 1))
      rw [bs_set _ (h t e)]
      exact bs_ext (fun o _ => by
        show _ = (rtn R q j o || (!q j && decide (R j = some o)))
        rw [e, eq]
        unfold fs
        by_cases q : o = t
        · rw [if_pos q, q]; simp
        · rw [if_neg q, decide_eq_false (sm_ne q)]; simp)
theorem C_rootBits {X : Nat → Nat → Int32} {A : AS} (h : RC X A) (w : WF A) {p1 : Int32} {q : Nat → Bool} (hq : ∀ r, r < 6 → jushr p1 (nI r) &&& 1 = bI (q r)) {N : Nat} (hN : 24 < N) : fX3_rootBits N X p1 = some (bs (rtn (a_rt A) q 6)) := by
  have hs : ∀ (n j : Nat) (s : Unit), j < 6 → True → (∃ s' : Unit, True ∧ fX3_rootBits_4 N X p1 (n + 1) (bs (rtn (a_rt A) q j)) (nI j) = fX3_rootBits_4 N X p1 n (bs (rtn (a_rt A) q (j + 1))) (nI (j + 1))) ∨ ∃ r, fX3_rootBits_4 N X p1 (n + 1) (bs (rtn (a_rt A) q j)) (nI j) = some r ∧ r = bs (rtn (a_rt A) q 6) := by
    intro n j s hj _
    left
    refine ⟨(), trivial, ?_⟩
    show fX3_rootBits_4b N X p1 (fX3_rootBits_4 N X p1 n) (bs (rtn (a_rt A) q j)) (nI j) = _
    unfold fX3_rootBits_4b fX11_bit
    rw [if_neg (by rw [le_6 (by omega)]; omega), inb_n hj (by decide), grd_t, cl_n (by omega), RC_h9 h j hj, hq j hj, b1_s, grd_t, lt_e, ← rt_s (W_sr w j), nI_1]
    cases e : a_rt A j with
    | none => rw [oI_n, if_pos rfl]
    | some t =>
      have := W_sr w j t e
      rw [oI_s, if_neg (nI_ne1 (by omega))]
      cases q j with
      | true => rw [if_neg (by decide)]; rfl
      | false => rw [if_pos (show bI false = 0 from rfl)]; rfl
  have he : ∀ (n : Nat) (s : Unit), True → ∃ r, fX3_rootBits_4 N X p1 (n + 1) (bs (rtn (a_rt A) q 6)) (nI 6) = some r ∧ r = bs (rtn (a_rt A) q 6) := by
    intro n s _
    refine ⟨_, ?_, rfl⟩
    show fX3_rootBits_4b N X p1 (fX3_rootBits_4 N X p1 n) (bs (rtn (a_rt A) q 6)) (nI 6) = _
    unfold fX3_rootBits_4b
    rw [if_pos (by rw [le_6 (by omega)]; omega)]
  obtain ⟨r, e, hr⟩ := lpC (fun n j (_ : Unit) => fX3_rootBits_4 N X p1 n (bs (rtn (a_rt A) q j)) (nI j)) (fun _ _ => True) (fun r => r = bs (rtn (a_rt A) q 6)) 6 hs he N 0 () (by omega) trivial (by omega)
  unfold fX3_rootBits
  have e' : fX3_rootBits_4 N X p1 N (bs (fun _ => false)) 0 = some r := e
  rw [bs_zero] at e'
  rw [e', hr]
theorem M_inRoots {m0 mm : Nat → Int32} {b : Nat} {A : AS} (h : RM m0 b mm A) (hb : b ≤ 5124) (w : WF A) {p1 : Int32} {q : Nat → Bool} (hq : ∀ r, r < 6 → fX12_has p1 (nI r) = some (bI (q r))) {N : Nat} (hN : 24 < N) : fX12_inRoots N mm (nI b) p1 = some (bs (rtn (a_rt A) q 6)) := by
  have hs : ∀ (n j : Nat) (s : Unit), j < 6 → True → (∃ s' : Unit, True ∧ fX12_inRoots_4 N mm (nI b) p1 (n + 1) (bs (rtn (a_rt A) q j)) (nI j) = fX12_inRoots_4 N mm (nI b) p1 n (bs (rtn (a_rt A) q (j + 1))) (nI (j + 1))) ∨ ∃ r, fX12_inRoots_4 N mm (nI b) p1 (n + 1) (bs (rtn (a_rt A) q j)) (nI j) = some r ∧ r = bs (rtn (a_rt A) q 6) := by
    intro n j s hj _
    left
    refine ⟨(), trivial, ?_⟩
    show fX12_inRoots_4b N mm (nI b) p1 (fX12_inRoots_4 N mm (nI b) p1 n) (bs (rtn (a_rt A) q j)) (nI j) = _
    unfold fX12_inRoots_4b fX12_inRoots_37
    rw [if_neg (by rw [le_6 (by omega)]; omega), hq j hj, b1_s, M_rootOf h hb hj, b1_s, b1_s, ← rt_s (W_sr w j), nI_1, or0]
    cases e : a_rt A j with
    | none =>
      cases q j with
      | true => rfl
      | false => rfl
    | some t =>
      have := W_sr w j t e
      cases q j with
      | true => rfl
      | false => rw [if_pos (show bI false = 0 from rfl), oI_s, if_neg (nI_nlt0 (by omega))]; rfl
  have he : ∀ (n : Nat) (s : Unit), True → ∃ r, fX12_inRoots_4 N mm (nI b) p1 (n + 1) (bs (rtn (a_rt A) q 6)) (nI 6) = some r ∧ r = bs (rtn (a_rt A) q 6) := by
    intro n s _
    refine ⟨_, ?_, rfl⟩
    show fX12_inRoots_4b N mm (nI b) p1 (fX12_inRoots_4 N mm (nI b) p1 n) (bs (rtn (a_rt A) q 6)) (nI 6) = _
    unfold fX12_inRoots_4b
    rw [if_pos (by rw [le_6 (by omega)]; omega)]
  obtain ⟨r, e, hr⟩ := lpC (fun n j (_ : Unit) => fX12_inRoots_4 N mm (nI b) p1 n (bs (rtn (a_rt A) q j)) (nI j)) (fun _ _ => True) (fun r => r = bs (rtn (a_rt A) q 6)) 6 hs he N 0 () (by omega) trivial (by omega)
  unfold fX12_inRoots
  have e' : fX12_inRoots_4 N mm (nI b) p1 N (bs (fun _ => false)) 0 = some r := e
  rw [bs_zero] at e'
  rw [e', hr]
/-! all to which one comes -/
def rchP (F : Nat → Nat → Option Nat) (S W : Nat → Bool) (o : Nat) : Prop := o < 24 ∧ ∀ P : Nat → Prop, (∀ x, x < 24 → S x = true → W x = false → P x) → (∀ y j x, P y → F y j = some x → W x = false → P x) → P o
noncomputable def rch (F : Nat → Nat → Option Nat) (S W : Nat → Bool) (o : Nat) : Bool := @decide (rchP F S W o) (Classical.propDecidable _)
theorem rch_i {F : Nat → Nat → Option Nat} {S W : Nat → Bool} {o : Nat} : rch F S W o = true ↔ rchP F S W o := @decide_eq_true_iff (rchP F S W o) (Classical.propDecidable _)
theorem rch_b {F : Nat → Nat → Option Nat} {S W : Nat → Bool} {o : Nat} (h : o < 24) (h1 : S o = true) (h2 : W o = false) : rch F S W o = true := rch_i.mpr ⟨h, fun _ p1 _ => p1 o h h1 h2⟩
theorem rch_s {F : Nat → Nat → Option Nat} {S W : Nat → Bool} {y j x : Nat} (h : rch F S W y = true) (hF : F y j = some x) (hx : x < 24) (hW : W x = false) : rch F S W x = true := rch_i.mpr ⟨hx, fun P p1 p2 => p2 y j x ((rch_i.mp h).2 P p1 p2) hF hW⟩
theorem rch_m {F : Nat → Nat → Option Nat} {S W : Nat → Bool} {o : Nat} (h : rch F S W o = true) (P : Nat → Prop) (p1 : ∀ x, x < 24 → S x = true → W x = false → P x) (p2 : ∀ y j x, P y → F y j = some x → W x = false → P x) : P o := (rch_i.mp h).2 P p1 p2
theorem rch_W {F : Nat → Nat → Option Nat} {S W : Nat → Bool} {o : Nat} (h : rch F S W o = true) : W o = false := rch_m h (fun x => W x = false) (fun _ _ _ q => q) (fun _ _ _ _ _ q => q)
theorem rch_eq {A : AS} (w : WF A) {S W p : Nat → Bool} (h1 : ∀ x, x < 24 → S x = true → W x = false → p x = true) (h2 : ∀ y j x, y < 24 → p y = true → a_fd A y j = some x → W x = false → p x = true) (h3 : ∀ x, x < 24 → p x = true → rch (a_fd A) S W x = true) : bs p = bs (rch (a_fd A) S W) := bs_ext (fun o ho => by
  cases e : p o with
  | true => exact (h3 o ho e).symm
  | false =>
    cases e2 : rch (a_fd A) S W o with
    | false => rfl
    | true =>
      have := rch_m e2 (fun x => x < 24 ∧ p x = true) (fun x q1 q2 q3 => ⟨q1, h1 x q1 q2 q3⟩) (fun y j x q1 q2 q3 => ⟨W_sf w y j x q2, h2 y j x q1.1 q1.2 q2 q3⟩)
      rw [this.2] at e; cases e)
theorem C_spr {X : Nat → Nat → Int32} {A : AS} (h : RC X A) (w : WF A) (S W : Nat → Bool) {N : Nat} (hN : 24 < N) : fX10_spreads N X (bs S) (bs W) = some (bs (rch (a_fd A) S W)) := by
  have gen : ∀ (m : Nat) (s wt : Nat → Bool) (st f : Nat), 24 - st = m → (∀ x, x < 24 → S x = true → W x = false → s x = true) → (∀ x, x < 24 → wt x = true → s x = true) → (∀ x, x < 24 → s x = true → rch (a_fd A) S W x = true) → (∀ y j x, y < 24 → s y = true → wt y = false → a_fd A y j = some x → W x = false → s x = true) → fb_ct (fun x => s x && !wt x) 24 = st → m < f → fX10_spreads_14 N X (bs S) (bs W) f (bs s) (bs wt) (nI st) = some (bs (rch (a_fd A) S W)) := by
    intro m
    induction m with
    | zero =>
      intro s wt st f hm h1 h2 h3 h4 h5 hf
      obtain ⟨f', rfl⟩ : ∃ f', f = f' + 1 := ⟨f - 1, by omega⟩
      have hle := fb_ct_le (fun x => s x && !wt x) 24
      have hall : ∀ k, k < 24 → (s k && !wt k) = true := fb_ct_all.mp (by omega)
      show fX10_spreads_14b N X (bs S) (bs W) (fX10_spreads_14 N X (bs S) (bs W) f') (bs s) (bs wt) (nI st) = _
      unfold fX10_spreads_14b
      rw [if_pos (by rw [le_24 (by omega)]; omega)]
      congr 1
      refine rch_eq w h1 (fun y j x q1 q2 q3 q4 => h4 y j x q1 q2 ?_ q3 q4) h3
      have := hall y q1
      rw [q2, Bool.true_and, Bool.not_eq_true'] at this
      exact this
    | succ m ih =>
      intro s wt st f hm h1 h2 h3 h4 h5 hf
      obtain ⟨f', rfl⟩ : ∃ f', f = f' + 1 := ⟨f - 1, by omega⟩
      show fX10_spreads_14b N X (bs S) (bs W) (fX10_spreads_14 N X (bs S) (bs W) f') (bs s) (bs wt) (nI st) = _
      unfold fX10_spreads_14b
      rw [if_neg (by rw [le_24 (by omega)]; omega)]
      by_cases q0 : bs wt = 0
      · rw [if_pos q0]
        congr 1
        exact rch_eq w h1 (fun y j x q1 q2 q3 q4 => h4 y j x q1 q2 (bs_eq0.mp q0 y q1) q3 q4) h3
      · obtain ⟨i, hi, hl⟩ := low_ex q0
        have hsi := h2 i hi hl.1
        rw [if_neg q0, low_bit hi hl, b1_s, C_fieldBits h w hi hN, b1_s, bs_low hi hl, bs_andn, bs_andn, lt_e, bs_andn, bs_or, bs_or, lt_e, nI_1]
        refine ih (fun x => s x || (nx (a_fd A) i x && !s x && !W x)) (fun x => (wt x && !decide (x = i)) || (nx (a_fd A) i x && !s x && !W x)) (st + 1) f' (by omega) (fun x q1 q2 q3 => ?_) (fun x q1 q2 => ?_) (fun x q1 q2 => ?_) (fun y j x q1 q2 q3 q4 q5 => ?_) ?_ (by omega)
        · rw [h1 x q1 q2 q3]; rfl
        · rw [Bool.or_eq_true] at q2 ⊢
          rcases q2 with q2 | q2
          · left; rw [Bool.and_eq_true] at q2; exact h2 x q1 q2.1
          · right; exact q2
        · rw [Bool.or_eq_true] at q2
          rcases q2 with q2 | q2
          · exact h3 x q1 q2
          · rw [Bool.and_eq_true, Bool.and_eq_true, Bool.not_eq_true', Bool.not_eq_true'] at q2
            obtain ⟨k, _, hk⟩ := nx_iff.mp q2.1.1
            exact rch_s (h3 i hi hsi) hk q1 q2.2
        · have hx24 := W_sf w y j x q4
          by_cases q6 : s x = true
          · rw [q6]; rfl
          · rw [Bool.not_eq_true] at q6
            by_cases q7 : y = i
            · subst q7
              have hny : nx (a_fd A) y x = true := nx_iff.mpr ⟨j, by have := (W_fd w q4).2.1; have := W_my w y; omega, q4⟩
              rw [q6, hny, q5]; rfl
            · have hsy : s y = true := by
                rw [Bool.or_eq_true] at q2
                rcases q2 with q2 | q2
                · exact q2
                · rw [Bool.or_eq_false_iff] at q3
                  rw [q3.2] at q2; cases q2
              have hwy : wt y = false := by
                rw [Bool.or_eq_false_iff, decide_eq_false q7] at q3
                simpa using q3.1
              rw [h4 y j x q1 hsy hwy q4 q5]; rfl
        · have hct := fb_ct_upd (fun x => s x && !wt x) true (i := i) (n := 24) hi
          have e1 : (if (s i && !wt i) = true then 1 else 0) = 0 := by rw [hl.1, Bool.not_true, Bool.and_false]; rfl
          have e2 : (if (true : Bool) = true then 1 else 0) = 1 := rfl
          have hct' : fb_ct (fun k => if k = i then true else (s k && !wt k)) 24 + (if (s i && !wt i) = true then 1 else 0) = fb_ct (fun x => s x && !wt x) 24 + (if (true : Bool) = true then 1 else 0) := hct
          rw [e1, e2] at hct'
          have e3 : fb_ct (fun x => (s x || (nx (a_fd A) i x && !s x && !W x)) && !((wt x && !decide (x = i)) || (nx (a_fd A) i x && !s x && !W x))) 24 = fb_ct (fun k => if k = i then true else (s k && !wt k)) 24 := fb_ct_cong (fun k _ => by
            by_cases q1 : k = i
            · subst q1; rw [if_pos rfl, hsi, decide_eq_true rfl]; simp
            · rw [if_neg q1, decide_eq_false q1]
              cases s k <;> cases wt k <;> cases nx (a_fd A) i k <;> cases W k <;> rfl)
          omega
  unfold fX10_spreads
  rw [bs_andn]
  refine gen 24 _ _ 0 N rfl (fun x q1 q2 q3 => by rw [q2, q3]; rfl) (fun x _ q => q) (fun x q1 q2 => ?_) (fun y j x _ q1 q2 => by rw [q1] at q2; cases q2) ?_ (by omega)
  · rw [Bool.and_eq_true, Bool.not_eq_true'] at q2
    exact rch_b q1 q2.1 q2.2
  · exact fb_ct_zero.mpr (fun k _ => by cases S k <;> cases W k <;> rfl)
