/-! reference: reach; both: reached -/
def ung (F : Nat → Nat → Option Nat) (W s : Nat → Bool) : Nat → Nat → Bool
  | 0 => s
  | j + 1 => fun x => ung F W s j x || (s j && (nx F j x && !W x))
theorem ung_iff (F : Nat → Nat → Option Nat) (W s : Nat → Bool) (x : Nat) : ∀ n, ung F W s n x = true ↔ (s x = true ∨ ∃ j, j < n ∧ s j = true ∧ nx F j x = true ∧ W x = false) := by
  intro n
  induction n with
  | zero =>
    constructor
    · exact Or.inl
    · rintro (h | ⟨j, h, _⟩)
      · exact h
      · exact absurd h (Nat.not_lt_zero j)
  | succ n ih =>
    show (ung F W s n x || (s n && (nx F n x && !W x))) = true ↔ _
    rw [Bool.or_eq_true, ih, Bool.and_eq_true, Bool.and_eq_true, Bool.not_eq_true']
    constructor
    · rintro ((h | ⟨j, h1, h2⟩) | h)
      · exact Or.inl h
      · exact Or.inr ⟨j, by omega, h2⟩
      · exact Or.inr ⟨n, by omega, h⟩
    · rintro (h | ⟨j, h1, h2⟩)
      · exact Or.inl (Or.inl h)
      · by_cases e : j = n
        · subst e; exact Or.inr h2
        · exact Or.inl (Or.inr ⟨j, by omega, h2⟩)
theorem M_r21 {m0 mm : Nat → Int32} {b : Nat} {A : AS} (h : RM m0 b mm A) (hb : b ≤ 5124) (w : WF A) {W s : Nat → Bool} (hs : ∀ x, x < 24 → s x = true → a_th A x = true) {N : Nat} (hN : 24 < N) {p1 : Int32} (k9 : Int32 → Int32 → Option Int32) : fX12_reach_21 N mm (nI b) p1 (bs W) k9 N (bs s) (bs s) 0 = k9 (bs (ung (a_fd A) W s 24)) (bs s) := by
  have gen : ∀ (r j f : Nat), j + r = 24 → r < f → fX12_reach_21 N mm (nI b) p1 (bs W) k9 f (bs (ung (a_fd A) W s j)) (bs s) (nI j) = k9 (bs (ung (a_fd A) W s 24)) (bs s) := by
    intro r
    induction r with
    | zero =>
      intro j f hj hf
      obtain ⟨f', rfl⟩ : ∃ f', f = f' + 1 := ⟨f - 1, by omega⟩
      have : j = 24 := by omega
      subst this
      show fX12_reach_21b N mm (nI b) p1 (bs W) k9 (fX12_reach_21 N mm (nI b) p1 (bs W) k9 f') _ (bs s) (nI 24) = _
      unfold fX12_reach_21b
      rw [if_pos (by rw [le_24 (by omega)]; omega)]
    | succ r ih =>
      intro j f hj hf
      obtain ⟨f', rfl⟩ : ∃ f', f = f' + 1 := ⟨f - 1, by omega⟩
      rw [← ih (j + 1) f' (by omega) (by omega)]
      show fX12_reach_21b N mm (nI b) p1 (bs W) k9 (fX12_reach_21 N mm (nI b) p1 (bs W) k9 f') _ (bs s) (nI j) = _
      unfold fX12_reach_21b
      rw [if_neg (by rw [le_24 (by omega)]; omega), M_has s (by omega), b1_s, or0, nI_1]
      cases q : s j with
      | false =>
        rw [if_pos (show bI false = 0 from rfl)]
        congr 1
        exact bs_ext (fun x _ => by
          show _ = (ung (a_fd A) W s j x || (s j && (nx (a_fd A) j x && !W x)))
          rw [q]; simp)
      | true =>
        rw [if_neg (by decide), M_next h hb w (hs j (by omega) q) hN, b1_s, bs_andn, bs_or, lt_e]
        congr 1
        exact bs_ext (fun x _ => by
          show _ = (ung (a_fd A) W s j x || (s j && (nx (a_fd A) j x && !W x)))
          rw [q]; simp)
  exact gen 24 0 N (by omega) (by omega)
theorem ct_lt {p q : Nat → Bool} (h : ∀ k, k < 24 → p k = true → q k = true) {i : Nat} (hi : i < 24) (h1 : p i = false) (h2 : q i = true) : fb_ct p 24 < fb_ct q 24 := by
  have a1 := fb_ct_upd p true (i := i) (n := 24) hi
  have e1 : (if p i = true then 1 else 0) = 0 := by rw [h1]; rfl
  have e2 : (if (true : Bool) = true then 1 else 0) = 1 := rfl
  rw [e1, e2] at a1
  have a2 : fb_ct (fun k => if k = i then true else p k) 24 ≤ fb_ct q 24 := fb_ct_sub (fun k hk e => by
    by_cases e3 : k = i
    · rw [e3]; exact h2
    · rw [if_neg e3] at e; exact h k hk e)
  omega
theorem bs_ne_m1 (p : Nat → Bool) : ¬ bs p = -1 := fun e => by
  have := bt_bs p (i := 31) (by decide)
  rw [e, b_m1 31 (by decide)] at this
  simp at this
theorem M_reach {m0 mm : Nat → Int32} {b : Nat} {A : AS} (h : RM m0 b mm A) (hb : b ≤ 5124) (w : WF A) {S : Nat → Bool} (W : Nat → Bool) (hS : ∀ x, x < 24 → S x = true → a_th A x = true) {N : Nat} (hN : 1000 < N) : fX12_reach N mm (nI b) (bs S) (bs W) = some (bs (rch (a_fd A) S W)) := by
  have hth : ∀ s : Nat → Bool, (∀ x, x < 24 → s x = true → rch (a_fd A) S W x = true) → ∀ x, x < 24 → s x = true → a_th A x = true := fun s h3 x q1 q2 => rch_m (h3 x q1 q2) (fun x => a_th A x = true) (fun x p1 p2 _ => hS x p1 p2) (fun y j x _ p2 _ => (W_fd w p2).2.2)
  have gen : ∀ (m : Nat) (s : Nat → Bool) (wa : Int32) (f : Nat), 24 - fb_ct s 24 = m → (∀ x, x < 24 → S x = true → W x = false → s x = true) → (∀ x, x < 24 → s x = true → rch (a_fd A) S W x = true) → (wa = -1 ∨ ∃ pw : Nat → Bool, wa = bs pw ∧ ∀ y j x, y < 24 → pw y = true → a_fd A y j = some x → W x = false → s x = true) → 2 * m + 1 < f → fX12_reach_9 N mm (nI b) (bs S) (bs W) f (bs s) wa = some (bs (rch (a_fd A) S W)) := by
    intro m
    induction m using Nat.strongRecOn with
    | _ m ih =>
      intro s wa f hm h1 h3 h4 hf
      obtain ⟨f', rfl⟩ : ∃ f', f = f' + 1 := ⟨f - 1, by omega⟩
      show fX12_reach_9b N mm (nI b) (bs S) (bs W) (fX12_reach_9 N mm (nI b) (bs S) (bs W) f') (bs s) wa = _
      unfold fX12_reach_9b
      by_cases q : bs s = wa
      · rw [if_pos q]
        congr 1
        rcases h4 with h4 | ⟨pw, e, h4⟩
        · exact absurd (q.trans h4) (bs_ne_m1 s)
        · refine rch_eq w h1 (fun y j x q1 q2 q3 q4 => h4 y j x q1 ?_ q3 q4) h3
          have : bs s = bs pw := q.trans e
          rw [← bs_inj this q1]; exact q2
      · rw [if_neg q, M_r21 h hb w (hth s h3) (by omega)]
        have h3' : ∀ x, x < 24 → ung (a_fd A) W s 24 x = true → rch (a_fd A) S W x = true := by
          intro x q1 q2
          rcases (ung_iff _ _ _ _ _).mp q2 with q3 | ⟨j, j1, j2, j3, j4⟩
          · exact h3 x q1 q3
          · obtain ⟨k, _, hk⟩ := nx_iff.mp j3
            exact rch_s (h3 j j1 j2) hk q1 j4
        have h1' : ∀ x, x < 24 → S x = true → W x = false → ung (a_fd A) W s 24 x = true := fun x q1 q2 q3 => (ung_iff _ _ _ _ _).mpr (Or.inl (h1 x q1 q2 q3))
        have h4' : ∀ y j x, y < 24 → s y = true → a_fd A y j = some x → W x = false → ung (a_fd A) W s 24 x = true := fun y j x q1 q2 q3 q4 => (ung_iff _ _ _ _ _).mpr (Or.inr ⟨y, q1, q2, nx_iff.mpr ⟨j, by have := (W_fd w q3).2.1; have := W_my w y; omega, q3⟩, q4⟩)
        by_cases q5 : ∀ x, x < 24 → ung (a_fd A) W s 24 x = true → s x = true
        · have e : bs (ung (a_fd A) W s 24) = bs s := bs_ext (fun x hx => by
            cases e1 : s x with
            | true => exact (ung_iff _ _ _ _ _).mpr (Or.inl e1)
            | false =>
              cases e2 : ung (a_fd A) W s 24 x with
              | false => rfl
              | true => rw [q5 x hx e2] at e1; cases e1)
          obtain ⟨f'', rfl⟩ : ∃ f'', f' = f'' + 1 := ⟨f' - 1, by omega⟩
          show fX12_reach_9b N mm (nI b) (bs S) (bs W) (fX12_reach_9 N mm (nI b) (bs S) (bs W) f'') (bs (ung (a_fd A) W s 24)) (bs s) = _
          unfold fX12_reach_9b
          rw [if_pos e]
          congr 1
          exact rch_eq w h1' (fun y j x p1 p2 p3 p4 => h4' y j x p1 (q5 y p1 p2) p3 p4) h3'
        · have hlt : fb_ct s 24 < fb_ct (ung (a_fd A) W s 24) 24 := by
            have : ∃ x, x < 24 ∧ ung (a_fd A) W s 24 x = true ∧ s x = false := by
              apply Classical.byContradiction
              intro c
              exact q5 (fun x hx e => by
                cases e1 : s x with
                | true => rfl
                | false => exact absurd ⟨x, hx, e, e1⟩ c)
            obtain ⟨x, x1, x2, x3⟩ := this
            exact ct_lt (fun k _ e => (ung_iff _ _ _ _ _).mpr (Or.inl e)) x1 x3 x2
          have hle := fb_ct_le (ung (a_fd A) W s 24) 24
          exact ih (24 - fb_ct (ung (a_fd A) W s 24) 24) (by omega) (ung (a_fd A) W s 24) (bs s) f' rfl h1' h3' (Or.inr ⟨s, rfl, h4'⟩) (by omega)
  unfold fX12_reach
  rw [bs_andn]
  refine gen _ _ (-1) N rfl (fun x q1 q2 q3 => by rw [q2, q3]; rfl) (fun x q1 q2 => ?_) (Or.inl rfl) (by omega)
  rw [Bool.and_eq_true, Bool.not_eq_true'] at q2
  exact rch_b q1 q2.1 q2.2
def nof : Nat → Bool := fun _ => false
theorem nof_bs : bs nof = 0 := bs_zero
noncomputable def rcd (A : AS) : Nat → Bool := rch (a_fd A) (rtn (a_rt A) nof 6) nof
theorem rtn_th {A : AS} (w : WF A) (q : Nat → Bool) (x : Nat) (h : rtn (a_rt A) q 6 x = true) : a_th A x = true := by
  obtain ⟨r, _, _, e⟩ := (rtn_iff _ _ _ _).mp h
  exact (W_rt w e).2
theorem rch_th {A : AS} (w : WF A) {S W : Nat → Bool} (hS : ∀ x, x < 24 → S x = true → a_th A x = true) {x : Nat} (h : rch (a_fd A) S W x = true) : a_th A x = true := rch_m h (fun x => a_th A x = true) (fun x p1 p2 _ => hS x p1 p2) (fun y j x _ p2 _ => (W_fd w p2).2.2)
theorem rcd_th {A : AS} (w : WF A) {x : Nat} (h : rcd A x = true) : a_th A x = true := rch_th w (fun x _ q => rtn_th w nof x q) h
theorem bit0 : ∀ r, r < 6 → jushr 0 (nI r) &&& 1 = bI (nof r) := by decide +kernel
theorem has0 : ∀ r, r < 6 → fX12_has 0 (nI r) = some (bI (nof r)) := by decide +kernel
theorem C_reached {X : Nat → Nat → Int32} {A : AS} (h : RC X A) (w : WF A) {N : Nat} (hN : 24 < N) : fX10_reached N X = some (bs (rcd A)) := by
  unfold fX10_reached
  rw [C_rootBits h w bit0 hN, b1_s, ← nof_bs, C_spr h w _ nof hN, b1_s]
  rfl
theorem M_reached {m0 mm : Nat → Int32} {b : Nat} {A : AS} (h : RM m0 b mm A) (hb : b ≤ 5124) (w : WF A) {N : Nat} (hN : 1000 < N) : fX12_reached N mm (nI b) = some (bs (rcd A)) := by
  unfold fX12_reached
  rw [M_inRoots h hb w has0 (by omega), b1_s, ← nof_bs, M_reach h hb w nof (fun x _ q => rtn_th w nof x q) hN, b1_s]
  rfl
theorem M_isReached {m0 mm : Nat → Int32} {b : Nat} {A : AS} (h : RM m0 b mm A) (hb : b ≤ 5124) (w : WF A) {o : Nat} (ho : o < 24) {N : Nat} (hN : 1000 < N) : fX12_isReached N mm (nI b) (nI o) = some (bI (rcd A o)) := by
  unfold fX12_isReached
  rw [M_reached h hb w hN, b1_s, M_has _ ho, b1_s]
  cases rcd A o <;> rfl
theorem M_thereAll {m0 mm : Nat → Int32} {b : Nat} {A : AS} (h : RM m0 b mm A) (hb : b ≤ 5124) {N : Nat} (hN : 24 < N) : fX12_thereAll N mm (nI b) = some (bs (a_th A)) := by
  have hs : ∀ (n j : Nat) (s : Unit), j < 24 → True → (∃ s' : Unit, True ∧ fX12_thereAll_4 N mm (nI b) (n + 1) (bsn (a_th A) j) (nI j) = fX12_thereAll_4 N mm (nI b) n (bsn (a_th A) (j + 1)) (nI (j + 1))) ∨ ∃ r, fX12_thereAll_4 N mm (nI b) (n + 1) (bsn (a_th A) j) (nI j) = some r ∧ r = bs (a_th A) := by
    intro n j s hj _
    left
    refine ⟨(), trivial, ?_⟩
    show fX12_thereAll_4b N mm (nI b) (fX12_thereAll_4 N mm (nI b) n) (bsn (a_th A) j) (nI j) = fX12_thereAll_4 N mm (nI b) n (bsn (a_th A) j ||| jshl (bI (a_th A j)) (nI j)) (nI (j + 1))
    unfold fX12_thereAll_4b
    rw [if_neg (by rw [le_24 (by omega)]; omega), M_of0 h hb hj, b1_s, nI_1]
  have he : ∀ (n : Nat) (s : Unit), True → ∃ r, fX12_thereAll_4 N mm (nI b) (n + 1) (bsn (a_th A) 24) (nI 24) = some r ∧ r = bs (a_th A) := by
    intro n s _
    refine ⟨_, ?_, rfl⟩
    show fX12_thereAll_4b N mm (nI b) (fX12_thereAll_4 N mm (nI b) n) (bsn (a_th A) 24) (nI 24) = _
    unfold fX12_thereAll_4b
    rw [if_pos (by rw [le_24 (by omega)]; omega)]
    rfl
  obtain ⟨r, e, hr⟩ := lpC (fun n j (_ : Unit) => fX12_thereAll_4 N mm (nI b) n (bsn (a_th A) j) (nI j)) (fun _ _ => True) (fun r => r = bs (a_th A)) 24 hs he N 0 () (by omega) trivial (by omega)
  rw [← hr]
  exact e
