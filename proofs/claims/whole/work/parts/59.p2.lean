/-! what holds while one looks through -/
def PB (c : Nat → Nat) : Nat → Nat → Bool := fun y _ => decide (c y = 0) || decide (c y = 3)
def P2 (A : AS) (c : Nat → Nat) (t : Nat → Int) : Prop :=
  (∀ x, a_th A x = true → t x = ((rfR (a_rt A) x + cE (a_fd A) (PB c) x : Nat) : Int)) ∧
  (∀ y j x, c y ≠ 0 → a_fd A y j = some x → c x ≠ 0) ∧
  (∀ y j x, c y = 3 → a_fd A y j = some x → c x = 3) ∧
  (∀ y, c y = 2 → (∀ r, a_rt A r ≠ some y) ∧ ∀ u j, c u = 0 → a_fd A u j ≠ some y) ∧
  (∀ y, c y ≠ 0 → a_th A y = true) ∧ (∀ y, c y ≤ 3)
theorem P2_rng {A : AS} {c : Nat → Nat} {t : Nat → Int} (h : P2 A c t) {x : Nat} (hx : a_th A x = true) : 0 ≤ t x ∧ t x ≤ 102 := by
  have h1 := h.1 x hx
  have h2 := cE_le (a_fd A) (PB c) x
  have h3 := rf_bound A x
  have e : rf A x = rfF (a_fd A) x + rfR (a_rt A) x := rfl
  omega
theorem P2_white {A : AS} (w : WF A) {c : Nat → Nat} {t : Nat → Int} (h : P2 A c t) {o : Nat} (ho : c o = 1) (ht : t o ≤ 0) : P2 A (fs c o 2) t := by
  obtain ⟨h1, h2, h3, h4, h5, h6⟩ := h
  have hz : ∀ y, fs c o 2 y = 0 ↔ c y = 0 := by
    intro y
    by_cases q : y = o
    · rw [q, fs_s, ho]; omega
    · rw [fs_n q]
  have h3' : ∀ y, fs c o 2 y = 3 ↔ c y = 3 := by
    intro y
    by_cases q : y = o
    · rw [q, fs_s, ho]; omega
    · rw [fs_n q]
  have hto := h5 o (by omega)
  refine ⟨fun x hx => ?_, fun y j x q1 q2 => ?_, fun y j x q1 q2 => ?_, fun y q1 => ?_, fun y q1 => ?_, fun y => ?_⟩
  · rw [h1 x hx, cE_cong (E1 := PB c) (E2 := PB (fs c o 2)) (fun y j _ _ _ => by
      unfold PB
      rw [decide_eq_decide.mpr (hz y), decide_eq_decide.mpr (h3' y)])]
  · rw [Ne, hz] at q1 ⊢; exact h2 y j x q1 q2
  · rw [h3'] at q1 ⊢; exact h3 y j x q1 q2
  · by_cases q : y = o
    · subst q
      have e := h1 y hto
      have e1 : rfR (a_rt A) y = 0 := by omega
      have e2 : cE (a_fd A) (PB c) y = 0 := by omega
      refine ⟨fun r q2 => ?_, fun u j q2 q3 => ?_⟩
      · have hr := (W_rt w q2).1
        have := fb_ct_zero.mp e1 r hr
        rw [q2] at this
        simp at this
      · obtain ⟨v1, v2, _⟩ := W_fd w q3
        have := W_my w u
        have hc0 : c u = 0 := (hz u).mp q2
        exact cE_0e e2 (W_th w v1) (by omega) (by unfold PB; rw [hc0]; rfl) q3
    · rw [fs_n q] at q1
      obtain ⟨k1, k2⟩ := h4 y q1
      exact ⟨k1, fun u j q2 => k2 u j ((hz u).mp q2)⟩
  · rw [Ne, hz] at q1; exact h5 y q1
  · by_cases q : y = o
    · rw [q, fs_s]; omega
    · rw [fs_n q]; exact h6 y
theorem P2_black {A : AS} (w : WF A) {c : Nat → Nat} {t : Nat → Int} (h : P2 A c t) {s v : Nat} (hs : c s ≠ 0) {c' : Nat → Nat} {t' : Nat → Int} {v' : Nat} (hS : SPR (a_fd A) 3 1 s c t v c' t' v') : P2 A c' t' ∧ (∀ y, c y ≠ 1 → c' y ≠ 1) ∧ (∀ y, c' y = 0 ↔ c y = 0) ∧ c' s = 3 ∧ (∀ y, c' y = 2 → c y = 2) ∧ (∀ y, c' y = 1 → c y = 1) := by
  obtain ⟨h1, h2, h3, h4, h5, h6⟩ := h
  obtain ⟨D, E, ⟨g1, g2, g3, g4, g5, g6, g7, g8⟩, gc⟩ := hS
  have hD0 : ∀ y, D y = true → c y ≠ 0 := g5 (fun y => c y ≠ 0) hs (fun y j x p1 _ p3 _ => h2 y j x p1 p3)
  have hz : ∀ y, c' y = 0 ↔ c y = 0 := by
    intro y
    rw [g6 y]
    cases hD : D y with
    | true => rw [if_pos rfl]; have := hD0 y hD; omega
    | false => rw [if_neg (by decide)]
  have h33 : ∀ y, c' y = 3 ↔ (D y = true ∨ c y = 3) := by
    intro y
    rw [g6 y]
    cases hD : D y with
    | true => rw [if_pos rfl]; exact ⟨fun _ => Or.inl rfl, fun _ => rfl⟩
    | false => rw [if_neg (by decide)]; exact ⟨Or.inr, fun q => q.elim (fun q => by cases q) id⟩
  have h22 : ∀ y, c' y = 2 → c y = 2 := by
    intro y q
    rw [g6 y] at q
    cases hD : D y with
    | true => rw [hD, if_pos rfl] at q; omega
    | false => rw [hD, if_neg (by decide)] at q; exact q
  have h11 : ∀ y, c' y = 1 → c y = 1 := by
    intro y q
    rw [g6 y] at q
    cases hD : D y with
    | true => rw [hD, if_pos rfl] at q; omega
    | false => rw [hD, if_neg (by decide)] at q; exact q
  refine ⟨⟨fun x hx => ?_, fun y j x q1 q2 => ?_, fun y j x q1 q2 => ?_, fun y q1 => ?_, fun y q1 => ?_, fun y => ?_⟩, fun y q1 q2 => q1 (h11 y q2), hz, (h33 s).mpr (Or.inl g2), h22, h11⟩
  · have e1 : cE (a_fd A) E x = cE (a_fd A) (eC D) x := cE_cong (fun y j _ _ q => by
      show E y j = D y
      cases hD : D y with
      | true => exact gc y j x hD q
      | false =>
        cases hE : E y j with
        | false => rfl
        | true => rw [g3 y j hE] at hD; cases hD)
    have e2 : cE (a_fd A) (PB c') x = cE (a_fd A) (PB c) x + cE (a_fd A) (eC D) x := by
      rw [← cE_or (fun y j _ _ q => by
        have q1 : (decide (c y = 0) || decide (c y = 3)) = true := q.1
        have q2 : D y = true := q.2
        rw [Bool.or_eq_true, decide_eq_true_eq, decide_eq_true_eq] at q1
        rcases q1 with q1 | q1
        · exact hD0 y q2 q1
        · exact (g1 y q2).2 q1)]
      exact cE_cong (fun y j _ _ _ => by
        show (decide (c' y = 0) || decide (c' y = 3)) = ((decide (c y = 0) || decide (c y = 3)) || D y)
        have d0 : decide (c' y = 0) = decide (c y = 0) := decide_eq_decide.mpr (hz y)
        have d3 : decide (c' y = 3) = decide (D y = true ∨ c y = 3) := decide_eq_decide.mpr (h33 y)
        rw [d0, d3]
        by_cases hD : D y = true <;> simp [hD])
    rw [g7 x, h1 x hx, e1, e2]
    push_cast
    omega
  · rw [Ne, hz] at q1 ⊢; exact h2 y j x q1 q2
  · rcases (h33 y).mp q1 with q | q
    · exact (h33 x).mpr (g4 y j x (gc y j x q q2) q2)
    · exact (h33 x).mpr (Or.inr (h3 y j x q q2))
  · obtain ⟨k1, k2⟩ := h4 y (h22 y q1)
    exact ⟨k1, fun u j q2 => k2 u j ((hz u).mp q2)⟩
  · rw [Ne, hz] at q1; exact h5 y q1
  · rw [g6 y]
    cases D y with
    | true => rw [if_pos rfl]; omega
    | false => rw [if_neg (by decide)]; exact h6 y
def gct (c : Nat → Nat) : Nat := fb_ct (fun y => decide (c y = 1)) 24
theorem gct_white {c : Nat → Nat} {o : Nat} (ho : o < 24) (h : c o = 1) : gct (fs c o 2) + 1 = gct c := by
  have := fb_ct_upd (fun y => decide (c y = 1)) false (i := o) (n := 24) ho
  have e : gct (fs c o 2) = fb_ct (fun k => if k = o then false else decide (c k = 1)) 24 := fb_ct_cong (fun k _ => by
    by_cases q : k = o
    · rw [q, fs_s, if_pos rfl]; rfl
    · rw [fs_n q, if_neg q])
  rw [e]
  unfold gct
  have e0 : (if (false : Bool) = true then 1 else 0) = 0 := rfl
  have e1 : (if (decide (c o = 1)) = true then 1 else 0) = 1 := by rw [h]; rfl
  rw [e0, e1] at this
  omega
theorem gct_le {c c' : Nat → Nat} (h : ∀ y, c y ≠ 1 → c' y ≠ 1) : gct c' ≤ gct c := fb_ct_sub (fun y _ q => by
  rw [decide_eq_true_eq] at q ⊢
  by_cases q2 : c y = 1
  · exact q2
  · exact absurd q (h y q2))
