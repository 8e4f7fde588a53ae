/-! painting: what is painted (D), which edges are done (E) -/
def e2 (E : Nat → Nat → Bool) (y j : Nat) : Nat → Nat → Bool := fun a b => if a = y ∧ b = j then true else E a b
def cE (F : Nat → Nat → Option Nat) (E : Nat → Nat → Bool) (x : Nat) : Nat := fb_sm (fun y => fb_ct (fun j => E y j && decide (F y j = some x)) 4) 24
def GP (F : Nat → Nat → Option Nat) (cl : Nat) (dl : Int) (s : Nat) (c : Nat → Nat) (t : Nat → Int) (v : Nat) (D : Nat → Bool) (E : Nat → Nat → Bool) (c' : Nat → Nat) (t' : Nat → Int) (v' : Nat) : Prop :=
  (∀ y, D y = true → y < 24 ∧ c y ≠ cl) ∧ D s = true ∧ (∀ y j, E y j = true → D y = true) ∧
  (∀ y j x, E y j = true → F y j = some x → D x = true ∨ c x = cl) ∧
  (∀ P : Nat → Prop, P s → (∀ y j x, P y → D y = true → F y j = some x → D x = true → P x) → ∀ y, D y = true → P y) ∧
  (∀ o, c' o = if D o then cl else c o) ∧ (∀ x, t' x = t x + dl * (cE F E x : Int)) ∧ v' = v + fb_ct D 24
theorem e2_s (E : Nat → Nat → Bool) (y j : Nat) : e2 E y j y j = true := if_pos ⟨rfl, rfl⟩
theorem e2_n {E : Nat → Nat → Bool} {y j a b : Nat} (h : ¬ (a = y ∧ b = j)) : e2 E y j a b = E a b := if_neg h
theorem e2_m {E : Nat → Nat → Bool} {y j a b : Nat} (h : E a b = true) : e2 E y j a b = true := by
  unfold e2
  by_cases q : a = y ∧ b = j
  · rw [if_pos q]
  · rw [if_neg q]; exact h
theorem cE_0 (F : Nat → Nat → Option Nat) (x : Nat) : cE F (fun _ _ => false) x = 0 := by
  have : cE F (fun _ _ => false) x ≤ 24 * 0 := fb_sm_bound (fun k _ => by
    have : fb_ct (fun j => (false && decide (F k j = some x))) 4 = 0 := fb_ct_zero.mpr (fun j _ => by simp)
    exact Nat.le_of_eq this)
  omega
theorem cE_e2 (F : Nat → Nat → Option Nat) {E : Nat → Nat → Bool} {y j : Nat} (hy : y < 24) (hj : j < 4) (hE : E y j = false) (x : Nat) : cE F (e2 E y j) x = cE F E x + (if F y j = some x then 1 else 0) := by
  have := cF_u (fun a b => E a b && decide (F a b = some x)) hy hj (decide (F y j = some x))
  have e : cE F (e2 E y j) x = fb_sm (fun a => fb_ct (fun b => if a = y ∧ b = j then decide (F y j = some x) else (E a b && decide (F a b = some x))) 4) 24 := fb_sm_cong (fun a _ => fb_ct_cong (fun b _ => by
    unfold e2
    by_cases q : a = y ∧ b = j
    · rw [if_pos q, if_pos q, q.1, q.2]; simp
    · rw [if_neg q, if_neg q]))
  rw [e]
  rw [hE] at this
  unfold cE
  simpa using this
theorem GP_init (F : Nat → Nat → Option Nat) {cl : Nat} (dl : Int) {s : Nat} {c : Nat → Nat} (t : Nat → Int) (v : Nat) (hs : s < 24) (hc : c s ≠ cl) : GP F cl dl s c t v (fs (fun _ => false) s true) (fun _ _ => false) (fs c s cl) t (v + 1) := by
  have hD : ∀ y, fs (fun _ => false) s true y = true → y = s := by
    intro y hy
    by_cases q : y = s
    · exact q
    · rw [fs_n q] at hy; cases hy
  refine ⟨fun y hy => ?_, fs_s, fun y j h => (by cases h), fun y j x h => (by cases h), fun P h1 _ y hy => ?_, fun o => ?_, fun x => ?_, ?_⟩
  · rw [hD y hy]; exact ⟨hs, hc⟩
  · rw [hD y hy]; exact h1
  · by_cases q : o = s
    · rw [q, fs_s, fs_s, if_pos rfl]
    · rw [fs_n q, fs_n q, if_neg (by decide)]
  · rw [cE_0]; simp
  · have := fb_ct_upd (fun _ => false) true (i := s) (n := 24) hs
    have e0 : fb_ct (fun _ => false) 24 = 0 := fb_ct_zero.mpr (fun _ _ => rfl)
    have e1 : fb_ct (fs (fun _ => false) s true) 24 = fb_ct (fun k => if k = s then true else false) 24 := rfl
    rw [e0] at this
    simp at this
    rw [e1]
    have e2 : fb_ct (fun k => if k = s then true else false) 24 = 1 := by simpa using this
    rw [e2]
theorem GP_old {F : Nat → Nat → Option Nat} {cl : Nat} {dl : Int} {s : Nat} {c : Nat → Nat} {t : Nat → Int} {v : Nat} {D : Nat → Bool} {E : Nat → Nat → Bool} {c' : Nat → Nat} {t' : Nat → Int} {v' : Nat} (h : GP F cl dl s c t v D E c' t' v') {y j x : Nat} (hy : D y = true) (hj : j < 4) (hE : E y j = false) (hF : F y j = some x) (hx : c' x = cl) : GP F cl dl s c t v D (e2 E y j) c' (fs t' x (t' x + dl)) v' := by
  obtain ⟨h1, h2, h3, h4, h5, h6, h7, h8⟩ := h
  refine ⟨h1, h2, fun a b q => ?_, fun a b z q q2 => ?_, h5, h6, fun z => ?_, h8⟩
  · by_cases q2 : a = y ∧ b = j
    · rw [q2.1]; exact hy
    · rw [e2_n q2] at q; exact h3 a b q
  · by_cases q3 : a = y ∧ b = j
    · rw [q3.1, q3.2, hF] at q2
      cases q2
      have := h6 x
      cases hD : D x with
      | true => exact Or.inl rfl
      | false => rw [hD, hx] at this; exact Or.inr this.symm
    · rw [e2_n q3] at q; exact h4 a b z q q2
  · rw [cE_e2 F (h1 y hy).1 hj hE z, hF]
    have h7z := h7 z
    by_cases q : z = x
    · rw [q, fs_s, if_pos rfl, h7 x]
      push_cast
      rw [Int.mul_add]
      omega
    · rw [fs_n q, if_neg (sm_ne q)]; exact h7z
theorem GP_new {F : Nat → Nat → Option Nat} {cl : Nat} {dl : Int} {s : Nat} {c : Nat → Nat} {t : Nat → Int} {v : Nat} {D : Nat → Bool} {E : Nat → Nat → Bool} {c' : Nat → Nat} {t' : Nat → Int} {v' : Nat} (h : GP F cl dl s c t v D E c' t' v') {y j x : Nat} (hy : D y = true) (hj : j < 4) (hE : E y j = false) (hF : F y j = some x) (hx24 : x < 24) (hx : c' x ≠ cl) : D x = false ∧ GP F cl dl s c t v (fs D x true) (e2 E y j) (fs c' x cl) (fs t' x (t' x + dl)) (v' + 1) := by
  obtain ⟨h1, h2, h3, h4, h5, h6, h7, h8⟩ := h
  have hDx : D x = false := by
    cases hD : D x with
    | false => rfl
    | true => have := h6 x; rw [hD, if_pos rfl] at this; exact absurd this hx
  have hcx : c x ≠ cl := by
    have := h6 x
    rw [hDx, if_neg (by decide)] at this
    rw [← this]; exact hx
  have hm : ∀ a, D a = true → fs D x true a = true := by
    intro a ha
    by_cases q : a = x
    · rw [q, fs_s]
    · rw [fs_n q]; exact ha
  refine ⟨hDx, fun a ha => ?_, hm s h2, fun a b q => ?_, fun a b z q q2 => ?_, fun P p1 p2 a ha => ?_, fun o => ?_, fun z => ?_, ?_⟩
  · by_cases q : a = x
    · rw [q]; exact ⟨hx24, hcx⟩
    · rw [fs_n q] at ha; exact h1 a ha
  · by_cases q2 : a = y ∧ b = j
    · rw [q2.1]; exact hm y hy
    · rw [e2_n q2] at q; exact hm a (h3 a b q)
  · by_cases q3 : a = y ∧ b = j
    · rw [q3.1, q3.2, hF] at q2
      cases q2
      exact Or.inl fs_s
    · rw [e2_n q3] at q
      rcases h4 a b z q q2 with q4 | q4
      · exact Or.inl (hm z q4)
      · exact Or.inr q4
  · have hold : ∀ a, D a = true → P a := h5 P p1 (fun a b z q1 q2 q3 q4 => p2 a b z q1 (hm a q2) q3 (hm z q4))
    by_cases q : a = x
    · rw [q]; exact p2 y j x (hold y hy) (hm y hy) hF fs_s
    · rw [fs_n q] at ha; exact hold a ha
  · by_cases q : o = x
    · rw [q, fs_s, fs_s, if_pos rfl]
    · rw [fs_n q, fs_n q]; exact h6 o
  · rw [cE_e2 F (h1 y hy).1 hj hE z, hF]
    have h7z := h7 z
    by_cases q : z = x
    · rw [q, fs_s, if_pos rfl, h7 x]
      push_cast
      rw [Int.mul_add]
      omega
    · rw [fs_n q, if_neg (sm_ne q)]; exact h7z
  · have := fb_ct_upd D true (i := x) (n := 24) hx24
    rw [hDx] at this
    have e1 : fb_ct (fs D x true) 24 = fb_ct (fun k => if k = x then true else D k) 24 := rfl
    rw [e1]
    have e0 : (if (false : Bool) = true then 1 else 0) = 0 := rfl
    have e3 : (if (true : Bool) = true then 1 else 0) = 1 := rfl
    rw [e0, e3] at this
    omega
theorem GP_sub {F : Nat → Nat → Option Nat} {cl : Nat} {dl : Int} {s : Nat} {c : Nat → Nat} {t : Nat → Int} {v : Nat} {D1 D2 : Nat → Bool} {E1 E2 : Nat → Nat → Bool} {c1 c2 : Nat → Nat} {t1 t2 : Nat → Int} {v1 v2 : Nat} (h : GP F cl dl s c t v D1 E1 c1 t1 v1) (g : GP F cl dl s c t v D2 E2 c2 t2 v2) (k2 : ∀ y j w, D2 y = true → F y j = some w → E2 y j = true) : ∀ y, D1 y = true → D2 y = true := by
  refine h.2.2.2.2.1 (fun y => D2 y = true) g.2.1 (fun y j x p1 p2 p3 p4 => ?_)
  rcases g.2.2.2.1 y j x (k2 y j x p1 p3) p3 with q | q
  · exact q
  · exact absurd q (h.1 x p4).2
theorem GP_uniq {F : Nat → Nat → Option Nat} {cl : Nat} {dl : Int} {s : Nat} {c : Nat → Nat} {t : Nat → Int} {v : Nat} {D1 D2 : Nat → Bool} {E1 E2 : Nat → Nat → Bool} {c1 c2 : Nat → Nat} {t1 t2 : Nat → Int} {v1 v2 : Nat} (h : GP F cl dl s c t v D1 E1 c1 t1 v1) (g : GP F cl dl s c t v D2 E2 c2 t2 v2) (k1 : ∀ y j w, D1 y = true → F y j = some w → E1 y j = true) (k2 : ∀ y j w, D2 y = true → F y j = some w → E2 y j = true) : c1 = c2 ∧ t1 = t2 ∧ v1 = v2 := by
  have a1 := GP_sub h g k2
  have a2 := GP_sub g h k1
  have hD : D1 = D2 := by
    funext y
    cases e1 : D1 y with
    | true => exact (a1 y e1).symm
    | false =>
      cases e2 : D2 y with
      | false => rfl
      | true => rw [a2 y e2] at e1; cases e1
  subst hD
  have hc : ∀ x, cE F E1 x = cE F E2 x := fun x => fb_sm_cong (fun y _ => fb_ct_cong (fun j _ => by
    by_cases q : F y j = some x
    · have : E1 y j = E2 y j := by
        cases e1 : E1 y j with
        | true => exact (k2 y j x (h.2.2.1 y j e1) q).symm
        | false =>
          cases e2 : E2 y j with
          | false => rfl
          | true => rw [k1 y j x (g.2.2.1 y j e2) q] at e1; cases e1
      rw [this]
    · rw [decide_eq_false q]; simp))
  refine ⟨?_, ?_, ?_⟩
  · funext o
    rw [h.2.2.2.2.2.1 o, g.2.2.2.2.2.1 o]
  · funext x
    rw [h.2.2.2.2.2.2.1 x, g.2.2.2.2.2.2.1 x, hc x]
  · rw [h.2.2.2.2.2.2.2, g.2.2.2.2.2.2.2]
