/-! loops; the list: drops, dropsTrusted, clears -/
theorem lpM {σ ρ : Type} (L : Nat → σ → Option ρ) (I : σ → Prop) (Q : ρ → Prop) (μ : σ → Nat) (hs : ∀ n s, I s → (∃ s', I s' ∧ μ s' < μ s ∧ L (n + 1) s = L n s') ∨ ∃ r, L (n + 1) s = some r ∧ Q r) : ∀ n s, I s → μ s < n → ∃ r, L n s = some r ∧ Q r := by
  intro n
  induction n with
  | zero => intro s _ h; omega
  | succ n ih =>
    intro s hI hm
    rcases hs n s hI with ⟨s', h1, h2, h3⟩ | h
    · rw [h3]; exact ih s' h1 (by omega)
    · exact h
theorem lpC {σ ρ : Type} (L : Nat → Nat → σ → Option ρ) (I : Nat → σ → Prop) (Q : ρ → Prop) (e : Nat) (hs : ∀ n j s, j < e → I j s → (∃ s', I (j + 1) s' ∧ L (n + 1) j s = L n (j + 1) s') ∨ ∃ r, L (n + 1) j s = some r ∧ Q r) (he : ∀ n s, I e s → ∃ r, L (n + 1) e s = some r ∧ Q r) : ∀ n j s, j ≤ e → I j s → e - j < n → ∃ r, L n j s = some r ∧ Q r := by
  intro n
  induction n with
  | zero => intro j s _ _ h; omega
  | succ n ih =>
    intro j s hj hI hm
    by_cases q : j = e
    · subst q; exact he n s hI
    · rcases hs n j s (by omega) hI with ⟨s', h1, h3⟩ | h
      · rw [h3]; exact ih (j + 1) s' (by omega) h1 (by omega)
      · exact h
theorem tk_s {l : List Nat} {j : Nat} (h : j < l.length) : l.take (j + 1) = l.take j ++ [l.getD j 0] := by
  rw [List.take_succ, List.getElem?_eq_getElem h, List.getD_eq_getElem?_getD, List.getElem?_eq_getElem h]
  rfl
def FP (l : List Nat) (p : Nat → Bool) (j : Nat) (g : Nat → Int32) : Prop := (∀ a, a < ((l.take j).filter p).length → g a = nI (((l.take j).filter p).getD a 0)) ∧ ∀ a, j ≤ a → a < l.length → g a = nI (l.getD a 0)
theorem FP_le (l : List Nat) (p : Nat → Bool) (j : Nat) : ((l.take j).filter p).length ≤ j := Nat.le_trans (List.length_filter_le _ _) (by rw [List.length_take]; omega)
theorem FP_keep {l : List Nat} {p : Nat → Bool} {j : Nat} {g : Nat → Int32} (hj : j < l.length) (hp : p (l.getD j 0) = true) (h : FP l p j g) : (l.take (j + 1)).filter p = (l.take j).filter p ++ [l.getD j 0] ∧ FP l p (j + 1) (upd g ((l.take j).filter p).length (g j)) := by
  have e : (l.take (j + 1)).filter p = (l.take j).filter p ++ [l.getD j 0] := by
    rw [tk_s hj, List.filter_append, List.filter_cons_of_pos hp, List.filter_nil]
  have hle := FP_le l p j
  refine ⟨e, ?_, ?_⟩
  · intro a ha
    rw [e] at ha ⊢
    rw [List.length_append] at ha
    have ha2 : a < ((l.take j).filter p).length + 1 := ha
    by_cases q : a = ((l.take j).filter p).length
    · subst q; rw [pk_us, getD_lst]; exact h.2 j (by omega) hj
    · rw [pk_un q, getD_app (by omega)]; exact h.1 a (by omega)
  · intro a h1 h2
    rw [pk_un (by omega)]
    exact h.2 a (by omega) h2
theorem FP_drop {l : List Nat} {p : Nat → Bool} {j : Nat} {g : Nat → Int32} (hj : j < l.length) (hp : p (l.getD j 0) = false) (h : FP l p j g) : (l.take (j + 1)).filter p = (l.take j).filter p ∧ FP l p (j + 1) g := by
  have e : (l.take (j + 1)).filter p = (l.take j).filter p := by
    rw [tk_s hj, List.filter_append, List.filter_cons_of_neg (by rw [hp]; decide), List.filter_nil, List.append_nil]
  refine ⟨e, ?_, fun a h1 h2 => h.2 a (by omega) h2⟩
  intro a ha
  rw [e] at ha ⊢
  exact h.1 a ha
theorem getD_mem {l : List Nat} {j : Nat} (h : j < l.length) : l.getD j 0 ∈ l := by
  rw [List.getD_eq_getElem?_getD, List.getElem?_eq_getElem h]
  exact List.getElem_mem h
theorem up2_upR (X : Nat → Nat → Int32) (t i : Nat) (g : Nat → Int32) (v : Int32) : up2 (upR X t g) t i v = upR X t (upd g i v) := by
  funext a
  unfold up2 upR
  by_cases q2 : a = t
  · subst q2; rw [if_pos rfl, if_pos rfl, if_pos rfl]
  · rw [if_neg q2, if_neg q2, if_neg q2]
theorem upR_self (X : Nat → Nat → Int32) (t : Nat) : upR X t (X t) = X := by
  funext a
  unfold upR
  by_cases q2 : a = t
  · subst q2; rw [if_pos rfl]
  · rw [if_neg q2]
def drA (A : AS) (i : Nat) : AS := u_mt (u_ls A ((a_ls A).filter (fun x => decide (x ≠ i)))) (fs (a_mt A) i false)
theorem drops_end {X : Nat → Nat → Int32} {A : AS} (h : RC X A) {i : Nat} (hi : i < 24) {g : Nat → Int32} (hF : FP (a_ls A) (fun x => decide (x ≠ i)) (a_ls A).length g) {N : Nat} : ∃ X', fX6_drops_43 N (nI i) (upR X 9 g) (nI ((a_ls A).filter (fun x => decide (x ≠ i))).length) = some X' ∧ RC X' (drA A i) := by
  obtain ⟨h1, h2, h3, h4, h5, h6, h7, h8, h9, h10, h11, h12, h13, h14, h15, h16, h17, h18⟩ := h
  refine ⟨_, rfl, h1, h2, h3, h4, h5, h6, h7, h8, h9, h10, rfl, ?_, ?_, ?_, h15, h16, h17, h18⟩
  · show X 8 2 &&& (jshl 1 (nI i) ^^^ (-1)) = bs (fun o => ((a_ls A).filter (fun x => decide (x ≠ i))).contains o)
    rw [h12, bs_clr _ hi]
    exact bs_ext (fun j _ => by unfold fs; by_cases q2 : j = i <;> simp [q2])
  · show X 8 3 &&& (jshl 1 (nI i) ^^^ (-1)) = bs (fs (a_mt A) i false)
    rw [h13, bs_clr _ hi]
  · have := hF.1
    rw [List.take_length] at this
    exact this
theorem C_drops {X : Nat → Nat → Int32} {A : AS} (h : RC X A) {i : Nat} (hi : i < 24) (hl : (a_ls A).length ≤ 24) (hm : ∀ x ∈ a_ls A, x < 24) {N : Nat} (hN : 24 < N) : ∃ X', fX6_drops N X (nI i) = some X' ∧ RC X' (drA A i) := by
  have h11 : X 8 1 = nI (a_ls A).length := h.2.2.2.2.2.2.2.2.2.2.1
  have h14 : ∀ i : Nat, i < (a_ls A).length → X 9 i = nI ((a_ls A).getD i 0) := h.2.2.2.2.2.2.2.2.2.2.2.2.2.1
  have hs : ∀ (n j : Nat) (g : Nat → Int32), j < (a_ls A).length → FP (a_ls A) (fun x => decide (x ≠ i)) j g → (∃ s', FP (a_ls A) (fun x => decide (x ≠ i)) (j + 1) s' ∧ fX6_drops_4 N (nI i) (n + 1) (upR X 9 g) (nI (((a_ls A).take j).filter (fun x => decide (x ≠ i))).length) (nI j) = fX6_drops_4 N (nI i) n (upR X 9 s') (nI (((a_ls A).take (j + 1)).filter (fun x => decide (x ≠ i))).length) (nI (j + 1))) ∨ ∃ r, fX6_drops_4 N (nI i) (n + 1) (upR X 9 g) (nI (((a_ls A).take j).filter (fun x => decide (x ≠ i))).length) (nI j) = some r ∧ RC r (drA A i) := by
    intro n j g hj hF
    left
    have hle := FP_le (a_ls A) (fun x => decide (x ≠ i)) j
    have hx := hF.2 j (Nat.le_refl j) hj
    have hx24 := hm _ (getD_mem hj)
    by_cases q : (a_ls A).getD j 0 = i
    · obtain ⟨e, hF2⟩ := FP_drop hj (p := fun x => decide (x ≠ i)) (decide_eq_false (fun c => c q)) hF
      refine ⟨g, hF2, ?_⟩
      rw [e]
      show fX6_drops_4b N (nI i) (fX6_drops_4 N (nI i) n) (upR X 9 g) _ (nI j) = _
      unfold fX6_drops_4b
      show (if X 8 1 ≤ nI j then _ else grd (inb (nI j) 24) (if g (nI j).toNatClampNeg = nI i then _ else _)) = _
      rw [h11, if_neg (by rw [le_n (by omega) (by omega)]; omega), inb_n (by omega) (by decide), cl_n (by omega), hx, q, grd_t, if_pos rfl, nI_1]
    · obtain ⟨e, hF2⟩ := FP_keep hj (p := fun x => decide (x ≠ i)) (decide_eq_true q) hF
      refine ⟨_, hF2, ?_⟩
      rw [e, List.length_append]
      show fX6_drops_4b N (nI i) (fX6_drops_4 N (nI i) n) (upR X 9 g) _ (nI j) = _
      unfold fX6_drops_4b
      show (if X 8 1 ≤ nI j then _ else grd (inb (nI j) 24) (if g (nI j).toNatClampNeg = nI i then _ else grd (inb (nI j) 24) (grd (inb (nI (((a_ls A).take j).filter (fun x => decide (x ≠ i))).length) 24) (lt (up2 (upR X 9 g) 9 (nI (((a_ls A).take j).filter (fun x => decide (x ≠ i))).length).toNatClampNeg (g (nI j).toNatClampNeg)) _)))) = _
      rw [h11, if_neg (by rw [le_n (by omega) (by omega)]; omega), inb_n (by omega) (by decide), inb_n (by omega) (by decide), cl_n (by omega), cl_n (by omega), grd_t, if_neg (by rw [hx, eq_n (by omega) (by omega)]; exact q), grd_t, grd_t, lt_e, nI_1, nI_1, up2_upR]
      rfl
  have he : ∀ (n : Nat) (g : Nat → Int32), FP (a_ls A) (fun x => decide (x ≠ i)) (a_ls A).length g → ∃ r, fX6_drops_4 N (nI i) (n + 1) (upR X 9 g) (nI (((a_ls A).take (a_ls A).length).filter (fun x => decide (x ≠ i))).length) (nI (a_ls A).length) = some r ∧ RC r (drA A i) := by
    intro n g hF
    rw [List.take_length]
    show ∃ r, fX6_drops_4b N (nI i) (fX6_drops_4 N (nI i) n) (upR X 9 g) _ (nI (a_ls A).length) = some r ∧ _
    unfold fX6_drops_4b
    show ∃ r, (if X 8 1 ≤ nI (a_ls A).length then _ else _) = some r ∧ _
    rw [h11, if_pos (by rw [le_n (by omega) (by omega)]; omega)]
    exact drops_end h hi hF
  obtain ⟨X', e, r⟩ := lpC (fun n j (g : Nat → Int32) => fX6_drops_4 N (nI i) n (upR X 9 g) (nI (((a_ls A).take j).filter (fun x => decide (x ≠ i))).length) (nI j)) (fun j g => FP (a_ls A) (fun x => decide (x ≠ i)) j g) (fun r => RC r (drA A i)) (a_ls A).length hs he N 0 (X 9) (Nat.zero_le _) ⟨fun a ha => by simp at ha, fun a _ h2 => h14 a h2⟩ (by omega)
  refine ⟨X', ?_, r⟩
  have e2 : upR X 9 (X 9) = X := upR_self X 9
  have e3 : fX6_drops_4 N (nI i) N (upR X 9 (X 9)) (nI 0) (nI 0) = some X' := e
  rw [e2] at e3
  exact e3
