/-! the heap as it is meant: AS; its two pictures: RC (class), RM (reference) -/
abbrev LG : Type := Nat × (Nat → Int32) × (Nat → Int32) × (Nat → Int32)
abbrev AS : Type := (Nat → Bool) × (Nat → Bool) × (Nat) × (Nat → Nat) × (Nat → Int32) × (Nat → Nat) × (Nat → Int) × (Nat → Nat → Option Nat) × (Nat → Option Nat) × (Nat → Option Nat) × (List Nat) × (Nat → Bool) × (Nat × (Nat → Int32) × (Nat → Int32) × (Nat → Int32))
abbrev a_th (A : AS) : Nat → Bool := A.1
abbrev a_rn (A : AS) : Nat → Bool := A.2.1
abbrev a_li (A : AS) : Nat := A.2.2.1
abbrev a_my (A : AS) : Nat → Nat := A.2.2.2.1
abbrev a_wt (A : AS) : Nat → Int32 := A.2.2.2.2.1
abbrev a_en (A : AS) : Nat → Nat := A.2.2.2.2.2.1
abbrev a_ct (A : AS) : Nat → Int := A.2.2.2.2.2.2.1
abbrev a_fd (A : AS) : Nat → Nat → Option Nat := A.2.2.2.2.2.2.2.1
abbrev a_rt (A : AS) : Nat → Option Nat := A.2.2.2.2.2.2.2.2.1
abbrev a_wk (A : AS) : Nat → Option Nat := A.2.2.2.2.2.2.2.2.2.1
abbrev a_ls (A : AS) : List Nat := A.2.2.2.2.2.2.2.2.2.2.1
abbrev a_mt (A : AS) : Nat → Bool := A.2.2.2.2.2.2.2.2.2.2.2.1
abbrev a_lg (A : AS) : Nat × (Nat → Int32) × (Nat → Int32) × (Nat → Int32) := A.2.2.2.2.2.2.2.2.2.2.2.2
abbrev u_th (A : AS) (v : Nat → Bool) : AS := (v, A.2.1, A.2.2.1, A.2.2.2.1, A.2.2.2.2.1, A.2.2.2.2.2.1, A.2.2.2.2.2.2.1, A.2.2.2.2.2.2.2.1, A.2.2.2.2.2.2.2.2.1, A.2.2.2.2.2.2.2.2.2.1, A.2.2.2.2.2.2.2.2.2.2.1, A.2.2.2.2.2.2.2.2.2.2.2.1, A.2.2.2.2.2.2.2.2.2.2.2.2)
abbrev u_rn (A : AS) (v : Nat → Bool) : AS := (A.1, v, A.2.2.1, A.2.2.2.1, A.2.2.2.2.1, A.2.2.2.2.2.1, A.2.2.2.2.2.2.1, A.2.2.2.2.2.2.2.1, A.2.2.2.2.2.2.2.2.1, A.2.2.2.2.2.2.2.2.2.1, A.2.2.2.2.2.2.2.2.2.2.1, A.2.2.2.2.2.2.2.2.2.2.2.1, A.2.2.2.2.2.2.2.2.2.2.2.2)
abbrev u_li (A : AS) (v : Nat) : AS := (A.1, A.2.1, v, A.2.2.2.1, A.2.2.2.2.1, A.2.2.2.2.2.1, A.2.2.2.2.2.2.1, A.2.2.2.2.2.2.2.1, A.2.2.2.2.2.2.2.2.1, A.2.2.2.2.2.2.2.2.2.1, A.2.2.2.2.2.2.2.2.2.2.1, A.2.2.2.2.2.2.2.2.2.2.2.1, A.2.2.2.2.2.2.2.2.2.2.2.2)
abbrev u_my (A : AS) (v : Nat → Nat) : AS := (A.1, A.2.1, A.2.2.1, v, A.2.2.2.2.1, A.2.2.2.2.2.1, A.2.2.2.2.2.2.1, A.2.2.2.2.2.2.2.1, A.2.2.2.2.2.2.2.2.1, A.2.2.2.2.2.2.2.2.2.1, A.2.2.2.2.2.2.2.2.2.2.1, A.2.2.2.2.2.2.2.2.2.2.2.1, A.2.2.2.2.2.2.2.2.2.2.2.2)
abbrev u_wt (A : AS) (v : Nat → Int32) : AS := (A.1, A.2.1, A.2.2.1, A.2.2.2.1, v, A.2.2.2.2.2.1, A.2.2.2.2.2.2.1, A.2.2.2.2.2.2.2.1, A.2.2.2.2.2.2.2.2.1, A.2.2.2.2.2.2.2.2.2.1, A.2.2.2.2.2.2.2.2.2.2.1, A.2.2.2.2.2.2.2.2.2.2.2.1, A.2.2.2.2.2.2.2.2.2.2.2.2)
abbrev u_en (A : AS) (v : Nat → Nat) : AS := (A.1, A.2.1, A.2.2.1, A.2.2.2.1, A.2.2.2.2.1, v, A.2.2.2.2.2.2.1, A.2.2.2.2.2.2.2.1, A.2.2.2.2.2.2.2.2.1, A.2.2.2.2.2.2.2.2.2.1, A.2.2.2.2.2.2.2.2.2.2.1, A.2.2.2.2.2.2.2.2.2.2.2.1, A.2.2.2.2.2.2.2.2.2.2.2.2)
abbrev u_ct (A : AS) (v : Nat → Int) : AS := (A.1, A.2.1, A.2.2.1, A.2.2.2.1, A.2.2.2.2.1, A.2.2.2.2.2.1, v, A.2.2.2.2.2.2.2.1, A.2.2.2.2.2.2.2.2.1, A.2.2.2.2.2.2.2.2.2.1, A.2.2.2.2.2.2.2.2.2.2.1, A.2.2.2.2.2.2.2.2.2.2.2.1, A.2.2.2.2.2.2.2.2.2.2.2.2)
abbrev u_fd (A : AS) (v : Nat → Nat → Option Nat) : AS := (A.1, A.2.1, A.2.2.1, A.2.2.2.1, A.2.2.2.2.1, A.2.2.2.2.2.1, A.2.2.2.2.2.2.1, v, A.2.2.2.2.2.2.2.2.1, A.2.2.2.2.2.2.2.2.2.1, A.2.2.2.2.2.2.2.2.2.2.1, A.2.2.2.2.2.2.2.2.2.2.2.1, A.2.2.2.2.2.2.2.2.2.2.2.2)
abbrev u_rt (A : AS) (v : Nat → Option Nat) : AS := (A.1, A.2.1, A.2.2.1, A.2.2.2.1, A.2.2.2.2.1, A.2.2.2.2.2.1, A.2.2.2.2.2.2.1, A.2.2.2.2.2.2.2.1, v, A.2.2.2.2.2.2.2.2.2.1, A.2.2.2.2.2.2.2.2.2.2.1, A.2.2.2.2.2.2.2.2.2.2.2.1, A.2.2.2.2.2.2.2.2.2.2.2.2)
abbrev u_wk (A : AS) (v : Nat → Option Nat) : AS := (A.1, A.2.1, A.2.2.1, A.2.2.2.1, A.2.2.2.2.1, A.2.2.2.2.2.1, A.2.2.2.2.2.2.1, A.2.2.2.2.2.2.2.1, A.2.2.2.2.2.2.2.2.1, v, A.2.2.2.2.2.2.2.2.2.2.1, A.2.2.2.2.2.2.2.2.2.2.2.1, A.2.2.2.2.2.2.2.2.2.2.2.2)
abbrev u_ls (A : AS) (v : List Nat) : AS := (A.1, A.2.1, A.2.2.1, A.2.2.2.1, A.2.2.2.2.1, A.2.2.2.2.2.1, A.2.2.2.2.2.2.1, A.2.2.2.2.2.2.2.1, A.2.2.2.2.2.2.2.2.1, A.2.2.2.2.2.2.2.2.2.1, v, A.2.2.2.2.2.2.2.2.2.2.2.1, A.2.2.2.2.2.2.2.2.2.2.2.2)
abbrev u_mt (A : AS) (v : Nat → Bool) : AS := (A.1, A.2.1, A.2.2.1, A.2.2.2.1, A.2.2.2.2.1, A.2.2.2.2.2.1, A.2.2.2.2.2.2.1, A.2.2.2.2.2.2.2.1, A.2.2.2.2.2.2.2.2.1, A.2.2.2.2.2.2.2.2.2.1, A.2.2.2.2.2.2.2.2.2.2.1, v, A.2.2.2.2.2.2.2.2.2.2.2.2)
abbrev u_lg (A : AS) (v : Nat × (Nat → Int32) × (Nat → Int32) × (Nat → Int32)) : AS := (A.1, A.2.1, A.2.2.1, A.2.2.2.1, A.2.2.2.2.1, A.2.2.2.2.2.1, A.2.2.2.2.2.2.1, A.2.2.2.2.2.2.2.1, A.2.2.2.2.2.2.2.2.1, A.2.2.2.2.2.2.2.2.2.1, A.2.2.2.2.2.2.2.2.2.2.1, A.2.2.2.2.2.2.2.2.2.2.2.1, v)
def f2 {α : Type} (f : Nat → Nat → α) (o k : Nat) (v : α) : Nat → Nat → α := fun i j => if i = o ∧ j = k then v else f i j
def RC (X : Nat → Nat → Int32) (A : AS) : Prop :=
  (X 0 0 = bs (a_th A)) ∧
  (X 0 1 = bs (a_rn A)) ∧
  (X 0 2 = nI (a_li A)) ∧
  (∀ o : Nat, o < 24 → X 1 o = nI (a_my A o)) ∧
  (∀ o : Nat, o < 24 → X 2 o = a_wt A o) ∧
  (∀ o : Nat, o < 24 → X 3 o = nI (a_en A o)) ∧
  (∀ o : Nat, o < 24 → X 4 o = cI (a_ct A o)) ∧
  (∀ o k : Nat, o < 24 → k < 4 → X 5 (o * 4 + k) = oI (a_fd A o k)) ∧
  (∀ r : Nat, r < 6 → X 6 r = oI (a_rt A r)) ∧
  (∀ w : Nat, w < 4 → X 7 w = oI (a_wk A w)) ∧
  (X 8 1 = nI (a_ls A).length) ∧
  (X 8 2 = bs (fun o => (a_ls A).contains o)) ∧
  (X 8 3 = bs (a_mt A)) ∧
  (∀ i : Nat, i < (a_ls A).length → X 9 i = nI ((a_ls A).getD i 0)) ∧
  (X 10 3 = nI (a_lg A).1) ∧
  (∀ p : Nat, p < 60 → X 11 p = (a_lg A).2.1 p) ∧
  (∀ p : Nat, p < 60 → X 12 p = (a_lg A).2.2.1 p) ∧
  (∀ k : Nat, k < 6 → X 13 k = (a_lg A).2.2.2 k)
theorem C_th {X : Nat → Nat → Int32} {A : AS} (h : RC X A) (f : Nat → Bool) : RC (up2 X 0 0 (bs f)) (u_th A f) := by
  obtain ⟨h1, h2, h3, h4, h5, h6, h7, h8, h9, h10, h11, h12, h13, h14, h15, h16, h17, h18⟩ := h
  exact ⟨rfl, h2, h3, h4, h5, h6, h7, h8, h9, h10, h11, h12, h13, h14, h15, h16, h17, h18⟩
theorem C_rn {X : Nat → Nat → Int32} {A : AS} (h : RC X A) (f : Nat → Bool) : RC (up2 X 0 1 (bs f)) (u_rn A f) := by
  obtain ⟨h1, h2, h3, h4, h5, h6, h7, h8, h9, h10, h11, h12, h13, h14, h15, h16, h17, h18⟩ := h
  exact ⟨h1, rfl, h3, h4, h5, h6, h7, h8, h9, h10, h11, h12, h13, h14, h15, h16, h17, h18⟩
theorem C_li {X : Nat → Nat → Int32} {A : AS} (h : RC X A) (v : Nat) : RC (up2 X 0 2 (nI v)) (u_li A v) := by
  obtain ⟨h1, h2, h3, h4, h5, h6, h7, h8, h9, h10, h11, h12, h13, h14, h15, h16, h17, h18⟩ := h
  exact ⟨h1, h2, rfl, h4, h5, h6, h7, h8, h9, h10, h11, h12, h13, h14, h15, h16, h17, h18⟩
theorem C_my {X : Nat → Nat → Int32} {A : AS} (h : RC X A) (i : Nat) (v : Nat) : RC (up2 X 1 i (nI v)) (u_my A (fs (a_my A) i v)) := by
  obtain ⟨h1, h2, h3, h4, h5, h6, h7, h8, h9, h10, h11, h12, h13, h14, h15, h16, h17, h18⟩ := h
  exact ⟨h1, h2, h3, (fun o ho => by
    show upd (X 1) i (nI v) o = _
    by_cases q : o = i
    · subst q; rw [pk_us]; show _ = nI (fs (a_my A) o v o); rw [fs_s]
    · rw [pk_un q]; show _ = nI (fs (a_my A) i v o); rw [fs_n q]; exact h4 o ho), h5, h6, h7, h8, h9, h10, h11, h12, h13, h14, h15, h16, h17, h18⟩
theorem C_wt {X : Nat → Nat → Int32} {A : AS} (h : RC X A) (i : Nat) (v : Int32) : RC (up2 X 2 i (v)) (u_wt A (fs (a_wt A) i v)) := by
  obtain ⟨h1, h2, h3, h4, h5, h6, h7, h8, h9, h10, h11, h12, h13, h14, h15, h16, h17, h18⟩ := h
  exact ⟨h1, h2, h3, h4, (fun o ho => by
    show upd (X 2) i (v) o = _
    by_cases q : o = i
    · subst q; rw [pk_us]; show _ = fs (a_wt A) o v o; rw [fs_s]
    · rw [pk_un q]; show _ = fs (a_wt A) i v o; rw [fs_n q]; exact h5 o ho), h6, h7, h8, h9, h10, h11, h12, h13, h14, h15, h16, h17, h18⟩
theorem C_en {X : Nat → Nat → Int32} {A : AS} (h : RC X A) (i : Nat) (v : Nat) : RC (up2 X 3 i (nI v)) (u_en A (fs (a_en A) i v)) := by
  obtain ⟨h1, h2, h3, h4, h5, h6, h7, h8, h9, h10, h11, h12, h13, h14, h15, h16, h17, h18⟩ := h
  exact ⟨h1, h2, h3, h4, h5, (fun o ho => by
    show upd (X 3) i (nI v) o = _
    by_cases q : o = i
    · subst q; rw [pk_us]; show _ = nI (fs (a_en A) o v o); rw [fs_s]
    · rw [pk_un q]; show _ = nI (fs (a_en A) i v o); rw [fs_n q]; exact h6 o ho), h7, h8, h9, h10, h11, h12, h13, h14, h15, h16, h17, h18⟩
theorem C_ct {X : Nat → Nat → Int32} {A : AS} (h : RC X A) (i : Nat) (v : Int) : RC (up2 X 4 i (cI v)) (u_ct A (fs (a_ct A) i v)) := by
  obtain ⟨h1, h2, h3, h4, h5, h6, h7, h8, h9, h10, h11, h12, h13, h14, h15, h16, h17, h18⟩ := h
  exact ⟨h1, h2, h3, h4, h5, h6, (fun o ho => by
    show upd (X 4) i (cI v) o = _
    by_cases q : o = i
    · subst q; rw [pk_us]; show _ = cI (fs (a_ct A) o v o); rw [fs_s]
    · rw [pk_un q]; show _ = cI (fs (a_ct A) i v o); rw [fs_n q]; exact h7 o ho), h8, h9, h10, h11, h12, h13, h14, h15, h16, h17, h18⟩
theorem C_rt {X : Nat → Nat → Int32} {A : AS} (h : RC X A) (i : Nat) (v : Option Nat) : RC (up2 X 6 i (oI v)) (u_rt A (fs (a_rt A) i v)) := by
  obtain ⟨h1, h2, h3, h4, h5, h6, h7, h8, h9, h10, h11, h12, h13, h14, h15, h16, h17, h18⟩ := h
  exact ⟨h1, h2, h3, h4, h5, h6, h7, h8, (fun o ho => by
    show upd (X 6) i (oI v) o = _
    by_cases q : o = i
    · subst q; rw [pk_us]; show _ = oI (fs (a_rt A) o v o); rw [fs_s]
    · rw [pk_un q]; show _ = oI (fs (a_rt A) i v o); rw [fs_n q]; exact h9 o ho), h10, h11, h12, h13, h14, h15, h16, h17, h18⟩
theorem C_wk {X : Nat → Nat → Int32} {A : AS} (h : RC X A) (i : Nat) (v : Option Nat) : RC (up2 X 7 i (oI v)) (u_wk A (fs (a_wk A) i v)) := by
  obtain ⟨h1, h2, h3, h4, h5, h6, h7, h8, h9, h10, h11, h12, h13, h14, h15, h16, h17, h18⟩ := h
  exact ⟨h1, h2, h3, h4, h5, h6, h7, h8, h9, (fun o ho => by
    show upd (X 7) i (oI v) o = _
    by_cases q : o = i
    · subst q; rw [pk_us]; show _ = oI (fs (a_wk A) o v o); rw [fs_s]
    · rw [pk_un q]; show _ = oI (fs (a_wk A) i v o); rw [fs_n q]; exact h10 o ho), h11, h12, h13, h14, h15, h16, h17, h18⟩
theorem C_fd {X : Nat → Nat → Int32} {A : AS} (h : RC X A) {o k : Nat} (v : Option Nat) (hk : k < 4) : RC (up2 X 5 (o * 4 + k) (oI v)) (u_fd A (f2 (a_fd A) o k v)) := by
  obtain ⟨h1, h2, h3, h4, h5, h6, h7, h8, h9, h10, h11, h12, h13, h14, h15, h16, h17, h18⟩ := h
  exact ⟨h1, h2, h3, h4, h5, h6, h7, (fun i j hi hj => by
    show upd (X 5) (o * 4 + k) (oI v) (i * 4 + j) = oI (f2 (a_fd A) o k v i j)
    unfold f2
    by_cases q : i = o ∧ j = k
    · rw [if_pos q, q.1, q.2, pk_us]
    · rw [if_neg q, pk_un (by omega)]; exact h8 i j hi hj), h9, h10, h11, h12, h13, h14, h15, h16, h17, h18⟩
theorem C_mt {X : Nat → Nat → Int32} {A : AS} (h : RC X A) (f : Nat → Bool) : RC (up2 X 8 3 (bs f)) (u_mt A f) := by
  obtain ⟨h1, h2, h3, h4, h5, h6, h7, h8, h9, h10, h11, h12, h13, h14, h15, h16, h17, h18⟩ := h
  exact ⟨h1, h2, h3, h4, h5, h6, h7, h8, h9, h10, h11, h12, rfl, h14, h15, h16, h17, h18⟩
def RM (m0 : Nat → Int32) (b : Nat) (mm : Nat → Int32) (A : AS) : Prop :=
  (∀ i : Nat, (i < b ∨ b + 427 ≤ i) → mm i = m0 i) ∧
  (mm b = nI (a_li A)) ∧
  (mm (b + 1) = nI (a_ls A).length) ∧
  (mm (b + 2) = nI (a_lg A).1) ∧
  (∀ k : Nat, k < 6 → mm (b + 3 + k) = (a_lg A).2.2.2 k) ∧
  (∀ i : Nat, i < (a_ls A).length → mm (b + 9 + i) = nI ((a_ls A).getD i 0)) ∧
  (∀ r : Nat, r < 6 → mm (b + 33 + r) = oI (a_rt A r)) ∧
  (∀ w : Nat, w < 4 → mm (b + 39 + w) = oI (a_wk A w)) ∧
  (∀ p : Nat, p < 60 → mm (b + 43 + 2 * p) = (a_lg A).2.1 p) ∧
  (∀ p : Nat, p < 60 → mm (b + 43 + 2 * p + 1) = (a_lg A).2.2.1 p) ∧
  (∀ o : Nat, o < 24 → mm (b + 163 + 11 * o) = bI (a_th A o)) ∧
  (∀ o : Nat, o < 24 → a_th A o = true → mm (b + 163 + 11 * o + 1) = nI (a_my A o)) ∧
  (∀ o : Nat, o < 24 → a_th A o = true → mm (b + 163 + 11 * o + 2) = a_wt A o) ∧
  (∀ o : Nat, o < 24 → a_th A o = true → mm (b + 163 + 11 * o + 3) = nI (a_en A o)) ∧
  (∀ o : Nat, o < 24 → a_th A o = true → mm (b + 163 + 11 * o + 4) = bI (a_rn A o)) ∧
  (∀ o : Nat, o < 24 → a_th A o = true → mm (b + 163 + 11 * o + 5) = cI (a_ct A o)) ∧
  (∀ o : Nat, o < 24 → a_th A o = true → mm (b + 163 + 11 * o + 6) = bI (a_mt A o)) ∧
  (∀ o k : Nat, o < 24 → k < 4 → a_th A o = true → mm (b + 163 + 11 * o + 7 + k) = oI (a_fd A o k)) ∧
  ((a_ls A).length ≤ 24)
theorem M_my {m0 mm : Nat → Int32} {b : Nat} {A : AS} (h : RM m0 b mm A) {o : Nat} (ho : o < 24) (v : Nat) : RM m0 b (upd mm (b + 163 + 11 * o + 1) (nI v)) (u_my A (fs (a_my A) o v)) := by
  obtain ⟨h1, h2, h3, h4, h5, h6, h7, h8, h9, h10, h11, h12, h13, h14, h15, h16, h17, h18, h19⟩ := h
  exact ⟨(fun i hi => by rw [pk_un (by omega)]; exact h1 i hi), (by rw [pk_un (by omega)]; exact h2), (by rw [pk_un (by omega)]; exact h3), (by rw [pk_un (by omega)]; exact h4), (fun i hi => by rw [pk_un (by omega)]; exact h5 i hi), (fun i hi => by have hi2 : i < (a_ls A).length := hi; rw [pk_un (by omega)]; exact h6 i hi2), (fun i hi => by rw [pk_un (by omega)]; exact h7 i hi), (fun i hi => by rw [pk_un (by omega)]; exact h8 i hi), (fun i hi => by rw [pk_un (by omega)]; exact h9 i hi), (fun i hi => by rw [pk_un (by omega)]; exact h10 i hi), (fun i hi => by rw [pk_un (by omega)]; exact h11 i hi), (fun i hi ht => by
    show upd mm (b + 163 + 11 * o + 1) (nI v) (b + 163 + 11 * i + 1) = nI (fs (a_my A) o v i)
    by_cases q : i = o
    · subst q; rw [pk_us, fs_s]
    · rw [pk_un (by omega), fs_n q]; exact h12 i hi ht), (fun i hi ht => by rw [pk_un (by omega)]; exact h13 i hi ht), (fun i hi ht => by rw [pk_un (by omega)]; exact h14 i hi ht), (fun i hi ht => by rw [pk_un (by omega)]; exact h15 i hi ht), (fun i hi ht => by rw [pk_un (by omega)]; exact h16 i hi ht), (fun i hi ht => by rw [pk_un (by omega)]; exact h17 i hi ht), (fun i j hi hj ht => by rw [pk_un (by omega)]; exact h18 i j hi hj ht), h19⟩
theorem M_wt {m0 mm : Nat → Int32} {b : Nat} {A : AS} (h : RM m0 b mm A) {o : Nat} (ho : o < 24) (v : Int32) : RM m0 b (upd mm (b + 163 + 11 * o + 2) (v)) (u_wt A (fs (a_wt A) o v)) := by
  obtain ⟨h1, h2, h3, h4, h5, h6, h7, h8, h9, h10, h11, h12, h13, h14, h15, h16, h17, h18, h19⟩ := h
  exact ⟨(fun i hi => by rw [pk_un (by omega)]; exact h1 i hi), (by rw [pk_un (by omega)]; exact h2), (by rw [pk_un (by omega)]; exact h3), (by rw [pk_un (by omega)]; exact h4), (fun i hi => by rw [pk_un (by omega)]; exact h5 i hi), (fun i hi => by have hi2 : i < (a_ls A).length := hi; rw [pk_un (by omega)]; exact h6 i hi2), (fun i hi => by rw [pk_un (by omega)]; exact h7 i hi), (fun i hi => by rw [pk_un (by omega)]; exact h8 i hi), (fun i hi => by rw [pk_un (by omega)]; exact h9 i hi), (fun i hi => by rw [pk_un (by omega)]; exact h10 i hi), (fun i hi => by rw [pk_un (by omega)]; exact h11 i hi), (fun i hi ht => by rw [pk_un (by omega)]; exact h12 i hi ht), (fun i hi ht => by
    show upd mm (b + 163 + 11 * o + 2) (v) (b + 163 + 11 * i + 2) = fs (a_wt A) o v i
    by_cases q : i = o
    · subst q; rw [pk_us, fs_s]
    · rw [pk_un (by omega), fs_n q]; exact h13 i hi ht), (fun i hi ht => by rw [pk_un (by omega)]; exact h14 i hi ht), (fun i hi ht => by rw [pk_un (by omega)]; exact h15 i hi ht), (fun i hi ht => by rw [pk_un (by omega)]; exact h16 i hi ht), (fun i hi ht => by rw [pk_un (by omega)]; exact h17 i hi ht), (fun i j hi hj ht => by rw [pk_un (by omega)]; exact h18 i j hi hj ht), h19⟩
theorem M_en {m0 mm : Nat → Int32} {b : Nat} {A : AS} (h : RM m0 b mm A) {o : Nat} (ho : o < 24) (v : Nat) : RM m0 b (upd mm (b + 163 + 11 * o + 3) (nI v)) (u_en A (fs (a_en A) o v)) := by
  obtain ⟨h1, h2, h3, h4, h5, h6, h7, h8, h9, h10, h11, h12, h13, h14, h15, h16, h17, h18, h19⟩ := h
  exact ⟨(fun i hi => by rw [pk_un (by omega)]; exact h1 i hi), (by rw [pk_un (by omega)]; exact h2), (by rw [pk_un (by omega)]; exact h3), (by rw [pk_un (by omega)]; exact h4), (fun i hi => by rw [pk_un (by omega)]; exact h5 i hi), (fun i hi => by have hi2 : i < (a_ls A).length := hi; rw [pk_un (by omega)]; exact h6 i hi2), (fun i hi => by rw [pk_un (by omega)]; exact h7 i hi), (fun i hi => by rw [pk_un (by omega)]; exact h8 i hi), (fun i hi => by rw [pk_un (by omega)]; exact h9 i hi), (fun i hi => by rw [pk_un (by omega)]; exact h10 i hi), (fun i hi => by rw [pk_un (by omega)]; exact h11 i hi), (fun i hi ht => by rw [pk_un (by omega)]; exact h12 i hi ht), (fun i hi ht => by rw [pk_un (by omega)]; exact h13 i hi ht), (fun i hi ht => by
    show upd mm (b + 163 + 11 * o + 3) (nI v) (b + 163 + 11 * i + 3) = nI (fs (a_en A) o v i)
    by_cases q : i = o
    · subst q; rw [pk_us, fs_s]
    · rw [pk_un (by omega), fs_n q]; exact h14 i hi ht), (fun i hi ht => by rw [pk_un (by omega)]; exact h15 i hi ht), (fun i hi ht => by rw [pk_un (by omega)]; exact h16 i hi ht), (fun i hi ht => by rw [pk_un (by omega)]; exact h17 i hi ht), (fun i j hi hj ht => by rw [pk_un (by omega)]; exact h18 i j hi hj ht), h19⟩
theorem M_rn {m0 mm : Nat → Int32} {b : Nat} {A : AS} (h : RM m0 b mm A) {o : Nat} (ho : o < 24) (v : Bool) : RM m0 b (upd mm (b + 163 + 11 * o + 4) (bI v)) (u_rn A (fs (a_rn A) o v)) := by
  obtain ⟨h1, h2, h3, h4, h5, h6, h7, h8, h9, h10, h11, h12, h13, h14, h15, h16, h17, h18, h19⟩ := h
  exact ⟨(fun i hi => by rw [pk_un (by omega)]; exact h1 i hi), (by rw [pk_un (by omega)]; exact h2), (by rw [pk_un (by omega)]; exact h3), (by rw [pk_un (by omega)]; exact h4), (fun i hi => by rw [pk_un (by omega)]; exact h5 i hi), (fun i hi => by have hi2 : i < (a_ls A).length := hi; rw [pk_un (by omega)]; exact h6 i hi2), (fun i hi => by rw [pk_un (by omega)]; exact h7 i hi), (fun i hi => by rw [pk_un (by omega)]; exact h8 i hi), (fun i hi => by rw [pk_un (by omega)]; exact h9 i hi), (fun i hi => by rw [pk_un (by omega)]; exact h10 i hi), (fun i hi => by rw [pk_un (by omega)]; exact h11 i hi), (fun i hi ht => by rw [pk_un (by omega)]; exact h12 i hi ht), (fun i hi ht => by rw [pk_un (by omega)]; exact h13 i hi ht), (fun i hi ht => by rw [pk_un (by omega)]; exact h14 i hi ht), (fun i hi ht => by
    show upd mm (b + 163 + 11 * o + 4) (bI v) (b + 163 + 11 * i + 4) = bI (fs (a_rn A) o v i)
    by_cases q : i = o
    · subst q; rw [pk_us, fs_s]
    · rw [pk_un (by omega), fs_n q]; exact h15 i hi ht), (fun i hi ht => by rw [pk_un (by omega)]; exact h16 i hi ht), (fun i hi ht => by rw [pk_un (by omega)]; exact h17 i hi ht), (fun i j hi hj ht => by rw [pk_un (by omega)]; exact h18 i j hi hj ht), h19⟩
theorem M_ct {m0 mm : Nat → Int32} {b : Nat} {A : AS} (h : RM m0 b mm A) {o : Nat} (ho : o < 24) (v : Int) : RM m0 b (upd mm (b + 163 + 11 * o + 5) (cI v)) (u_ct A (fs (a_ct A) o v)) := by
  obtain ⟨h1, h2, h3, h4, h5, h6, h7, h8, h9, h10, h11, h12, h13, h14, h15, h16, h17, h18, h19⟩ := h
  exact ⟨(fun i hi => by rw [pk_un (by omega)]; exact h1 i hi), (by rw [pk_un (by omega)]; exact h2), (by rw [pk_un (by omega)]; exact h3), (by rw [pk_un (by omega)]; exact h4), (fun i hi => by rw [pk_un (by omega)]; exact h5 i hi), (fun i hi => by have hi2 : i < (a_ls A).length := hi; rw [pk_un (by omega)]; exact h6 i hi2), (fun i hi => by rw [pk_un (by omega)]; exact h7 i hi), (fun i hi => by rw [pk_un (by omega)]; exact h8 i hi), (fun i hi => by rw [pk_un (by omega)]; exact h9 i hi), (fun i hi => by rw [pk_un (by omega)]; exact h10 i hi), (fun i hi => by rw [pk_un (by omega)]; exact h11 i hi), (fun i hi ht => by rw [pk_un (by omega)]; exact h12 i hi ht), (fun i hi ht => by rw [pk_un (by omega)]; exact h13 i hi ht), (fun i hi ht => by rw [pk_un (by omega)]; exact h14 i hi ht), (fun i hi ht => by rw [pk_un (by omega)]; exact h15 i hi ht), (fun i hi ht => by
    show upd mm (b + 163 + 11 * o + 5) (cI v) (b + 163 + 11 * i + 5) = cI (fs (a_ct A) o v i)
    by_cases q : i = o
    · subst q; rw [pk_us, fs_s]
    · rw [pk_un (by omega), fs_n q]; exact h16 i hi ht), (fun i hi ht => by rw [pk_un (by omega)]; exact h17 i hi ht), (fun i j hi hj ht => by rw [pk_un (by omega)]; exact h18 i j hi hj ht), h19⟩
theorem M_mt {m0 mm : Nat → Int32} {b : Nat} {A : AS} (h : RM m0 b mm A) {o : Nat} (ho : o < 24) (v : Bool) : RM m0 b (upd mm (b + 163 + 11 * o + 6) (bI v)) (u_mt A (fs (a_mt A) o v)) := by
  obtain ⟨h1, h2, h3, h4, h5, h6, h7, h8, h9, h10, h11, h12, h13, h14, h15, h16, h17, h18, h19⟩ := h
  exact ⟨(fun i hi => by rw [pk_un (by omega)]; exact h1 i hi), (by rw [pk_un (by omega)]; exact h2), (by rw [pk_un (by omega)]; exact h3), (by rw [pk_un (by omega)]; exact h4), (fun i hi => by rw [pk_un (by omega)]; exact h5 i hi), (fun i hi => by have hi2 : i < (a_ls A).length := hi; rw [pk_un (by omega)]; exact h6 i hi2), (fun i hi => by rw [pk_un (by omega)]; exact h7 i hi), (fun i hi => by rw [pk_un (by omega)]; exact h8 i hi), (fun i hi => by rw [pk_un (by omega)]; exact h9 i hi), (fun i hi => by rw [pk_un (by omega)]; exact h10 i hi), (fun i hi => by rw [pk_un (by omega)]; exact h11 i hi), (fun i hi ht => by rw [pk_un (by omega)]; exact h12 i hi ht), (fun i hi ht => by rw [pk_un (by omega)]; exact h13 i hi ht), (fun i hi ht => by rw [pk_un (by omega)]; exact h14 i hi ht), (fun i hi ht => by rw [pk_un (by omega)]; exact h15 i hi ht), (fun i hi ht => by rw [pk_un (by omega)]; exact h16 i hi ht), (fun i hi ht => by
    show upd mm (b + 163 + 11 * o + 6) (bI v) (b + 163 + 11 * i + 6) = bI (fs (a_mt A) o v i)
    by_cases q : i = o
    · subst q; rw [pk_us, fs_s]
    · rw [pk_un (by omega), fs_n q]; exact h17 i hi ht), (fun i j hi hj ht => by rw [pk_un (by omega)]; exact h18 i j hi hj ht), h19⟩
theorem M_thF {m0 mm : Nat → Int32} {b : Nat} {A : AS} (h : RM m0 b mm A) {o : Nat} (ho : o < 24) : RM m0 b (upd mm (b + 163 + 11 * o) (bI false)) (u_th A (fs (a_th A) o false)) := by
  obtain ⟨h1, h2, h3, h4, h5, h6, h7, h8, h9, h10, h11, h12, h13, h14, h15, h16, h17, h18, h19⟩ := h
  exact ⟨(fun i hi => by rw [pk_un (by omega)]; exact h1 i hi), (by rw [pk_un (by omega)]; exact h2), (by rw [pk_un (by omega)]; exact h3), (by rw [pk_un (by omega)]; exact h4), (fun i hi => by rw [pk_un (by omega)]; exact h5 i hi), (fun i hi => by have hi2 : i < (a_ls A).length := hi; rw [pk_un (by omega)]; exact h6 i hi2), (fun i hi => by rw [pk_un (by omega)]; exact h7 i hi), (fun i hi => by rw [pk_un (by omega)]; exact h8 i hi), (fun i hi => by rw [pk_un (by omega)]; exact h9 i hi), (fun i hi => by rw [pk_un (by omega)]; exact h10 i hi), (fun i hi => by
    show upd mm (b + 163 + 11 * o) (bI false) (b + 163 + 11 * i) = bI (fs (a_th A) o false i)
    by_cases q : i = o
    · subst q; rw [pk_us, fs_s]
    · rw [pk_un (by omega), fs_n q]; exact h11 i hi), (fun i hi ht => by
    have q : i ≠ o := fun q => by subst q; have ht2 : fs (a_th A) i false i = true := ht; rw [fs_s] at ht2; cases ht2
    have ht2 : fs (a_th A) o false i = true := ht
    rw [fs_n q] at ht2
    rw [pk_un (by omega)]; exact h12 i hi ht2), (fun i hi ht => by
    have q : i ≠ o := fun q => by subst q; have ht2 : fs (a_th A) i false i = true := ht; rw [fs_s] at ht2; cases ht2
    have ht2 : fs (a_th A) o false i = true := ht
    rw [fs_n q] at ht2
    rw [pk_un (by omega)]; exact h13 i hi ht2), (fun i hi ht => by
    have q : i ≠ o := fun q => by subst q; have ht2 : fs (a_th A) i false i = true := ht; rw [fs_s] at ht2; cases ht2
    have ht2 : fs (a_th A) o false i = true := ht
    rw [fs_n q] at ht2
    rw [pk_un (by omega)]; exact h14 i hi ht2), (fun i hi ht => by
    have q : i ≠ o := fun q => by subst q; have ht2 : fs (a_th A) i false i = true := ht; rw [fs_s] at ht2; cases ht2
    have ht2 : fs (a_th A) o false i = true := ht
    rw [fs_n q] at ht2
    rw [pk_un (by omega)]; exact h15 i hi ht2), (fun i hi ht => by
    have q : i ≠ o := fun q => by subst q; have ht2 : fs (a_th A) i false i = true := ht; rw [fs_s] at ht2; cases ht2
    have ht2 : fs (a_th A) o false i = true := ht
    rw [fs_n q] at ht2
    rw [pk_un (by omega)]; exact h16 i hi ht2), (fun i hi ht => by
    have q : i ≠ o := fun q => by subst q; have ht2 : fs (a_th A) i false i = true := ht; rw [fs_s] at ht2; cases ht2
    have ht2 : fs (a_th A) o false i = true := ht
    rw [fs_n q] at ht2
    rw [pk_un (by omega)]; exact h17 i hi ht2), (fun i j hi hj ht => by
    have q : i ≠ o := fun q => by subst q; have ht2 : fs (a_th A) i false i = true := ht; rw [fs_s] at ht2; cases ht2
    have ht2 : fs (a_th A) o false i = true := ht
    rw [fs_n q] at ht2
    rw [pk_un (by omega)]; exact h18 i j hi hj ht2), h19⟩
theorem M_fd {m0 mm : Nat → Int32} {b : Nat} {A : AS} (h : RM m0 b mm A) {o k : Nat} (ho : o < 24) (hk : k < 4) (v : Option Nat) : RM m0 b (upd mm (b + 163 + 11 * o + 7 + k) (oI v)) (u_fd A (f2 (a_fd A) o k v)) := by
  obtain ⟨h1, h2, h3, h4, h5, h6, h7, h8, h9, h10, h11, h12, h13, h14, h15, h16, h17, h18, h19⟩ := h
  exact ⟨(fun i hi => by rw [pk_un (by omega)]; exact h1 i hi), (by rw [pk_un (by omega)]; exact h2), (by rw [pk_un (by omega)]; exact h3), (by rw [pk_un (by omega)]; exact h4), (fun i hi => by rw [pk_un (by omega)]; exact h5 i hi), (fun i hi => by have hi2 : i < (a_ls A).length := hi; rw [pk_un (by omega)]; exact h6 i hi2), (fun i hi => by rw [pk_un (by omega)]; exact h7 i hi), (fun i hi => by rw [pk_un (by omega)]; exact h8 i hi), (fun i hi => by rw [pk_un (by omega)]; exact h9 i hi), (fun i hi => by rw [pk_un (by omega)]; exact h10 i hi), (fun i hi => by rw [pk_un (by omega)]; exact h11 i hi), (fun i hi ht => by rw [pk_un (by omega)]; exact h12 i hi ht), (fun i hi ht => by rw [pk_un (by omega)]; exact h13 i hi ht), (fun i hi ht => by rw [pk_un (by omega)]; exact h14 i hi ht), (fun i hi ht => by rw [pk_un (by omega)]; exact h15 i hi ht), (fun i hi ht => by rw [pk_un (by omega)]; exact h16 i hi ht), (fun i hi ht => by rw [pk_un (by omega)]; exact h17 i hi ht), (fun i j hi hj ht => by
    show upd mm (b + 163 + 11 * o + 7 + k) (oI v) (b + 163 + 11 * i + 7 + j) = oI (f2 (a_fd A) o k v i j)
    unfold f2
    by_cases q : i = o ∧ j = k
    · rw [if_pos q, q.1, q.2, pk_us]
    · rw [if_neg q, pk_un (by omega)]; exact h18 i j hi hj ht), h19⟩
theorem M_rt {m0 mm : Nat → Int32} {b : Nat} {A : AS} (h : RM m0 b mm A) {o : Nat} (ho : o < 6) (v : Option Nat) : RM m0 b (upd mm (b + 33 + o) (oI v)) (u_rt A (fs (a_rt A) o v)) := by
  obtain ⟨h1, h2, h3, h4, h5, h6, h7, h8, h9, h10, h11, h12, h13, h14, h15, h16, h17, h18, h19⟩ := h
  exact ⟨(fun i hi => by rw [pk_un (by omega)]; exact h1 i hi), (by rw [pk_un (by omega)]; exact h2), (by rw [pk_un (by omega)]; exact h3), (by rw [pk_un (by omega)]; exact h4), (fun i hi => by rw [pk_un (by omega)]; exact h5 i hi), (fun i hi => by have hi2 : i < (a_ls A).length := hi; rw [pk_un (by omega)]; exact h6 i hi2), (fun i hi => by
    show upd mm (b + 33 + o) (oI v) (b + 33 + i) = oI (fs (a_rt A) o v i)
    by_cases q : i = o
    · subst q; rw [pk_us, fs_s]
    · rw [pk_un (by omega), fs_n q]; exact h7 i hi), (fun i hi => by rw [pk_un (by omega)]; exact h8 i hi), (fun i hi => by rw [pk_un (by omega)]; exact h9 i hi), (fun i hi => by rw [pk_un (by omega)]; exact h10 i hi), (fun i hi => by rw [pk_un (by omega)]; exact h11 i hi), (fun i hi ht => by rw [pk_un (by omega)]; exact h12 i hi ht), (fun i hi ht => by rw [pk_un (by omega)]; exact h13 i hi ht), (fun i hi ht => by rw [pk_un (by omega)]; exact h14 i hi ht), (fun i hi ht => by rw [pk_un (by omega)]; exact h15 i hi ht), (fun i hi ht => by rw [pk_un (by omega)]; exact h16 i hi ht), (fun i hi ht => by rw [pk_un (by omega)]; exact h17 i hi ht), (fun i j hi hj ht => by rw [pk_un (by omega)]; exact h18 i j hi hj ht), h19⟩
theorem M_wk {m0 mm : Nat → Int32} {b : Nat} {A : AS} (h : RM m0 b mm A) {o : Nat} (ho : o < 4) (v : Option Nat) : RM m0 b (upd mm (b + 39 + o) (oI v)) (u_wk A (fs (a_wk A) o v)) := by
  obtain ⟨h1, h2, h3, h4, h5, h6, h7, h8, h9, h10, h11, h12, h13, h14, h15, h16, h17, h18, h19⟩ := h
  exact ⟨(fun i hi => by rw [pk_un (by omega)]; exact h1 i hi), (by rw [pk_un (by omega)]; exact h2), (by rw [pk_un (by omega)]; exact h3), (by rw [pk_un (by omega)]; exact h4), (fun i hi => by rw [pk_un (by omega)]; exact h5 i hi), (fun i hi => by have hi2 : i < (a_ls A).length := hi; rw [pk_un (by omega)]; exact h6 i hi2), (fun i hi => by rw [pk_un (by omega)]; exact h7 i hi), (fun i hi => by
    show upd mm (b + 39 + o) (oI v) (b + 39 + i) = oI (fs (a_wk A) o v i)
    by_cases q : i = o
    · subst q; rw [pk_us, fs_s]
    · rw [pk_un (by omega), fs_n q]; exact h8 i hi), (fun i hi => by rw [pk_un (by omega)]; exact h9 i hi), (fun i hi => by rw [pk_un (by omega)]; exact h10 i hi), (fun i hi => by rw [pk_un (by omega)]; exact h11 i hi), (fun i hi ht => by rw [pk_un (by omega)]; exact h12 i hi ht), (fun i hi ht => by rw [pk_un (by omega)]; exact h13 i hi ht), (fun i hi ht => by rw [pk_un (by omega)]; exact h14 i hi ht), (fun i hi ht => by rw [pk_un (by omega)]; exact h15 i hi ht), (fun i hi ht => by rw [pk_un (by omega)]; exact h16 i hi ht), (fun i hi ht => by rw [pk_un (by omega)]; exact h17 i hi ht), (fun i j hi hj ht => by rw [pk_un (by omega)]; exact h18 i j hi hj ht), h19⟩
theorem M_li {m0 mm : Nat → Int32} {b : Nat} {A : AS} (h : RM m0 b mm A) (v : Nat) : RM m0 b (upd mm b (nI v)) (u_li A v) := by
  obtain ⟨h1, h2, h3, h4, h5, h6, h7, h8, h9, h10, h11, h12, h13, h14, h15, h16, h17, h18, h19⟩ := h
  exact ⟨(fun i hi => by rw [pk_un (by omega)]; exact h1 i hi), pk_us, (by rw [pk_un (by omega)]; exact h3), (by rw [pk_un (by omega)]; exact h4), (fun i hi => by rw [pk_un (by omega)]; exact h5 i hi), (fun i hi => by have hi2 : i < (a_ls A).length := hi; rw [pk_un (by omega)]; exact h6 i hi2), (fun i hi => by rw [pk_un (by omega)]; exact h7 i hi), (fun i hi => by rw [pk_un (by omega)]; exact h8 i hi), (fun i hi => by rw [pk_un (by omega)]; exact h9 i hi), (fun i hi => by rw [pk_un (by omega)]; exact h10 i hi), (fun i hi => by rw [pk_un (by omega)]; exact h11 i hi), (fun i hi ht => by rw [pk_un (by omega)]; exact h12 i hi ht), (fun i hi ht => by rw [pk_un (by omega)]; exact h13 i hi ht), (fun i hi ht => by rw [pk_un (by omega)]; exact h14 i hi ht), (fun i hi ht => by rw [pk_un (by omega)]; exact h15 i hi ht), (fun i hi ht => by rw [pk_un (by omega)]; exact h16 i hi ht), (fun i hi ht => by rw [pk_un (by omega)]; exact h17 i hi ht), (fun i j hi hj ht => by rw [pk_un (by omega)]; exact h18 i j hi hj ht), h19⟩
