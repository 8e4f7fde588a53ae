/-! class: dropsTrusted, clears; has, fields, weak ones -/
theorem RC_h1 {X : Nat → Nat → Int32} {A : AS} (h : RC X A) : X 0 0 = bs (a_th A) := h.1
theorem RC_h2 {X : Nat → Nat → Int32} {A : AS} (h : RC X A) : X 0 1 = bs (a_rn A) := h.2.1
theorem RC_h3 {X : Nat → Nat → Int32} {A : AS} (h : RC X A) : X 0 2 = nI (a_li A) := h.2.2.1
theorem RC_h4 {X : Nat → Nat → Int32} {A : AS} (h : RC X A) : ∀ o : Nat, o < 24 → X 1 o = nI (a_my A o) := h.2.2.2.1
theorem RC_h5 {X : Nat → Nat → Int32} {A : AS} (h : RC X A) : ∀ o : Nat, o < 24 → X 2 o = a_wt A o := h.2.2.2.2.1
theorem RC_h6 {X : Nat → Nat → Int32} {A : AS} (h : RC X A) : ∀ o : Nat, o < 24 → X 3 o = nI (a_en A o) := h.2.2.2.2.2.1
theorem RC_h7 {X : Nat → Nat → Int32} {A : AS} (h : RC X A) : ∀ o : Nat, o < 24 → X 4 o = cI (a_ct A o) := h.2.2.2.2.2.2.1
theorem RC_h8 {X : Nat → Nat → Int32} {A : AS} (h : RC X A) : ∀ o k : Nat, o < 24 → k < 4 → X 5 (o * 4 + k) = oI (a_fd A o k) := h.2.2.2.2.2.2.2.1
theorem RC_h9 {X : Nat → Nat → Int32} {A : AS} (h : RC X A) : ∀ r : Nat, r < 6 → X 6 r = oI (a_rt A r) := h.2.2.2.2.2.2.2.2.1
theorem RC_h10 {X : Nat → Nat → Int32} {A : AS} (h : RC X A) : ∀ r : Nat, r < 4 → X 7 r = oI (a_wk A r) := h.2.2.2.2.2.2.2.2.2.1
theorem RC_h11 {X : Nat → Nat → Int32} {A : AS} (h : RC X A) : X 8 1 = nI (a_ls A).length := h.2.2.2.2.2.2.2.2.2.2.1
theorem RC_h12 {X : Nat → Nat → Int32} {A : AS} (h : RC X A) : X 8 2 = bs (fun o => (a_ls A).contains o) := h.2.2.2.2.2.2.2.2.2.2.2.1
theorem RC_h13 {X : Nat → Nat → Int32} {A : AS} (h : RC X A) : X 8 3 = bs (a_mt A) := h.2.2.2.2.2.2.2.2.2.2.2.2.1
theorem RC_h14 {X : Nat → Nat → Int32} {A : AS} (h : RC X A) : ∀ i : Nat, i < (a_ls A).length → X 9 i = nI ((a_ls A).getD i 0) := h.2.2.2.2.2.2.2.2.2.2.2.2.2.1
theorem RC_h15 {X : Nat → Nat → Int32} {A : AS} (h : RC X A) : X 10 3 = nI (a_lg A).1 := h.2.2.2.2.2.2.2.2.2.2.2.2.2.2.1
theorem RC_h18 {X : Nat → Nat → Int32} {A : AS} (h : RC X A) : ∀ k : Nat, k < 6 → X 13 k = (a_lg A).2.2.2 k := h.2.2.2.2.2.2.2.2.2.2.2.2.2.2.2.2.2
def dtA (A : AS) : AS := u_ls A ((a_ls A).filter (a_mt A))
theorem dtr_end {X : Nat → Nat → Int32} {A : AS} (h : RC X A) (hmt : ∀ o, a_mt A o = true → o ∈ a_ls A) {g : Nat → Int32} (hF : FP (a_ls A) (a_mt A) (a_ls A).length g) : RC (up2 (up2 (upR X 9 g) 8 1 (nI ((a_ls A).filter (a_mt A)).length)) 8 2 (X 8 3)) (dtA A) := by
  obtain ⟨h1, h2, h3, h4, h5, h6, h7, h8, h9, h10, h11, h12, h13, h14, h15, h16, h17, h18⟩ := h
  refine ⟨h1, h2, h3, h4, h5, h6, h7, h8, h9, h10, rfl, ?_, h13, ?_, h15, h16, h17, h18⟩
  · show X 8 3 = bs (fun o => ((a_ls A).filter (a_mt A)).contains o)
    rw [h13]
    refine bs_ext (fun j _ => ?_)
    by_cases q : a_mt A j = true
    · rw [q]
      symm
      rw [List.contains_iff_mem, List.mem_filter]
      exact ⟨hmt j q, q⟩
    · rw [Bool.not_eq_true] at q
      rw [q]
      symm
      rw [Bool.eq_false_iff]
      intro c
      rw [List.contains_iff_mem, List.mem_filter, q] at c
      exact absurd c.2 (by decide)
  · have := hF.1
    rw [List.take_length] at this
    exact this
theorem C_dropsTrusted {X : Nat → Nat → Int32} {A : AS} (h : RC X A) (hl : (a_ls A).length ≤ 24) (hm : ∀ x ∈ a_ls A, x < 24) (hmt : ∀ o, a_mt A o = true → o ∈ a_ls A) {N : Nat} (hN : 24 < N) : ∃ X', fX6_dropsTrusted N X = some X' ∧ RC X' (dtA A) := by
  have h11 : X 8 1 = nI (a_ls A).length := RC_h11 h
  have h13 : X 8 3 = bs (a_mt A) := RC_h13 h
  have hs : ∀ (n j : Nat) (g : Nat → Int32), j < (a_ls A).length → FP (a_ls A) (a_mt A) j g → (∃ s', FP (a_ls A) (a_mt A) (j + 1) s' ∧ fX6_dropsTrusted_4 N (n + 1) (upR X 9 g) (nI (((a_ls A).take j).filter (a_mt A)).length) (nI j) = fX6_dropsTrusted_4 N n (upR X 9 s') (nI (((a_ls A).take (j + 1)).filter (a_mt A)).length) (nI (j + 1))) ∨ ∃ r, fX6_dropsTrusted_4 N (n + 1) (upR X 9 g) (nI (((a_ls A).take j).filter (a_mt A)).length) (nI j) = some r ∧ RC r (dtA A) := by
    intro n j g hj hF
    left
    have hle := FP_le (a_ls A) (a_mt A) j
    have hx := hF.2 j (Nat.le_refl j) hj
    have hx24 := hm _ (getD_mem hj)
    have hb : jushr (X 8 3) (g j) &&& 1 = bI (a_mt A ((a_ls A).getD j 0)) := by rw [hx, h13]; exact bs_bit _ hx24
    by_cases q : a_mt A ((a_ls A).getD j 0) = true
    · obtain ⟨e, hF2⟩ := FP_keep hj (p := a_mt A) q hF
      refine ⟨_, hF2, ?_⟩
      rw [e, List.length_append]
      show fX6_dropsTrusted_4b N (fX6_dropsTrusted_4 N n) (upR X 9 g) _ (nI j) = _
      unfold fX6_dropsTrusted_4b fX11_bit
      show (if X 8 1 ≤ nI j then _ else grd (inb (nI j) 24) (if jushr (X 8 3) (g (nI j).toNatClampNeg) &&& 1 = 1 then grd (inb (nI j) 24) (grd (inb (nI (((a_ls A).take j).filter (a_mt A)).length) 24) (lt (up2 (upR X 9 g) 9 (nI (((a_ls A).take j).filter (a_mt A)).length).toNatClampNeg (g (nI j).toNatClampNeg)) _)) else _)) = _
      rw [h11, if_neg (by rw [le_n (by omega) (by omega)]; omega), inb_n (by omega) (by decide), inb_n (by omega) (by decide), cl_n (by omega), cl_n (by omega), grd_t, hb, if_pos (by rw [q]; rfl), grd_t, grd_t, lt_e, nI_1, nI_1, up2_upR]
      rfl
    · rw [Bool.not_eq_true] at q
      obtain ⟨e, hF2⟩ := FP_drop hj (p := a_mt A) q hF
      refine ⟨g, hF2, ?_⟩
      rw [e]
      show fX6_dropsTrusted_4b N (fX6_dropsTrusted_4 N n) (upR X 9 g) _ (nI j) = _
      unfold fX6_dropsTrusted_4b fX11_bit
      show (if X 8 1 ≤ nI j then _ else grd (inb (nI j) 24) (if jushr (X 8 3) (g (nI j).toNatClampNeg) &&& 1 = 1 then _ else _)) = _
      rw [h11, if_neg (by rw [le_n (by omega) (by omega)]; omega), inb_n (by omega) (by decide), cl_n (by omega), hb, q, grd_t, if_neg (by decide), nI_1]
  have he : ∀ (n : Nat) (g : Nat → Int32), FP (a_ls A) (a_mt A) (a_ls A).length g → ∃ r, fX6_dropsTrusted_4 N (n + 1) (upR X 9 g) (nI (((a_ls A).take (a_ls A).length).filter (a_mt A)).length) (nI (a_ls A).length) = some r ∧ RC r (dtA A) := by
    intro n g hF
    rw [List.take_length]
    refine ⟨_, ?_, dtr_end h hmt hF⟩
    show fX6_dropsTrusted_4b N (fX6_dropsTrusted_4 N n) (upR X 9 g) _ (nI (a_ls A).length) = _
    unfold fX6_dropsTrusted_4b
    show (if X 8 1 ≤ nI (a_ls A).length then _ else _) = _
    rw [h11, if_pos (by rw [le_n (by omega) (by omega)]; omega)]
    rfl
  obtain ⟨X', e, r⟩ := lpC (fun n j (g : Nat → Int32) => fX6_dropsTrusted_4 N n (upR X 9 g) (nI (((a_ls A).take j).filter (a_mt A)).length) (nI j)) (fun j g => FP (a_ls A) (a_mt A) j g) (fun r => RC r (dtA A)) (a_ls A).length hs he N 0 (X 9) (Nat.zero_le _) ⟨fun a ha => by simp at ha, fun a _ h2 => RC_h14 h a h2⟩ (by omega)
  refine ⟨X', ?_, r⟩
  have e3 : fX6_dropsTrusted_4 N N (upR X 9 (X 9)) (nI 0) (nI 0) = some X' := e
  rw [upR_self X 9] at e3
  exact e3
def clA (A : AS) : AS := u_mt (u_ls A []) (fun _ => false)
theorem C_clears {X : Nat → Nat → Int32} {A : AS} (h : RC X A) : ∃ X', fX6_clears X = some X' ∧ RC X' (clA A) := by
  obtain ⟨h1, h2, h3, h4, h5, h6, h7, h8, h9, h10, h11, h12, h13, h14, h15, h16, h17, h18⟩ := h
  exact ⟨_, rfl, h1, h2, h3, h4, h5, h6, h7, h8, h9, h10, rfl, bs_zero.symm, bs_zero.symm, fun i hi => absurd hi (Nat.not_lt_zero i), h15, h16, h17, h18⟩
theorem C_has {X : Nat → Nat → Int32} {A : AS} (h : RC X A) {i : Nat} (hi : i < 24) : fX3_has X (nI i) = some (bI (a_th A i)) := by
  unfold fX3_has
  rw [if_neg (nI_nlt0 (by omega)), if_neg (by rw [le_24 (by omega)]; omega), RC_h1 h, bs_bit _ hi]
  cases a_th A i <;> rfl
theorem C_fieldAt {X : Nat → Nat → Int32} {A : AS} (h : RC X A) {i k : Nat} (hi : i < 24) (hk : k < 4) : fX3_fieldAt X (nI i) (nI k) = some (oI (a_fd A i k)) := by
  unfold fX3_fieldAt
  rw [if_neg (nI_nlt0 (by omega)), if_neg (by rw [le_24 (by omega)]; omega), if_neg (nI_nlt0 (by omega)), if_neg (by rw [le_4 (by omega)]; omega), ad4, inb_n (by omega) (by decide), cl_n (by omega), RC_h8 h i k hi hk]
  rfl
theorem C_fills {X : Nat → Nat → Int32} {A : AS} (h : RC X A) {i k : Nat} (hi : i < 24) (hk : k < 4) (v : Option Nat) : ∃ X', fX3_fills X (nI i) (nI k) (oI v) = some X' ∧ RC X' (u_fd A (f2 (a_fd A) i k v)) := by
  refine ⟨_, ?_, C_fd h v hk⟩
  unfold fX3_fills
  rw [if_neg (nI_nlt0 (by omega)), if_neg (by rw [le_24 (by omega)]; omega), if_neg (nI_nlt0 (by omega)), if_neg (by rw [le_4 (by omega)]; omega), ad4, inb_n (by omega) (by decide), cl_n (by omega)]
  rfl
theorem C_hasEnd {X : Nat → Nat → Int32} {A : AS} (h : RC X A) {i : Nat} (hi : i < 24) (he : a_en A i ≤ 7) : fX3_hasEndToRun X (nI i) = some (bI (a_th A i && decide (a_en A i ≠ 0) && !a_rn A i)) := by
  unfold fX3_hasEndToRun fX11_bit
  rw [C_has h hi, b1_s, inb_n hi (by decide), cl_n (by omega), RC_h6 h i hi, RC_h2 h, bs_bit _ hi, grd_t, b1_s]
  cases a_th A i
  · rfl
  · rw [if_neg (by decide)]
    by_cases q : a_en A i = 0
    · rw [if_pos (by rw [q]; rfl)]; simp [q, bI]
    · rw [if_neg (by rw [eq_0 (by omega)]; exact q)]
      cases a_rn A i <;> simp [q, bI]
