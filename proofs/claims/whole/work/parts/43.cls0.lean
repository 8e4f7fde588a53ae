/-! class: small heap functions over RC -/
def lgA (A : AS) (kd o : Nat) : AS := u_lg A ((a_lg A).1 + 1, fs (a_lg A).2.1 ((a_lg A).1 % 60) (nI kd), fs (a_lg A).2.2.1 ((a_lg A).1 % 60) (nI o), fs (a_lg A).2.2.2 kd ((a_lg A).2.2.2 kd + 1))
theorem fs_upd {f : Nat → Int32} {g : Nat → Int32} {n i : Nat} {v : Int32} (h : ∀ p : Nat, p < n → f p = g p) : ∀ p : Nat, p < n → upd f i v p = fs g i v p := by
  intro p hp
  by_cases q : p = i
  · subst q; rw [pk_us, fs_s]
  · rw [pk_un q, fs_n q]; exact h p hp
theorem C_log {X : Nat → Nat → Int32} {A : AS} (h : RC X A) {kd o : Nat} (hk : kd < 6) (ho : o < 24) (ht : (a_lg A).1 < 2147483000) : ∃ X', fX4_adds X (nI kd) (nI o) = some X' ∧ RC X' (lgA A kd o) := by
  obtain ⟨h1, h2, h3, h4, h5, h6, h7, h8, h9, h10, h11, h12, h13, h14, h15, h16, h17, h18⟩ := h
  have e : jrem (X 10 3) 60 = nI ((a_lg A).1 % 60) := by rw [h15]; exact pk_rem (by omega) (by decide) (by decide)
  have hq : (a_lg A).1 % 60 < 60 := Nat.mod_lt _ (by decide)
  refine ⟨up2 (up2 (up2 (up2 X 11 ((a_lg A).1 % 60) (nI kd)) 12 ((a_lg A).1 % 60) (nI o)) 13 kd (X 13 kd + 1)) 10 3 (X 10 3 + 1), ?_, h1, h2, h3, h4, h5, h6, h7, h8, h9, h10, h11, h12, h13, h14, ?_, fs_upd h16, fs_upd h17, ?_⟩
  · unfold fX4_adds
    rw [e, inb_n hq (by decide), inb_n hk (by decide), cl_n (by omega), cl_n (by omega)]
    rfl
  · show X 10 3 + 1 = nI ((a_lg A).1 + 1)
    rw [h15, nI_1]
  · rw [h18 kd hk]
    exact fs_upd h18
theorem C_trusts {X : Nat → Nat → Int32} {A : AS} (h : RC X A) {o : Nat} (ho : o < 24) : ∃ X', fX6_trusts X (nI o) = some X' ∧ RC X' (u_mt A (fs (a_mt A) o false)) := by
  refine ⟨_, rfl, ?_⟩
  rw [h.2.2.2.2.2.2.2.2.2.2.2.2.1, bs_clr _ ho]
  exact C_mt h _
def mnA (A : AS) (i : Nat) : AS := u_ls (u_mt A (fs (a_mt A) i true)) (if i ∈ a_ls A then a_ls A else a_ls A ++ [i])
theorem getD_app {l : List Nat} {i j : Nat} (h : j < l.length) : (l ++ [i]).getD j 0 = l.getD j 0 := by
  simp [List.getD, List.getElem?_append_left h]
theorem getD_lst {l : List Nat} {i : Nat} : (l ++ [i]).getD l.length 0 = i := by
  simp [List.getD]
theorem C_means {X : Nat → Nat → Int32} {A : AS} (h : RC X A) {i : Nat} (hi : i < 24) (hl : i ∉ a_ls A → (a_ls A).length < 24) : ∃ X', fX6_means X (nI i) = some X' ∧ RC X' (mnA A i) := by
  have h0 := h
  obtain ⟨h1, h2, h3, h4, h5, h6, h7, h8, h9, h10, h11, h12, h13, h14, h15, h16, h17, h18⟩ := h
  have hb : jushr (X 8 2) (nI i) &&& 1 = bI ((a_ls A).contains i) := by rw [h12]; exact bs_bit _ hi
  have e1 : X 8 3 ||| jshl 1 (nI i) = bs (fs (a_mt A) i true) := by rw [h13, bs_set _ hi]
  by_cases q : i ∈ a_ls A
  · refine ⟨up2 X 8 3 (bs (fs (a_mt A) i true)), ?_, ?_⟩
    · unfold fX6_means fX11_bit
      rw [lt_e, e1, b1_s]
      show (if jushr (X 8 2) (nI i) &&& 1 = 0 then _ else _) = _
      rw [hb, if_neg]
      rw [bI_0]
      simp [q]
    · have := C_mt h0 (fs (a_mt A) i true)
      unfold mnA
      rw [if_pos q]
      exact this
  · have hlen := hl q
    have en : X 8 1 = nI (a_ls A).length := h11
    refine ⟨up2 (up2 (up2 (up2 X 8 3 (bs (fs (a_mt A) i true))) 9 (a_ls A).length (nI i)) 8 1 (X 8 1 + 1)) 8 2 (X 8 2 ||| jshl 1 (nI i)), ?_, ?_⟩
    · unfold fX6_means fX11_bit
      rw [lt_e, e1, b1_s]
      show (if jushr (X 8 2) (nI i) &&& 1 = 0 then (if 24 ≤ X 8 1 then _ else grd (inb (X 8 1) 24) (lt (up2 (up2 X 8 3 (bs (fs (a_mt A) i true))) 9 (X 8 1).toNatClampNeg (nI i)) _)) else _) = _
      rw [hb, if_pos (by rw [bI_0]; simp [q]), en, if_neg (by rw [le_24 (by omega)]; omega), inb_n hlen (by decide), cl_n (by omega)]
      rw [← en]
      rfl
    · unfold mnA
      rw [if_neg q]
      refine ⟨h1, h2, h3, h4, h5, h6, h7, h8, h9, h10, ?_, ?_, rfl, ?_, h15, h16, h17, h18⟩
      · show X 8 1 + 1 = nI (a_ls A ++ [i]).length
        rw [h11, nI_1, List.length_append]
        rfl
      · show X 8 2 ||| jshl 1 (nI i) = bs (fun o => (a_ls A ++ [i]).contains o)
        rw [h12, bs_set _ hi]
        exact bs_ext (fun j _ => by unfold fs; by_cases q2 : j = i <;> simp [q2])
      · intro j hj
        show upd (X 9) (a_ls A).length (nI i) j = nI ((a_ls A ++ [i]).getD j 0)
        have hj2 : j < (a_ls A ++ [i]).length := hj
        rw [List.length_append] at hj2
        have hj3 : j < (a_ls A).length + 1 := hj2
        by_cases q2 : j = (a_ls A).length
        · subst q2; rw [pk_us, getD_lst]
        · rw [pk_un q2, getD_app (by omega)]; exact h14 j (by omega)
