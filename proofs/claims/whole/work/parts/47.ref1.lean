/-! reference: the list -/
theorem RM_hl {m0 mm : Nat → Int32} {b : Nat} {A : AS} (h : RM m0 b mm A) : (a_ls A).length ≤ 24 := h.2.2.2.2.2.2.2.2.2.2.2.2.2.2.2.2.2.2
theorem M_ls {m0 mm mm' : Nat → Int32} {b : Nat} {A : AS} (h : RM m0 b mm A) {l : List Nat} (hf : ∀ j : Nat, (j < b + 1 ∨ (b + 1 < j ∧ j < b + 9) ∨ b + 33 ≤ j) → mm' j = mm j) (h1 : mm' (b + 1) = nI l.length) (h2 : ∀ i : Nat, i < l.length → mm' (b + 9 + i) = nI (l.getD i 0)) (h3 : l.length ≤ 24) : RM m0 b mm' (u_ls A l) := by
  obtain ⟨k1, k2, k3, k4, k5, k6, k7, k8, k9, k10, k11, k12, k13, k14, k15, k16, k17, k18, k19⟩ := h
  refine ⟨?_, ?_, h1, ?_, ?_, h2, ?_, ?_, ?_, ?_, ?_, ?_, ?_, ?_, ?_, ?_, ?_, ?_, h3⟩
  · intro i hi; rw [hf _ (by omega)]; exact k1 i hi
  · rw [hf _ (by omega)]; exact k2
  · rw [hf _ (by omega)]; exact k4
  · intro i hi; rw [hf _ (by omega)]; exact k5 i hi
  · intro i hi; rw [hf _ (by omega)]; exact k7 i hi
  · intro i hi; rw [hf _ (by omega)]; exact k8 i hi
  · intro i hi; rw [hf _ (by omega)]; exact k9 i hi
  · intro i hi; rw [hf _ (by omega)]; exact k10 i hi
  · intro i hi; rw [hf _ (by omega)]; exact k11 i hi
  · intro i hi ht; rw [hf _ (by omega)]; exact k12 i hi ht
  · intro i hi ht; rw [hf _ (by omega)]; exact k13 i hi ht
  · intro i hi ht; rw [hf _ (by omega)]; exact k14 i hi ht
  · intro i hi ht; rw [hf _ (by omega)]; exact k15 i hi ht
  · intro i hi ht; rw [hf _ (by omega)]; exact k16 i hi ht
  · intro i hi ht; rw [hf _ (by omega)]; exact k17 i hi ht
  · intro i j hi hj ht; rw [hf _ (by omega)]; exact k18 i j hi hj ht
theorem M_place {m0 mm : Nat → Int32} {b : Nat} {A : AS} (h : RM m0 b mm A) (hb : b ≤ 5124) (hm : ∀ x ∈ a_ls A, x < 24) {o : Nat} (ho : o < 24) {N : Nat} (hN : 24 < N) : ∃ r, fX12_placeOnList N mm (nI b) (nI o) = some r ∧ ((o ∉ a_ls A ∧ r = -1) ∨ ∃ k, k < (a_ls A).length ∧ (a_ls A).getD k 0 = o ∧ r = nI k) := by
  have hl := RM_hl h
  have hs : ∀ (n j : Nat) (s : Unit), j < (a_ls A).length → (∀ i, i < j → (a_ls A).getD i 0 ≠ o) → (∃ s' : Unit, (∀ i, i < j + 1 → (a_ls A).getD i 0 ≠ o) ∧ fX12_placeOnList_2 N mm (nI b) (nI o) (n + 1) (nI j) = fX12_placeOnList_2 N mm (nI b) (nI o) n (nI (j + 1))) ∨ ∃ r, fX12_placeOnList_2 N mm (nI b) (nI o) (n + 1) (nI j) = some r ∧ ((o ∉ a_ls A ∧ r = -1) ∨ ∃ k, k < (a_ls A).length ∧ (a_ls A).getD k 0 = o ∧ r = nI k) := by
    intro n j s hj hI
    have hx24 := hm _ (getD_mem hj)
    have e : fX12_placeOnList_2 N mm (nI b) (nI o) (n + 1) (nI j) = if nI ((a_ls A).getD j 0) = nI o then some (nI j) else fX12_placeOnList_2 N mm (nI b) (nI o) n (nI j + 1) := by
      show fX12_placeOnList_2b N mm (nI b) (nI o) (fX12_placeOnList_2 N mm (nI b) (nI o) n) (nI j) = _
      unfold fX12_placeOnList_2b
      rw [M_listed h hb, b1_s, if_neg (by rw [le_n (by omega) (by omega)]; omega), M_onList h hb hj, b1_s]
    by_cases q : (a_ls A).getD j 0 = o
    · right
      exact ⟨nI j, by rw [e, if_pos (by rw [q])], Or.inr ⟨j, hj, q, rfl⟩⟩
    · left
      refine ⟨(), ?_, ?_⟩
      · intro i hi
        by_cases q2 : i = j
        · rw [q2]; exact q
        · exact hI i (by omega)
      · rw [e, if_neg (by rw [eq_n (by omega) (by omega)]; exact q), nI_1]
  have he : ∀ (n : Nat) (s : Unit), (∀ i, i < (a_ls A).length → (a_ls A).getD i 0 ≠ o) → ∃ r, fX12_placeOnList_2 N mm (nI b) (nI o) (n + 1) (nI (a_ls A).length) = some r ∧ ((o ∉ a_ls A ∧ r = -1) ∨ ∃ k, k < (a_ls A).length ∧ (a_ls A).getD k 0 = o ∧ r = nI k) := by
    intro n s hI
    refine ⟨-1, ?_, Or.inl ⟨?_, rfl⟩⟩
    · show fX12_placeOnList_2b N mm (nI b) (nI o) (fX12_placeOnList_2 N mm (nI b) (nI o) n) (nI (a_ls A).length) = _
      unfold fX12_placeOnList_2b
      rw [M_listed h hb, b1_s, if_pos (by rw [le_n (by omega) (by omega)]; omega)]
    · intro q
      obtain ⟨i, hi, e⟩ := List.mem_iff_getElem.mp q
      exact hI i hi (by rw [List.getD_eq_getElem?_getD, List.getElem?_eq_getElem hi]; exact e)
  exact lpC (fun n j (_ : Unit) => fX12_placeOnList_2 N mm (nI b) (nI o) n (nI j)) (fun j _ => ∀ i, i < j → (a_ls A).getD i 0 ≠ o) _ (a_ls A).length hs he N 0 () (Nat.zero_le _) (fun i hi => absurd hi (Nat.not_lt_zero i)) (by omega)
def shf (f : Nat → Int32) (p q : Nat) : Nat → Int32 := fun j => if p ≤ j ∧ j < q then f (j + 1) else f j
theorem shf_s (f : Nat → Int32) {p q : Nat} (h : p ≤ q) : upd (shf f p q) q (shf f p q (q + 1)) = shf f p (q + 1) := by
  funext j
  by_cases e : j = q
  · subst e
    rw [pk_us]
    unfold shf
    rw [if_neg (by omega), if_pos (by omega)]
  · rw [pk_un e]
    unfold shf
    by_cases c : p ≤ j ∧ j < q
    · rw [if_pos c, if_pos (by omega)]
    · rw [if_neg c, if_neg (by omega)]
theorem shf_0 (f : Nat → Int32) (p : Nat) : shf f p p = f := by
  funext j
  unfold shf
  rw [if_neg (by omega)]
theorem shf_o {f : Nat → Int32} {p q j : Nat} (h : j < p ∨ q ≤ j) : shf f p q j = f j := if_neg (by omega)
theorem shf_i {f : Nat → Int32} {p q j : Nat} (h : p ≤ j) (h2 : j < q) : shf f p q j = f (j + 1) := if_pos ⟨h, h2⟩
theorem getD_er {l : List Nat} {k i : Nat} : (l.eraseIdx k).getD i 0 = if i < k then l.getD i 0 else l.getD (i + 1) 0 := by
  rw [List.getD_eq_getElem?_getD, List.getElem?_eraseIdx, List.getD_eq_getElem?_getD, List.getD_eq_getElem?_getD]
  by_cases q : i < k
  · rw [if_pos q, if_pos q]
  · rw [if_neg q, if_neg q]
def goA (A : AS) (k : Nat) : AS := u_ls (u_mt A (fs (a_mt A) ((a_ls A).getD k 0) false)) ((a_ls A).eraseIdx k)
theorem M_goesOff {m0 mm : Nat → Int32} {b : Nat} {A : AS} (h : RM m0 b mm A) (hb : b ≤ 5124) (hm : ∀ x ∈ a_ls A, x < 24) {k : Nat} (hk : k < (a_ls A).length) {N : Nat} (hN : 24 < N) : ∃ mm', fX12_goesOffList N mm (nI b) (nI k) = some mm' ∧ RM m0 b mm' (goA A k) := by
  have hl := RM_hl h
  obtain ⟨m1, e1, r1⟩ := M_put6 h hb (hm _ (getD_mem hk)) false
  have e1' : fX12_puts mm (nI b) (nI ((a_ls A).getD k 0)) 6 0 = some m1 := e1
  have c3 : m1 (b + 1) = nI (a_ls A).length := r1.2.2.1
  have c6 : ∀ i : Nat, i < (a_ls A).length → m1 (b + 9 + i) = nI ((a_ls A).getD i 0) := r1.2.2.2.2.2.1
  have ls1 : ∀ (g : Nat → Int32), g (b + 1) = nI ((a_ls A).length - 1) → fX12_listed g (nI b) = some (nI ((a_ls A).length - 1)) := by
    intro g hg
    unfold fX12_listed
    rw [show nI b + 1 = nI (b + 1) from nI_1 b, inb_n (by omega) (by decide), cl_n (by omega), hg]
    rfl
  have key : ∀ (g : Nat → Int32), g (b + 1) = nI ((a_ls A).length - 1) → ∃ r, fX12_goesOffList_29 N (nI b) (nI k) N g (nI k) = some r ∧ r = shf g (b + 9 + k) (b + 9 + ((a_ls A).length - 1)) := by
    intro g hg
    have hsh : ∀ j, k ≤ j → shf g (b + 9 + k) (b + 9 + j) (b + 1) = nI ((a_ls A).length - 1) := fun j _ => by rw [shf_o (by omega)]; exact hg
    have hs : ∀ (n j : Nat) (s : Unit), j < (a_ls A).length - 1 → k ≤ j → (∃ s' : Unit, k ≤ j + 1 ∧ fX12_goesOffList_29 N (nI b) (nI k) (n + 1) (shf g (b + 9 + k) (b + 9 + j)) (nI j) = fX12_goesOffList_29 N (nI b) (nI k) n (shf g (b + 9 + k) (b + 9 + (j + 1))) (nI (j + 1))) ∨ ∃ r, fX12_goesOffList_29 N (nI b) (nI k) (n + 1) (shf g (b + 9 + k) (b + 9 + j)) (nI j) = some r ∧ r = shf g (b + 9 + k) (b + 9 + ((a_ls A).length - 1)) := by
      intro n j s hj hkj
      left
      refine ⟨(), by omega, ?_⟩
      show fX12_goesOffList_29b N (nI b) (nI k) (fX12_goesOffList_29 N (nI b) (nI k) n) (shf g (b + 9 + k) (b + 9 + j)) (nI j) = _
      unfold fX12_goesOffList_29b
      rw [ls1 _ (hsh j hkj), b1_s, if_neg (by rw [le_n (by omega) (by omega)]; omega), show (9 : Int32) = nI 9 from rfl, ad_c, nI_1, inb_n (by omega) (by decide), inb_n (by omega) (by decide), cl_n (by omega), cl_n (by omega), grd_t, grd_t, lt_e, shf_s g (by omega), nI_1]
      rfl
    have he : ∀ (n : Nat) (s : Unit), k ≤ (a_ls A).length - 1 → ∃ r, fX12_goesOffList_29 N (nI b) (nI k) (n + 1) (shf g (b + 9 + k) (b + 9 + ((a_ls A).length - 1))) (nI ((a_ls A).length - 1)) = some r ∧ r = shf g (b + 9 + k) (b + 9 + ((a_ls A).length - 1)) := by
      intro n s hkj
      refine ⟨_, ?_, rfl⟩
      show fX12_goesOffList_29b N (nI b) (nI k) (fX12_goesOffList_29 N (nI b) (nI k) n) (shf g (b + 9 + k) (b + 9 + ((a_ls A).length - 1))) (nI ((a_ls A).length - 1)) = _
      unfold fX12_goesOffList_29b
      rw [ls1 _ (hsh _ hkj), b1_s, if_pos (by rw [le_n (by omega) (by omega)]; omega)]
    have r := lpC (fun n j (_ : Unit) => fX12_goesOffList_29 N (nI b) (nI k) n (shf g (b + 9 + k) (b + 9 + j)) (nI j)) (fun j _ => k ≤ j) (fun r => r = shf g (b + 9 + k) (b + 9 + ((a_ls A).length - 1))) ((a_ls A).length - 1) hs he N k () (by omega) (Nat.le_refl k) (by omega)
    rw [shf_0] at r
    exact r
  obtain ⟨mm', e, r⟩ := key (upd m1 (b + 1) (nI ((a_ls A).length - 1))) pk_us
  refine ⟨mm', ?_, ?_⟩
  · unfold fX12_goesOffList
    rw [M_onList h hb hk, b1_s, e1', b1_s, show nI b + 1 = nI (b + 1) from nI_1 b, inb_n (by omega) (by decide), cl_n (by omega), grd_t, grd_t, lt_e, c3, show nI (a_ls A).length - 1 = nI ((a_ls A).length - 1) from pk_sub (b := 1) (by omega)]
    exact e
  · unfold goA
    refine M_ls r1 ?_ ?_ ?_ ?_
    · intro j hj
      rw [r, shf_o (by omega), pk_un (by omega)]
    · rw [r, shf_o (by omega), pk_us, List.length_eraseIdx, if_pos hk]
    · intro i hi
      rw [List.length_eraseIdx, if_pos hk] at hi
      rw [r, getD_er]
      by_cases q : i < k
      · rw [if_pos q, shf_o (by omega), pk_un (by omega)]; exact c6 i (by omega)
      · rw [if_neg q, shf_i (by omega) (by omega), pk_un (by omega)]; exact c6 (i + 1) (by omega)
    · rw [List.length_eraseIdx, if_pos hk]; omega
theorem er_flt {l : List Nat} (hd : l.Nodup) {k : Nat} (hk : k < l.length) : l.eraseIdx k = l.filter (fun x => decide (x ≠ l.getD k 0)) := by
  induction l generalizing k with
  | nil => exact absurd hk (Nat.not_lt_zero k)
  | cons a t ih =>
    rw [List.nodup_cons] at hd
    cases k with
    | zero =>
      show t = List.filter (fun x => decide (x ≠ a)) (a :: t)
      rw [List.filter_cons_of_neg (by simp)]
      symm
      rw [List.filter_eq_self]
      intro x hx
      have : x ≠ a := fun e => hd.1 (e ▸ hx)
      simp [this]
    | succ k =>
      have hk2 : k < t.length := by simpa using hk
      show a :: t.eraseIdx k = List.filter (fun x => decide (x ≠ t.getD k 0)) (a :: t)
      have hne : a ≠ t.getD k 0 := fun e => hd.1 (by rw [e]; exact getD_mem hk2)
      rw [List.filter_cons_of_pos (by simpa using hne), ← ih hd.2 hk2]
theorem M_isSuspect {m0 mm : Nat → Int32} {b : Nat} {A : AS} (h : RM m0 b mm A) (hb : b ≤ 5124) (hm : ∀ x ∈ a_ls A, x < 24) {i : Nat} (hi : i < 24) (hl : i ∉ a_ls A → (a_ls A).length < 24) {N : Nat} (hN : 24 < N) : ∃ mm', fX12_isSuspect N mm (nI b) (nI i) = some mm' ∧ RM m0 b mm' (mnA A i) := by
  obtain ⟨m1, e1, r1⟩ := M_put6 h hb hi true
  have e1' : fX12_puts mm (nI b) (nI i) 6 1 = some m1 := e1
  obtain ⟨r, e2, c⟩ := M_place r1 hb hm hi hN
  rcases c with ⟨q, er⟩ | ⟨k, hk, hq, er⟩
  · have q2 : i ∉ a_ls A := q
    have hlen := hl q2
    refine ⟨upd (upd m1 (b + 9 + (a_ls A).length) (nI i)) (b + 1) (nI ((a_ls A).length + 1)), ?_, ?_⟩
    · unfold fX12_isSuspect
      have e3 := M_listed r1 hb
      have e3' : fX12_listed m1 (nI b) = some (nI (a_ls A).length) := e3
      have c3 : m1 (b + 1) = nI (a_ls A).length := r1.2.2.1
      rw [e1', b1_s, e2, b1_s, er, if_neg (by decide), e3', b1_s, show (9 : Int32) = nI 9 from rfl, ad_c, inb_n (by omega) (by decide), cl_n (by omega), grd_t, lt_e, show nI b + 1 = nI (b + 1) from nI_1 b, inb_n (by omega) (by decide), cl_n (by omega), grd_t, grd_t, lt_e, pk_un (by omega), c3, nI_1]
    · unfold mnA
      rw [if_neg q2]
      refine M_ls r1 ?_ ?_ ?_ ?_
      · intro j hj
        rw [pk_un (by omega), pk_un (by omega)]
      · rw [pk_us, List.length_append]; rfl
      · intro j hj
        rw [List.length_append] at hj
        have hj3 : j < (a_ls A).length + 1 := hj
        rw [pk_un (by omega)]
        by_cases q3 : j = (a_ls A).length
        · rw [q3, pk_us, getD_lst]
        · rw [pk_un (by omega), getD_app (by omega)]
          exact r1.2.2.2.2.2.1 j (by show j < (a_ls A).length; omega)
      · rw [List.length_append]; show (a_ls A).length + 1 ≤ 24; omega
  · have q2 : i ∈ a_ls A := by rw [← hq]; exact getD_mem hk
    refine ⟨m1, ?_, ?_⟩
    · unfold fX12_isSuspect
      have hl2 := RM_hl h
      have hk2 : k < (a_ls A).length := hk
      rw [e1', b1_s, e2, b1_s, er, if_pos (nI_pos' (by omega))]
    · unfold mnA
      rw [if_pos q2]
      exact r1
