/-! weak ones are cleared, an object is lost -/
def wcA (A : AS) (o : Nat) : Nat → AS
  | 0 => A
  | w + 1 => if a_wk (wcA A o w) w = some o then lgA (u_wk (wcA A o w) (fs (a_wk (wcA A o w)) w none)) 5 o else wcA A o w
def lsA (A : AS) (o : Nat) : AS := u_th (wcA A o 4) (fs (a_th A) o false)
theorem wc_form (A : AS) (o : Nat) : ∀ j, ∃ f g, wcA A o j = u_lg (u_wk A f) g ∧ (∀ w t, f w = some t → a_wk A w = some t) ∧ (∀ w, w < j → f w ≠ some o) ∧ (∀ w, j ≤ w → f w = a_wk A w) ∧ g.1 ≤ (a_lg A).1 + j := by
  intro j
  induction j with
  | zero => exact ⟨a_wk A, a_lg A, rfl, fun _ _ h => h, fun w h => absurd h (Nat.not_lt_zero w), fun _ _ => rfl, Nat.le_refl _⟩
  | succ j ih =>
    obtain ⟨f, g, e, h1, h2, h3, h4⟩ := ih
    by_cases q : a_wk (wcA A o j) j = some o
    · have q2 : f j = some o := by rw [e] at q; exact q
      refine ⟨fs f j none, (g.1 + 1, fs g.2.1 (g.1 % 60) (nI 5), fs g.2.2.1 (g.1 % 60) (nI o), fs g.2.2.2 5 (g.2.2.2 5 + 1)), ?_, ?_, ?_, ?_, ?_⟩
      · show (if a_wk (wcA A o j) j = some o then lgA (u_wk (wcA A o j) (fs (a_wk (wcA A o j)) j none)) 5 o else wcA A o j) = _
        rw [if_pos q, e]
        rfl
      · intro w t q3
        by_cases q4 : w = j
        · subst q4; rw [fs_s] at q3; cases q3
        · rw [fs_n q4] at q3; exact h1 w t q3
      · intro w hw
        by_cases q4 : w = j
        · subst q4; rw [fs_s]; exact fun q5 => nomatch q5
        · rw [fs_n q4]; exact h2 w (by omega)
      · intro w hw
        rw [fs_n (by omega)]; exact h3 w (by omega)
      · show g.1 + 1 ≤ _
        omega
    · have q2 : f j ≠ some o := by rw [e] at q; exact q
      refine ⟨f, g, ?_, h1, ?_, ?_, by omega⟩
      · show (if a_wk (wcA A o j) j = some o then lgA (u_wk (wcA A o j) (fs (a_wk (wcA A o j)) j none)) 5 o else wcA A o j) = _
        rw [if_neg q, e]
      · intro w hw
        by_cases q4 : w = j
        · rw [q4]; exact q2
        · exact h2 w (by omega)
      · intro w hw
        exact h3 w (by omega)
theorem ls_form (A : AS) (o : Nat) : ∃ f g, lsA A o = u_th (u_lg (u_wk A f) g) (fs (a_th A) o false) ∧ (∀ w t, f w = some t → a_wk A w = some t) ∧ (∀ w, w < 4 → f w ≠ some o) ∧ g.1 ≤ (a_lg A).1 + 4 := by
  obtain ⟨f, g, e, h1, h2, _, h4⟩ := wc_form A o 4
  exact ⟨f, g, by unfold lsA; rw [e], h1, h2, h4⟩
theorem wc_lgr (A : AS) (o : Nat) : ∀ j, LGR (a_lg A) (a_lg (wcA A o j)) := by
  intro j
  induction j with
  | zero => exact LGR_r _
  | succ j ih =>
    have e : wcA A o (j + 1) = if a_wk (wcA A o j) j = some o then lgA (u_wk (wcA A o j) (fs (a_wk (wcA A o j)) j none)) 5 o else wcA A o j := rfl
    rw [e]
    by_cases q : a_wk (wcA A o j) j = some o
    · rw [if_pos q]; exact LGR_t ih (LGR_a (u_wk (wcA A o j) (fs (a_wk (wcA A o j)) j none)) 5 o)
    · rw [if_neg q]; exact ih
theorem ls_lgr (A : AS) (o : Nat) : LGR (a_lg A) (a_lg (lsA A o)) := wc_lgr A o 4
theorem nt_lose {A : AS} {o : Nat} (ho : o < 24) (ht : a_th A o = true) : fb_ct (fs (a_th A) o false) 24 + 1 = nt A := by
  have := fb_ct_upd (a_th A) false (i := o) (n := 24) ho
  rw [ht] at this
  unfold nt fs
  simpa using this
theorem un_lose {A : AS} {o : Nat} : fb_ct (fun x => fs (a_th A) o false x && !a_rn A x) 24 ≤ un A := fb_ct_sub (fun k _ q => by
  by_cases q2 : k = o
  · subst q2; rw [fs_s] at q; cases q
  · rw [fs_n q2] at q; exact q)
theorem J_pop {B : Nat} {A : AS} {st : List Nat} {o : Nat} (h : J B A (st ++ [o]) none) (hf : ∀ k, k < 4 → a_fd A o k = none) : J B (lsA A o) st none ∧ RLT A (lsA A o) ∧ fc (lsA A o) = fc A ∧ nt (lsA A o) + 1 = nt A := by
  obtain ⟨h1, h2, h3, h4, h5, h6⟩ := h
  obtain ⟨k1, k2, k3⟩ := h4 o (by simp)
  have ho := W_th h1 k1
  obtain ⟨f, g, e, e1, e2, e3⟩ := ls_form A o
  have hlr := ls_lgr A o
  rw [e] at hlr
  have hn := nt_lose ho k1
  have hu := un_lose (A := A) (o := o)
  have hst : o ∉ st := by
    intro q
    rw [List.nodup_append] at h3
    exact h3.2.2 o q o (by simp) rfl
  have hth : ∀ t, fs (a_th A) o false t = true → t ≠ o ∧ a_th A t = true := by
    intro t q
    by_cases q2 : t = o
    · subst q2; rw [fs_s] at q; cases q
    · rw [fs_n q2] at q; exact ⟨q2, q⟩
  have hth2 : ∀ t, t ≠ o → a_th A t = true → fs (a_th A) o false t = true := fun t q q2 => by rw [fs_n q]; exact q2
  rw [e]
  refine ⟨⟨?_, ?_, ?_, ?_, (fun _ e => nomatch e), ?_⟩, ?_, rfl, hn⟩
  · obtain ⟨w1, w2, w3, w4, w5, w6, w7, w8, w9, w10⟩ := h1
    refine ⟨fun t q => w1 t (hth t q).2, w2, fun i k t q => ?_, fun r t q => ?_, fun w t q => ?_, w6, fun x hx => hth2 x (fun q => k3 (q ▸ hx)) (w7 x hx), w8, w9, w10⟩
    · have q2 : a_fd A i k = some t := q
      obtain ⟨v1, v2, v3⟩ := w3 i k t q2
      have vi := w1 i v1
      have vk : k < 4 := by have := w2 i; omega
      refine ⟨hth2 i (fun q3 => ?_) v1, v2, hth2 t (fun q3 => ?_) v3⟩
      · subst q3; rw [hf k vk] at q2; cases q2
      · subst q3; exact rf_F k2 vi vk q2
    · have q2 : a_rt A r = some t := q
      obtain ⟨v1, v2⟩ := w4 r t q2
      refine ⟨v1, hth2 t (fun q3 => ?_) v2⟩
      subst q3; exact rf_R k2 v1 q2
    · have q2 : f w = some t := q
      obtain ⟨v1, v2⟩ := w5 w t (e1 w t q2)
      refine ⟨v1, hth2 t (fun q3 => ?_) v2⟩
      subst q3; exact e2 w v1 q2
  · intro t ht
    exact h2 t (hth t ht).2
  · exact (List.nodup_append.mp h3).1
  · intro x hx
    obtain ⟨v1, v2, v3⟩ := h4 x (List.mem_append_left _ hx)
    exact ⟨hth2 x (fun q => hst (q ▸ hx)) v1, v2, v3⟩
  · rw [List.length_append] at h6
    have h7 : (a_lg A).1 + 5 * nt A + 2 * un A ≤ B + (st.length + 1) := h6
    show g.1 + 5 * fb_ct (fs (a_th A) o false) 24 + 2 * fb_ct (fun x => fs (a_th A) o false x && !a_rn A x) 24 ≤ B + st.length
    omega
  · exact ⟨fun _ _ => Or.inl rfl, rfl, rfl, rfl, rfl, fun t q => (hth t q).2, fun _ q => q, hlr⟩
theorem C_loses {X : Nat → Nat → Int32} {A : AS} (h : RC X A) (hw : ∀ w, SM (a_wk A w)) {o : Nat} (ho : o < 24) (ht : (a_lg A).1 < 2147480000) {N : Nat} (hN : 4 < N) : ∃ X', fX3_loses N X (nI o) = some X' ∧ RC X' (lsA A o) := by
  have hs : ∀ (n j : Nat) (Y : Nat → Nat → Int32), j < 4 → RC Y (wcA A o j) → (∃ s', RC s' (wcA A o (j + 1)) ∧ fX3_loses_2 N (nI o) (n + 1) Y (nI j) = fX3_loses_2 N (nI o) n s' (nI (j + 1))) ∨ ∃ r, fX3_loses_2 N (nI o) (n + 1) Y (nI j) = some r ∧ RC r (lsA A o) := by
    intro n j Y hj hY
    left
    obtain ⟨f, g, e, h1, _, _, h4⟩ := wc_form A o j
    have hsm : SM (a_wk (wcA A o j) j) := by
      intro t q
      rw [e] at q
      exact hw j t (h1 j t q)
    have e1 : fX3_loses_2 N (nI o) (n + 1) Y (nI j) = fX3_loses_2b N (nI o) (fX3_loses_2 N (nI o) n) Y (nI j) := rfl
    have e2 : wcA A o (j + 1) = if a_wk (wcA A o j) j = some o then lgA (u_wk (wcA A o j) (fs (a_wk (wcA A o j)) j none)) 5 o else wcA A o j := rfl
    rw [e1]
    unfold fX3_loses_2b
    rw [if_neg (by rw [le_4 (by omega)]; omega), inb_n hj (by decide), grd_t, cl_n (by omega), RC_h10 hY j hj]
    by_cases q : a_wk (wcA A o j) j = some o
    · have hY2 := C_wk hY j none
      have hg : (a_lg (u_wk (wcA A o j) (fs (a_wk (wcA A o j)) j none))).1 < 2147483000 := by
        have : (a_lg (wcA A o j)).1 = g.1 := by rw [e]
        show (a_lg (wcA A o j)).1 < _
        omega
      obtain ⟨Z, c1, c2⟩ := C_log hY2 (kd := 5) (by decide) ho hg
      refine ⟨Z, ?_, ?_⟩
      · rw [e2, if_pos q]; exact c2
      · rw [if_pos ((oI_eq hsm ho).mpr q), grd_t, lt_e]
        have c1' : fX4_adds (up2 Y 7 j (-1)) 5 (nI o) = some Z := c1
        rw [c1', b1_s, nI_1]
    · refine ⟨Y, ?_, ?_⟩
      · rw [e2, if_neg q]; exact hY
      · rw [if_neg (fun c => q ((oI_eq hsm ho).mp c)), nI_1]
  have he : ∀ (n : Nat) (Y : Nat → Nat → Int32), RC Y (wcA A o 4) → ∃ r, fX3_loses_2 N (nI o) (n + 1) Y (nI 4) = some r ∧ RC r (lsA A o) := by
    intro n Y hY
    obtain ⟨f, g, e, _⟩ := wc_form A o 4
    have e1 : Y 0 0 = bs (a_th A) := by rw [RC_h1 hY, e]
    refine ⟨up2 Y 0 0 (bs (fs (a_th A) o false)), ?_, C_th hY _⟩
    show fX3_loses_2b N (nI o) (fX3_loses_2 N (nI o) n) Y (nI 4) = _
    unfold fX3_loses_2b fX3_loses_39
    rw [if_pos (by rw [le_4 (by omega)]; omega), e1, bs_clr _ ho]
    rfl
  exact lpC (fun n j (Y : Nat → Nat → Int32) => fX3_loses_2 N (nI o) n Y (nI j)) (fun j Y => RC Y (wcA A o j)) (fun r => RC r (lsA A o)) 4 hs he N 0 X (by omega) h (by omega)
theorem M_clearsWeak {m0 mm : Nat → Int32} {b : Nat} {A : AS} (h : RM m0 b mm A) (hb : b ≤ 5124) (hw : ∀ w, SM (a_wk A w)) {o : Nat} (ho : o < 24) (ht : (a_lg A).1 < 2147480000) {N : Nat} (hN : 4 < N) : ∃ mm', fX12_clearsWeak N mm (nI b) (nI o) = some mm' ∧ RM m0 b mm' (wcA A o 4) := by
  have hs : ∀ (n j : Nat) (Y : Nat → Int32), j < 4 → RM m0 b Y (wcA A o j) → (∃ s', RM m0 b s' (wcA A o (j + 1)) ∧ fX12_clearsWeak_2 N (nI b) (nI o) (n + 1) Y (nI j) = fX12_clearsWeak_2 N (nI b) (nI o) n s' (nI (j + 1))) ∨ ∃ r, fX12_clearsWeak_2 N (nI b) (nI o) (n + 1) Y (nI j) = some r ∧ RM m0 b r (wcA A o 4) := by
    intro n j Y hj hY
    left
    obtain ⟨f, g, e, h1, _, _, h4⟩ := wc_form A o j
    have hsm : SM (a_wk (wcA A o j) j) := by
      intro t q
      rw [e] at q
      exact hw j t (h1 j t q)
    have e1 : fX12_clearsWeak_2 N (nI b) (nI o) (n + 1) Y (nI j) = fX12_clearsWeak_2b N (nI b) (nI o) (fX12_clearsWeak_2 N (nI b) (nI o) n) Y (nI j) := rfl
    have e2 : wcA A o (j + 1) = if a_wk (wcA A o j) j = some o then lgA (u_wk (wcA A o j) (fs (a_wk (wcA A o j)) j none)) 5 o else wcA A o j := rfl
    rw [e1]
    unfold fX12_clearsWeak_2b
    rw [if_neg (by rw [le_4 (by omega)]; omega), M_weakOf hY hb hj, b1_s]
    by_cases q : a_wk (wcA A o j) j = some o
    · have hY2 := M_wk hY hj none
      have hg : (a_lg (u_wk (wcA A o j) (fs (a_wk (wcA A o j)) j none))).1 < 2147483000 := by
        have : (a_lg (wcA A o j)).1 = g.1 := by rw [e]
        show (a_lg (wcA A o j)).1 < _
        omega
      obtain ⟨Z, c1, c2⟩ := M_log hY2 hb (kd := 5) (o := o) (by decide) hg
      refine ⟨Z, ?_, ?_⟩
      · rw [e2, if_pos q]; exact c2
      · have c1' : fX12_logs (upd Y (b + 39 + j) (-1)) (nI b) 5 (nI o) = some Z := c1
        rw [if_pos ((oI_eq hsm ho).mpr q), show (39 : Int32) = nI 39 from rfl, ad_c, inb_n (by omega) (by decide), grd_t, cl_n (by omega), lt_e, c1', b1_s, nI_1]
    · refine ⟨Y, ?_, ?_⟩
      · rw [e2, if_neg q]; exact hY
      · rw [if_neg (fun c => q ((oI_eq hsm ho).mp c)), nI_1]
  have he : ∀ (n : Nat) (Y : Nat → Int32), RM m0 b Y (wcA A o 4) → ∃ r, fX12_clearsWeak_2 N (nI b) (nI o) (n + 1) Y (nI 4) = some r ∧ RM m0 b r (wcA A o 4) := by
    intro n Y hY
    refine ⟨Y, ?_, hY⟩
    show fX12_clearsWeak_2b N (nI b) (nI o) (fX12_clearsWeak_2 N (nI b) (nI o) n) Y (nI 4) = _
    unfold fX12_clearsWeak_2b
    rw [if_pos (by rw [le_4 (by omega)]; omega)]
  exact lpC (fun n j (Y : Nat → Int32) => fX12_clearsWeak_2 N (nI b) (nI o) n Y (nI j)) (fun j Y => RM m0 b Y (wcA A o j)) (fun r => RM m0 b r (wcA A o 4)) 4 hs he N 0 mm (by omega) h (by omega)
theorem M_countsUp {m0 mm : Nat → Int32} {b : Nat} {A : AS} (h : RM m0 b mm A) (hb : b ≤ 5124) {o : Nat} (ho : o < 24) (ht : a_th A o = true) : ∃ mm', fX12_countsUp mm (nI b) (nI o) = some mm' ∧ RM m0 b mm' (ucA A o) := by
  obtain ⟨m1, e1, r1⟩ := M_put5 h hb ho (a_ct A o + 1)
  obtain ⟨m2, e2, r2⟩ := M_put6 r1 hb ho false
  refine ⟨m2, ?_, r2⟩
  have e2' : fX12_puts m1 (nI b) (nI o) 6 0 = some m2 := e2
  unfold fX12_countsUp
  rw [M_of5 h hb ho ht, b1_s, cI_add, e1, b1_s, e2', b1_s]
