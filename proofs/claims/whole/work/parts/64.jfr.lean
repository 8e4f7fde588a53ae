/-! white ones are freed: what is left keeps J -/
def thn (A : AS) (c : Nat → Nat) (n : Nat) : Nat → Bool := fun o => if o < n ∧ c o = 2 then false else a_th A o
def fdn (A : AS) (c : Nat → Nat) (n : Nat) : Nat → Nat → Option Nat := fun o k => if o < n ∧ c o = 2 then none else a_fd A o k
theorem fr_form {A : AS} (w : WF A) {c : Nat → Nat} (hc : ∀ o, c o = 2 → a_th A o = true) : ∀ n, n ≤ 24 → ∃ f g, frA A c n = u_lg (u_wk (u_fd (u_th A (thn A c n)) (fdn A c n)) f) g ∧ (∀ x t, f x = some t → a_wk A x = some t ∧ ¬ (t < n ∧ c t = 2)) ∧ g.1 + 5 * fb_ct (thn A c n) 24 ≤ (a_lg A).1 + 5 * nt A := by
  intro n
  induction n with
  | zero =>
    intro _
    refine ⟨a_wk A, a_lg A, ?_, fun x t h => ⟨h, fun q => absurd q.1 (Nat.not_lt_zero t)⟩, ?_⟩
    · have e1 : thn A c 0 = a_th A := by
        funext o; unfold thn; rw [if_neg (by omega)]
      have e2 : fdn A c 0 = a_fd A := by
        funext o k; unfold fdn; rw [if_neg (by omega)]
      rw [e1, e2]
      rfl
    · have e1 : thn A c 0 = a_th A := by
        funext o; unfold thn; rw [if_neg (by omega)]
      rw [e1]
      exact Nat.le_refl _
  | succ n ih =>
    intro hn
    obtain ⟨f, g, e, h1, h2⟩ := ih (by omega)
    by_cases q : c n = 2
    · obtain ⟨f', g', e', k1, k2, k3⟩ := ls_form (u_fd (lgA (frA A c n) 2 n) (emF (a_fd (frA A c n)) n)) n
      have ethn : fs (thn A c n) n false = thn A c (n + 1) := by
        funext o
        unfold thn
        by_cases q2 : o = n
        · subst q2; rw [fs_s, if_pos ⟨by omega, q⟩]
        · rw [fs_n q2]
          by_cases q3 : o < n ∧ c o = 2
          · rw [if_pos q3, if_pos (by omega)]
          · rw [if_neg q3, if_neg (by omega)]
      have efdn : emF (fdn A c n) n = fdn A c (n + 1) := by
        funext o k
        unfold emF fdn
        by_cases q2 : o = n
        · subst q2; rw [if_pos rfl, if_pos ⟨by omega, q⟩]
        · rw [if_neg q2]
          by_cases q3 : o < n ∧ c o = 2
          · rw [if_pos q3, if_pos (by omega)]
          · rw [if_neg q3, if_neg (by omega)]
      have hB1 : a_th (frA A c n) = thn A c n := by rw [e]
      have hB2 : a_fd (frA A c n) = fdn A c n := by rw [e]
      have hB3 : a_wk (frA A c n) = f := by rw [e]
      have hB4 : (a_lg (frA A c n)).1 = g.1 := by rw [e]
      have hthn : thn A c n n = true := by
        unfold thn
        rw [if_neg (by omega)]
        exact hc n q
      refine ⟨f', g', ?_, fun x t h => ?_, ?_⟩
      · show (if c n = 2 then fr1 (frA A c n) n else frA A c n) = _
        rw [if_pos q]
        unfold fr1
        rw [e']
        have a1 : a_th (u_fd (lgA (frA A c n) 2 n) (emF (a_fd (frA A c n)) n)) = thn A c n := hB1
        rw [a1, ethn, hB2, efdn, e]
        rfl
      · have h3 : a_wk (frA A c n) x = some t := k1 x t h
        rw [hB3] at h3
        obtain ⟨h4, h5⟩ := h1 x t h3
        refine ⟨h4, fun q2 => ?_⟩
        by_cases q3 : t = n
        · subst q3; exact k2 x (W_wk w h4).1 h
        · exact h5 ⟨by omega, q2.2⟩
      · have hct := fb_ct_upd (thn A c n) false (i := n) (n := 24) (by omega)
        have e0 : (if (false : Bool) = true then 1 else 0) = 0 := rfl
        have e1 : (if thn A c n n = true then 1 else 0) = 1 := by rw [hthn]; rfl
        rw [e0, e1] at hct
        have e2 : fb_ct (thn A c (n + 1)) 24 = fb_ct (fun k => if k = n then false else thn A c n k) 24 := by rw [← ethn]; rfl
        have k4 : g'.1 ≤ (a_lg (frA A c n)).1 + 1 + 4 := k3
        omega
    · refine ⟨f, g, ?_, fun x t h => ?_, ?_⟩
      · show (if c n = 2 then fr1 (frA A c n) n else frA A c n) = _
        have e1 : thn A c (n + 1) = thn A c n := by
          funext o
          unfold thn
          by_cases q3 : o < n ∧ c o = 2
          · rw [if_pos q3, if_pos (by omega)]
          · rw [if_neg q3, if_neg (fun q4 => q3 ⟨by
              by_cases q5 : o = n
              · exact absurd (q5 ▸ q4.2) q
              · omega, q4.2⟩)]
        have e2 : fdn A c (n + 1) = fdn A c n := by
          funext o k
          unfold fdn
          by_cases q3 : o < n ∧ c o = 2
          · rw [if_pos q3, if_pos (by omega)]
          · rw [if_neg q3, if_neg (fun q4 => q3 ⟨by
              by_cases q5 : o = n
              · exact absurd (q5 ▸ q4.2) q
              · omega, q4.2⟩)]
        rw [if_neg q, e, e1, e2]
      · obtain ⟨h4, h5⟩ := h1 x t h
        refine ⟨h4, fun q2 => ?_⟩
        by_cases q3 : t = n
        · subst q3; exact q q2.2
        · exact h5 ⟨by omega, q2.2⟩
      · have e1 : thn A c (n + 1) = thn A c n := by
          funext o
          unfold thn
          by_cases q3 : o < n ∧ c o = 2
          · rw [if_pos q3, if_pos (by omega)]
          · rw [if_neg q3, if_neg (fun q4 => q3 ⟨by
              by_cases q5 : o = n
              · exact absurd (q5 ▸ q4.2) q
              · omega, q4.2⟩)]
        rw [e1]; exact h2
theorem fr_lgr (A : AS) (c : Nat → Nat) : ∀ n, LGR (a_lg A) (a_lg (frA A c n)) := by
  intro n
  induction n with
  | zero => exact LGR_r _
  | succ n ih =>
    have e : frA A c (n + 1) = if c n = 2 then fr1 (frA A c n) n else frA A c n := rfl
    rw [e]
    by_cases q : c n = 2
    · rw [if_pos q]
      exact LGR_t ih (LGR_t (LGR_a (frA A c n) 2 n) (ls_lgr (u_fd (lgA (frA A c n) 2 n) (emF (a_fd (frA A c n)) n)) n))
    · rw [if_neg q]; exact ih
/-- A: the list is empty, counts are as the trial left them, colours c with no gray one -/
theorem J_frees {B : Nat} {A : AS} (w : WF A) (hls : a_ls A = []) {c : Nat → Nat} (hP : P2 A c (a_ct A)) (hng : ∀ y, c y ≠ 1) (hB : (a_lg A).1 + 5 * nt A + 2 * un A ≤ B) : J B (frA A c 24) [] none := by
  obtain ⟨p1, p2, p3, p4, p5, hle⟩ := hP
  have hw2 : ∀ o, c o = 2 → a_th A o = true := fun o q => p5 o (by omega)
  obtain ⟨f, g, e, h1, h2⟩ := fr_form w hw2 24 (Nat.le_refl _)
  have hth : ∀ o, thn A c 24 o = true → a_th A o = true ∧ c o ≠ 2 := by
    intro o q
    unfold thn at q
    by_cases q2 : o < 24 ∧ c o = 2
    · rw [if_pos q2] at q; cases q
    · rw [if_neg q2] at q
      exact ⟨q, fun q3 => q2 ⟨W_th w q, q3⟩⟩
  have hth2 : ∀ o, a_th A o = true → c o ≠ 2 → thn A c 24 o = true := by
    intro o q q2
    unfold thn
    rw [if_neg (fun q3 => q2 q3.2)]; exact q
  have hfd : ∀ o k t, fdn A c 24 o k = some t → a_fd A o k = some t ∧ c o ≠ 2 := by
    intro o k t q
    unfold fdn at q
    by_cases q2 : o < 24 ∧ c o = 2
    · rw [if_pos q2] at q; cases q
    · rw [if_neg q2] at q
      exact ⟨q, fun q3 => q2 ⟨W_th w (W_fd w q).1, q3⟩⟩
  have hnw : ∀ o k t, fdn A c 24 o k = some t → c t ≠ 2 := by
    intro o k t q q2
    obtain ⟨q3, q4⟩ := hfd o k t q
    have a1 := hng o
    have a2 := hle o
    have : c o = 0 ∨ c o = 3 := by omega
    rcases this with q5 | q5
    · exact (p4 t q2).2 o k q5 q3
    · have := p3 o k t q5 q3; omega
  rw [e]
  refine ⟨?_, fun t ht => ?_, List.nodup_nil, (fun x hx => absurd hx List.not_mem_nil), (fun _ e => nomatch e), ?_⟩
  · obtain ⟨w1, w2, w3, w4, w5, w6, w7, w8, w9, w10⟩ := w
    refine ⟨fun o q => w1 o (hth o q).1, w2, fun o k t q => ?_, fun r t q => ?_, fun x t q => ?_, w6, fun x hx => ?_, w8, w9, w10⟩
    · have q' : fdn A c 24 o k = some t := q
      obtain ⟨q3, q4⟩ := hfd o k t q'
      obtain ⟨v1, v2, v3⟩ := w3 o k t q3
      exact ⟨hth2 o v1 q4, v2, hth2 t v3 (hnw o k t q')⟩
    · have q' : a_rt A r = some t := q
      obtain ⟨v1, v2⟩ := w4 r t q'
      exact ⟨v1, hth2 t v2 (fun q2 => (p4 t q2).1 r q')⟩
    · have q' : f x = some t := q
      obtain ⟨v1, v2⟩ := h1 x t q'
      obtain ⟨u1, u2⟩ := w5 x t v1
      exact ⟨u1, hth2 t u2 (fun q2 => v2 ⟨w1 t u2, q2⟩)⟩
    · have hx2 : x ∈ a_ls A := hx
      rw [hls] at hx2; cases hx2
  · obtain ⟨v1, v2⟩ := hth t ht
    rw [if_neg nn_ne]
    have e1 := p1 t v1
    have e2 : rfF (fdn A c 24) t = cE (a_fd A) (PB c) t := fb_sm_cong (fun y hy => fb_ct_cong (fun j _ => by
      have a1 := hng y
      have a2 := hle y
      unfold fdn PB
      by_cases q : c y = 2
      · rw [if_pos ⟨hy, q⟩, q]; rfl
      · have : c y = 0 ∨ c y = 3 := by omega
        rw [if_neg (fun q2 => q q2.2)]
        rcases this with q5 | q5 <;> rw [q5] <;> rfl))
    have e3 : rf (u_lg (u_wk (u_fd (u_th A (thn A c 24)) (fdn A c 24)) f) g) t = rfF (fdn A c 24) t + rfR (a_rt A) t := rfl
    show a_ct A t = _
    rw [e1, e3, e2]
    push_cast
    omega
  · have hu : fb_ct (fun o => thn A c 24 o && !a_rn A o) 24 ≤ un A := fb_ct_sub (fun o _ q => by
      rw [Bool.and_eq_true] at q ⊢
      exact ⟨(hth o q.1).1, q.2⟩)
    show g.1 + 5 * fb_ct (thn A c 24) 24 + 2 * fb_ct (fun o => thn A c 24 o && !a_rn A o) 24 ≤ B + 0
    omega
theorem C_frees {N : Nat} (hN : 1000 ≤ N) {A : AS} (w : WF A) {c : Nat → Nat} (hw2 : ∀ o, c o = 2 → a_th A o = true) (hg : (a_lg A).1 + 5 * nt A < 2147460000) {zcl : Nat → Int32} (hC : CP zcl c) {X : Nat → Nat → Int32} (hX : RC X A) : ∃ X', fX9_frees N zcl X = some X' ∧ RC X' (frA A c 24) := by
  have hs : ∀ (n j : Nat) (Y : Nat → Nat → Int32), j < 24 → RC Y (frA A c j) → (∃ s', RC s' (frA A c (j + 1)) ∧ fX9_frees_2 N zcl (n + 1) Y (nI j) = fX9_frees_2 N zcl n s' (nI (j + 1))) ∨ ∃ r, fX9_frees_2 N zcl (n + 1) Y (nI j) = some r ∧ RC r (frA A c 24) := by
    intro n j Y hj hY
    left
    obtain ⟨f, g, e, h1, h2⟩ := fr_form w hw2 j (by omega)
    obtain ⟨c1, c2⟩ := hC j hj
    have hwk : ∀ x, SM (a_wk (frA A c j) x) := by
      intro x t q
      rw [e] at q
      exact W_sw w x t (h1 x t q).1
    have hlg : (a_lg (frA A c j)).1 < 2147470000 := by
      have : (a_lg (frA A c j)).1 = g.1 := by rw [e]
      omega
    have key : fX9_frees_2 N zcl (n + 1) Y (nI j) = if nI (c j) = 2 then bnd1 (fX4_adds Y 2 (nI j)) fun Y1 => bnd1 (fX3_empties N Y1 (nI j)) fun Y2 => bnd1 (fX3_loses N Y2 (nI j)) fun Y3 => fX9_frees_2 N zcl n Y3 (nI (j + 1)) else fX9_frees_2 N zcl n Y (nI (j + 1)) := by
      show fX9_frees_2b N zcl (fX9_frees_2 N zcl n) Y (nI j) = _
      unfold fX9_frees_2b
      rw [if_neg (by rw [le_24 (by omega)]; omega), inb_n hj (by decide), grd_t, cl_n (by omega), c1, nI_1]
    have e2 : frA A c (j + 1) = if c j = 2 then fr1 (frA A c j) j else frA A c j := rfl
    by_cases q : c j = 2
    · obtain ⟨X1, X2, X3, e1, e2', e3, r3⟩ := C_fr1 hY hwk hj hlg (N := N) (by omega)
      refine ⟨X3, by rw [e2, if_pos q]; exact r3, ?_⟩
      rw [key, q, if_pos (show nI 2 = 2 from rfl), e1, b1_s, e2', b1_s, e3, b1_s]
    · refine ⟨Y, by rw [e2, if_neg q]; exact hY, ?_⟩
      rw [key, if_neg (by rw [show (2 : Int32) = nI 2 from rfl, eq_n (by omega) (by omega)]; exact q)]
  have he : ∀ (n : Nat) (Y : Nat → Nat → Int32), RC Y (frA A c 24) → ∃ r, fX9_frees_2 N zcl (n + 1) Y (nI 24) = some r ∧ RC r (frA A c 24) := by
    intro n Y hY
    refine ⟨Y, ?_, hY⟩
    show fX9_frees_2b N zcl (fX9_frees_2 N zcl n) Y (nI 24) = _
    unfold fX9_frees_2b
    rw [if_pos (by rw [le_24 (by omega)]; omega)]
  exact lpC (fun n j (Y : Nat → Nat → Int32) => fX9_frees_2 N zcl n Y (nI j)) (fun j Y => RC Y (frA A c j)) (fun r => RC r (frA A c 24)) 24 hs he N 0 X (by omega) hX (by omega)
theorem M_frees {N : Nat} (hN : 1000 ≤ N) {A : AS} (w : WF A) {c : Nat → Nat} (hw2 : ∀ o, c o = 2 → a_th A o = true) (hg : (a_lg A).1 + 5 * nt A < 2147460000) {m0 mm : Nat → Int32} {b : Nat} (hb : b ≤ 5124) (hR : RM m0 b mm A) : ∃ mm', fX12_freesAll N mm (nI b) (bs (fun o => decide (c o = 2))) = some mm' ∧ RM m0 b mm' (frA A c 24) := by
  have hs : ∀ (n j : Nat) (Y : Nat → Int32), j < 24 → RM m0 b Y (frA A c j) → (∃ s', RM m0 b s' (frA A c (j + 1)) ∧ fX12_freesAll_2 N (nI b) (bs (fun o => decide (c o = 2))) (n + 1) Y (nI j) = fX12_freesAll_2 N (nI b) (bs (fun o => decide (c o = 2))) n s' (nI (j + 1))) ∨ ∃ r, fX12_freesAll_2 N (nI b) (bs (fun o => decide (c o = 2))) (n + 1) Y (nI j) = some r ∧ RM m0 b r (frA A c 24) := by
    intro n j Y hj hY
    left
    obtain ⟨f, g, e, h1, h2⟩ := fr_form w hw2 j (by omega)
    have hwk : ∀ x, SM (a_wk (frA A c j) x) := by
      intro x t q
      rw [e] at q
      exact W_sw w x t (h1 x t q).1
    have hlg : (a_lg (frA A c j)).1 < 2147470000 := by
      have : (a_lg (frA A c j)).1 = g.1 := by rw [e]
      omega
    have key : fX12_freesAll_2 N (nI b) (bs (fun o => decide (c o = 2))) (n + 1) Y (nI j) = if bI (decide (c j = 2)) = 0 then fX12_freesAll_2 N (nI b) (bs (fun o => decide (c o = 2))) n Y (nI (j + 1)) else bnd1 (fX12_logs Y (nI b) 2 (nI j)) fun m1 => bnd1 (fX12_clearsWeak N m1 (nI b) (nI j)) fun m2 => bnd1 (fX12_puts m2 (nI b) (nI j) 0 0) fun m3 => bnd1 (fX12_puts m3 (nI b) (nI j) 5 0) fun m4 => fX12_freesAll_2 N (nI b) (bs (fun o => decide (c o = 2))) n m4 (nI (j + 1)) := by
      show fX12_freesAll_2b N (nI b) (bs (fun o => decide (c o = 2))) (fX12_freesAll_2 N (nI b) (bs (fun o => decide (c o = 2))) n) Y (nI j) = _
      unfold fX12_freesAll_2b
      rw [if_neg (by rw [le_24 (by omega)]; omega), M_has _ hj, b1_s, nI_1]
    have e2 : frA A c (j + 1) = if c j = 2 then fr1 (frA A c j) j else frA A c j := rfl
    by_cases q : c j = 2
    · obtain ⟨m1, m2, m3, m4, e1, e2', e3, e4, r4⟩ := M_fr1 hY hb hwk hj hlg (N := N) (by omega)
      refine ⟨m4, by rw [e2, if_pos q]; exact r4, ?_⟩
      rw [key, decide_eq_true q, if_neg (by decide), e1, b1_s, e2', b1_s, e3, b1_s, e4, b1_s]
    · refine ⟨Y, by rw [e2, if_neg q]; exact hY, ?_⟩
      rw [key, decide_eq_false q, if_pos (show bI false = 0 from rfl)]
  have he : ∀ (n : Nat) (Y : Nat → Int32), RM m0 b Y (frA A c 24) → ∃ r, fX12_freesAll_2 N (nI b) (bs (fun o => decide (c o = 2))) (n + 1) Y (nI 24) = some r ∧ RM m0 b r (frA A c 24) := by
    intro n Y hY
    refine ⟨Y, ?_, hY⟩
    show fX12_freesAll_2b N (nI b) (bs (fun o => decide (c o = 2))) (fX12_freesAll_2 N (nI b) (bs (fun o => decide (c o = 2))) n) Y (nI 24) = _
    unfold fX12_freesAll_2b
    rw [if_pos (by rw [le_24 (by omega)]; omega)]
  exact lpC (fun n j (Y : Nat → Int32) => fX12_freesAll_2 N (nI b) (bs (fun o => decide (c o = 2))) n Y (nI j)) (fun j Y => RM m0 b Y (frA A c j)) (fun r => RM m0 b r (frA A c 24)) 24 hs he N 0 mm (by omega) hR (by omega)
