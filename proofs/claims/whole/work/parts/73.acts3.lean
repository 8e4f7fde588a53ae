/-! acts: makes, trial -/
theorem C_leastFree {X : Nat → Nat → Int32} {A : AS} (h : RC X A) {N : Nat} (hN : 24 < N) : (∀ o, o < 24 → a_th A o = false → (∀ j, j < o → a_th A j = true) → fX3_leastFree N X = some (nI o)) ∧ ((∀ j, j < 24 → a_th A j = true) → fX3_leastFree N X = some (-1)) := by
  have step : ∀ n j, j < 24 → fX3_leastFree_2 N X (n + 1) (nI j) = if a_th A j then fX3_leastFree_2 N X n (nI (j + 1)) else some (nI j) := by
    intro n j hj
    show fX3_leastFree_2b N X (fX3_leastFree_2 N X n) (nI j) = _
    unfold fX3_leastFree_2b fX11_bit
    rw [if_neg (by rw [le_24 (by omega)]; omega), RC_h1 h, bs_bit _ hj, b1_s, bI_if, nI_1]
  have skip : ∀ o, o ≤ 24 → (∀ j, j < o → a_th A j = true) → ∀ n, fX3_leastFree_2 N X (n + o) (nI 0) = fX3_leastFree_2 N X n (nI o) := by
    intro o
    induction o with
    | zero => intro _ _ n; rfl
    | succ o ih =>
      intro ho hj n
      rw [show n + (o + 1) = n + 1 + o by omega, ih (by omega) (fun j q => hj j (by omega)) (n + 1), step n o (by omega), hj o (by omega), if_pos rfl]
  refine ⟨fun o ho h1 h2 => ?_, fun h2 => ?_⟩
  · have e := skip o (by omega) h2 ((N - o - 1) + 1)
    rw [show (N - o - 1) + 1 + o = N by omega, step _ o ho, h1, if_neg (by decide)] at e
    exact e
  · have e := skip 24 (Nat.le_refl _) h2 ((N - 25) + 1)
    rw [show (N - 25) + 1 + 24 = N by omega] at e
    unfold fX3_leastFree
    have e' : fX3_leastFree_2 N X N 0 = fX3_leastFree_2 N X ((N - 25) + 1) (nI 24) := e
    rw [e']
    show fX3_leastFree_2b N X (fX3_leastFree_2 N X (N - 25)) (nI 24) = _
    unfold fX3_leastFree_2b
    rw [if_pos (by rw [le_24 (by omega)]; omega)]
theorem free_or (A : AS) : (∃ o, o < 24 ∧ a_th A o = false ∧ ∀ j, j < o → a_th A j = true) ∨ (∀ j, j < 24 → a_th A j = true) := by
  by_cases q : ∀ j, j < 24 → a_th A j = true
  · exact Or.inr q
  · left
    have : ∃ j, j < 24 ∧ a_th A j = false := by
      apply Classical.byContradiction
      intro c
      exact q (fun j hj => by
        cases e : a_th A j with
        | true => rfl
        | false => exact absurd ⟨j, hj, e⟩ c)
    obtain ⟨k, hk, hm⟩ := pk_least (fun i => i < 24 ∧ a_th A i = false) this
    exact ⟨k, hk.1, hk.2, fun j hj => by
      cases e : a_th A j with
      | true => rfl
      | false => exact absurd ⟨by omega, e⟩ (hm j hj)⟩
def mk0 (A : AS) (o f : Nat) (v : Int32) (e : Nat) : AS := u_ct (u_en (u_wt (u_my (u_rn (u_th A (fs (a_th A) o true)) (fs (a_rn A) o false)) (fs (a_my A) o f)) (fs (a_wt A) o v)) (fs (a_en A) o e)) (fs (a_ct A) o 0)
def mkA (A : AS) (o f : Nat) (v : Int32) (e : Nat) : AS := lgA (mk0 A o f v e) 0 o
theorem fd_no {A : AS} (w : WF A) {o : Nat} (h : a_th A o = false) (k : Nat) : a_fd A o k = none := by
  cases e : a_fd A o k with
  | none => rfl
  | some t => rw [(W_fd w e).1] at h; cases h
theorem mt_no {A : AS} (w : WF A) {o : Nat} (h : a_th A o = false) : a_mt A o = false := by
  cases e : a_mt A o with
  | false => rfl
  | true => rw [W_ls w (W_mt w e)] at h; cases h
theorem rf_no {A : AS} (w : WF A) {o : Nat} (h : a_th A o = false) : rf A o = 0 := by
  have h1 : rfF (a_fd A) o ≤ 24 * 0 := fb_sm_bound (fun i _ => Nat.le_of_eq (fb_ct_zero.mpr (fun k _ => decide_eq_false (fun q => by rw [(W_fd w q).2.2] at h; cases h))))
  have h2 : rfR (a_rt A) o = 0 := fb_ct_zero.mpr (fun r _ => decide_eq_false (fun q => by rw [(W_rt w q).2] at h; cases h))
  unfold rf
  omega
theorem emF_no {A : AS} (w : WF A) {o : Nat} (h : a_th A o = false) : emF (a_fd A) o = a_fd A := by
  funext i k
  unfold emF
  by_cases q : i = o
  · rw [if_pos q, q, fd_no w h]
  · rw [if_neg q]
theorem C_make {X : Nat → Nat → Int32} {A : AS} (h : RC X A) (w : WF A) {o : Nat} (ho : o < 24) (ht : a_th A o = false) (f e : Nat) (v : Int32) (hg : (a_lg A).1 < 2147480000) {N : Nat} (hN : 24 < N) : ∃ X', fX3_adds N X (nI o) (nI f) v (nI e) = some X' ∧ RC X' (mkA A o f v e) := by
  have h1 := C_th h (fs (a_th A) o true)
  have h2 := C_rn h1 (fs (a_rn A) o false)
  have h3 := C_my h2 o f
  have h4 := C_wt h3 o v
  have h5 := C_en h4 o e
  have h6 := C_ct h5 o 0
  obtain ⟨X7, e7, h7⟩ := C_empties h6 ho (N := N) (by omega)
  have h7' : RC X7 (mk0 A o f v e) := by
    have e8 : emF (a_fd A) o = a_fd A := emF_no w ht
    have h8 : RC X7 (u_fd (mk0 A o f v e) (emF (a_fd A) o)) := h7
    rw [e8] at h8
    exact h8
  obtain ⟨X8, e8, h8⟩ := C_log h7' (kd := 0) (o := o) (by decide) ho (by show (a_lg A).1 < _; omega)
  have e8' : fX4_adds X7 0 (nI o) = some X8 := e8
  refine ⟨X8, ?_, h8⟩
  unfold fX3_adds
  have er0 : X 0 1 = bs (a_rn A) := RC_h2 h
  have er : up2 X 0 0 (bs (fs (a_th A) o true)) 0 1 = bs (a_rn A) := er0
  rw [RC_h1 h, bs_set _ ho, lt_e, er, bs_clr _ ho, lt_e, inb_n ho (by decide), grd_t, cl_n (by omega), lt_e, grd_t, lt_e, grd_t, lt_e, grd_t, lt_e]
  have e7' : fX3_empties N (up2 (up2 (up2 (up2 (up2 (up2 X 0 0 (bs (fs (a_th A) o true))) 0 1 (bs (fs (a_rn A) o false))) 1 o (nI f)) 2 o v) 3 o (nI e)) 4 o 0) (nI o) = some X7 := e7
  rw [e7', b1_s, e8', b1_s]
theorem M_make {m0 mm mm' : Nat → Int32} {b : Nat} {A : AS} (h : RM m0 b mm A) (w : WF A) {o : Nat} (ho : o < 24) (ht : a_th A o = false) (f e : Nat) (v : Int32) (hout : ∀ j : Nat, (j < b + 163 + 11 * o ∨ b + 163 + 11 * o + 11 ≤ j) → mm' j = mm j) (g0 : mm' (b + 163 + 11 * o) = 1) (g1 : mm' (b + 163 + 11 * o + 1) = nI f) (g2 : mm' (b + 163 + 11 * o + 2) = v) (g3 : mm' (b + 163 + 11 * o + 3) = nI e) (g4 : mm' (b + 163 + 11 * o + 4) = 0) (g5 : mm' (b + 163 + 11 * o + 5) = 0) (g6 : mm' (b + 163 + 11 * o + 6) = 0) (g7 : ∀ k : Nat, k < 4 → mm' (b + 163 + 11 * o + 7 + k) = -1) : RM m0 b mm' (mk0 A o f v e) := by
  obtain ⟨h1, h2, h3, h4, h5, h6, h7, h8, h9, h10, h11, h12, h13, h14, h15, h16, h17, h18, h19⟩ := h
  have hmt := mt_no w ht
  have hth : ∀ i, i ≠ o → fs (a_th A) o true i = true → a_th A i = true := fun i q q2 => by rw [fs_n q] at q2; exact q2
  refine ⟨fun i hi => ?_, ?_, ?_, ?_, fun i hi => ?_, fun i hi => ?_, fun i hi => ?_, fun i hi => ?_, fun i hi => ?_, fun i hi => ?_, fun i hi => ?_, fun i hi hT => ?_, fun i hi hT => ?_, fun i hi hT => ?_, fun i hi hT => ?_, fun i hi hT => ?_, fun i hi hT => ?_, fun i k hi hk hT => ?_, h19⟩
  · rw [hout _ (by omega)]; exact h1 i hi
  · rw [hout _ (by omega)]; exact h2
  · rw [hout _ (by omega)]; exact h3
  · rw [hout _ (by omega)]; exact h4
  · rw [hout _ (by omega)]; exact h5 i hi
  · have hi2 : i < (a_ls A).length := hi
    rw [hout _ (by omega)]; exact h6 i hi2
  · rw [hout _ (by omega)]; exact h7 i hi
  · rw [hout _ (by omega)]; exact h8 i hi
  · rw [hout _ (by omega)]; exact h9 i hi
  · rw [hout _ (by omega)]; exact h10 i hi
  · show _ = bI (fs (a_th A) o true i)
    by_cases q : i = o
    · rw [q, fs_s]; exact g0
    · rw [hout _ (by omega), fs_n q]; exact h11 i hi
  · show _ = nI (fs (a_my A) o f i)
    by_cases q : i = o
    · rw [q, fs_s]; exact g1
    · rw [hout _ (by omega), fs_n q]; exact h12 i hi (hth i q hT)
  · show _ = fs (a_wt A) o v i
    by_cases q : i = o
    · rw [q, fs_s]; exact g2
    · rw [hout _ (by omega), fs_n q]; exact h13 i hi (hth i q hT)
  · show _ = nI (fs (a_en A) o e i)
    by_cases q : i = o
    · rw [q, fs_s]; exact g3
    · rw [hout _ (by omega), fs_n q]; exact h14 i hi (hth i q hT)
  · show _ = bI (fs (a_rn A) o false i)
    by_cases q : i = o
    · rw [q, fs_s]; exact g4
    · rw [hout _ (by omega), fs_n q]; exact h15 i hi (hth i q hT)
  · show _ = cI (fs (a_ct A) o 0 i)
    by_cases q : i = o
    · rw [q, fs_s]; exact g5
    · rw [hout _ (by omega), fs_n q]; exact h16 i hi (hth i q hT)
  · show _ = bI (a_mt A i)
    by_cases q : i = o
    · rw [q, hmt]; exact g6
    · rw [hout _ (by omega)]; exact h17 i hi (hth i q hT)
  · show _ = oI (a_fd A i k)
    by_cases q : i = o
    · rw [q, fd_no w ht]; exact g7 k hk
    · rw [hout _ (by omega)]; exact h18 i k hi hk (hth i q hT)
theorem J_make {B : Nat} {A : AS} (hJ : J B A [] none) {o : Nat} (ho : o < 24) (ht : a_th A o = false) {f e : Nat} (hf : f ≤ 4) (he : e ≤ 7) (v : Int32) : J (B + 8) (mkA A o f v e) [] none := by
  have w := hJ.1
  obtain ⟨k1, k2, k3, k4, k5, k6⟩ := hJ
  have hm : ∀ t, a_th A t = true → fs (a_th A) o true t = true := fun t q => by
    by_cases q2 : t = o
    · rw [q2, fs_s]
    · rw [fs_n q2]; exact q
  refine ⟨?_, fun t hT => ?_, k3, (fun x hx => absurd hx List.not_mem_nil), (fun _ e => nomatch e), ?_⟩
  · obtain ⟨w1, w2, w3, w4, w5, w6, w7, w8, w9, w10⟩ := k1
    refine ⟨fun x q => ?_, fun x => ?_, fun i k t q => ?_, fun r t q => ⟨(w4 r t q).1, hm t (w4 r t q).2⟩, fun x t q => ⟨(w5 x t q).1, hm t (w5 x t q).2⟩, w6, fun x hx => hm x (w7 x hx), w8, fun x => ?_, w10⟩
    · have q2 : fs (a_th A) o true x = true := q
      by_cases q3 : x = o
      · rw [q3]; exact ho
      · rw [fs_n q3] at q2; exact w1 x q2
    · show fs (a_my A) o f x ≤ 4
      by_cases q3 : x = o
      · rw [q3, fs_s]; exact hf
      · rw [fs_n q3]; exact w2 x
    · have q2 : a_fd A i k = some t := q
      obtain ⟨v1, v2, v3⟩ := w3 i k t q2
      have hio : i ≠ o := fun q3 => by rw [q3, ht] at v1; cases v1
      refine ⟨hm i v1, ?_, hm t v3⟩
      show k < fs (a_my A) o f i
      rw [fs_n hio]; exact v2
    · show fs (a_en A) o e x ≤ 7
      by_cases q3 : x = o
      · rw [q3, fs_s]; exact he
      · rw [fs_n q3]; exact w9 x
  · have hrf : rf (mkA A o f v e) t = rf A t := rfl
    rw [if_neg nn_ne, hrf]
    show fs (a_ct A) o 0 t = _
    by_cases q : t = o
    · rw [q, fs_s, rf_no w ht]; rfl
    · have q2 : fs (a_th A) o true t = true := hT
      rw [fs_n q] at q2 ⊢
      have := k2 t q2
      rw [if_neg nn_ne] at this
      exact this
  · have a1 := fb_ct_upd (a_th A) true (i := o) (n := 24) ho
    have e1 : (if a_th A o = true then 1 else 0) = 0 := by rw [ht]; rfl
    have e2 : (if (true : Bool) = true then 1 else 0) = 1 := rfl
    rw [e1, e2] at a1
    have e3 : nt (mkA A o f v e) = fb_ct (fun k => if k = o then true else a_th A k) 24 := rfl
    have e4 : nt A = fb_ct (a_th A) 24 := rfl
    have a2 := fb_ct_upd (fun x => a_th A x && !a_rn A x) true (i := o) (n := 24) ho
    have e5 : (if (a_th A o && !a_rn A o) = true then 1 else 0) = 0 := by rw [ht]; rfl
    have a2' : fb_ct (fun k => if k = o then true else (a_th A k && !a_rn A k)) 24 + (if (a_th A o && !a_rn A o) = true then 1 else 0) = fb_ct (fun x => a_th A x && !a_rn A x) 24 + (if (true : Bool) = true then 1 else 0) := a2
    rw [e5, e2] at a2'
    have e6 : un (mkA A o f v e) = fb_ct (fun k => if k = o then true else (a_th A k && !a_rn A k)) 24 := fb_ct_cong (fun k _ => by
      show (fs (a_th A) o true k && !fs (a_rn A) o false k) = _
      by_cases q : k = o
      · rw [q, fs_s, fs_s, if_pos rfl]; rfl
      · rw [fs_n q, fs_n q, if_neg q])
    have e7 : un A = fb_ct (fun x => a_th A x && !a_rn A x) 24 := rfl
    have e8 : (a_lg (mkA A o f v e)).1 = (a_lg A).1 + 1 := rfl
    have k6' : (a_lg A).1 + 5 * nt A + 2 * un A ≤ B + 0 := k6
    show (a_lg (mkA A o f v e)).1 + 5 * nt (mkA A o f v e) + 2 * un (mkA A o f v e) ≤ B + 8 + 0
    omega
theorem J_up {B B' : Nat} {A : AS} {st : List Nat} {pd : Option Nat} (h : J B A st pd) (hb : B ≤ B') : J B' A st pd := ⟨h.1, h.2.1, h.2.2.1, h.2.2.2.1, h.2.2.2.2.1, by have := h.2.2.2.2.2; omega⟩
theorem M_148 {N : Nat} (hN : 24 < N) {b : Nat} (hb : b ≤ 5124) {o : Nat} (ho : o < 24) {p1 p2 p3 p4 : Int32} (mm mco mcn : Nat → Int32) (mvi : Int32) : ∃ mm', fX12_makesOne_148 N (nI b) p1 p2 p3 p4 N mm mco mcn mvi (nI o) 0 = fX12_makesOne_172 N (nI b) p1 p2 p3 p4 mm' mco mcn mvi (nI o) ∧ (∀ j : Nat, (j < b + 163 + 11 * o + 7 ∨ b + 163 + 11 * o + 11 ≤ j) → mm' j = mm j) ∧ ∀ k : Nat, k < 4 → mm' (b + 163 + 11 * o + 7 + k) = -1 := by
  have gen : ∀ (r i : Nat) (Y : Nat → Int32) (f : Nat), i + r = 4 → (∀ j : Nat, (j < b + 163 + 11 * o + 7 ∨ b + 163 + 11 * o + 11 ≤ j) → Y j = mm j) → (∀ k : Nat, k < i → Y (b + 163 + 11 * o + 7 + k) = -1) → r < f → ∃ mm', fX12_makesOne_148 N (nI b) p1 p2 p3 p4 f Y mco mcn mvi (nI o) (nI i) = fX12_makesOne_172 N (nI b) p1 p2 p3 p4 mm' mco mcn mvi (nI o) ∧ (∀ j : Nat, (j < b + 163 + 11 * o + 7 ∨ b + 163 + 11 * o + 11 ≤ j) → mm' j = mm j) ∧ ∀ k : Nat, k < 4 → mm' (b + 163 + 11 * o + 7 + k) = -1 := by
    intro r
    induction r with
    | zero =>
      intro i Y f hi h1 h2 hf
      obtain ⟨f', rfl⟩ : ∃ f', f = f' + 1 := ⟨f - 1, by omega⟩
      have : i = 4 := by omega
      subst this
      refine ⟨Y, ?_, h1, h2⟩
      show fX12_makesOne_148b N (nI b) p1 p2 p3 p4 (fX12_makesOne_148 N (nI b) p1 p2 p3 p4 f') Y mco mcn mvi (nI o) (nI 4) = _
      unfold fX12_makesOne_148b
      rw [if_pos (by rw [le_4 (by omega)]; omega)]
    | succ r ih =>
      intro i Y f hi h1 h2 hf
      obtain ⟨f', rfl⟩ : ∃ f', f = f' + 1 := ⟨f - 1, by omega⟩
      obtain ⟨mm', e, k1, k2⟩ := ih (i + 1) (upd Y (b + 163 + 11 * o + (7 + i)) (-1)) f' (by omega) (fun j hj => by rw [pk_un (by omega)]; exact h1 j hj) (fun k hk => by
        by_cases q : k = i
        · rw [q, show b + 163 + 11 * o + 7 + i = b + 163 + 11 * o + (7 + i) by omega, pk_us]
        · rw [pk_un (by omega)]; exact h2 k (by omega)) (by omega)
      refine ⟨mm', ?_, k1, k2⟩
      show fX12_makesOne_148b N (nI b) p1 p2 p3 p4 (fX12_makesOne_148 N (nI b) p1 p2 p3 p4 f') Y mco mcn mvi (nI o) (nI i) = _
      unfold fX12_makesOne_148b
      rw [if_neg (by rw [le_4 (by omega)]; omega), ad7, puts_n Y (-1) hb ho (by omega), b1_s, nI_1, e]
  exact gen 4 0 mm N (by omega) (fun _ _ => rfl) (fun k hk => absurd hk (Nat.not_lt_zero k)) (by omega)
