/-! what a heap keeps: WF, the counts, J -/
def WF (A : AS) : Prop :=
  (∀ o, a_th A o = true → o < 24) ∧ (∀ o, a_my A o ≤ 4) ∧
  (∀ o k t, a_fd A o k = some t → a_th A o = true ∧ k < a_my A o ∧ a_th A t = true) ∧
  (∀ r t, a_rt A r = some t → r < 6 ∧ a_th A t = true) ∧
  (∀ w t, a_wk A w = some t → w < 4 ∧ a_th A t = true) ∧
  (a_ls A).Nodup ∧ (∀ x ∈ a_ls A, a_th A x = true) ∧
  (∀ o, a_mt A o = true → o ∈ a_ls A) ∧ (∀ o, a_en A o ≤ 7) ∧ 1 ≤ a_li A ∧ a_li A ≤ 24
theorem W_th {A : AS} (h : WF A) {o : Nat} (ht : a_th A o = true) : o < 24 := h.1 o ht
theorem W_my {A : AS} (h : WF A) (o : Nat) : a_my A o ≤ 4 := h.2.1 o
theorem W_fd {A : AS} (h : WF A) {o k t : Nat} (e : a_fd A o k = some t) : a_th A o = true ∧ k < a_my A o ∧ a_th A t = true := h.2.2.1 o k t e
theorem W_rt {A : AS} (h : WF A) {r t : Nat} (e : a_rt A r = some t) : r < 6 ∧ a_th A t = true := h.2.2.2.1 r t e
theorem W_wk {A : AS} (h : WF A) {r t : Nat} (e : a_wk A r = some t) : r < 4 ∧ a_th A t = true := h.2.2.2.2.1 r t e
theorem W_nd {A : AS} (h : WF A) : (a_ls A).Nodup := h.2.2.2.2.2.1
theorem W_ls {A : AS} (h : WF A) {x : Nat} (hx : x ∈ a_ls A) : a_th A x = true := h.2.2.2.2.2.2.1 x hx
theorem W_l24 {A : AS} (h : WF A) : ∀ x ∈ a_ls A, x < 24 := fun _ hx => W_th h (W_ls h hx)
theorem W_mt {A : AS} (h : WF A) {o : Nat} (ho : a_mt A o = true) : o ∈ a_ls A := h.2.2.2.2.2.2.2.1 o ho
theorem W_en {A : AS} (h : WF A) (o : Nat) : a_en A o ≤ 7 := h.2.2.2.2.2.2.2.2.1 o
theorem W_sf {A : AS} (h : WF A) (o k : Nat) : SM (a_fd A o k) := fun _ e => W_th h (W_fd h e).2.2
theorem W_sr {A : AS} (h : WF A) (r : Nat) : SM (a_rt A r) := fun _ e => W_th h (W_rt h e).2
theorem W_sw {A : AS} (h : WF A) (r : Nat) : SM (a_wk A r) := fun _ e => W_th h (W_wk h e).2
theorem W_nf {A : AS} (h : WF A) {o k : Nat} (hk : a_my A o ≤ k) : a_fd A o k = none := by
  cases e : a_fd A o k with
  | none => rfl
  | some t => have := (W_fd h e).2.1; omega
theorem nd_len {l : List Nat} (hd : l.Nodup) {n : Nat} (h : ∀ x ∈ l, x < n) : l.length ≤ n := by
  refine fb_holes n l.length (fun i => l.getD i 0) (fun i hi => h _ (getD_mem hi)) (fun i j hij hj => ?_)
  rw [List.getD_eq_getElem?_getD, List.getD_eq_getElem?_getD, List.getElem?_eq_getElem hj, List.getElem?_eq_getElem (by omega)]
  exact List.pairwise_iff_getElem.mp hd i j (by omega) hj hij
theorem nd_len1 {l : List Nat} (hd : l.Nodup) {n : Nat} (h : ∀ x ∈ l, x < n) {y : Nat} (hy : y < n) (hn : y ∉ l) : l.length < n := by
  have := nd_len (l := y :: l) (List.nodup_cons.mpr ⟨hn, hd⟩) (n := n) (fun x hx => by
    rcases List.mem_cons.mp hx with e | e
    · rw [e]; exact hy
    · exact h x e)
  rw [List.length_cons] at this
  omega
theorem W_len {A : AS} (h : WF A) : (a_ls A).length ≤ 24 := nd_len (W_nd h) (W_l24 h)
theorem W_len1 {A : AS} (h : WF A) {i : Nat} (hi : i < 24) (hn : i ∉ a_ls A) : (a_ls A).length < 24 := nd_len1 (W_nd h) (W_l24 h) hi hn
/-! references -/
def b1 (b : Bool) : Nat := if b then 1 else 0
def rfF (F : Nat → Nat → Option Nat) (t : Nat) : Nat := fb_sm (fun o => fb_ct (fun k => decide (F o k = some t)) 4) 24
def rfR (R : Nat → Option Nat) (t : Nat) : Nat := fb_ct (fun r => decide (R r = some t)) 6
def rf (A : AS) (t : Nat) : Nat := rfF (a_fd A) t + rfR (a_rt A) t
theorem rfR_u (R : Nat → Option Nat) {r : Nat} (hr : r < 6) (v : Option Nat) (t : Nat) : rfR (fs R r v) t + (if R r = some t then 1 else 0) = rfR R t + (if v = some t then 1 else 0) := by
  have := fb_ct_upd (fun r => decide (R r = some t)) (decide (v = some t)) (i := r) (n := 6) hr
  have e : fb_ct (fun k => decide (fs R r v k = some t)) 6 = fb_ct (fun k => if k = r then decide (v = some t) else decide (R k = some t)) 6 := fb_ct_cong (fun k _ => by
    unfold fs
    by_cases q : k = r
    · rw [if_pos q, if_pos q]
    · rw [if_neg q, if_neg q])
  unfold rfR
  rw [e]
  simpa using this
theorem cF_u (p : Nat → Nat → Bool) {o k : Nat} (ho : o < 24) (hk : k < 4) (v : Bool) : fb_sm (fun i => fb_ct (fun j => if i = o ∧ j = k then v else p i j) 4) 24 + (if p o k then 1 else 0) = fb_sm (fun i => fb_ct (p i) 4) 24 + (if v then 1 else 0) := by
  have h1 := fb_ct_upd (p o) v (i := k) (n := 4) hk
  have h2 := fb_sm_upd (fun i => fb_ct (p i) 4) (fb_ct (fun j => if j = k then v else p o j) 4) (i := o) (n := 24) ho
  have e : fb_sm (fun i => fb_ct (fun j => if i = o ∧ j = k then v else p i j) 4) 24 = fb_sm (fun i => if i = o then fb_ct (fun j => if j = k then v else p o j) 4 else fb_ct (p i) 4) 24 := fb_sm_cong (fun i _ => by
    by_cases q : i = o
    · rw [if_pos q, q]; exact fb_ct_cong (fun j _ => by simp)
    · rw [if_neg q]; exact fb_ct_cong (fun j _ => by simp [q]))
  rw [e]
  have h3 : (fun i => fb_ct (p i) 4) o = fb_ct (p o) 4 := rfl
  omega
theorem rfF_u (F : Nat → Nat → Option Nat) {o k : Nat} (ho : o < 24) (hk : k < 4) (v : Option Nat) (t : Nat) : rfF (f2 F o k v) t + (if F o k = some t then 1 else 0) = rfF F t + (if v = some t then 1 else 0) := by
  have := cF_u (fun i j => decide (F i j = some t)) ho hk (decide (v = some t))
  have e : rfF (f2 F o k v) t = fb_sm (fun i => fb_ct (fun j => if i = o ∧ j = k then decide (v = some t) else decide (F i j = some t)) 4) 24 := fb_sm_cong (fun i _ => fb_ct_cong (fun j _ => by
    unfold f2
    by_cases q : i = o ∧ j = k
    · rw [if_pos q, if_pos q]
    · rw [if_neg q, if_neg q]))
  rw [e]
  unfold rfF
  simpa using this
def fc (A : AS) : Nat := fb_sm (fun o => fb_ct (fun k => (a_fd A o k).isSome) 4) 24
theorem fc_clr (A : AS) {o k : Nat} (ho : o < 24) (hk : k < 4) (h : (a_fd A o k).isSome = true) : fc (u_fd A (f2 (a_fd A) o k none)) + 1 = fc A := by
  have := cF_u (fun i j => (a_fd A i j).isSome) ho hk false
  have e : fc (u_fd A (f2 (a_fd A) o k none)) = fb_sm (fun i => fb_ct (fun j => if i = o ∧ j = k then false else (a_fd A i j).isSome) 4) 24 := fb_sm_cong (fun i _ => fb_ct_cong (fun j _ => by
    show (f2 (a_fd A) o k none i j).isSome = _
    unfold f2
    by_cases q : i = o ∧ j = k
    · rw [if_pos q, if_pos q]; rfl
    · rw [if_neg q, if_neg q]))
  rw [e]
  rw [h] at this
  unfold fc
  simpa using this
theorem rf_bound (A : AS) (t : Nat) : rf A t ≤ 102 := by
  have h1 : rfF (a_fd A) t ≤ 24 * 4 := fb_sm_bound (fun k _ => fb_ct_le _ _)
  have h2 : rfR (a_rt A) t ≤ 6 := fb_ct_le _ _
  unfold rf
  omega
theorem rf_F {A : AS} {t : Nat} (h : rf A t = 0) {o k : Nat} (ho : o < 24) (hk : k < 4) : a_fd A o k ≠ some t := by
  intro q
  have h1 : rfF (a_fd A) t = 0 := by unfold rf at h; omega
  have h2 := fb_sm_zero h1 o ho
  have h3 := fb_ct_zero.mp h2 k hk
  rw [q] at h3
  simp at h3
theorem rf_R {A : AS} {t : Nat} (h : rf A t = 0) {r : Nat} (hr : r < 6) : a_rt A r ≠ some t := by
  intro q
  have h1 : rfR (a_rt A) t = 0 := by unfold rf at h; omega
  have h3 := fb_ct_zero.mp h1 r hr
  rw [q] at h3
  simp at h3
def nt (A : AS) : Nat := fb_ct (a_th A) 24
def un (A : AS) : Nat := fb_ct (fun o => a_th A o && !a_rn A o) 24
def J (B : Nat) (A : AS) (st : List Nat) (pd : Option Nat) : Prop :=
  WF A ∧ (∀ t, a_th A t = true → a_ct A t = (rf A t : Int) + (if pd = some t then 1 else 0)) ∧ st.Nodup ∧
  (∀ x ∈ st, a_th A x = true ∧ rf A x = 0 ∧ x ∉ a_ls A) ∧ (∀ o, pd = some o → a_th A o = true ∧ o ∉ st) ∧
  (a_lg A).1 + 5 * nt A + 2 * un A ≤ B + st.length
def LGR (L L' : LG) : Prop := L.1 ≤ L'.1 ∧ ∀ k, ∃ d, L'.2.2.2 k = L.2.2.2 k + nI d ∧ d ≤ L'.1 - L.1
theorem LGR_r (L : LG) : LGR L L := ⟨Nat.le_refl _, fun k => ⟨0, (Int32.add_zero _).symm, by omega⟩⟩
theorem LGR_t {L M K : LG} (h : LGR L M) (g : LGR M K) : LGR L K := by
  obtain ⟨h1, h2⟩ := h
  obtain ⟨g1, g2⟩ := g
  refine ⟨by omega, fun k => ?_⟩
  obtain ⟨d, e1, l1⟩ := h2 k
  obtain ⟨f, e2, l2⟩ := g2 k
  exact ⟨d + f, by rw [e2, e1, Int32.add_assoc, nI_add], by omega⟩
theorem LGR_a (A : AS) (kd o : Nat) : LGR (a_lg A) (a_lg (lgA A kd o)) := by
  refine ⟨Nat.le_succ _, fun k => ?_⟩
  by_cases q : k = kd
  · refine ⟨1, ?_, ?_⟩
    · show fs (a_lg A).2.2.2 kd ((a_lg A).2.2.2 kd + 1) k = _
      rw [q, fs_s]
      rfl
    · show 1 ≤ (a_lg A).1 + 1 - (a_lg A).1
      omega
  · refine ⟨0, ?_, Nat.zero_le _⟩
    show fs (a_lg A).2.2.2 kd ((a_lg A).2.2.2 kd + 1) k = _
    rw [fs_n q]
    exact (Int32.add_zero _).symm
def RLT (A A' : AS) : Prop := (∀ i k, a_fd A' i k = a_fd A i k ∨ a_fd A' i k = none) ∧ a_my A' = a_my A ∧ a_en A' = a_en A ∧ a_wt A' = a_wt A ∧ a_li A' = a_li A ∧ (∀ o, a_th A' o = true → a_th A o = true) ∧ (∀ o, a_rn A o = true → a_rn A' o = true) ∧ LGR (a_lg A) (a_lg A')
theorem RLT_r (A : AS) : RLT A A := ⟨fun _ _ => Or.inl rfl, rfl, rfl, rfl, rfl, fun _ h => h, fun _ h => h, LGR_r _⟩
theorem RLT_t {A B C : AS} (h : RLT A B) (k : RLT B C) : RLT A C := by
  obtain ⟨h1, h2, h3, h4, h5, h6, h7, h8⟩ := h
  obtain ⟨k1, k2, k3, k4, k5, k6, k7, k8⟩ := k
  refine ⟨fun i j => ?_, k2.trans h2, k3.trans h3, k4.trans h4, k5.trans h5, fun o q => h6 o (k6 o q), fun o q => k7 o (h7 o q), LGR_t h8 k8⟩
  rcases k1 i j with e | e
  · rcases h1 i j with e2 | e2
    · exact Or.inl (e.trans e2)
    · exact Or.inr (e.trans e2)
  · exact Or.inr e
theorem RLT_un {A A' : AS} (h : RLT A A') : un A' ≤ un A := fb_ct_sub (fun o _ q => by
  rw [Bool.and_eq_true] at q ⊢
  refine ⟨h.2.2.2.2.2.1 o q.1, ?_⟩
  cases e : a_rn A o with
  | false => rfl
  | true => have := h.2.2.2.2.2.2.1 o e; rw [this] at q; exact absurd q.2 (by decide))
theorem RLT_nt {A A' : AS} (h : RLT A A') : nt A' ≤ nt A := fb_ct_sub (fun o _ q => h.2.2.2.2.2.1 o q)
theorem nt_le (A : AS) : nt A ≤ 24 := fb_ct_le _ _
theorem un_le (A : AS) : un A ≤ 24 := fb_ct_le _ _
theorem fc_le (A : AS) : fc A ≤ 24 * 4 := fb_sm_bound (fun _ _ => fb_ct_le _ _)
