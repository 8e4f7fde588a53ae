/-! the steps of a count down keep J -/
theorem sm_ne {a b : Nat} (h : ¬ b = a) : ¬ some a = some b := fun e => h (Option.some.inj e).symm
theorem nn_ne {a : Nat} : ¬ (none : Option Nat) = some a := fun e => nomatch e
def dcA (A : AS) (o : Nat) : AS := u_ct A (fs (a_ct A) o (a_ct A o - 1))
def ucA (A : AS) (o : Nat) : AS := u_mt (u_ct A (fs (a_ct A) o (a_ct A o + 1))) (fs (a_mt A) o false)
def e3A (A : AS) (o : Nat) : AS := lgA (u_rn A (fs (a_rn A) o true)) 3 o
def e4A (A : AS) (o : Nat) : AS := ucA (u_rt (lgA (e3A A o) 4 o) (fs (a_rt A) (a_en A o - 2) (some o))) o
theorem J_rng {B : Nat} {A : AS} {st : List Nat} {pd : Option Nat} (h : J B A st pd) {t : Nat} (ht : a_th A t = true) : 0 ≤ a_ct A t ∧ a_ct A t ≤ 103 := by
  have h1 := h.2.1 t ht
  have h2 := rf_bound A t
  split at h1 <;> omega
theorem J_dc {B : Nat} {A : AS} {st : List Nat} {o : Nat} (h : J B A st (some o)) : J B (dcA A o) st none := by
  obtain ⟨h1, h2, h3, h4, h5, h6⟩ := h
  refine ⟨h1, fun t ht => ?_, h3, h4, (fun _ e => nomatch e), h6⟩
  show fs (a_ct A) o (a_ct A o - 1) t = (rf A t : Int) + (if none = some t then 1 else 0)
  rw [if_neg nn_ne]
  have h2t := h2 t ht
  by_cases q : t = o
  · subst q
    rw [if_pos rfl] at h2t
    rw [fs_s]; omega
  · rw [if_neg (sm_ne q)] at h2t
    rw [fs_n q]; exact h2t
theorem W_mn {A : AS} (h : WF A) {o : Nat} (ht : a_th A o = true) : WF (mnA A o) := by
  obtain ⟨w1, w2, w3, w4, w5, w6, w7, w8, w9, w10⟩ := h
  by_cases q : o ∈ a_ls A
  · have e : mnA A o = u_mt A (fs (a_mt A) o true) := by unfold mnA; rw [if_pos q]
    rw [e]
    refine ⟨w1, w2, w3, w4, w5, w6, w7, fun x hx => ?_, w9, w10⟩
    have hx2 : fs (a_mt A) o true x = true := hx
    by_cases q2 : x = o
    · rw [q2]; exact q
    · rw [fs_n q2] at hx2; exact w8 x hx2
  · have e : mnA A o = u_ls (u_mt A (fs (a_mt A) o true)) (a_ls A ++ [o]) := by unfold mnA; rw [if_neg q]
    rw [e]
    refine ⟨w1, w2, w3, w4, w5, ?_, fun x hx => ?_, fun x hx => ?_, w9, w10⟩
    · show (a_ls A ++ [o]).Nodup
      rw [List.nodup_append]
      refine ⟨w6, by simp, fun a ha b hb => ?_⟩
      rw [List.mem_singleton] at hb
      exact fun e => q (by rw [← hb, ← e]; exact ha)
    · rcases List.mem_append.mp hx with hx2 | hx2
      · exact w7 x hx2
      · rw [List.mem_singleton.mp hx2]; exact ht
    · have hx2 : fs (a_mt A) o true x = true := hx
      show x ∈ a_ls A ++ [o]
      by_cases q2 : x = o
      · rw [q2]; simp
      · rw [fs_n q2] at hx2
        exact List.mem_append_left _ (w8 x hx2)
theorem mem_mn {A : AS} {o x : Nat} (hx : x ∈ a_ls (mnA A o)) : x ∈ a_ls A ∨ x = o := by
  have hx2 : x ∈ (if o ∈ a_ls A then a_ls A else a_ls A ++ [o]) := hx
  by_cases q : o ∈ a_ls A
  · rw [if_pos q] at hx2; exact Or.inl hx2
  · rw [if_neg q] at hx2
    rcases List.mem_append.mp hx2 with h | h
    · exact Or.inl h
    · exact Or.inr (List.mem_singleton.mp h)
theorem J_mn {B : Nat} {A : AS} {st : List Nat} {o : Nat} (h : J B A st none) (ht : a_th A o = true) (ho : o ∉ st) : J B (mnA A o) st none := by
  obtain ⟨h1, h2, h3, h4, h5, h6⟩ := h
  refine ⟨W_mn h1 ht, h2, h3, fun x hx => ?_, (fun _ e => nomatch e), h6⟩
  obtain ⟨k1, k2, k3⟩ := h4 x hx
  refine ⟨k1, k2, fun q => ?_⟩
  rcases mem_mn q with q2 | q2
  · exact k3 q2
  · exact ho (q2 ▸ hx)
theorem W_dr {A : AS} (h : WF A) (o : Nat) : WF (drA A o) := by
  obtain ⟨w1, w2, w3, w4, w5, w6, w7, w8, w9, w10⟩ := h
  refine ⟨w1, w2, w3, w4, w5, List.Pairwise.filter _ w6, fun x hx => w7 x (List.mem_filter.mp hx).1, fun x hx => ?_, w9, w10⟩
  have hx2 : fs (a_mt A) o false x = true := hx
  by_cases q2 : x = o
  · subst q2; rw [fs_s] at hx2; cases hx2
  · rw [fs_n q2] at hx2
    exact List.mem_filter.mpr ⟨w8 x hx2, decide_eq_true q2⟩
theorem mem_dr {A : AS} {o : Nat} : o ∉ a_ls (drA A o) := fun q => by
  have := (List.mem_filter.mp q).2
  simp at this
theorem J_dr {B : Nat} {A : AS} {st : List Nat} (h : J B A st none) (o : Nat) : J B (drA A o) st none := by
  obtain ⟨h1, h2, h3, h4, h5, h6⟩ := h
  exact ⟨W_dr h1 o, h2, h3, fun x hx => ⟨(h4 x hx).1, (h4 x hx).2.1, fun q => (h4 x hx).2.2 (List.mem_filter.mp q).1⟩, (fun _ e => nomatch e), h6⟩
theorem J_push {B : Nat} {A : AS} {st : List Nat} {o : Nat} (h : J B A st none) (ht : a_th A o = true) (ho : o ∉ st) (hr : rf A o = 0) (hl : o ∉ a_ls A) : J B (lgA A 1 o) (st ++ [o]) none := by
  obtain ⟨h1, h2, h3, h4, h5, h6⟩ := h
  refine ⟨h1, h2, ?_, ?_, (fun _ e => nomatch e), ?_⟩
  · rw [List.nodup_append]
    refine ⟨h3, by simp, fun a ha b hb => ?_⟩
    rw [List.mem_singleton] at hb
    exact fun e => ho (by rw [← hb, ← e]; exact ha)
  · intro x hx
    rcases List.mem_append.mp hx with hx2 | hx2
    · exact h4 x hx2
    · rw [List.mem_singleton.mp hx2]; exact ⟨ht, hr, hl⟩
  · rw [List.length_append]
    show (a_lg A).1 + 1 + 5 * nt A + 2 * un A ≤ B + (st.length + 1)
    omega
theorem un_ran {A : AS} {o : Nat} (ho : o < 24) (ht : a_th A o = true) (hr : a_rn A o = false) : un (u_rn A (fs (a_rn A) o true)) + 1 = un A := by
  have := fb_ct_upd (fun x => a_th A x && !a_rn A x) false (i := o) (n := 24) ho
  have e : un (u_rn A (fs (a_rn A) o true)) = fb_ct (fun k => if k = o then false else (a_th A k && !a_rn A k)) 24 := fb_ct_cong (fun k _ => by
    show (a_th A k && !fs (a_rn A) o true k) = _
    unfold fs
    by_cases q : k = o
    · rw [if_pos q, if_pos q]; simp
    · rw [if_neg q, if_neg q])
  rw [e]
  unfold un
  simp only [ht, hr] at this
  simpa using this
theorem J_e3 {B : Nat} {A : AS} {st : List Nat} {o : Nat} (h : J B A st none) (ht : a_th A o = true) (hr : a_rn A o = false) : J B (e3A A o) st none ∧ (a_lg (e3A A o)).1 + 5 * nt (e3A A o) + 2 * un (e3A A o) + 1 ≤ B + st.length := by
  obtain ⟨h1, h2, h3, h4, h5, h6⟩ := h
  have e := un_ran (W_th h1 ht) ht hr
  have h7 : (a_lg A).1 + 1 + 5 * nt A + 2 * un (u_rn A (fs (a_rn A) o true)) + 1 ≤ B + st.length := by omega
  exact ⟨⟨h1, h2, h3, h4, h5, Nat.le_of_succ_le h7⟩, h7⟩
theorem J_e4 {B : Nat} {A : AS} {st : List Nat} {o : Nat} (h : J B A st none) (ht : a_th A o = true) (hr : a_rn A o = false) (ho : o ∉ st) (hf : rf A o = 0) (he : 2 ≤ a_en A o) : J B (e4A A o) st (a_rt A (a_en A o - 2)) := by
  obtain ⟨⟨h1, h2, h3, h4, h5, _⟩, h7⟩ := J_e3 h ht hr
  have w := h.1
  have hen := W_en w o
  have hr6 : a_en A o - 2 < 6 := by omega
  have e : e4A A o = ucA (u_rt (lgA (e3A A o) 4 o) (fs (a_rt A) (a_en A o - 2) (some o))) o := rfl
  have hrf : ∀ t, rf (e4A A o) t + (if a_rt A (a_en A o - 2) = some t then 1 else 0) = rf A t + (if some o = some t then 1 else 0) := by
    intro t
    have := rfR_u (a_rt A) hr6 (some o) t
    have e1 : rf (e4A A o) t = rfF (a_fd A) t + rfR (fs (a_rt A) (a_en A o - 2) (some o)) t := rfl
    have e2 : rf A t = rfF (a_fd A) t + rfR (a_rt A) t := rfl
    omega
  have hold : ∀ t, a_rt A (a_en A o - 2) = some t → 1 ≤ rf A t := by
    intro t q
    have h0 : rf A t ≠ 0 := fun q2 => rf_R q2 hr6 q
    omega
  refine ⟨?_, ?_, h3, ?_, ?_, ?_⟩
  · obtain ⟨w1, w2, w3, w4, w5, w6, w7, w8, w9, w10⟩ := w
    refine ⟨w1, w2, w3, fun r t q => ?_, w5, w6, w7, fun x hx => ?_, w9, w10⟩
    · have q2 : fs (a_rt A) (a_en A o - 2) (some o) r = some t := q
      by_cases q3 : r = a_en A o - 2
      · rw [q3, fs_s] at q2
        cases q2
        exact ⟨by omega, ht⟩
      · rw [fs_n q3] at q2
        exact w4 r t q2
    · have hx2 : fs (a_mt A) o false x = true := hx
      by_cases q2 : x = o
      · subst q2; rw [fs_s] at hx2; cases hx2
      · rw [fs_n q2] at hx2; exact w8 x hx2
  · intro t ht2
    have ht3 : a_th A t = true := ht2
    have h2t := h.2.1 t ht3
    rw [if_neg nn_ne] at h2t
    have hrt := hrf t
    show fs (a_ct A) o (a_ct A o + 1) t = (rf (e4A A o) t : Int) + (if a_rt A (a_en A o - 2) = some t then 1 else 0)
    by_cases q : t = o
    · subst q
      have hno : ¬ a_rt A (a_en A t - 2) = some t := rf_R hf hr6
      rw [if_neg hno] at hrt ⊢
      rw [if_pos rfl] at hrt
      rw [fs_s]
      omega
    · rw [if_neg (sm_ne q)] at hrt
      rw [fs_n q]
      by_cases q2 : a_rt A (a_en A o - 2) = some t
      · rw [if_pos q2] at hrt ⊢; omega
      · rw [if_neg q2] at hrt ⊢; omega
  · intro x hx
    obtain ⟨k1, k2, k3⟩ := h.2.2.2.1 x hx
    refine ⟨k1, ?_, k3⟩
    have hrt := hrf x
    have q : x ≠ o := fun q => ho (q ▸ hx)
    rw [if_neg (sm_ne q)] at hrt
    split at hrt <;> omega
  · intro t q
    refine ⟨(W_rt w q).2, fun q2 => ?_⟩
    have := hold t q
    have := (h.2.2.2.1 t q2).2.1
    omega
  · have h8 : (a_lg (e3A A o)).1 + 1 + 5 * nt (e3A A o) + 2 * un (e3A A o) ≤ B + st.length := by omega
    exact h8
theorem J_clr {B : Nat} {A : AS} {st : List Nat} {o k t : Nat} (h : J B A st none) (ho : o < 24) (hk : k < 4) (e : a_fd A o k = some t) : J B (u_fd A (f2 (a_fd A) o k none)) st (some t) := by
  obtain ⟨h1, h2, h3, h4, h5, h6⟩ := h
  have hrf : ∀ x, rf (u_fd A (f2 (a_fd A) o k none)) x + (if some t = some x then 1 else 0) = rf A x := by
    intro x
    have := rfF_u (a_fd A) ho hk none x
    rw [e, if_neg nn_ne] at this
    have e1 : rf (u_fd A (f2 (a_fd A) o k none)) x = rfF (f2 (a_fd A) o k none) x + rfR (a_rt A) x := rfl
    have e2 : rf A x = rfF (a_fd A) x + rfR (a_rt A) x := rfl
    omega
  refine ⟨?_, ?_, h3, ?_, ?_, h6⟩
  · obtain ⟨w1, w2, w3, w4, w5, w6⟩ := h1
    refine ⟨w1, w2, fun i j x q => ?_, w4, w5, w6⟩
    have q2 : f2 (a_fd A) o k none i j = some x := q
    unfold f2 at q2
    by_cases q3 : i = o ∧ j = k
    · rw [if_pos q3] at q2; cases q2
    · rw [if_neg q3] at q2; exact w3 i j x q2
  · intro x hx
    have hx2 : a_th A x = true := hx
    have h2x := h2 x hx2
    rw [if_neg nn_ne] at h2x
    have hrx := hrf x
    show a_ct A x = (rf (u_fd A (f2 (a_fd A) o k none)) x : Int) + _
    by_cases q : some t = some x
    · rw [if_pos q] at hrx ⊢; omega
    · rw [if_neg q] at hrx ⊢; omega
  · intro x hx
    obtain ⟨k1, k2, k3⟩ := h4 x hx
    refine ⟨k1, ?_, k3⟩
    have hrx := hrf x
    omega
  · intro x q
    cases q
    refine ⟨(W_fd h1 e).2.2, fun q2 => ?_⟩
    exact rf_F (h4 t q2).2.1 ho hk e
