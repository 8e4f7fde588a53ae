/-! the way: how far -/
def wi (F : Nat → Nat → Option Nat) (t : Nat) : Nat → Nat → Prop
  | 0 => fun x => x = t
  | k + 1 => fun x => wi F t k x ∨ ∃ j y, F x j = some y ∧ wi F t k y
theorem wi_le {F : Nat → Nat → Option Nat} {t x : Nat} : ∀ {k k' : Nat}, k ≤ k' → wi F t k x → wi F t k' x := by
  intro k k' h
  induction k' with
  | zero => intro q; rw [show k = 0 by omega] at q; exact q
  | succ n ih =>
    intro q
    by_cases c : k = n + 1
    · rw [c] at q; exact q
    · exact Or.inl (ih (by omega) q)
theorem wi_ap {F : Nat → Nat → Option Nat} {t s j : Nat} (e : F t j = some s) : ∀ k x, wi F t k x → wi F s (k + 1) x := by
  intro k
  induction k with
  | zero => intro x q; exact Or.inr ⟨j, s, by rw [show x = t from q]; exact e, rfl⟩
  | succ k ih =>
    intro x q
    rcases q with q | ⟨i, y, e2, q⟩
    · exact Or.inl (ih x q)
    · exact Or.inr ⟨i, y, e2, ih y q⟩
noncomputable def wb (F : Nat → Nat → Option Nat) (t k x : Nat) : Bool := @decide (wi F t k x) (Classical.propDecidable _)
theorem wb_i {F : Nat → Nat → Option Nat} {t k x : Nat} : wb F t k x = true ↔ wi F t k x := @decide_eq_true_iff (wi F t k x) (Classical.propDecidable _)
theorem wb_n {F : Nat → Nat → Option Nat} {t k x : Nat} (h : ¬ wi F t k x) : wb F t k x = false := by
  cases e : wb F t k x with
  | false => rfl
  | true => exact absurd (wb_i.mp e) h
noncomputable def dst (F : Nat → Nat → Option Nat) (t x : Nat) : Nat := @dite Nat (∃ k, wi F t k x) (Classical.propDecidable _) (fun h => Classical.choose (pk_least (fun k => wi F t k x) h)) (fun _ => 0)
theorem dst_w {F : Nat → Nat → Option Nat} {t x k : Nat} (h : wi F t k x) : wi F t (dst F t x) x ∧ ∀ j, j < dst F t x → ¬ wi F t j x := by
  have h0 : ∃ k, wi F t k x := ⟨k, h⟩
  have e : dst F t x = Classical.choose (pk_least (fun k => wi F t k x) h0) := dif_pos h0
  rw [e]
  exact Classical.choose_spec (pk_least (fun k => wi F t k x) h0)
theorem dst_le {F : Nat → Nat → Option Nat} {t x k : Nat} (h : wi F t k x) : dst F t x ≤ k := by
  have := (dst_w h).2 k
  apply Classical.byContradiction
  intro q
  exact this (by omega) h
theorem dst_eq {F : Nat → Nat → Option Nat} {t x d : Nat} (h : wi F t d x) (h2 : ∀ j, j < d → ¬ wi F t j x) : dst F t x = d := by
  have h3 := dst_le h
  have h4 := (dst_w h).1
  apply Classical.byContradiction
  intro q
  exact h2 _ (by omega) h4
noncomputable def fro (F : Nat → Nat → Option Nat) (t m x : Nat) : Bool := wb F t m x && decide (dst F t x = m)
theorem fro_i {F : Nat → Nat → Option Nat} {t m x : Nat} : fro F t m x = true ↔ wi F t m x ∧ dst F t x = m := by
  unfold fro
  rw [Bool.and_eq_true, wb_i, decide_eq_true_iff]
noncomputable def zv (F : Nat → Nat → Option Nat) (t m x : Nat) : Int32 := if wb F t m x then nI (dst F t x) else -1
theorem zv_t {F : Nat → Nat → Option Nat} {t m x : Nat} (h : wi F t m x) : zv F t m x = nI (dst F t x) := if_pos (wb_i.mpr h)
theorem zv_f {F : Nat → Nat → Option Nat} {t m x : Nat} (h : ¬ wi F t m x) : zv F t m x = -1 := by
  unfold zv; rw [wb_n h]; rfl
theorem fro_cl {F : Nat → Nat → Option Nat} {t m : Nat} (hF : ∀ x j y, F x j = some y → y < 24) (h : ∀ y, y < 24 → fro F t m y = false) : ∀ k x, wi F t k x → wi F t m x := by
  intro k
  induction k with
  | zero => intro x q; exact wi_le (Nat.zero_le m) q
  | succ k ih =>
    intro x q
    rcases q with q | ⟨j, y, e, q⟩
    · exact ih x q
    · have hy := ih y q
      have hd := dst_le hy
      have hne : dst F t y ≠ m := fun c => by
        have := fro_i.mpr ⟨hy, c⟩
        rw [h y (hF x j y e)] at this; cases this
      exact wi_le (k := dst F t y + 1) (by omega) (Or.inr ⟨j, y, e, (dst_w hy).1⟩)
theorem nx_some {A : AS} (w : WF A) {x j y : Nat} (e : a_fd A x j = some y) : nx (a_fd A) x y = true := nx_iff.mpr ⟨j, by have := (W_fd w e).2.1; have := W_my w x; omega, e⟩
theorem meas_in {X : Nat → Nat → Int32} {A : AS} (h : RC X A) (w : WF A) {N : Nat} (hN : 24 < N) {t m : Nat} (hm : m < 23) (p2 : Int32) (K : (Nat → Int32) → Int32 → Int32 → Option (Nat → Int32)) : ∀ n j z, j ≤ 24 → (∀ x, x < 24 → z x = if x < j then zv (a_fd A) t (m + 1) x else zv (a_fd A) t m x) → 24 - j < n → ∃ z', (∀ x, x < 24 → z' x = zv (a_fd A) t (m + 1) x) ∧ fX10_measures_39 N X p2 K n z (bs (fro (a_fd A) t m)) (nI (m + 1)) (bsn (fro (a_fd A) t (m + 1)) j) (nI j) = K z' (bs (fro (a_fd A) t (m + 1))) (nI (m + 2)) := by
  intro n
  induction n with
  | zero => intro j z _ _ h; omega
  | succ n ih =>
    intro j z hj hz hn
    have eC : fX10_measures_39 N X p2 K (n + 1) z (bs (fro (a_fd A) t m)) (nI (m + 1)) (bsn (fro (a_fd A) t (m + 1)) j) (nI j) = fX10_measures_39b N X p2 K (fX10_measures_39 N X p2 K n) z (bs (fro (a_fd A) t m)) (nI (m + 1)) (bsn (fro (a_fd A) t (m + 1)) j) (nI j) := rfl
    by_cases q : j = 24
    · subst q
      refine ⟨z, fun x hx => by rw [hz x hx, if_pos hx], ?_⟩
      rw [eC]
      unfold fX10_measures_39b
      rw [if_pos (by rw [le_24 (by omega)]; omega), nI_1]
      rfl
    · have hj' : j < 24 := by omega
      have hzj : z j = zv (a_fd A) t m j := by rw [hz j hj', if_neg (by omega)]
      have keep : zv (a_fd A) t (m + 1) j = zv (a_fd A) t m j → (∀ x, x < 24 → z x = if x < j + 1 then zv (a_fd A) t (m + 1) x else zv (a_fd A) t m x) := fun e x hx => by
        rw [hz x hx]
        by_cases c : x = j
        · subst c; rw [if_neg (by omega), if_pos (by omega), e]
        · by_cases c2 : x < j
          · rw [if_pos c2, if_pos (by omega)]
          · rw [if_neg c2, if_neg (by omega)]
      have bit0 : ¬ (wi (a_fd A) t (m + 1) j ∧ dst (a_fd A) t j = m + 1) → bsn (fro (a_fd A) t (m + 1)) j = bsn (fro (a_fd A) t (m + 1)) (j + 1) := fun e => by
        show _ = bsn (fro (a_fd A) t (m + 1)) j ||| jshl (bI (fro (a_fd A) t (m + 1) j)) (nI j)
        have : fro (a_fd A) t (m + 1) j = false := by
          cases c : fro (a_fd A) t (m + 1) j with
          | false => rfl
          | true => exact absurd (fro_i.mp c) e
        rw [this, jshl_f hj', or0]
      rw [eC]
      unfold fX10_measures_39b
      rw [if_neg (by rw [le_24 (by omega)]; omega), inb_n hj' (by decide), grd_t, cl_n (by omega), hzj, C_fieldBits h w hj' hN, b1_s, bs_and, grd_t, lt_e, nI_1]
      by_cases c1 : wi (a_fd A) t m j
      · have hd := dst_le c1
        rw [zv_t c1, if_neg (nI_ne1 (by omega)), bit0 (fun c => by omega)]
        exact ih (j + 1) z (by omega) (keep (by rw [zv_t c1, zv_t (wi_le (by omega) c1)])) (by omega)
      · rw [zv_f c1, if_pos rfl]
        by_cases c2 : bs (fun x => nx (a_fd A) j x && fro (a_fd A) t m x) = 0
        · have c3 : ¬ wi (a_fd A) t (m + 1) j := fun c => by
            rcases c with c | ⟨i, y, e, c⟩
            · exact c1 c
            · have hd := dst_le c
              by_cases c4 : dst (a_fd A) t y = m
              · have hy := W_sf w j i y e
                have := bs_eq0.mp c2 y hy
                rw [nx_some w e, fro_i.mpr ⟨c, c4⟩] at this
                cases this
              · exact c1 (wi_le (k := dst (a_fd A) t y + 1) (by omega) (Or.inr ⟨i, y, e, (dst_w c).1⟩))
          rw [if_pos c2, bit0 (fun c => c3 c.1)]
          exact ih (j + 1) z (by omega) (keep (by rw [zv_f c1, zv_f c3])) (by omega)
        · rw [if_neg c2]
          obtain ⟨y, hy, hl⟩ := low_ex c2
          have hl1 := hl.1
          rw [Bool.and_eq_true] at hl1
          obtain ⟨i, _, e⟩ := nx_iff.mp hl1.1
          have c3 : wi (a_fd A) t (m + 1) j := Or.inr ⟨i, y, e, (fro_i.mp hl1.2).1⟩
          have hd : dst (a_fd A) t j = m + 1 := dst_eq c3 (fun k hk c => c1 (wi_le (by omega) c))
          have hb : bsn (fro (a_fd A) t (m + 1)) j ||| jshl 1 (nI j) = bsn (fro (a_fd A) t (m + 1)) (j + 1) := by
            show _ = bsn (fro (a_fd A) t (m + 1)) j ||| jshl (bI (fro (a_fd A) t (m + 1) j)) (nI j)
            rw [fro_i.mpr ⟨c3, hd⟩]; rfl
          rw [hb]
          refine ih (j + 1) (upd z j (nI (m + 1))) (by omega) (fun x hx => ?_) (by omega)
          by_cases c : x = j
          · subst c; rw [pk_us, if_pos (by omega), zv_t c3, hd]
          · rw [pk_un c, hz x hx]
            by_cases c2 : x < j
            · rw [if_pos c2, if_pos (by omega)]
            · rw [if_neg c2, if_neg (by omega)]
theorem meas_out {X : Nat → Nat → Int32} {A : AS} (h : RC X A) (w : WF A) {N : Nat} (hN : 24 < N) {t : Nat} (p2 : Int32) : ∀ n m z, m ≤ 23 → (∀ x, x < 24 → z x = zv (a_fd A) t m x) → (¬ bs (fro (a_fd A) t m) = 0 → m + 1 ≤ fb_ct (wb (a_fd A) t m) 24) → 24 - m ≤ n → ∃ z' m', m' ≤ 23 ∧ fX10_measures_22 N X p2 n z (bs (fro (a_fd A) t m)) (nI (m + 1)) = some z' ∧ (∀ x, x < 24 → z' x = zv (a_fd A) t m' x) ∧ ∀ k x, x < 24 → wi (a_fd A) t k x → wi (a_fd A) t m' x := by
  intro n
  induction n with
  | zero => intro m z hm _ _ h; omega
  | succ n ih =>
    intro m z hm hz hc hn
    have eC : fX10_measures_22 N X p2 (n + 1) z (bs (fro (a_fd A) t m)) (nI (m + 1)) = fX10_measures_22b N X p2 (fX10_measures_22 N X p2 n) z (bs (fro (a_fd A) t m)) (nI (m + 1)) := rfl
    rw [eC]
    unfold fX10_measures_22b
    by_cases q0 : bs (fro (a_fd A) t m) = 0
    · refine ⟨z, m, hm, ?_, hz, fun k x _ q => fro_cl (fun x j y e => W_sf w x j y e) (fun y hy => bs_eq0.mp q0 y hy) k x q⟩
      rw [if_pos q0]
      by_cases c : (24 : Int32) ≤ nI (m + 1)
      · rw [if_pos c]
      · rw [if_neg c]
    · have hct := hc q0
      have hle := fb_ct_le (wb (a_fd A) t m) 24
      by_cases q : m = 23
      · subst q
        refine ⟨z, 23, by omega, ?_, hz, fun k x hx _ => wb_i.mp (fb_ct_all.mp (by omega) x hx)⟩
        rw [if_pos (by rw [le_24 (by omega)]; omega)]
      · obtain ⟨z', h1, h2⟩ := meas_in h w hN (m := m) (t := t) (by omega) p2 (fX10_measures_22 N X p2 n) N 0 z (by omega) (fun x hx => by rw [hz x hx, if_neg (Nat.not_lt_zero x)]) (by omega)
        have h2' : fX10_measures_39 N X p2 (fX10_measures_22 N X p2 n) N z (bs (fro (a_fd A) t m)) (nI (m + 1)) 0 0 = fX10_measures_22 N X p2 n z' (bs (fro (a_fd A) t (m + 1))) (nI (m + 2)) := h2
        rw [if_neg (by rw [le_24 (by omega)]; omega), if_neg q0, h2']
        refine ih (m + 1) z' (by omega) h1 (fun c => ?_) (by omega)
        obtain ⟨y, hy, hl⟩ := low_ex c
        have hl1 := fro_i.mp hl.1
        have hs := ct_sub (p := wb (a_fd A) t (m + 1)) (q := wb (a_fd A) t m) (fun x q => wb_i.mpr (wi_le (by omega) (wb_i.mp q))) 24
        have hpos : ¬ fb_ct (fun x => wb (a_fd A) t (m + 1) x && !wb (a_fd A) t m x) 24 = 0 := fun c2 => by
          have := fb_ct_zero.mp c2 y hy
          rw [wb_i.mpr hl1.1, wb_n (fun c3 => by have := dst_le c3; omega)] at this
          cases this
        omega
theorem C_meas {X : Nat → Nat → Int32} {A : AS} (h : RC X A) (w : WF A) {N : Nat} (hN : 24 < N) {t : Nat} (ht : t < 24) (zfr : Nat → Int32) : ∃ z' m, m ≤ 23 ∧ fX10_measures N zfr X (nI t) = some z' ∧ (∀ x, x < 24 → z' x = zv (a_fd A) t m x) ∧ ∀ k x, x < 24 → wi (a_fd A) t k x → wi (a_fd A) t m x := by
  have hfill : ∃ z0, fJ7_fill_53178_fr N zfr (-1) = some z0 ∧ ∀ i, i < 24 → z0 i = -1 := by
    refine ⟨upk zfr (fun _ => -1) 24, ?_, fun i hi => upk_s hi⟩
    have := lpE (fun n j => fJ7_fill_53178_fr_5 N (-1) n (upk zfr (fun _ => -1) j) (nI j) 24) 24 (some (upk zfr (fun _ => -1) 24)) (fun n j hj => ?_) (fun n => ?_) N 0 (by omega) (by omega)
    · rw [upk_0] at this; exact this
    · show fJ7_fill_53178_fr_5b N (-1) (fJ7_fill_53178_fr_5 N (-1) n) (upk zfr (fun _ => -1) j) (nI j) 24 = fJ7_fill_53178_fr_5 N (-1) n (upk zfr (fun _ => -1) (j + 1)) (nI (j + 1)) 24
      unfold fJ7_fill_53178_fr_5b
      rw [if_neg (by rw [le_24 (by omega)]; omega), inb_n hj (by decide), grd_t, cl_n (by omega), lt_e, nI_1, ← upk_1]
    · show fJ7_fill_53178_fr_5b N (-1) (fJ7_fill_53178_fr_5 N (-1) n) (upk zfr (fun _ => -1) 24) (nI 24) 24 = _
      unfold fJ7_fill_53178_fr_5b
      rw [if_pos (by rw [le_24 (by omega)]; omega)]
  obtain ⟨z0, e0, k0⟩ := hfill
  have h0 : wi (a_fd A) t 0 t := rfl
  have hd0 : dst (a_fd A) t t = 0 := by have := dst_le h0; omega
  have hf : bs (fro (a_fd A) t 0) = bs (fun j => decide (j = t)) := bs_ext (fun x hx => by
    by_cases c : x = t
    · subst c; rw [fro_i.mpr ⟨h0, hd0⟩, decide_eq_true rfl]
    · rw [decide_eq_false c]
      cases e : fro (a_fd A) t 0 x with
      | false => rfl
      | true => exact absurd (fro_i.mp e).1 c)
  obtain ⟨z', m, h1, h2, h3, h4⟩ := meas_out h w hN (t := t) (nI t) N 0 (upd z0 t 0) (by omega) (fun x hx => by
    by_cases c : x = t
    · subst c; rw [pk_us, zv_t h0, hd0]; rfl
    · rw [pk_un c, k0 x hx, zv_f (F := a_fd A) (t := t) (m := 0) (x := x) (fun q => c q)]) (fun _ => by
      apply Classical.byContradiction
      intro q
      have hz : fb_ct (wb (a_fd A) t 0) 24 = 0 := by omega
      have := fb_ct_zero.mp hz t ht
      rw [wb_i.mpr h0] at this; cases this) (by omega)
  refine ⟨z', m, h1, ?_, h3, h4⟩
  unfold fX10_measures
  rw [e0, b1_s, inb_n ht (by decide), grd_t, cl_n (by omega), lt_e, bs_one ht, ← hf]
  exact h2
