/-! taking away, giving back: both sides -/
def SPR (F : Nat → Nat → Option Nat) (cl : Nat) (dl : Int) (s : Nat) (c : Nat → Nat) (t : Nat → Int) (v : Nat) (c' : Nat → Nat) (t' : Nat → Int) (v' : Nat) : Prop := ∃ D E, GP F cl dl s c t v D E c' t' v' ∧ ∀ y j z, D y = true → F y j = some z → E y j = true
def MPt (N : Nat) (A : AS) (f : (Nat → Int32) → Int32 → (Nat → Int32) → Int32 → Option ((Nat → Int32) × (Nat → Int32) × Int32)) (c : Nat → Nat) (t : Nat → Int) (v : Nat) (c' : Nat → Nat) (t' : Nat → Int) (v' : Nat) : Prop := ∀ (m0 : Nat → Int32) (b : Nat) (mm mco : Nat → Int32), b ≤ 5124 → RM m0 b mm (u_ct A t) → CP mco c → ∃ mm' mco', f mm (nI b) mco (nI v) = some (mm', mco', nI v') ∧ RM m0 b mm' (u_ct A t') ∧ CP mco' c'
def CPt (N : Nat) (A : AS) (f : Int32 → (Nat → Int32) → (Nat → Int32) → (Nat → Nat → Int32) → Option (Int32 × (Nat → Int32) × (Nat → Int32) × (Nat → Nat → Int32))) (c : Nat → Nat) (t : Nat → Int) (v : Nat) (c' : Nat → Nat) (t' : Nat → Int) (v' : Nat) : Prop := ∀ (X : Nat → Nat → Int32) (zcl zwa : Nat → Int32), RC X (u_ct A t) → CP zcl c → ∃ zcl' zwa' X', f (nI v) zcl zwa X = some (nI v', zcl', zwa', X') ∧ RC X' (u_ct A t') ∧ CP zcl' c'
theorem T_gray {A : AS} (w : WF A) {N : Nat} (hN : 1000 ≤ N) {s : Nat} (hts : a_th A s = true) (c : Nat → Nat) (t : Nat → Int) (v : Nat) : ∃ c' t' v', ((c s = 1 ∧ c' = c ∧ t' = t ∧ v' = v) ∨ (c s ≠ 1 ∧ SPR (a_fd A) 1 (-1) s c t v c' t' v')) ∧ MPt N A (fun mm d mco vi => fX12_grays N mm d mco vi (nI s)) c t v c' t' v' ∧ CPt N A (fun vi zcl zwa X => fX9_takesAway N vi zcl zwa X (nI s)) c t v c' t' v' := by
  have hs := W_th w hts
  by_cases q : c s = 1
  · refine ⟨c, t, v, Or.inl ⟨q, rfl, rfl, rfl⟩, fun m0 b mm mco hb hR hC => ⟨mm, mco, ?_, hR, hC⟩, fun X zcl zwa hX hC => ⟨zcl, zwa, X, ?_, hX, hC⟩⟩
    · show fX12_grays_o (fX12_grays_d N 63) N mm (nI b) mco (nI v) (nI s) = _
      unfold fX12_grays_o
      rw [inb_n hs (by decide), grd_t, cl_n (by omega), (hC s hs).1, q, if_pos (show nI 1 = 1 from rfl)]
    · show fX9_takesAway N (nI v) zcl zwa X (nI s) = _
      unfold fX9_takesAway
      rw [inb_n hs (by decide), grd_t, cl_n (by omega), (hC s hs).1, q, if_pos (show nI 1 = 1 from rfl)]
  · have hG := GP_init (a_fd A) (-1) t v hs q
    obtain ⟨D', E', c', t', v', g1, _, _, g4, g5⟩ := gr_loop w hN 63 (a_my A s) s 0 _ _ _ t (v + 1) hG fs_s hts (Nat.zero_add _) (fun j _ q1 => absurd q1 (Nat.not_lt_zero j)) (fun _ _ => rfl) (by omega)
    have hcmp : ∀ y j z, D' y = true → a_fd A y j = some z → E' y j = true := fun y j z q1 q2 => by
      by_cases q3 : y = s
      · exact g4 y j z q1 (Or.inr q3) q2
      · exact g4 y j z q1 (Or.inl (fs_n q3)) q2
    refine ⟨c', t', v', Or.inr ⟨q, D', E', g1, hcmp⟩, fun m0 b mm mco hb hR hC => ?_, fun X zcl zwa hX hC => ?_⟩
    · have hmy := W_my w s
      have hc3 := (hC s hs).2
      obtain ⟨mm', mco', e, r1, r2⟩ := g5 m0 b mm (upd mco s (nI 1)) N hb hR (CP_u hC s (by decide)) (by omega)
      refine ⟨mm', mco', ?_, r1, r2⟩
      have hb1 : fX12_becomes mco (nI v) (nI s) 1 = some (upd mco s (nI 1), nI (v + 1)) := becomes_c mco v hs 1
      show fX12_grays_o (fX12_grays_d N 63) N mm (nI b) mco (nI v) (nI s) = _
      unfold fX12_grays_o
      rw [inb_n hs (by decide), grd_t, cl_n (by omega), (hC s hs).1, if_neg (by rw [show (1 : Int32) = nI 1 from rfl, eq_n (by omega) (by omega)]; exact q), hb1, b2_s]
      exact e
    · have hc3 := (hC s hs).2
      obtain ⟨D2, E2, c2, t2, v2, X', zcl', zwa', e, k1, k2, k3, k4⟩ := C_spreads w hN (cl := 1) (dl := -1) (by decide) hts q (v := v) zwa hX hC
      obtain ⟨e1, e2, e3⟩ := GP_uniq g1 k1 hcmp k2
      subst e1 e2 e3
      refine ⟨zcl', zwa', X', ?_, k3, k4⟩
      show fX9_takesAway N (nI v) zcl zwa X (nI s) = _
      unfold fX9_takesAway
      have e' : fX9_spreads N (nI v) zcl zwa X (nI s) 1 (-1) = some (nI v', zcl', zwa', X') := e
      rw [inb_n hs (by decide), grd_t, cl_n (by omega), (hC s hs).1, if_neg (by rw [show (1 : Int32) = nI 1 from rfl, eq_n (by omega) (by omega)]; exact q), e', b4_s]
theorem T_black {A : AS} (w : WF A) {N : Nat} (hN : 1000 ≤ N) {s : Nat} (hts : a_th A s = true) {c : Nat → Nat} (q : c s ≠ 3) (t : Nat → Int) (v : Nat) : ∃ c' t' v', SPR (a_fd A) 3 1 s c t v c' t' v' ∧ MPt N A (fun mm d mco vi => fX12_givesBack N mm d mco vi (nI s)) c t v c' t' v' ∧ CPt N A (fun vi zcl zwa X => fX9_spreads N vi zcl zwa X (nI s) 3 1) c t v c' t' v' := by
  have hs := W_th w hts
  have hG := GP_init (a_fd A) 1 t v hs q
  obtain ⟨D', E', c', t', v', g1, _, _, g4, g5⟩ := gb_loop w hN 63 (a_my A s) s 0 _ _ _ t (v + 1) hG fs_s hts (Nat.zero_add _) (fun j _ q1 => absurd q1 (Nat.not_lt_zero j)) (fun _ _ => rfl) (by omega)
  have hcmp : ∀ y j z, D' y = true → a_fd A y j = some z → E' y j = true := fun y j z q1 q2 => by
    by_cases q3 : y = s
    · exact g4 y j z q1 (Or.inr q3) q2
    · exact g4 y j z q1 (Or.inl (fs_n q3)) q2
  refine ⟨c', t', v', ⟨D', E', g1, hcmp⟩, fun m0 b mm mco hb hR hC => ?_, fun X zcl zwa hX hC => ?_⟩
  · have hmy := W_my w s
    obtain ⟨mm', mco', e, r1, r2⟩ := g5 m0 b mm (upd mco s (nI 3)) N hb hR (CP_u hC s (by decide)) (by omega)
    refine ⟨mm', mco', ?_, r1, r2⟩
    have hb1 : fX12_becomes mco (nI v) (nI s) 3 = some (upd mco s (nI 3), nI (v + 1)) := becomes_c mco v hs 3
    show fX12_givesBack_o (fX12_givesBack_d N 63) N mm (nI b) mco (nI v) (nI s) = _
    unfold fX12_givesBack_o
    rw [hb1, b2_s]
    exact e
  · obtain ⟨D2, E2, c2, t2, v2, X', zcl', zwa', e, k1, k2, k3, k4⟩ := C_spreads w hN (cl := 3) (dl := 1) (by decide) hts q (v := v) zwa hX hC
    obtain ⟨e1, e2, e3⟩ := GP_uniq g1 k1 hcmp k2
    subst e1 e2 e3
    exact ⟨zcl', zwa', X', e, k3, k4⟩
/-! edges counted by the colours of their ends -/
def eC (p : Nat → Bool) : Nat → Nat → Bool := fun y _ => p y
theorem cE_cong {F : Nat → Nat → Option Nat} {E1 E2 : Nat → Nat → Bool} {x : Nat} (h : ∀ y j, y < 24 → j < 4 → F y j = some x → E1 y j = E2 y j) : cE F E1 x = cE F E2 x := fb_sm_cong (fun y hy => fb_ct_cong (fun j hj => by
  by_cases q : F y j = some x
  · rw [h y j hy hj q]
  · rw [decide_eq_false q]; simp))
theorem cE_or {F : Nat → Nat → Option Nat} {E1 E2 : Nat → Nat → Bool} {x : Nat} (h : ∀ y j, y < 24 → j < 4 → ¬ (E1 y j = true ∧ E2 y j = true)) : cE F (fun y j => E1 y j || E2 y j) x = cE F E1 x + cE F E2 x := by
  unfold cE
  rw [← fb_sm_add]
  exact fb_sm_cong (fun y hy => by
    rw [← fb_ct_or (fun j hj q => h y j hy hj (by
      rw [Bool.and_eq_true, Bool.and_eq_true] at q
      exact ⟨q.1.1, q.2.1⟩))]
    exact fb_ct_cong (fun j _ => by
      show ((E1 y j || E2 y j) && decide (F y j = some x)) = ((E1 y j && decide (F y j = some x)) || (E2 y j && decide (F y j = some x)))
      cases E1 y j <;> cases E2 y j <;> simp))
theorem cE_all (F : Nat → Nat → Option Nat) (x : Nat) : cE F (fun _ _ => true) x = rfF F x := fb_sm_cong (fun y _ => fb_ct_cong (fun j _ => by simp))
theorem cE_le (F : Nat → Nat → Option Nat) (E : Nat → Nat → Bool) (x : Nat) : cE F E x ≤ rfF F x := by
  rw [← cE_all]
  exact fb_sm_le (fun y _ => fb_ct_sub (fun j _ q => by
    rw [Bool.and_eq_true] at q
    simp [q.2]))
theorem cE_0e {F : Nat → Nat → Option Nat} {E : Nat → Nat → Bool} {x : Nat} (h : cE F E x = 0) {y j : Nat} (hy : y < 24) (hj : j < 4) (hE : E y j = true) : F y j ≠ some x := by
  intro q
  have h2 := fb_sm_zero h y hy
  have h3 := fb_ct_zero.mp h2 j hj
  rw [hE, q] at h3
  simp at h3
