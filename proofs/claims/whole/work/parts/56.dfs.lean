/-! reference: grays, givesBack -/
def CP (z : Nat → Int32) (c : Nat → Nat) : Prop := ∀ o, o < 24 → z o = nI (c o) ∧ c o ≤ 3
theorem CP_u {z : Nat → Int32} {c : Nat → Nat} (h : CP z c) (o : Nat) {cl : Nat} (hc : cl ≤ 3) : CP (upd z o (nI cl)) (fs c o cl) := by
  intro i hi
  by_cases q : i = o
  · subst q; rw [pk_us, fs_s]; exact ⟨rfl, hc⟩
  · rw [pk_un q, fs_n q]; exact h i hi
theorem becomes_c (mco : Nat → Int32) (v : Nat) {o : Nat} (ho : o < 24) (cl : Nat) : fX12_becomes mco (nI v) (nI o) (nI cl) = some (upd mco o (nI cl), nI (v + 1)) := by
  unfold fX12_becomes
  rw [inb_n ho (by decide), grd_t, cl_n (by omega), lt_e, nI_1, lt_e]
theorem ctx {B : AS} {t : Nat → Int} (z : Nat) : a_ct (u_ct B t) z = t z := rfl
theorem GP_card {F : Nat → Nat → Option Nat} {cl : Nat} {dl : Int} {s : Nat} {c : Nat → Nat} {t : Nat → Int} {v : Nat} {D : Nat → Bool} {E : Nat → Nat → Bool} {c' : Nat → Nat} {t' : Nat → Int} {v' : Nat} (h : GP F cl dl s c t v D E c' t' v') : v' = v + fb_ct D 24 := h.2.2.2.2.2.2.2
theorem gr_loop {A : AS} (w : WF A) {N : Nat} (hN : 1000 ≤ N) {s : Nat} {c : Nat → Nat} {t : Nat → Int} {v : Nat} : ∀ (d r x k : Nat) (D : Nat → Bool) (E : Nat → Nat → Bool) (c' : Nat → Nat) (t' : Nat → Int) (v' : Nat), GP (a_fd A) 1 (-1) s c t v D E c' t' v' → D x = true → a_th A x = true → k + r = a_my A x → (∀ j z, j < k → a_fd A x j = some z → E x j = true) → (∀ j, k ≤ j → E x j = false) → 24 - fb_ct D 24 < d →
    ∃ D' E' c'' t'' v'', GP (a_fd A) 1 (-1) s c t v D' E' c'' t'' v'' ∧ (∀ y, D y = true → D' y = true) ∧ (∀ y j, D y = true → y ≠ x → E' y j = E y j) ∧ (∀ y j z, D' y = true → (D y = false ∨ y = x) → a_fd A y j = some z → E' y j = true) ∧
    (∀ (m0 : Nat → Int32) (b : Nat) (mm mco : Nat → Int32) (f : Nat), b ≤ 5124 → RM m0 b mm (u_ct A t') → CP mco c' → r < f → ∃ mm' mco', fX12_grays_o_19 (fX12_grays_d N d) N (nI b) (nI x) f mm mco (nI v') (nI k) = some (mm', mco', nI v'') ∧ RM m0 b mm' (u_ct A t'') ∧ CP mco' c'') := by
  intro d
  induction d with
  | zero => intro r x k D E c' t' v' _ _ _ _ _ _ h; omega
  | succ d IH =>
    intro r
    induction r with
    | zero =>
      intro x k D E c' t' v' hG hx ht hk hc1 hc2 hm
      have hx24 := W_th w ht
      have hmy := W_my w x
      refine ⟨D, E, c', t', v', hG, fun _ h => h, fun _ _ _ _ => rfl, fun y j z q1 q2 q3 => ?_, fun m0 b mm mco f hb hR hC hf => ⟨mm, mco, ?_, hR, hC⟩⟩
      · rcases q2 with q2 | q2
        · rw [q1] at q2; cases q2
        · subst q2
          have := (W_fd w q3).2.1
          exact hc1 j z (by omega) q3
      · obtain ⟨f', rfl⟩ : ∃ f', f = f' + 1 := ⟨f - 1, by omega⟩
        show fX12_grays_o_19b (fX12_grays_d N (d + 1)) N (nI b) (nI x) (fX12_grays_o_19 (fX12_grays_d N (d + 1)) N (nI b) (nI x) f') mm mco (nI v') (nI k) = _
        unfold fX12_grays_o_19b
        have e1 : fX12_of mm (nI b) (nI x) 1 = some (nI (a_my A x)) := M_of1 hR hb hx24 ht
        rw [e1, b1_s, if_pos (by rw [le_n (by omega) (by omega)]; omega)]
    | succ r ih =>
      intro x k D E c' t' v' hG hx ht hk hc1 hc2 hm
      have hx24 := W_th w ht
      have hmy := W_my w x
      have hk4 : k < 4 := by omega
      cases e : a_fd A x k with
      | none =>
        obtain ⟨D', E', c'', t'', v'', g1, g2, g3, g4, g5⟩ := ih x (k + 1) D E c' t' v' hG hx ht (by omega) (fun j z q1 q2 => by
          by_cases q : j = k
          · rw [q, e] at q2; cases q2
          · exact hc1 j z (by omega) q2) (fun j q => hc2 j (by omega)) hm
        refine ⟨D', E', c'', t'', v'', g1, g2, g3, g4, fun m0 b mm mco f hb hR hC hf => ?_⟩
        obtain ⟨f', rfl⟩ : ∃ f', f = f' + 1 := ⟨f - 1, by omega⟩
        obtain ⟨mm', mco', e5, r5, c5⟩ := g5 m0 b mm mco f' hb hR hC (by omega)
        refine ⟨mm', mco', ?_, r5, c5⟩
        show fX12_grays_o_19b (fX12_grays_d N (d + 1)) N (nI b) (nI x) (fX12_grays_o_19 (fX12_grays_d N (d + 1)) N (nI b) (nI x) f') mm mco (nI v') (nI k) = _
        unfold fX12_grays_o_19b
        have e1 : fX12_of mm (nI b) (nI x) 1 = some (nI (a_my A x)) := M_of1 hR hb hx24 ht
        have e2 : fX12_fieldOf mm (nI b) (nI x) (nI k) = some (oI (a_fd A x k)) := M_fieldOf hR hb hx24 hk4 ht
        rw [e1, b1_s, if_neg (by rw [le_n (by omega) (by omega)]; omega), e2, b1_s, e, oI_n, if_pos neg1_lt, nI_1, e5]
      | some z =>
        obtain ⟨_, _, htz⟩ := W_fd w e
        have hz24 := W_th w htz
        have hEk := hc2 k (Nat.le_refl k)
        have hstep : ∀ (m0 : Nat → Int32) (b : Nat) (mm mco : Nat → Int32) (f : Nat), b ≤ 5124 → RM m0 b mm (u_ct A t') → ∃ m1, RM m0 b m1 (u_ct A (fs t' z (t' z + (-1)))) ∧ fX12_grays_o_19 (fX12_grays_d N (d + 1)) N (nI b) (nI x) (f + 1) mm mco (nI v') (nI k) = bnd3 (fX12_grays_d N (d + 1) m1 (nI b) mco (nI v') (nI z)) fun m2 c2 w2 => fX12_grays_o_19 (fX12_grays_d N (d + 1)) N (nI b) (nI x) f m2 c2 w2 (nI (k + 1)) := by
          intro m0 b mm mco f hb hR
          obtain ⟨m1, e3, r3⟩ := M_put5 hR hb hz24 (t' z + (-1))
          refine ⟨m1, r3, ?_⟩
          show fX12_grays_o_19b (fX12_grays_d N (d + 1)) N (nI b) (nI x) (fX12_grays_o_19 (fX12_grays_d N (d + 1)) N (nI b) (nI x) f) mm mco (nI v') (nI k) = _
          unfold fX12_grays_o_19b
          have e1 : fX12_of mm (nI b) (nI x) 1 = some (nI (a_my A x)) := M_of1 hR hb hx24 ht
          have e2 : fX12_fieldOf mm (nI b) (nI x) (nI k) = some (oI (a_fd A x k)) := M_fieldOf hR hb hx24 hk4 ht
          have e4 : fX12_of mm (nI b) (nI z) 5 = some (cI (t' z)) := M_of5 hR hb hz24 htz
          have e3' : fX12_puts mm (nI b) (nI z) 5 (cI (t' z + -1)) = some m1 := e3
          rw [e1, b1_s, if_neg (by rw [le_n (by omega) (by omega)]; omega), e2, b1_s, e, oI_s, if_neg (nI_nlt0 (by omega)), e4, b1_s, show cI (t' z) - 1 = cI (t' z + -1) from cI_sub (t' z), e3', b1_s, nI_1]
        by_cases q : c' z = 1
        · have hG2 := GP_old hG hx hk4 hEk e q
          obtain ⟨D', E', c'', t'', v'', g1, g2, g3, g4, g5⟩ := ih x (k + 1) D (e2 E x k) c' (fs t' z (t' z + (-1))) v' hG2 hx ht (by omega) (fun j y q1 q2 => by
            by_cases q3 : j = k
            · rw [q3]; exact e2_s E x k
            · exact e2_m (hc1 j y (by omega) q2)) (fun j q1 => by rw [e2_n (by omega)]; exact hc2 j (by omega)) hm
          refine ⟨D', E', c'', t'', v'', g1, g2, fun y j q1 q2 => ?_, g4, fun m0 b mm mco f hb hR hC hf => ?_⟩
          · rw [g3 y j q1 q2, e2_n (fun q3 => q2 q3.1)]
          · obtain ⟨f', rfl⟩ : ∃ f', f = f' + 1 := ⟨f - 1, by omega⟩
            obtain ⟨m1, r1, e1⟩ := hstep m0 b mm mco f' hb hR
            obtain ⟨mm', mco', e5, r5, c5⟩ := g5 m0 b m1 mco f' hb r1 hC (by omega)
            refine ⟨mm', mco', ?_, r5, c5⟩
            rw [e1]
            have hrec : fX12_grays_d N (d + 1) m1 (nI b) mco (nI v') (nI z) = some (m1, mco, nI v') := by
              show fX12_grays_o (fX12_grays_d N d) N m1 (nI b) mco (nI v') (nI z) = _
              unfold fX12_grays_o
              rw [inb_n hz24 (by decide), grd_t, cl_n (by omega), (hC z hz24).1, q, if_pos (show nI 1 = 1 from rfl)]
            rw [hrec, b3_s, e5]
        · obtain ⟨hDz, hG2⟩ := GP_new hG hx hk4 hEk e hz24 q
          have hcard : fb_ct (fs D z true) 24 = fb_ct D 24 + 1 := by
            have a1 := GP_card hG
            have a2 := GP_card hG2
            omega
          have hle : fb_ct (fs D z true) 24 ≤ 24 := fb_ct_le _ _
          have hzx : z ≠ x := fun q3 => by rw [q3, hx] at hDz; cases hDz
          have hEz : ∀ j, e2 E x k z j = false := by
            intro j
            rw [e2_n (fun q3 => hzx q3.1)]
            cases q3 : E z j with
            | false => rfl
            | true => rw [hG.2.2.1 z j q3] at hDz; cases hDz
          obtain ⟨D1, E1, c1, t1, v1, i1, i2, i3, i4, i5⟩ := IH (a_my A z) z 0 (fs D z true) (e2 E x k) (fs c' z 1) (fs t' z (t' z + (-1))) (v' + 1) hG2 fs_s htz (Nat.zero_add _) (fun j _ q1 => absurd q1 (Nat.not_lt_zero j)) (fun j _ => hEz j) (by omega)
          have hDm : ∀ y, D y = true → fs D z true y = true := fun y hy => by
            by_cases q3 : y = z
            · rw [q3, fs_s]
            · rw [fs_n q3]; exact hy
          have hcard1 : fb_ct (fs D z true) 24 ≤ fb_ct D1 24 := fb_ct_sub (fun y _ q1 => i2 y q1)
          have hx1 : D1 x = true := i2 x (hDm x hx)
          have hEx : ∀ j, E1 x j = e2 E x k x j := fun j => i3 x j (hDm x hx) (fun q3 => hzx q3.symm)
          obtain ⟨D', E', c'', t'', v'', g1, g2, g3, g4, g5⟩ := ih x (k + 1) D1 E1 c1 t1 v1 i1 hx1 ht (by omega) (fun j y q1 q2 => by
            rw [hEx j]
            by_cases q3 : j = k
            · rw [q3]; exact e2_s E x k
            · exact e2_m (hc1 j y (by omega) q2)) (fun j q1 => by rw [hEx j, e2_n (by omega)]; exact hc2 j (by omega)) (by omega)
          refine ⟨D', E', c'', t'', v'', g1, fun y hy => g2 y (i2 y (hDm y hy)), fun y j q1 q2 => ?_, fun y j u q1 q2 q3 => ?_, fun m0 b mm mco f hb hR hC hf => ?_⟩
          · have hyz : y ≠ z := fun q3 => by rw [q3, hDz] at q1; cases q1
            rw [g3 y j (i2 y (hDm y q1)) q2, i3 y j (hDm y q1) hyz, e2_n (fun q3 => q2 q3.1)]
          · by_cases q4 : y = x
            · exact g4 y j u q1 (Or.inr q4) q3
            · have q5 : D y = false := q2.elim id (fun q6 => absurd q6 q4)
              cases q6 : D1 y with
              | false => exact g4 y j u q1 (Or.inl q6) q3
              | true =>
                rw [g3 y j q6 q4]
                by_cases q7 : y = z
                · exact i4 y j u q6 (Or.inr q7) q3
                · exact i4 y j u q6 (Or.inl (by rw [fs_n q7]; exact q5)) q3
          · obtain ⟨f', rfl⟩ : ∃ f', f = f' + 1 := ⟨f - 1, by omega⟩
            obtain ⟨m1, r1, e1⟩ := hstep m0 b mm mco f' hb hR
            have hmz := W_my w z
            obtain ⟨m2, mc2, e6, r6, c6⟩ := i5 m0 b m1 (upd mco z (nI 1)) N hb r1 (CP_u hC z (by decide)) (by omega)
            obtain ⟨mm', mco', e5, r5, c5⟩ := g5 m0 b m2 mc2 f' hb r6 c6 (by omega)
            refine ⟨mm', mco', ?_, r5, c5⟩
            have e6' : fX12_grays_o_19 (fX12_grays_d N d) N (nI b) (nI z) N m1 (upd mco z (nI 1)) (nI (v' + 1)) 0 = some (m2, mc2, nI v1) := e6
            have hrec : fX12_grays_d N (d + 1) m1 (nI b) mco (nI v') (nI z) = some (m2, mc2, nI v1) := by
              show fX12_grays_o (fX12_grays_d N d) N m1 (nI b) mco (nI v') (nI z) = _
              unfold fX12_grays_o
              have hb1 : fX12_becomes mco (nI v') (nI z) 1 = some (upd mco z (nI 1), nI (v' + 1)) := becomes_c mco v' hz24 1
              have := (hC z hz24).2
              rw [inb_n hz24 (by decide), grd_t, cl_n (by omega), (hC z hz24).1, if_neg (by rw [show (1 : Int32) = nI 1 from rfl, eq_n (by omega) (by omega)]; exact q), hb1, b2_s, e6']
            rw [e1]
            rw [hrec, b3_s, e5]
theorem gb_loop {A : AS} (w : WF A) {N : Nat} (hN : 1000 ≤ N) {s : Nat} {c : Nat → Nat} {t : Nat → Int} {v : Nat} : ∀ (d r x k : Nat) (D : Nat → Bool) (E : Nat → Nat → Bool) (c' : Nat → Nat) (t' : Nat → Int) (v' : Nat), GP (a_fd A) 3 1 s c t v D E c' t' v' → D x = true → a_th A x = true → k + r = a_my A x → (∀ j z, j < k → a_fd A x j = some z → E x j = true) → (∀ j, k ≤ j → E x j = false) → 24 - fb_ct D 24 < d →
    ∃ D' E' c'' t'' v'', GP (a_fd A) 3 1 s c t v D' E' c'' t'' v'' ∧ (∀ y, D y = true → D' y = true) ∧ (∀ y j, D y = true → y ≠ x → E' y j = E y j) ∧ (∀ y j z, D' y = true → (D y = false ∨ y = x) → a_fd A y j = some z → E' y j = true) ∧
    (∀ (m0 : Nat → Int32) (b : Nat) (mm mco : Nat → Int32) (f : Nat), b ≤ 5124 → RM m0 b mm (u_ct A t') → CP mco c' → r < f → ∃ mm' mco', fX12_givesBack_o_8 (fX12_givesBack_d N d) N (nI b) (nI x) f mm mco (nI v') (nI k) = some (mm', mco', nI v'') ∧ RM m0 b mm' (u_ct A t'') ∧ CP mco' c'') := by
  intro d
  induction d with
  | zero => intro r x k D E c' t' v' _ _ _ _ _ _ h; omega
  | succ d IH =>
    intro r
    induction r with
    | zero =>
      intro x k D E c' t' v' hG hx ht hk hc1 hc2 hm
      have hx24 := W_th w ht
      have hmy := W_my w x
      refine ⟨D, E, c', t', v', hG, fun _ h => h, fun _ _ _ _ => rfl, fun y j z q1 q2 q3 => ?_, fun m0 b mm mco f hb hR hC hf => ⟨mm, mco, ?_, hR, hC⟩⟩
      · rcases q2 with q2 | q2
        · rw [q1] at q2; cases q2
        · subst q2
          have := (W_fd w q3).2.1
          exact hc1 j z (by omega) q3
      · obtain ⟨f', rfl⟩ : ∃ f', f = f' + 1 := ⟨f - 1, by omega⟩
        show fX12_givesBack_o_8b (fX12_givesBack_d N (d + 1)) N (nI b) (nI x) (fX12_givesBack_o_8 (fX12_givesBack_d N (d + 1)) N (nI b) (nI x) f') mm mco (nI v') (nI k) = _
        unfold fX12_givesBack_o_8b
        have e1 : fX12_of mm (nI b) (nI x) 1 = some (nI (a_my A x)) := M_of1 hR hb hx24 ht
        rw [e1, b1_s, if_pos (by rw [le_n (by omega) (by omega)]; omega)]
    | succ r ih =>
      intro x k D E c' t' v' hG hx ht hk hc1 hc2 hm
      have hx24 := W_th w ht
      have hmy := W_my w x
      have hk4 : k < 4 := by omega
      cases e : a_fd A x k with
      | none =>
        obtain ⟨D', E', c'', t'', v'', g1, g2, g3, g4, g5⟩ := ih x (k + 1) D E c' t' v' hG hx ht (by omega) (fun j z q1 q2 => by
          by_cases q : j = k
          · rw [q, e] at q2; cases q2
          · exact hc1 j z (by omega) q2) (fun j q => hc2 j (by omega)) hm
        refine ⟨D', E', c'', t'', v'', g1, g2, g3, g4, fun m0 b mm mco f hb hR hC hf => ?_⟩
        obtain ⟨f', rfl⟩ : ∃ f', f = f' + 1 := ⟨f - 1, by omega⟩
        obtain ⟨mm', mco', e5, r5, c5⟩ := g5 m0 b mm mco f' hb hR hC (by omega)
        refine ⟨mm', mco', ?_, r5, c5⟩
        show fX12_givesBack_o_8b (fX12_givesBack_d N (d + 1)) N (nI b) (nI x) (fX12_givesBack_o_8 (fX12_givesBack_d N (d + 1)) N (nI b) (nI x) f') mm mco (nI v') (nI k) = _
        unfold fX12_givesBack_o_8b
        have e1 : fX12_of mm (nI b) (nI x) 1 = some (nI (a_my A x)) := M_of1 hR hb hx24 ht
        have e2 : fX12_fieldOf mm (nI b) (nI x) (nI k) = some (oI (a_fd A x k)) := M_fieldOf hR hb hx24 hk4 ht
        rw [e1, b1_s, if_neg (by rw [le_n (by omega) (by omega)]; omega), e2, b1_s, e, oI_n, if_pos neg1_lt, nI_1, e5]
      | some z =>
        obtain ⟨_, _, htz⟩ := W_fd w e
        have hz24 := W_th w htz
        have hEk := hc2 k (Nat.le_refl k)
        have hstep : ∀ (m0 : Nat → Int32) (b : Nat) (mm mco : Nat → Int32) (f : Nat), b ≤ 5124 → RM m0 b mm (u_ct A t') → ∃ m1, RM m0 b m1 (u_ct A (fs t' z (t' z + 1))) ∧ fX12_givesBack_o_8 (fX12_givesBack_d N (d + 1)) N (nI b) (nI x) (f + 1) mm mco (nI v') (nI k) = if mco z = 3 then fX12_givesBack_o_8 (fX12_givesBack_d N (d + 1)) N (nI b) (nI x) f m1 mco (nI v') (nI (k + 1)) else bnd3 (fX12_givesBack_d N (d + 1) m1 (nI b) mco (nI v') (nI z)) fun m2 c2 w2 => fX12_givesBack_o_8 (fX12_givesBack_d N (d + 1)) N (nI b) (nI x) f m2 c2 w2 (nI (k + 1)) := by
          intro m0 b mm mco f hb hR
          obtain ⟨m1, e3, r3⟩ := M_put5 hR hb hz24 (t' z + 1)
          refine ⟨m1, r3, ?_⟩
          show fX12_givesBack_o_8b (fX12_givesBack_d N (d + 1)) N (nI b) (nI x) (fX12_givesBack_o_8 (fX12_givesBack_d N (d + 1)) N (nI b) (nI x) f) mm mco (nI v') (nI k) = _
          unfold fX12_givesBack_o_8b
          have e1 : fX12_of mm (nI b) (nI x) 1 = some (nI (a_my A x)) := M_of1 hR hb hx24 ht
          have e2 : fX12_fieldOf mm (nI b) (nI x) (nI k) = some (oI (a_fd A x k)) := M_fieldOf hR hb hx24 hk4 ht
          have e4 : fX12_of mm (nI b) (nI z) 5 = some (cI (t' z)) := M_of5 hR hb hz24 htz
          have e3' : fX12_puts mm (nI b) (nI z) 5 (cI (t' z + 1)) = some m1 := e3
          rw [e1, b1_s, if_neg (by rw [le_n (by omega) (by omega)]; omega), e2, b1_s, e, oI_s, if_neg (nI_nlt0 (by omega)), e4, b1_s, cI_add, e3', b1_s, inb_n hz24 (by decide), grd_t, cl_n (by omega), nI_1]
        by_cases q : c' z = 3
        · have hG2 := GP_old hG hx hk4 hEk e q
          obtain ⟨D', E', c'', t'', v'', g1, g2, g3, g4, g5⟩ := ih x (k + 1) D (e2 E x k) c' (fs t' z (t' z + 1)) v' hG2 hx ht (by omega) (fun j y q1 q2 => by
            by_cases q3 : j = k
            · rw [q3]; exact e2_s E x k
            · exact e2_m (hc1 j y (by omega) q2)) (fun j q1 => by rw [e2_n (by omega)]; exact hc2 j (by omega)) hm
          refine ⟨D', E', c'', t'', v'', g1, g2, fun y j q1 q2 => ?_, g4, fun m0 b mm mco f hb hR hC hf => ?_⟩
          · rw [g3 y j q1 q2, e2_n (fun q3 => q2 q3.1)]
          · obtain ⟨f', rfl⟩ : ∃ f', f = f' + 1 := ⟨f - 1, by omega⟩
            obtain ⟨m1, r1, e1⟩ := hstep m0 b mm mco f' hb hR
            obtain ⟨mm', mco', e5, r5, c5⟩ := g5 m0 b m1 mco f' hb r1 hC (by omega)
            refine ⟨mm', mco', ?_, r5, c5⟩
            rw [e1]
            rw [(hC z hz24).1, q, if_pos (show nI 3 = 3 from rfl), e5]
        · obtain ⟨hDz, hG2⟩ := GP_new hG hx hk4 hEk e hz24 q
          have hcard : fb_ct (fs D z true) 24 = fb_ct D 24 + 1 := by
            have a1 := GP_card hG
            have a2 := GP_card hG2
            omega
          have hle : fb_ct (fs D z true) 24 ≤ 24 := fb_ct_le _ _
          have hzx : z ≠ x := fun q3 => by rw [q3, hx] at hDz; cases hDz
          have hEz : ∀ j, e2 E x k z j = false := by
            intro j
            rw [e2_n (fun q3 => hzx q3.1)]
            cases q3 : E z j with
            | false => rfl
            | true => rw [hG.2.2.1 z j q3] at hDz; cases hDz
          obtain ⟨D1, E1, c1, t1, v1, i1, i2, i3, i4, i5⟩ := IH (a_my A z) z 0 (fs D z true) (e2 E x k) (fs c' z 3) (fs t' z (t' z + 1)) (v' + 1) hG2 fs_s htz (Nat.zero_add _) (fun j _ q1 => absurd q1 (Nat.not_lt_zero j)) (fun j _ => hEz j) (by omega)
          have hDm : ∀ y, D y = true → fs D z true y = true := fun y hy => by
            by_cases q3 : y = z
            · rw [q3, fs_s]
            · rw [fs_n q3]; exact hy
          have hcard1 : fb_ct (fs D z true) 24 ≤ fb_ct D1 24 := fb_ct_sub (fun y _ q1 => i2 y q1)
          have hx1 : D1 x = true := i2 x (hDm x hx)
          have hEx : ∀ j, E1 x j = e2 E x k x j := fun j => i3 x j (hDm x hx) (fun q3 => hzx q3.symm)
          obtain ⟨D', E', c'', t'', v'', g1, g2, g3, g4, g5⟩ := ih x (k + 1) D1 E1 c1 t1 v1 i1 hx1 ht (by omega) (fun j y q1 q2 => by
            rw [hEx j]
            by_cases q3 : j = k
            · rw [q3]; exact e2_s E x k
            · exact e2_m (hc1 j y (by omega) q2)) (fun j q1 => by rw [hEx j, e2_n (by omega)]; exact hc2 j (by omega)) (by omega)
          refine ⟨D', E', c'', t'', v'', g1, fun y hy => g2 y (i2 y (hDm y hy)), fun y j q1 q2 => ?_, fun y j u q1 q2 q3 => ?_, fun m0 b mm mco f hb hR hC hf => ?_⟩
          · have hyz : y ≠ z := fun q3 => by rw [q3, hDz] at q1; cases q1
            rw [g3 y j (i2 y (hDm y q1)) q2, i3 y j (hDm y q1) hyz, e2_n (fun q3 => q2 q3.1)]
          · by_cases q4 : y = x
            · exact g4 y j u q1 (Or.inr q4) q3
            · have q5 : D y = false := q2.elim id (fun q6 => absurd q6 q4)
              cases q6 : D1 y with
              | false => exact g4 y j u q1 (Or.inl q6) q3
              | true =>
                rw [g3 y j q6 q4]
                by_cases q7 : y = z
                · exact i4 y j u q6 (Or.inr q7) q3
                · exact i4 y j u q6 (Or.inl (by rw [fs_n q7]; exact q5)) q3
          · obtain ⟨f', rfl⟩ : ∃ f', f = f' + 1 := ⟨f - 1, by omega⟩
            obtain ⟨m1, r1, e1⟩ := hstep m0 b mm mco f' hb hR
            have hmz := W_my w z
            obtain ⟨m2, mc2, e6, r6, c6⟩ := i5 m0 b m1 (upd mco z (nI 3)) N hb r1 (CP_u hC z (by decide)) (by omega)
            obtain ⟨mm', mco', e5, r5, c5⟩ := g5 m0 b m2 mc2 f' hb r6 c6 (by omega)
            refine ⟨mm', mco', ?_, r5, c5⟩
            have e6' : fX12_givesBack_o_8 (fX12_givesBack_d N d) N (nI b) (nI z) N m1 (upd mco z (nI 3)) (nI (v' + 1)) 0 = some (m2, mc2, nI v1) := e6
            have hrec : fX12_givesBack_d N (d + 1) m1 (nI b) mco (nI v') (nI z) = some (m2, mc2, nI v1) := by
              show fX12_givesBack_o (fX12_givesBack_d N d) N m1 (nI b) mco (nI v') (nI z) = _
              unfold fX12_givesBack_o
              have hb1 : fX12_becomes mco (nI v') (nI z) 3 = some (upd mco z (nI 3), nI (v' + 1)) := becomes_c mco v' hz24 3
              rw [hb1, b2_s, e6']
            rw [e1]
            have := (hC z hz24).2
            rw [(hC z hz24).1, if_neg (by rw [show (3 : Int32) = nI 3 from rfl, eq_n (by omega) (by omega)]; exact q), hrec, b3_s, e5]
