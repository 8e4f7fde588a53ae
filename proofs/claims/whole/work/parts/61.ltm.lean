/-! looking through, whole; taking away, one behind another -/
theorem lt_main {A : AS} (w : WF A) {N : Nat} (hN : 1000 ≤ N) : ∀ d, LTI N A d := by
  intro d
  induction d with
  | zero => intro o c t v st _ _ _ _ _ h; omega
  | succ d IH =>
    intro o c t v st hP hto hnd hst hW hg
    have ho := W_th w hto
    by_cases q : c o = 1
    · have hrng := P2_rng hP hto
      have hos : o ∉ st := fun h => (hst o h).2 q
      have hsl := nd_len1 hnd (n := 24) (fun y hy => W_th w (hst y hy).1) ho hos
      by_cases q2 : t o ≤ 0
      · have hP1 := P2_white w hP q q2
        have hgw := gct_white ho q
        have hm1 : ∀ y, c y ≠ 1 → fs c o 2 y ≠ 1 := fun y h => by
          have hyo : y ≠ o := fun e => h (by rw [e]; exact q)
          rw [fs_n hyo]; exact h
        have hz1 : ∀ y, fs c o 2 y = 0 ↔ c y = 0 := fun y => by
          by_cases q3 : y = o
          · rw [q3, fs_s, q]; omega
          · rw [fs_n q3]
        have hnd1 : (st ++ [o]).Nodup := by
          rw [List.nodup_append]
          refine ⟨hnd, by simp, fun a ha b hb => ?_⟩
          rw [List.mem_singleton] at hb
          exact fun e5 => hos (by rw [← hb, ← e5]; exact ha)
        obtain ⟨c', t', v', n, g1, g2, g3, g4, g5, g6, g7⟩ := lt_loop w hN IH hto hnd1 (a_my A o) 0 (fs c o 2) t (v + 1) (Nat.zero_add _) hP1 (fun y hy => by
            rcases List.mem_append.mp hy with h | h
            · exact ⟨(hst y h).1, hm1 y (hst y h).2⟩
            · rw [List.mem_singleton.mp h, fs_s]; exact ⟨hto, by omega⟩) (fun y q3 q4 j x q5 => by
            have hyo : y ≠ o := fun e => q4 (by rw [e]; simp)
            rw [fs_n hyo] at q3
            exact hm1 x (hW y q3 (fun h => q4 (List.mem_append_left _ h)) j x q5)) (fun j x h => absurd h (Nat.not_lt_zero j)) (by omega)
        refine ⟨c', t', v', n, g1, fun y h => g2 y (hm1 y h), fun y => (g3 y).trans (hz1 y), g4, g2 o (by rw [fs_s]; omega), by omega, fun m0 b mm mco hb hR hC => ?_, ?_⟩
        · have hmy := W_my w o
          obtain ⟨mm', mco', e, r1, r2⟩ := g6 m0 b mm (upd mco o (nI 2)) N hb hR (CP_u hC o (by decide)) (by omega)
          refine ⟨mm', mco', ?_, r1, r2⟩
          have hb1 : fX12_becomes mco (nI v) (nI o) 2 = some (upd mco o (nI 2), nI (v + 1)) := becomes_c mco v ho 2
          have e5 : fX12_of mm (nI b) (nI o) 5 = some (cI (t o)) := M_of5 hR hb ho hto
          show fX12_looksThrough_o (fX12_looksThrough_d N d) N mm (nI b) mco (nI v) (nI o) = _
          unfold fX12_looksThrough_o
          rw [inb_n ho (by decide), grd_t, cl_n (by omega), (hC o ho).1, q, if_pos (show nI 1 = 1 from rfl), e5, b1_s, if_pos (by rw [cI_le0 (by omega) (by omega)]; exact q2), hb1, b2_s]
          exact e
        · intro ks X zcl zwa zpt zpf p2 k x hl hX hC h1 h2 hx
          obtain ⟨zcl', zwa', zpt', zpf', X', e, r1, r2, r3, r4⟩ := g7 ks X (upd zcl o (nI 2)) zwa (upd zpt st.length (nI o)) (upd zpf ks.length (nI 0)) p2 k x hl hX (CP_u hC o (by decide)) (SK_push h1 o) (SK_push h2 0) hx
          refine ⟨zcl', zwa', zpt', zpf', X', ?_, r1, r2, r3, r4⟩
          have e4 : X 4 o = cI (t o) := RC_h7 hX o ho
          have hp : fX9_paints (nI v) zcl (nI o) 2 = some (nI (v + 1), upd zcl o 2) := paints_c v zcl ho 2
          rw [hl] at e
          unfold fX9_looksAt
          rw [if_neg (nI_ne1 (by omega)), inb_n ho (by decide), grd_t, cl_n (by omega), (hC o ho).1, q, if_pos (show nI 1 = 1 from rfl), grd_t, e4, if_pos (by rw [cI_le0 (by omega) (by omega)]; exact q2), if_neg (by rw [le_24 (by omega)]; omega), hp, b2_s, inb_n hsl (by decide), grd_t, cl_n (by omega), lt_e, grd_t, lt_e, lt_e, nI_1, b7_s]
          exact e
      · obtain ⟨c', t', v', s1, s2, s3⟩ := T_black w hN hto (c := c) (by omega) t v
        obtain ⟨g1, g2, g3, g4, g5, g6⟩ := P2_black w hP (by omega) s1
        have hgl := gct_le g2
        refine ⟨c', t', v', 0, g1, g2, g3, fun y q3 q4 j x q5 => g2 x (hW y (g5 y q3) q4 j x q5), by omega, by omega, fun m0 b mm mco hb hR hC => ?_, ?_⟩
        · obtain ⟨mm', mco', e, r1, r2⟩ := s2 m0 b mm mco hb hR hC
          refine ⟨mm', mco', ?_, r1, r2⟩
          have e' : fX12_givesBack N mm (nI b) mco (nI v) (nI o) = some (mm', mco', nI v') := e
          have e5 : fX12_of mm (nI b) (nI o) 5 = some (cI (t o)) := M_of5 hR hb ho hto
          show fX12_looksThrough_o (fX12_looksThrough_d N d) N mm (nI b) mco (nI v) (nI o) = _
          unfold fX12_looksThrough_o
          rw [inb_n ho (by decide), grd_t, cl_n (by omega), (hC o ho).1, q, if_pos (show nI 1 = 1 from rfl), e5, b1_s, if_neg (by rw [cI_le0 (by omega) (by omega)]; exact q2), e', b3_s]
        · intro ks X zcl zwa zpt zpf p2 k x hl hX hC h1 h2 hx
          obtain ⟨zcl', zwa', X', e, r1, r2⟩ := s3 X zcl zwa hX hC
          have e' : fX9_spreads N (nI v) zcl zwa X (nI o) 3 1 = some (nI v', zcl', zwa', X') := e
          refine ⟨zcl', zwa', zpt, zpf, X', ?_, r1, r2, h1, h2⟩
          have e4 : X 4 o = cI (t o) := RC_h7 hX o ho
          unfold fX9_looksAt
          rw [if_neg (nI_ne1 (by omega)), inb_n ho (by decide), grd_t, cl_n (by omega), (hC o ho).1, q, if_pos (show nI 1 = 1 from rfl), grd_t, e4, if_neg (by rw [cI_le0 (by omega) (by omega)]; exact q2), e', b4_s, b7_s]
          rfl
    · refine ⟨c, t, v, 0, hP, fun _ h => h, fun _ => Iff.rfl, hW, q, by omega, fun m0 b mm mco hb hR hC => ⟨mm, mco, ?_, hR, hC⟩, fun ks X zcl zwa zpt zpf p2 k x hl hX hC h1 h2 hx => ⟨zcl, zwa, zpt, zpf, X, ?_, hX, hC, h1, h2⟩⟩
      · have hc3 := (hC o ho).2
        show fX12_looksThrough_o (fX12_looksThrough_d N d) N mm (nI b) mco (nI v) (nI o) = _
        unfold fX12_looksThrough_o
        rw [inb_n ho (by decide), grd_t, cl_n (by omega), (hC o ho).1, if_neg (by rw [show (1 : Int32) = nI 1 from rfl, eq_n (by omega) (by omega)]; exact q)]
      · have hc3 := (hC o ho).2
        unfold fX9_looksAt
        rw [if_neg (nI_ne1 (by omega)), inb_n ho (by decide), grd_t, cl_n (by omega), (hC o ho).1, if_neg (by rw [show (1 : Int32) = nI 1 from rfl, eq_n (by omega) (by omega)]; exact q), b7_s]
        rfl
theorem SPR_uniq {F : Nat → Nat → Option Nat} {cl : Nat} {dl : Int} {s : Nat} {c : Nat → Nat} {t : Nat → Int} {v : Nat} {c1 c2 : Nat → Nat} {t1 t2 : Nat → Int} {v1 v2 : Nat} (h : SPR F cl dl s c t v c1 t1 v1) (g : SPR F cl dl s c t v c2 t2 v2) : c1 = c2 ∧ t1 = t2 ∧ v1 = v2 := by
  obtain ⟨D1, E1, h1, k1⟩ := h
  obtain ⟨D2, E2, h2, k2⟩ := g
  exact GP_uniq h1 h2 k1 k2
def GS1 (F : Nat → Nat → Option Nat) (s : Nat) (c : Nat → Nat) (t : Nat → Int) (v : Nat) (c' : Nat → Nat) (t' : Nat → Int) (v' : Nat) : Prop := (c s = 1 ∧ c' = c ∧ t' = t ∧ v' = v) ∨ (c s ≠ 1 ∧ SPR F 1 (-1) s c t v c' t' v')
theorem GS1_uniq {F : Nat → Nat → Option Nat} {s : Nat} {c : Nat → Nat} {t : Nat → Int} {v : Nat} {c1 c2 : Nat → Nat} {t1 t2 : Nat → Int} {v1 v2 : Nat} (h : GS1 F s c t v c1 t1 v1) (g : GS1 F s c t v c2 t2 v2) : c1 = c2 ∧ t1 = t2 ∧ v1 = v2 := by
  rcases h with ⟨a, b, c, d⟩ | ⟨a, b⟩
  · rcases g with ⟨a', b', c', d'⟩ | ⟨a', b'⟩
    · exact ⟨b.trans b'.symm, c.trans c'.symm, d.trans d'.symm⟩
    · exact absurd a a'
  · rcases g with ⟨a', b', c', d'⟩ | ⟨a', b'⟩
    · exact absurd a' a
    · exact SPR_uniq b b'
def GSq (F : Nat → Nat → Option Nat) : List Nat → (Nat → Nat) → (Nat → Int) → Nat → (Nat → Nat) → (Nat → Int) → Nat → Prop
  | [] => fun c t v c' t' v' => c' = c ∧ t' = t ∧ v' = v
  | s :: L => fun c t v c' t' v' => ∃ c1 t1 v1, GS1 F s c t v c1 t1 v1 ∧ GSq F L c1 t1 v1 c' t' v'
theorem GSq_uniq {F : Nat → Nat → Option Nat} : ∀ (L : List Nat) {c : Nat → Nat} {t : Nat → Int} {v : Nat} {c1 c2 : Nat → Nat} {t1 t2 : Nat → Int} {v1 v2 : Nat}, GSq F L c t v c1 t1 v1 → GSq F L c t v c2 t2 v2 → c1 = c2 ∧ t1 = t2 ∧ v1 = v2 := by
  intro L
  induction L with
  | nil =>
    intro c t v c1 c2 t1 t2 v1 v2 h g
    exact ⟨h.1.trans g.1.symm, h.2.1.trans g.2.1.symm, h.2.2.trans g.2.2.symm⟩
  | cons s L ih =>
    intro c t v c1 c2 t1 t2 v1 v2 h g
    obtain ⟨a1, a2, a3, a4, a5⟩ := h
    obtain ⟨b1, b2, b3, b4, b5⟩ := g
    obtain ⟨e1, e2, e3⟩ := GS1_uniq a4 b4
    subst e1 e2 e3
    exact ih a5 b5
def P1 (A : AS) (dn : List Nat) (c : Nat → Nat) (t : Nat → Int) : Prop :=
  (∀ x, t x = a_ct A x - (cE (a_fd A) (fun y _ => decide (c y = 1)) x : Int)) ∧ (∀ y, c y = 0 ∨ c y = 1) ∧
  (∀ y j x, c y = 1 → a_fd A y j = some x → c x = 1) ∧ (∀ y, c y = 1 → a_th A y = true) ∧
  (∀ P : Nat → Prop, (∀ s ∈ dn, P s) → (∀ y j x, P y → a_fd A y j = some x → P x) → ∀ y, c y = 1 → P y) ∧ (∀ s ∈ dn, c s = 1)
theorem P1_0 (A : AS) : P1 A [] (fun _ => 0) (a_ct A) := by
  refine ⟨fun x => ?_, fun _ => Or.inl rfl, fun y j x h => absurd h Nat.zero_ne_one, fun y h => absurd h Nat.zero_ne_one, fun P _ _ y h => absurd h Nat.zero_ne_one, fun s h => absurd h List.not_mem_nil⟩
  have : cE (a_fd A) (fun y _ => decide ((fun _ : Nat => (0 : Nat)) y = 1)) x = 0 := cE_0 (a_fd A) x
  rw [this]
  simp
theorem P1_1 {A : AS} (w : WF A) {dn : List Nat} {c : Nat → Nat} {t : Nat → Int} (h : P1 A dn c t) {s v : Nat} (hts : a_th A s = true) {c' : Nat → Nat} {t' : Nat → Int} {v' : Nat} (g : GS1 (a_fd A) s c t v c' t' v') : P1 A (dn ++ [s]) c' t' := by
  obtain ⟨h1, h2, h3, h4, h5, h6⟩ := h
  rcases g with ⟨a, b, d, e⟩ | ⟨a, D, E, ⟨g1, g2, g3, g4, g5, g6, g7, g8⟩, gc⟩
  · subst b d e
    refine ⟨h1, h2, h3, h4, fun P p1 p2 => h5 P (fun s hs => p1 s (List.mem_append_left _ hs)) p2, fun x hx => ?_⟩
    rcases List.mem_append.mp hx with q | q
    · exact h6 x q
    · rw [List.mem_singleton.mp q]; exact a
  · have h11 : ∀ y, c' y = 1 ↔ (D y = true ∨ c y = 1) := by
      intro y
      rw [g6 y]
      cases hD : D y with
      | true => rw [if_pos rfl]; exact ⟨fun _ => Or.inl rfl, fun _ => rfl⟩
      | false => rw [if_neg (by decide)]; exact ⟨Or.inr, fun q => q.elim (fun q => by cases q) id⟩
    have hDt : ∀ y, D y = true → a_th A y = true := g5 (fun y => a_th A y = true) hts (fun y j x _ _ p3 _ => (W_fd w p3).2.2)
    refine ⟨fun x => ?_, fun y => ?_, fun y j x q1 q2 => ?_, fun y q1 => ?_, fun P p1 p2 y q1 => ?_, fun x hx => ?_⟩
    · have e1 : cE (a_fd A) E x = cE (a_fd A) (eC D) x := cE_cong (fun y j _ _ q => by
        show E y j = D y
        cases hD : D y with
        | true => exact gc y j x hD q
        | false =>
          cases hE : E y j with
          | false => rfl
          | true => rw [g3 y j hE] at hD; cases hD)
      have e2 : cE (a_fd A) (fun y _ => decide (c' y = 1)) x = cE (a_fd A) (fun y _ => decide (c y = 1)) x + cE (a_fd A) (eC D) x := by
        rw [← cE_or (fun y j _ _ q => by
          have q1 : decide (c y = 1) = true := q.1
          exact (g1 y q.2).2 (decide_eq_true_eq.mp q1))]
        exact cE_cong (fun y j _ _ _ => by
          show decide (c' y = 1) = (decide (c y = 1) || D y)
          have d1 : decide (c' y = 1) = decide (D y = true ∨ c y = 1) := decide_eq_decide.mpr (h11 y)
          rw [d1]
          by_cases hD : D y = true <;> simp [hD])
      rw [g7 x, h1 x, e1, e2]
      push_cast
      omega
    · rw [g6 y]
      cases D y with
      | true => exact Or.inr (if_pos rfl)
      | false => rw [if_neg (by decide)]; exact h2 y
    · rcases (h11 y).mp q1 with q | q
      · exact (h11 x).mpr (g4 y j x (gc y j x q q2) q2)
      · exact (h11 x).mpr (Or.inr (h3 y j x q q2))
    · rcases (h11 y).mp q1 with q | q
      · exact hDt y q
      · exact h4 y q
    · rcases (h11 y).mp q1 with q | q
      · exact g5 P (p1 s (by simp)) (fun a b d p3 _ p5 _ => p2 a b d p3 p5) y q
      · exact h5 P (fun s hs => p1 s (List.mem_append_left _ hs)) p2 y q
    · rcases List.mem_append.mp hx with q | q
      · exact (h11 x).mpr (Or.inr (h6 x q))
      · rw [List.mem_singleton.mp q]; exact (h11 s).mpr (Or.inl g2)
theorem P1_q {A : AS} (w : WF A) : ∀ (L : List Nat), (∀ s ∈ L, a_th A s = true) → ∀ (dn : List Nat) (c : Nat → Nat) (t : Nat → Int) (v : Nat) (c' : Nat → Nat) (t' : Nat → Int) (v' : Nat), P1 A dn c t → GSq (a_fd A) L c t v c' t' v' → P1 A (dn ++ L) c' t' := by
  intro L
  induction L with
  | nil =>
    intro _ dn c t v c' t' v' h g
    obtain ⟨e1, e2, e3⟩ := g
    subst e1 e2
    rw [List.append_nil]; exact h
  | cons s L ih =>
    intro hL dn c t v c' t' v' h g
    obtain ⟨c1, t1, v1, g1, g2⟩ := g
    have := ih (fun x hx => hL x (List.mem_cons_of_mem _ hx)) (dn ++ [s]) c1 t1 v1 c' t' v' (P1_1 w h (hL s List.mem_cons_self) g1) g2
    rw [List.append_assoc] at this
    exact this
theorem P1_P2 {A : AS} {L : List Nat} {c : Nat → Nat} {t : Nat → Int} (hct : ∀ x, a_th A x = true → a_ct A x = (rf A x : Int)) (h : P1 A L c t) : P2 A c t ∧ WD A c [] := by
  obtain ⟨h1, h2, h3, h4, h5, h6⟩ := h
  refine ⟨⟨fun x hx => ?_, fun y j x q1 q2 => ?_, fun y j x q1 => ?_, fun y q1 => ?_, fun y q1 => ?_, fun y => ?_⟩, fun y q1 => ?_⟩
  · have e : rfF (a_fd A) x = cE (a_fd A) (fun y _ => decide (c y = 1)) x + cE (a_fd A) (PB c) x := by
      rw [← cE_all, ← cE_or (fun y j _ _ q => by
        have q1 : decide (c y = 1) = true := q.1
        have q2 : (decide (c y = 0) || decide (c y = 3)) = true := q.2
        rw [decide_eq_true_eq] at q1
        rw [q1] at q2
        simp at q2)]
      exact cE_cong (fun y j _ _ _ => by
        show true = (decide (c y = 1) || (decide (c y = 0) || decide (c y = 3)))
        rcases h2 y with q | q <;> rw [q] <;> rfl)
    have e2 : rf A x = rfF (a_fd A) x + rfR (a_rt A) x := rfl
    rw [h1 x, hct x hx]
    push_cast
    omega
  · have : c y = 1 := (h2 y).elim (fun q => absurd q q1) id
    rw [h3 y j x this q2]
    omega
  · rcases h2 y with q | q <;> omega
  · rcases h2 y with q | q <;> omega
  · exact h4 y ((h2 y).elim (fun q => absurd q q1) id)
  · rcases h2 y with q | q <;> omega
  · rcases h2 y with q | q <;> omega
