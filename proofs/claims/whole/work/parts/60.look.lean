/-! looking through: the class's own stack and the reference's recursion -/
theorem b7_s {α β γ δ ε ζ η θ : Type} (a : α) (b : β) (c : γ) (d : δ) (e : ε) (f : ζ) (g : η) (k : α → β → γ → δ → ε → ζ → η → Option θ) : bnd7 (some (a, b, c, d, e, f, g)) k = k a b c d e f g := rfl
def WD (A : AS) (c : Nat → Nat) (st : List Nat) : Prop := ∀ y, c y = 2 → y ∉ st → ∀ j x, a_fd A y j = some x → c x ≠ 1
theorem SK_set {z : Nat → Int32} {ks : List Nat} {k : Nat} (h : SK z (ks ++ [k])) (k' : Nat) : SK (upd z ks.length (nI k')) (ks ++ [k']) := SK_push (SK_pop h) k'
def LCS (N : Nat) (A : AS) (n o : Nat) (st : List Nat) (c : Nat → Nat) (t : Nat → Int) (v : Nat) (c' : Nat → Nat) (t' : Nat → Int) (v' : Nat) : Prop :=
  ∀ (ks : List Nat) (X : Nat → Nat → Int32) (zcl zwa zpt zpf : Nat → Int32) (p2 : Int32) (k x : Nat), ks.length = st.length → RC X (u_ct A t) → CP zcl c → SK zpt st → SK zpf ks → x + n ≤ 100000 → ∃ zcl' zwa' zpt' zpf' X', (bnd7 (fX9_looksAt N (nI st.length) (nI v) zcl zwa zpt zpf X (nI o)) fun z1 z2 z3 z4 z5 z6 Y => fX9_looksThrough_13 N p2 (k + n) z1 z2 z3 z4 z5 z6 Y (nI x)) = fX9_looksThrough_13 N p2 k (nI st.length) (nI v') zcl' zwa' zpt' zpf' X' (nI (x + n)) ∧ RC X' (u_ct A t') ∧ CP zcl' c' ∧ SK zpt' st ∧ SK zpf' ks
def LTI (N : Nat) (A : AS) (d : Nat) : Prop := ∀ (o : Nat) (c : Nat → Nat) (t : Nat → Int) (v : Nat) (st : List Nat), P2 A c t → a_th A o = true → st.Nodup → (∀ y ∈ st, a_th A y = true ∧ c y ≠ 1) → WD A c st → gct c < d →
  ∃ c' t' v' n, P2 A c' t' ∧ (∀ y, c y ≠ 1 → c' y ≠ 1) ∧ (∀ y, c' y = 0 ↔ c y = 0) ∧ WD A c' st ∧ c' o ≠ 1 ∧ n + 5 * gct c' ≤ 5 * gct c ∧ MPt N A (fun mm e mco vi => fX12_looksThrough_d N d mm e mco vi (nI o)) c t v c' t' v' ∧ LCS N A n o st c t v c' t' v'
def LRS (N : Nat) (A : AS) (n o k : Nat) (st : List Nat) (c : Nat → Nat) (t : Nat → Int) (v : Nat) (c' : Nat → Nat) (t' : Nat → Int) (v' : Nat) : Prop :=
  ∀ (ks : List Nat) (X : Nat → Nat → Int32) (zcl zwa zpt zpf : Nat → Int32) (p2 : Int32) (kk x : Nat), ks.length = st.length → RC X (u_ct A t) → CP zcl c → SK zpt (st ++ [o]) → SK zpf (ks ++ [k]) → x + n ≤ 100000 → ∃ zcl' zwa' zpt' zpf' X', fX9_looksThrough_13 N p2 (kk + n) (nI (st.length + 1)) (nI v) zcl zwa zpt zpf X (nI x) = fX9_looksThrough_13 N p2 kk (nI st.length) (nI v') zcl' zwa' zpt' zpf' X' (nI (x + n)) ∧ RC X' (u_ct A t') ∧ CP zcl' c' ∧ SK zpt' st ∧ SK zpf' ks
theorem LK_step {N : Nat} {A : AS} {t : Nat → Int} {X : Nat → Nat → Int32} (hX : RC X (u_ct A t)) {st ks : List Nat} (hl : ks.length = st.length) (hs : st.length < 24) {o k : Nat} (ho : o < 24) {zpt zpf : Nat → Int32} (h1 : SK zpt (st ++ [o])) (h2 : SK zpf (ks ++ [k])) (hk : k < 4) {p2 ztv : Int32} {zcl zwa : Nat → Int32} {kk x : Nat} (hx : x < 100000) : fX9_looksThrough_13 N p2 (kk + 1) (nI (st.length + 1)) ztv zcl zwa zpt zpf X (nI x) = bnd7 (fX9_looksAt N (nI (st.length + 1)) ztv zcl zwa zpt (upd zpf ks.length (nI (k + 1))) X (oI (a_fd A o k))) fun z1 z2 z3 z4 z5 z6 Y => fX9_looksThrough_13 N p2 kk z1 z2 z3 z4 z5 z6 Y (nI (x + 1)) := by
  have e1 := SK_top h1
  have e2 := SK_top h2
  have e3 : fX3_fieldAt X (nI o) (nI k) = some (oI (a_fd A o k)) := C_fieldAt hX ho hk
  show fX9_looksThrough_13b N p2 (fX9_looksThrough_13 N p2 kk) (nI (st.length + 1)) ztv zcl zwa zpt zpf X (nI x) = _
  unfold fX9_looksThrough_13b
  rw [hl] at e2
  rw [if_neg (by rw [le_100k (by omega)]; omega), if_neg (by rw [le_f0 (by omega)]; omega), nI_pred, inb_n hs (by decide), grd_t, cl_n (by omega), lt_e, grd_t, lt_e, e1, e2, if_neg (by rw [le_4 (by omega)]; omega), grd_t, grd_t, lt_e, nI_1, e3, b1_s, nI_1, hl]
theorem LK_pop {N : Nat} {X : Nat → Nat → Int32} {st ks : List Nat} (hl : ks.length = st.length) (hs : st.length < 24) {zpt zpf : Nat → Int32} (h2 : SK zpf (ks ++ [4])) {p2 ztv : Int32} {zcl zwa : Nat → Int32} {kk x : Nat} (hx : x < 100000) : fX9_looksThrough_13 N p2 (kk + 1) (nI (st.length + 1)) ztv zcl zwa zpt zpf X (nI x) = fX9_looksThrough_13 N p2 kk (nI st.length) ztv zcl zwa zpt zpf X (nI (x + 1)) := by
  have e2 := SK_top h2
  show fX9_looksThrough_13b N p2 (fX9_looksThrough_13 N p2 kk) (nI (st.length + 1)) ztv zcl zwa zpt zpf X (nI x) = _
  unfold fX9_looksThrough_13b
  rw [hl] at e2
  rw [if_neg (by rw [le_100k (by omega)]; omega), if_neg (by rw [le_f0 (by omega)]; omega), nI_pred, inb_n hs (by decide), grd_t, cl_n (by omega), lt_e, grd_t, lt_e, e2, if_pos (by decide), lt_e, nI_1]
theorem lt_tail {N : Nat} {A : AS} {o : Nat} (ho : o < 24) {st : List Nat} (hs : st.length < 24) (c : Nat → Nat) (t : Nat → Int) (v : Nat) : ∀ r k, k + r = 4 → (∀ j, k ≤ j → a_fd A o j = none) → LRS N A (r + 1) o k st c t v c t v := by
  intro r
  induction r with
  | zero =>
    intro k hk hn ks X zcl zwa zpt zpf p2 kk x hl hX hC h1 h2 hx
    have : k = 4 := by omega
    subst this
    exact ⟨zcl, zwa, zpt, zpf, X, LK_pop hl hs h2 (by omega), hX, hC, SK_pop h1, SK_pop h2⟩
  | succ r ih =>
    intro k hk hn ks X zcl zwa zpt zpf p2 kk x hl hX hC h1 h2 hx
    obtain ⟨zcl', zwa', zpt', zpf', X', e, r1, r2, r3, r4⟩ := ih (k + 1) (by omega) (fun j hj => hn j (by omega)) ks X zcl zwa zpt (upd zpf ks.length (nI (k + 1))) p2 kk (x + 1) hl hX hC h1 (SK_set h2 (k + 1)) (by omega)
    refine ⟨zcl', zwa', zpt', zpf', X', ?_, r1, r2, r3, r4⟩
    rw [show kk + (r + 1 + 1) = kk + (r + 1) + 1 by omega, LK_step hX hl hs ho h1 h2 (by omega) (by omega), hn k (Nat.le_refl k), oI_n]
    unfold fX9_looksAt
    rw [if_pos rfl, b7_s, e, show x + 1 + (r + 1) = x + (r + 1 + 1) by omega]
theorem lt_loop {A : AS} (w : WF A) {N : Nat} (hN : 1000 ≤ N) {d : Nat} (IH : LTI N A d) {o : Nat} (hto : a_th A o = true) {st : List Nat} (hnd : (st ++ [o]).Nodup) : ∀ (r k : Nat) (c : Nat → Nat) (t : Nat → Int) (v : Nat), k + r = a_my A o → P2 A c t → (∀ y ∈ st ++ [o], a_th A y = true ∧ c y ≠ 1) → WD A c (st ++ [o]) → (∀ j x, j < k → a_fd A o j = some x → c x ≠ 1) → gct c < d →
    ∃ c' t' v' n, P2 A c' t' ∧ (∀ y, c y ≠ 1 → c' y ≠ 1) ∧ (∀ y, c' y = 0 ↔ c y = 0) ∧ WD A c' st ∧ n + 5 * gct c' ≤ 5 * gct c + (5 - k) ∧
    (∀ (m0 : Nat → Int32) (b : Nat) (mm mco : Nat → Int32) (f : Nat), b ≤ 5124 → RM m0 b mm (u_ct A t) → CP mco c → r < f → ∃ mm' mco', fX12_looksThrough_o_34 (fX12_looksThrough_d N d) N (nI b) (nI o) f mm mco (nI v) (nI k) = some (mm', mco', nI v') ∧ RM m0 b mm' (u_ct A t') ∧ CP mco' c') ∧ LRS N A n o k st c t v c' t' v' := by
  intro r
  have ho := W_th w hto
  have hmy := W_my w o
  induction r with
  | zero =>
    intro k c t v hk hP hst hW hf hg
    have hs : st.length < 24 := by
      have := nd_len hnd (n := 24) (fun y hy => W_th w (hst y hy).1)
      rw [List.length_append] at this
      exact this
    refine ⟨c, t, v, (4 - k) + 1, hP, fun _ h => h, fun _ => Iff.rfl, fun y q1 q2 j x q3 => ?_, by omega, fun m0 b mm mco f hb hR hC hf2 => ⟨mm, mco, ?_, hR, hC⟩, lt_tail ho hs c t v (4 - k) k (by omega) (fun j hj => W_nf w (by omega))⟩
    · by_cases q4 : y = o
      · subst q4
        have := (W_fd w q3).2.1
        exact hf j x (by omega) q3
      · exact hW y q1 (fun q5 => by
          rcases List.mem_append.mp q5 with q6 | q6
          · exact q2 q6
          · exact q4 (List.mem_singleton.mp q6)) j x q3
    · obtain ⟨f', rfl⟩ : ∃ f', f = f' + 1 := ⟨f - 1, by omega⟩
      show fX12_looksThrough_o_34b (fX12_looksThrough_d N d) N (nI b) (nI o) (fX12_looksThrough_o_34 (fX12_looksThrough_d N d) N (nI b) (nI o) f') mm mco (nI v) (nI k) = _
      unfold fX12_looksThrough_o_34b
      have e1 : fX12_of mm (nI b) (nI o) 1 = some (nI (a_my A o)) := M_of1 hR hb ho hto
      rw [e1, b1_s, if_pos (by rw [le_n (by omega) (by omega)]; omega)]
  | succ r ih =>
    intro k c t v hk hP hst hW hf hg
    have hk4 : k < 4 := by omega
    have hs : st.length < 24 := by
      have := nd_len hnd (n := 24) (fun y hy => W_th w (hst y hy).1)
      rw [List.length_append] at this
      exact this
    have hm : ∀ (m0 : Nat → Int32) (b : Nat) (mm mco : Nat → Int32) (f : Nat), b ≤ 5124 → RM m0 b mm (u_ct A t) → fX12_looksThrough_o_34 (fX12_looksThrough_d N d) N (nI b) (nI o) (f + 1) mm mco (nI v) (nI k) = (if oI (a_fd A o k) < 0 then fX12_looksThrough_o_34 (fX12_looksThrough_d N d) N (nI b) (nI o) f mm mco (nI v) (nI (k + 1)) else bnd3 (fX12_looksThrough_d N d mm (nI b) mco (nI v) (oI (a_fd A o k))) fun m2 c2 v2 => fX12_looksThrough_o_34 (fX12_looksThrough_d N d) N (nI b) (nI o) f m2 c2 v2 (nI (k + 1))) := by
      intro m0 b mm mco f hb hR
      show fX12_looksThrough_o_34b (fX12_looksThrough_d N d) N (nI b) (nI o) (fX12_looksThrough_o_34 (fX12_looksThrough_d N d) N (nI b) (nI o) f) mm mco (nI v) (nI k) = _
      unfold fX12_looksThrough_o_34b
      have e1 : fX12_of mm (nI b) (nI o) 1 = some (nI (a_my A o)) := M_of1 hR hb ho hto
      have e2 : fX12_fieldOf mm (nI b) (nI o) (nI k) = some (oI (a_fd A o k)) := M_fieldOf hR hb ho hk4 hto
      rw [e1, b1_s, if_neg (by rw [le_n (by omega) (by omega)]; omega), e2, b1_s, b1_s, nI_1]
    cases e : a_fd A o k with
    | none =>
      obtain ⟨c', t', v', n, g1, g2, g3, g4, g5, g6, g7⟩ := ih (k + 1) c t v (by omega) hP hst hW (fun j x q1 q2 => by
        by_cases q : j = k
        · rw [q, e] at q2; cases q2
        · exact hf j x (by omega) q2) hg
      refine ⟨c', t', v', 1 + n, g1, g2, g3, g4, by omega, fun m0 b mm mco f hb hR hC hf2 => ?_, ?_⟩
      · obtain ⟨f', rfl⟩ : ∃ f', f = f' + 1 := ⟨f - 1, by omega⟩
        rw [hm m0 b mm mco f' hb hR, e, oI_n, if_pos neg1_lt]
        exact g6 m0 b mm mco f' hb hR hC (by omega)
      · intro ks X zcl zwa zpt zpf p2 kk x hl hX hC h1 h2 hx
        obtain ⟨zcl', zwa', zpt', zpf', X', e5, r1, r2, r3, r4⟩ := g7 ks X zcl zwa zpt (upd zpf ks.length (nI (k + 1))) p2 kk (x + 1) hl hX hC h1 (SK_set h2 (k + 1)) (by omega)
        refine ⟨zcl', zwa', zpt', zpf', X', ?_, r1, r2, r3, r4⟩
        rw [show kk + (1 + n) = kk + n + 1 by omega, LK_step hX hl hs ho h1 h2 hk4 (by omega), e, oI_n]
        unfold fX9_looksAt
        rw [if_pos rfl, b7_s, e5, show x + 1 + n = x + (1 + n) by omega]
    | some z =>
      obtain ⟨_, _, htz⟩ := W_fd w e
      have hz24 := W_th w htz
      obtain ⟨c1, t1, v1, n1, i1, i2, i3, i4, i5, i6, i7, i8⟩ := IH z c t v (st ++ [o]) hP htz hnd hst hW hg
      have hgl := gct_le i2
      obtain ⟨c', t', v', n, g1, g2, g3, g4, g5, g6, g7⟩ := ih (k + 1) c1 t1 v1 (by omega) i1 (fun y hy => ⟨(hst y hy).1, i2 y (hst y hy).2⟩) i4 (fun j x q1 q2 => by
        by_cases q : j = k
        · rw [q, e] at q2; cases q2; exact i5
        · exact i2 x (hf j x (by omega) q2)) (by omega)
      refine ⟨c', t', v', 1 + n1 + n, g1, fun y q => g2 y (i2 y q), fun y => (g3 y).trans (i3 y), g4, by omega, fun m0 b mm mco f hb hR hC hf2 => ?_, ?_⟩
      · obtain ⟨f', rfl⟩ : ∃ f', f = f' + 1 := ⟨f - 1, by omega⟩
        obtain ⟨m2, c2, e2, r2, k2⟩ := i7 m0 b mm mco hb hR hC
        have e2' : fX12_looksThrough_d N d mm (nI b) mco (nI v) (nI z) = some (m2, c2, nI v1) := e2
        rw [hm m0 b mm mco f' hb hR, e, oI_s, if_neg (nI_nlt0 (by omega)), e2', b3_s]
        exact g6 m0 b m2 c2 f' hb r2 k2 (by omega)
      · intro ks X zcl zwa zpt zpf p2 kk x hl hX hC h1 h2 hx
        obtain ⟨zcl1, zwa1, zpt1, zpf1, X1, e5, r1, r2, r3, r4⟩ := i8 (ks ++ [k + 1]) X zcl zwa zpt (upd zpf ks.length (nI (k + 1))) p2 (kk + n) (x + 1) (by rw [List.length_append, List.length_append, hl]; rfl) hX hC h1 (SK_set h2 (k + 1)) (by omega)
        obtain ⟨zcl', zwa', zpt', zpf', X', e6, s1, s2, s3, s4⟩ := g7 ks X1 zcl1 zwa1 zpt1 zpf1 p2 kk (x + 1 + n1) hl r1 r2 r3 r4 (by omega)
        refine ⟨zcl', zwa', zpt', zpf', X', ?_, s1, s2, s3, s4⟩
        rw [List.length_append] at e5
        have e5' : (bnd7 (fX9_looksAt N (nI (st.length + 1)) (nI v) zcl zwa zpt (upd zpf ks.length (nI (k + 1))) X (nI z)) fun z1 z2 z3 z4 z5 z6 Y => fX9_looksThrough_13 N p2 (kk + n + n1) z1 z2 z3 z4 z5 z6 Y (nI (x + 1))) = fX9_looksThrough_13 N p2 (kk + n) (nI (st.length + 1)) (nI v1) zcl1 zwa1 zpt1 zpf1 X1 (nI (x + 1 + n1)) := e5
        rw [show kk + (1 + n1 + n) = kk + n + n1 + 1 by omega, LK_step hX hl hs ho h1 h2 hk4 (by omega), e, oI_s, e5', e6, show x + 1 + n1 + n = x + (1 + n1 + n) by omega]
