/-! class: spreads (a row of those that wait) -/
theorem cI_addg (a b : Int) : cI a + cI b = cI (a + b) := by
  unfold cI
  rw [Int32.ofInt_add]
theorem nd_inj {l : List Nat} (hd : l.Nodup) {i j : Nat} (hi : i < l.length) (hj : j < l.length) (e : l.getD i 0 = l.getD j 0) : i = j := by
  rw [List.getD_eq_getElem?_getD, List.getD_eq_getElem?_getD, List.getElem?_eq_getElem hj, List.getElem?_eq_getElem hi] at e
  have e' : l[i] = l[j] := e
  rcases Nat.lt_trichotomy i j with h | h | h
  · exact absurd e' (List.pairwise_iff_getElem.mp hd i j hi hj h)
  · exact h
  · exact absurd e'.symm (List.pairwise_iff_getElem.mp hd j i hj hi h)
theorem mem_getD {l : List Nat} {x : Nat} (h : x ∈ l) : ∃ i, i < l.length ∧ l.getD i 0 = x := by
  obtain ⟨i, hi, e⟩ := List.mem_iff_getElem.mp h
  exact ⟨i, hi, by rw [List.getD_eq_getElem?_getD, List.getElem?_eq_getElem hi]; exact e⟩
theorem paints_c (v : Nat) (zcl : Nat → Int32) {o : Nat} (ho : o < 24) (cl : Int32) : fX9_paints (nI v) zcl (nI o) cl = some (nI (v + 1), upd zcl o cl) := by
  unfold fX9_paints
  rw [inb_n ho (by decide), grd_t, cl_n (by omega), lt_e, nI_1, lt_e]
def BI (A : AS) (n k : Nat) (q : List Nat) (D : Nat → Bool) (E : Nat → Nat → Bool) : Prop :=
  (∀ y, D y = true ↔ y ∈ q) ∧ q.Nodup ∧ (∀ y ∈ q, a_th A y = true) ∧
  (∀ i, i < n → i < q.length → ∀ j z, a_fd A (q.getD i 0) j = some z → E (q.getD i 0) j = true) ∧
  (∀ j z, j < k → a_fd A (q.getD n 0) j = some z → E (q.getD n 0) j = true) ∧
  (∀ j, k ≤ j → E (q.getD n 0) j = false) ∧
  (∀ i, n < i → i < q.length → ∀ j, E (q.getD i 0) j = false)
theorem bf_in {A : AS} (w : WF A) {N cl : Nat} {dl : Int} (hcl : cl ≤ 3) {s : Nat} {c : Nat → Nat} {t : Nat → Int} {v : Nat} {p2 : Int32} {k19 : Int32 → (Nat → Int32) → (Nat → Int32) → (Nat → Nat → Int32) → Int32 → Int32 → Option (Int32 × (Nat → Int32) × (Nat → Int32) × (Nat → Nat → Int32))} : ∀ (r k : Nat) (n : Nat) (q : List Nat) (D : Nat → Bool) (E : Nat → Nat → Bool) (c' : Nat → Nat) (t' : Nat → Int) (v' : Nat) (X : Nat → Nat → Int32) (zcl zwa : Nat → Int32) (f : Nat), k + r = 4 → GP (a_fd A) cl dl s c t v D E c' t' v' → n < q.length → BI A n k q D E → RC X (u_ct A t') → CP zcl c' → SK zwa q → r < f →
    ∃ (q' : List Nat) (D' : Nat → Bool) (E' : Nat → Nat → Bool) (c'' : Nat → Nat) (t'' : Nat → Int) (v'' : Nat) (X' : Nat → Nat → Int32) (zcl' zwa' : Nat → Int32), fX9_spreads_36 N p2 (nI cl) (cI dl) k19 f (nI v') zcl zwa X (nI q.length) (nI n) (nI k) = k19 (nI v'') zcl' zwa' X' (nI q'.length) (nI (n + 1)) ∧ GP (a_fd A) cl dl s c t v D' E' c'' t'' v'' ∧ n < q'.length ∧ BI A n 4 q' D' E' ∧ RC X' (u_ct A t'') ∧ CP zcl' c'' ∧ SK zwa' q' := by
  intro r
  induction r with
  | zero =>
    intro k n q D E c' t' v' X zcl zwa f hk hG hn hB hX hC hS hf
    have hk4 : k = 4 := by omega
    subst hk4
    have hlen := nd_len hB.2.1 (n := 24) (fun y hy => W_th w (hB.2.2.1 y hy))
    obtain ⟨f', rfl⟩ : ∃ f', f = f' + 1 := ⟨f - 1, by omega⟩
    refine ⟨q, D, E, c', t', v', X, zcl, zwa, ?_, hG, hn, hB, hX, hC, hS⟩
    show fX9_spreads_36b N p2 (nI cl) (cI dl) k19 (fX9_spreads_36 N p2 (nI cl) (cI dl) k19 f') (nI v') zcl zwa X (nI q.length) (nI n) (nI 4) = _
    unfold fX9_spreads_36b
    rw [if_pos (by rw [le_4 (by omega)]; omega), nI_1]
  | succ r ih =>
    intro k n q D E c' t' v' X zcl zwa f hk hG hn hB hX hC hS hf
    obtain ⟨f', rfl⟩ : ∃ f', f = f' + 1 := ⟨f - 1, by omega⟩
    have hk4 : k < 4 := by omega
    obtain ⟨b1, b2, b3, b4, b5, b6, b7⟩ := hB
    have hlen := nd_len b2 (n := 24) (fun y hy => W_th w (b3 y hy))
    have hxq := getD_mem hn
    have htx := b3 _ hxq
    have hx24 := W_th w htx
    have hDx := (b1 _).mpr hxq
    have key : fX9_spreads_36 N p2 (nI cl) (cI dl) k19 (f' + 1) (nI v') zcl zwa X (nI q.length) (nI n) (nI k) = fX9_spreads_36b N p2 (nI cl) (cI dl) k19 (fX9_spreads_36 N p2 (nI cl) (cI dl) k19 f') (nI v') zcl zwa X (nI q.length) (nI n) (nI k) := rfl
    have efd : fX3_fieldAt X (nI (q.getD n 0)) (nI k) = some (oI (a_fd A (q.getD n 0) k)) := C_fieldAt hX hx24 hk4
    have hinj : ∀ i, i < q.length → i ≠ n → q.getD i 0 ≠ q.getD n 0 := fun i hi hne e => hne (nd_inj b2 hi hn e)
    rw [key]
    unfold fX9_spreads_36b
    rw [if_neg (by rw [le_4 (by omega)]; omega), inb_n (by omega) (by decide), grd_t, cl_n (by omega), hS n hn, efd, b1_s]
    cases e : a_fd A (q.getD n 0) k with
    | none =>
      rw [oI_n, if_pos rfl, nI_1]
      refine ih (k + 1) n q D E c' t' v' X zcl zwa f' (by omega) hG hn ⟨b1, b2, b3, b4, fun j z q1 q2 => ?_, fun j q1 => b6 j (by omega), b7⟩ hX hC hS (by omega)
      by_cases q3 : j = k
      · rw [q3, e] at q2; cases q2
      · exact b5 j z (by omega) q2
    | some z =>
      obtain ⟨_, _, htz⟩ := W_fd w e
      have hz24 := W_th w htz
      have hEk := b6 k (Nat.le_refl k)
      have hX2 : RC (up2 X 4 z (cI (t' z + dl))) (u_ct A (fs t' z (t' z + dl))) := C_ct hX z (t' z + dl)
      have e4 : X 4 z = cI (t' z) := RC_h7 hX z hz24
      have hcz := hC z hz24
      rw [oI_s, if_neg (nI_ne1 (by omega)), inb_n hz24 (by decide), grd_t, grd_t, cl_n (by omega), e4, cI_addg, lt_e, grd_t, hcz.1]
      by_cases q4 : c' z = cl
      · rw [if_pos (by rw [q4]), nI_1]
        have hG2 := GP_old hG hDx hk4 hEk e q4
        refine ih (k + 1) n q D (e2 E (q.getD n 0) k) c' _ v' _ zcl zwa f' (by omega) hG2 hn ⟨b1, b2, b3, fun i q1 q2 j y q3 => e2_m (b4 i q1 q2 j y q3), fun j y q1 q2 => ?_, fun j q1 => ?_, fun i q1 q2 j => ?_⟩ hX2 hC hS (by omega)
        · by_cases q3 : j = k
          · rw [q3]; exact e2_s _ _ _
          · exact e2_m (b5 j y (by omega) q2)
        · rw [e2_n (by omega)]; exact b6 j (by omega)
        · rw [e2_n (fun q3 => hinj i q2 (by omega) q3.1)]; exact b7 i q1 q2 j
      · obtain ⟨hDz, hG2⟩ := GP_new hG hDx hk4 hEk e hz24 q4
        have hzq : z ∉ q := fun q5 => by rw [(b1 z).mpr q5] at hDz; cases hDz
        have hlen1 := nd_len1 b2 (n := 24) (fun y hy => W_th w (b3 y hy)) hz24 hzq
        rw [if_neg (by rw [eq_n (by omega) (by omega)]; exact q4), if_neg (by rw [le_24 (by omega)]; omega), inb_n hlen1 (by decide), grd_t, cl_n (by omega), lt_e, paints_c v' zcl hz24, b2_s, nI_1, nI_1, show q.length + 1 = (q ++ [z]).length by simp]
        have hEz : ∀ j, E z j = false := by
          intro j
          cases q3 : E z j with
          | false => rfl
          | true => rw [hG.2.2.1 z j q3] at hDz; cases hDz
        have hzx : z ≠ q.getD n 0 := fun q5 => hzq (q5 ▸ hxq)
        refine ih (k + 1) n (q ++ [z]) (fs D z true) (e2 E (q.getD n 0) k) (fs c' z cl) _ (v' + 1) _ _ _ f' (by omega) hG2 (by rw [List.length_append]; omega) ⟨fun y => ?_, ?_, fun y hy => ?_, fun i q1 q2 j y q3 => ?_, fun j y q1 q2 => ?_, fun j q1 => ?_, fun i q1 q2 j => ?_⟩ hX2 (CP_u hC z hcl) (SK_push hS z) (by omega)
        · by_cases q5 : y = z
          · rw [q5, fs_s]; simp
          · rw [fs_n q5, b1 y]; simp [q5]
        · rw [List.nodup_append]
          refine ⟨b2, by simp, fun a ha b hb => ?_⟩
          rw [List.mem_singleton] at hb
          exact fun e5 => hzq (by rw [← hb, ← e5]; exact ha)
        · rcases List.mem_append.mp hy with h5 | h5
          · exact b3 y h5
          · rw [List.mem_singleton.mp h5]; exact htz
        · rw [getD_app (by omega)] at q3 ⊢
          exact e2_m (b4 i q1 (by omega) j y q3)
        · rw [getD_app hn] at q2 ⊢
          by_cases q3 : j = k
          · rw [q3]; exact e2_s _ _ _
          · exact e2_m (b5 j y (by omega) q2)
        · rw [getD_app hn, e2_n (by omega)]; exact b6 j (by omega)
        · rw [List.length_append] at q2
          have q2' : i < q.length + 1 := q2
          by_cases q3 : i = q.length
          · rw [q3, getD_lst, e2_n (fun q5 => hzx q5.1)]; exact hEz j
          · rw [getD_app (by omega), e2_n (fun q5 => hinj i (by omega) (by omega) q5.1)]; exact b7 i q1 (by omega) j
theorem bf_out {A : AS} (w : WF A) {N cl : Nat} (hN : 1000 ≤ N) {dl : Int} (hcl : cl ≤ 3) {s : Nat} {c : Nat → Nat} {t : Nat → Int} {v : Nat} {p2 : Int32} : ∀ (r n : Nat) (q : List Nat) (D : Nat → Bool) (E : Nat → Nat → Bool) (c' : Nat → Nat) (t' : Nat → Int) (v' : Nat) (X : Nat → Nat → Int32) (zcl zwa : Nat → Int32) (f : Nat), 24 - n = r → GP (a_fd A) cl dl s c t v D E c' t' v' → n ≤ q.length → (n < q.length → BI A n 0 q D E) → (n = q.length → (∀ y, D y = true ↔ y ∈ q) ∧ q.Nodup ∧ (∀ y ∈ q, a_th A y = true) ∧ ∀ i, i < n → ∀ j z, a_fd A (q.getD i 0) j = some z → E (q.getD i 0) j = true) → RC X (u_ct A t') → CP zcl c' → SK zwa q → r < f →
    ∃ (D' : Nat → Bool) (E' : Nat → Nat → Bool) (c'' : Nat → Nat) (t'' : Nat → Int) (v'' : Nat) (X' : Nat → Nat → Int32) (zcl' zwa' : Nat → Int32), fX9_spreads_19 N p2 (nI cl) (cI dl) f (nI v') zcl zwa X (nI q.length) (nI n) = some (nI v'', zcl', zwa', X') ∧ GP (a_fd A) cl dl s c t v D' E' c'' t'' v'' ∧ (∀ y j z, D' y = true → a_fd A y j = some z → E' y j = true) ∧ RC X' (u_ct A t'') ∧ CP zcl' c'' := by
  intro r
  induction r with
  | zero =>
    intro n q D E c' t' v' X zcl zwa f hr hG hn hB hE hX hC hS hf
    have hd : n = q.length := by
      rcases Nat.lt_or_ge n q.length with h | h
      · have := nd_len (hB h).2.1 (n := 24) (fun y hy => W_th w ((hB h).2.2.1 y hy))
        omega
      · omega
    obtain ⟨f', rfl⟩ : ∃ f', f = f' + 1 := ⟨f - 1, by omega⟩
    obtain ⟨a1, a2, a3, a4⟩ := hE hd
    have hlen := nd_len a2 (n := 24) (fun y hy => W_th w (a3 y hy))
    refine ⟨D, E, c', t', v', X, zcl, zwa, ?_, hG, fun y j z q1 q2 => ?_, hX, hC⟩
    · show fX9_spreads_19b N p2 (nI cl) (cI dl) (fX9_spreads_19 N p2 (nI cl) (cI dl) f') (nI v') zcl zwa X (nI q.length) (nI n) = _
      unfold fX9_spreads_19b
      rw [if_pos (by rw [le_n (by omega) (by omega)]; omega)]
    · obtain ⟨i, hi, e⟩ := mem_getD ((a1 y).mp q1)
      rw [← e] at q2 ⊢
      exact a4 i (by omega) j z q2
  | succ r ih =>
    intro n q D E c' t' v' X zcl zwa f hr hG hn hB hE hX hC hS hf
    obtain ⟨f', rfl⟩ : ∃ f', f = f' + 1 := ⟨f - 1, by omega⟩
    rcases Nat.lt_or_ge n q.length with h | h
    · have hB0 := hB h
      have hlen := nd_len hB0.2.1 (n := 24) (fun y hy => W_th w (hB0.2.2.1 y hy))
      obtain ⟨q', D', E', c'', t'', v'', X', zcl', zwa', e, g1, g2, g3, g4, g5, g6⟩ := bf_in (N := N) (p2 := p2) (k19 := fX9_spreads_19 N p2 (nI cl) (cI dl) f') w hcl 4 0 n q D E c' t' v' X zcl zwa N (by omega) hG h hB0 hX hC hS (by omega)
      obtain ⟨b1, b2, b3, b4, b5, b6, b7⟩ := g3
      obtain ⟨D3, E3, c3, t3, v3, X3, z3, w3, e3, rest⟩ := ih (n + 1) q' D' E' c'' t'' v'' X' zcl' zwa' f' (by omega) g1 (by omega) (fun h2 => ⟨b1, b2, b3, fun i q1 q2 j z q3 => by
          by_cases q4 : i = n
          · subst q4
            have := (W_fd w q3).2.1
            have := W_my w (q'.getD i 0)
            exact b5 j z (by omega) q3
          · exact b4 i (by omega) q2 j z q3, fun j _ q1 => absurd q1 (Nat.not_lt_zero j), fun j _ => b7 (n + 1) (by omega) h2 j, fun i q1 q2 j => b7 i (by omega) q2 j⟩) (fun h2 => ⟨b1, b2, b3, fun i q1 j z q3 => by
          by_cases q4 : i = n
          · subst q4
            have := (W_fd w q3).2.1
            have := W_my w (q'.getD i 0)
            exact b5 j z (by omega) q3
          · exact b4 i (by omega) (by omega) j z q3⟩) g4 g5 g6 (by omega)
      refine ⟨D3, E3, c3, t3, v3, X3, z3, w3, ?_, rest⟩
      show fX9_spreads_19b N p2 (nI cl) (cI dl) (fX9_spreads_19 N p2 (nI cl) (cI dl) f') (nI v') zcl zwa X (nI q.length) (nI n) = _
      unfold fX9_spreads_19b
      have e' : fX9_spreads_36 N p2 (nI cl) (cI dl) (fX9_spreads_19 N p2 (nI cl) (cI dl) f') N (nI v') zcl zwa X (nI q.length) (nI n) 0 = fX9_spreads_19 N p2 (nI cl) (cI dl) f' (nI v'') zcl' zwa' X' (nI q'.length) (nI (n + 1)) := e
      rw [if_neg (by rw [le_n (by omega) (by omega)]; omega), if_neg (by rw [le_24 (by omega)]; omega), e', e3]
    · have hd : n = q.length := by omega
      obtain ⟨a1, a2, a3, a4⟩ := hE hd
      have hlen := nd_len a2 (n := 24) (fun y hy => W_th w (a3 y hy))
      refine ⟨D, E, c', t', v', X, zcl, zwa, ?_, hG, fun y j z q1 q2 => ?_, hX, hC⟩
      · show fX9_spreads_19b N p2 (nI cl) (cI dl) (fX9_spreads_19 N p2 (nI cl) (cI dl) f') (nI v') zcl zwa X (nI q.length) (nI n) = _
        unfold fX9_spreads_19b
        rw [if_pos (by rw [le_n (by omega) (by omega)]; omega)]
      · obtain ⟨i, hi, e⟩ := mem_getD ((a1 y).mp q1)
        rw [← e] at q2 ⊢
        exact a4 i (by omega) j z q2
theorem C_spreads {A : AS} (w : WF A) {N cl : Nat} (hN : 1000 ≤ N) {dl : Int} (hcl : cl ≤ 3) {s : Nat} (hts : a_th A s = true) {c : Nat → Nat} (hcs : c s ≠ cl) {t : Nat → Int} {v : Nat} {X : Nat → Nat → Int32} {zcl : Nat → Int32} (zwa : Nat → Int32) (hX : RC X (u_ct A t)) (hC : CP zcl c) :
    ∃ (D' : Nat → Bool) (E' : Nat → Nat → Bool) (c'' : Nat → Nat) (t'' : Nat → Int) (v'' : Nat) (X' : Nat → Nat → Int32) (zcl' zwa' : Nat → Int32), fX9_spreads N (nI v) zcl zwa X (nI s) (nI cl) (cI dl) = some (nI v'', zcl', zwa', X') ∧ GP (a_fd A) cl dl s c t v D' E' c'' t'' v'' ∧ (∀ y j z, D' y = true → a_fd A y j = some z → E' y j = true) ∧ RC X' (u_ct A t'') ∧ CP zcl' c'' := by
  have hs := W_th w hts
  have hG := GP_init (a_fd A) dl t v hs hcs
  obtain ⟨D', E', c'', t'', v'', X', zcl', zwa', e, rest⟩ := bf_out (N := N) (p2 := nI s) w hN hcl 24 0 [s] _ _ _ t (v + 1) X (upd zcl s (nI cl)) (upd zwa 0 (nI s)) N rfl hG (Nat.zero_le _) (fun _ => ⟨fun y => by
      by_cases q5 : y = s
      · rw [q5, fs_s]; simp
      · rw [fs_n q5]; simp [q5], by simp, fun y hy => by rw [List.mem_singleton.mp hy]; exact hts, fun i q1 => absurd q1 (Nat.not_lt_zero i), fun j _ q1 => absurd q1 (Nat.not_lt_zero j), fun _ _ => rfl, fun _ _ _ _ => rfl⟩) (fun q1 => by cases q1) hX (CP_u hC s hcl) (fun i hi => by
      have hi2 : i < 1 := hi
      have : i = 0 := by omega
      subst this
      rw [pk_us]; rfl) (by omega)
  refine ⟨D', E', c'', t'', v'', X', zcl', zwa', ?_, rest⟩
  unfold fX9_spreads
  rw [show inb 0 24 = true from by decide, grd_t, show (0 : Int32).toNatClampNeg = 0 from by decide, lt_e, paints_c v zcl hs, b2_s]
  exact e
