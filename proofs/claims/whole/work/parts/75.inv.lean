/-! copies; told rows; the relation that all calls keep -/
theorem RM_copy {m0 mm mm' : Nat → Int32} {b b2 : Nat} {A : AS} (h : RM m0 b mm A) (e : ∀ k : Nat, k < 427 → mm' (b2 + k) = mm (b + k)) : RM mm' b2 mm' A := by
  obtain ⟨h1, h2, h3, h4, h5, h6, h7, h8, h9, h10, h11, h12, h13, h14, h15, h16, h17, h18, h19⟩ := h
  have c : ∀ x y : Nat, ∀ k : Nat, k < 427 → x = b2 + k → y = b + k → mm' x = mm y := fun x y k hk e1 e2 => by rw [e1, e2]; exact e k hk
  refine ⟨fun _ _ => rfl, ?_, ?_, ?_, fun k hk => ?_, fun i hi => ?_, fun k hk => ?_, fun k hk => ?_, fun p hp => ?_, fun p hp => ?_, fun o ho => ?_, fun o ho ht => ?_, fun o ho ht => ?_, fun o ho ht => ?_, fun o ho ht => ?_, fun o ho ht => ?_, fun o ho ht => ?_, fun o k ho hk ht => ?_, h19⟩
  · rw [c b2 b 0 (by omega) (by omega) (by omega)]; exact h2
  · rw [c _ (b + 1) 1 (by omega) (by omega) (by omega)]; exact h3
  · rw [c _ (b + 2) 2 (by omega) (by omega) (by omega)]; exact h4
  · rw [c _ (b + 3 + k) (3 + k) (by omega) (by omega) (by omega)]; exact h5 k hk
  · rw [c _ (b + 9 + i) (9 + i) (by omega) (by omega) (by omega)]; exact h6 i hi
  · rw [c _ (b + 33 + k) (33 + k) (by omega) (by omega) (by omega)]; exact h7 k hk
  · rw [c _ (b + 39 + k) (39 + k) (by omega) (by omega) (by omega)]; exact h8 k hk
  · rw [c _ (b + 43 + 2 * p) (43 + 2 * p) (by omega) (by omega) (by omega)]; exact h9 p hp
  · rw [c _ (b + 43 + 2 * p + 1) (43 + 2 * p + 1) (by omega) (by omega) (by omega)]; exact h10 p hp
  · rw [c _ (b + 163 + 11 * o) (163 + 11 * o) (by omega) (by omega) (by omega)]; exact h11 o ho
  · rw [c _ (b + 163 + 11 * o + 1) (163 + 11 * o + 1) (by omega) (by omega) (by omega)]; exact h12 o ho ht
  · rw [c _ (b + 163 + 11 * o + 2) (163 + 11 * o + 2) (by omega) (by omega) (by omega)]; exact h13 o ho ht
  · rw [c _ (b + 163 + 11 * o + 3) (163 + 11 * o + 3) (by omega) (by omega) (by omega)]; exact h14 o ho ht
  · rw [c _ (b + 163 + 11 * o + 4) (163 + 11 * o + 4) (by omega) (by omega) (by omega)]; exact h15 o ho ht
  · rw [c _ (b + 163 + 11 * o + 5) (163 + 11 * o + 5) (by omega) (by omega) (by omega)]; exact h16 o ho ht
  · rw [c _ (b + 163 + 11 * o + 6) (163 + 11 * o + 6) (by omega) (by omega) (by omega)]; exact h17 o ho ht
  · rw [c _ (b + 163 + 11 * o + 7 + k) (163 + 11 * o + 7 + k) (by omega) (by omega) (by omega)]; exact h18 o k ho hk ht
theorem RM_move {m0 mm mm' : Nat → Int32} {b : Nat} {A : AS} (h : RM m0 b mm A) (e : ∀ i : Nat, b ≤ i → i < b + 427 → mm' i = mm i) : RM mm' b mm' A := RM_copy h (fun k hk => e (b + k) (by omega) (by omega))
theorem RM_fr {m0 mm : Nat → Int32} {b : Nat} {A : AS} (h : RM m0 b mm A) : ∀ i : Nat, (i < b ∨ b + 427 ≤ i) → mm i = m0 i := h.1
theorem RM_own {m0 mm : Nat → Int32} {b : Nat} {A : AS} (h : RM m0 b mm A) : RM mm b mm A := RM_move h (fun _ _ _ => rfl)
theorem M_copies {N : Nat} (hN : 1000 < N) (mm : Nat → Int32) {f t : Nat} (hf : f ≤ 12) (ht : t ≤ 12) (hft : f ≠ t) : ∃ mm', fX12_copies N mm (nI f) (nI t) = some mm' ∧ (∀ k : Nat, k < 427 → mm' (427 * t + k) = mm (427 * f + k)) ∧ ∀ i : Nat, (i < 427 * t ∨ 427 * t + 427 ≤ i) → mm' i = mm i := by
  have ad : ∀ a x : Nat, nI a * 427 + nI x = nI (a * 427 + x) := fun a x => by rw [show (427 : Int32) = nI 427 from rfl, pk_mul, nI_add]
  have l427 : ∀ x : Nat, x < 1000 → ((427 : Int32) ≤ nI x ↔ 427 ≤ x) := fun x hx => nI_leI (a := 427) (by decide) (by omega)
  have gen : ∀ (r x : Nat) (Y : Nat → Int32) (fu : Nat), x + r = 427 → (∀ k : Nat, k < x → Y (427 * t + k) = mm (427 * f + k)) → (∀ i : Nat, (i < 427 * t ∨ 427 * t + x ≤ i) → Y i = mm i) → r < fu → ∃ mm', fX12_copies_2 N (nI f) (nI t) fu Y (nI x) = some mm' ∧ (∀ k : Nat, k < 427 → mm' (427 * t + k) = mm (427 * f + k)) ∧ ∀ i : Nat, (i < 427 * t ∨ 427 * t + 427 ≤ i) → mm' i = mm i := by
    intro r
    induction r with
    | zero =>
      intro x Y fu hx h1 h2 hfu
      obtain ⟨fu', rfl⟩ : ∃ f', fu = f' + 1 := ⟨fu - 1, by omega⟩
      have : x = 427 := by omega
      subst this
      refine ⟨Y, ?_, h1, h2⟩
      show fX12_copies_2b N (nI f) (nI t) (fX12_copies_2 N (nI f) (nI t) fu') Y (nI 427) = _
      unfold fX12_copies_2b
      rw [if_pos ((l427 427 (by omega)).mpr (by omega))]
    | succ r ih =>
      intro x Y fu hx h1 h2 hfu
      obtain ⟨fu', rfl⟩ : ∃ f', fu = f' + 1 := ⟨fu - 1, by omega⟩
      obtain ⟨mm', e, k1, k2⟩ := ih (x + 1) (upd Y (t * 427 + x) (Y (f * 427 + x))) fu' (by omega) (fun k hk => by
        by_cases q : k = x
        · subst q
          rw [show 427 * t + k = t * 427 + k by omega, pk_us, h2 _ (by omega), show f * 427 + k = 427 * f + k by omega]
        · rw [pk_un (by omega)]; exact h1 k (by omega)) (fun i hi => by rw [pk_un (by omega)]; exact h2 i (by omega)) (by omega)
      refine ⟨mm', ?_, k1, k2⟩
      show fX12_copies_2b N (nI f) (nI t) (fX12_copies_2 N (nI f) (nI t) fu') Y (nI x) = _
      unfold fX12_copies_2b
      rw [if_neg (fun c => by have := (l427 x (by omega)).mp c; omega), ad, ad, inb_n (by omega) (by decide), inb_n (by omega) (by decide), grd_t, grd_t, cl_n (by omega), cl_n (by omega), lt_e, nI_1, e]
  exact gen 427 0 mm N (by omega) (fun k hk => absurd hk (Nat.not_lt_zero k)) (fun _ _ => rfl) (by omega)
def upush (U : Nat → AS) (u : Nat) (A : AS) : Nat → AS := fun q => if u = 8 then (if q = 7 then A else U (q + 1)) else (if q = u then A else U q)
def upn (u : Nat) : Nat := if u = 8 then 8 else u + 1
theorem M_lays47 {N : Nat} (hN : 1000 < N) {mm : Nat → Int32} {u : Nat} (hu : u < 8) : ∃ mm', fX12_lays_47 N mm (nI u) = some (mm', nI (u + 1)) ∧ (∀ k : Nat, k < 427 → mm' (427 * (5 + u) + k) = mm (1281 + k)) ∧ ∀ i : Nat, (i < 427 * (5 + u) ∨ 427 * (5 + u) + 427 ≤ i) → mm' i = mm i := by
  obtain ⟨mm', e, k1, k2⟩ := M_copies hN mm (f := 3) (t := 5 + u) (by omega) (by omega) (by omega)
  refine ⟨mm', ?_, k1, k2⟩
  have e' : fX12_copies N mm 3 (nI (5 + u)) = some mm' := e
  unfold fX12_lays_47
  rw [show (5 : Int32) + nI u = nI (5 + u) from ad_1 5 u, e', b1_s, nI_1, lt_e]
theorem M_lays {N : Nat} (hN : 1000 < N) {mm : Nat → Int32} {u : Nat} (hu : u ≤ 8) {A : AS} {U : Nat → AS} (hA : RM mm 1281 mm A) (hU : ∀ q, q < u → RM mm (427 * (5 + q)) mm (U q)) : ∃ mm', fX12_lays N mm (nI u) = some (mm', nI (upn u)) ∧ (∀ i : Nat, i < 2135 → mm' i = mm i) ∧ ∀ q, q < upn u → RM mm' (427 * (5 + q)) mm' (upush U u A q) := by
  unfold fX12_lays upn upush
  by_cases q8 : u = 8
  · subst q8
    have gen : ∀ (r k : Nat) (Y : Nat → Int32) (f : Nat), k + r = 7 → (∀ i : Nat, i < 2135 → Y i = mm i) → (∀ q, q < k → RM Y (427 * (5 + q)) Y (U (q + 1))) → (∀ q, k ≤ q → q < 8 → RM Y (427 * (5 + q)) Y (U q)) → r < f → ∃ mm', fX12_lays_11 N f Y (nI 8) (nI k) = fX12_lays_37 N mm' (nI 8) ∧ (∀ i : Nat, i < 2135 → mm' i = mm i) ∧ ∀ q, q < 7 → RM mm' (427 * (5 + q)) mm' (U (q + 1)) := by
      intro r
      induction r with
      | zero =>
        intro k Y f hk h1 h2 h3 hf
        obtain ⟨f', rfl⟩ : ∃ f', f = f' + 1 := ⟨f - 1, by omega⟩
        have : k = 7 := by omega
        subst this
        refine ⟨Y, ?_, h1, h2⟩
        show fX12_lays_11b N (fX12_lays_11 N f') Y (nI 8) (nI 7) = _
        unfold fX12_lays_11b
        rw [if_pos (by decide)]
      | succ r ih =>
        intro k Y f hk h1 h2 h3 hf
        obtain ⟨f', rfl⟩ : ∃ f', f = f' + 1 := ⟨f - 1, by omega⟩
        obtain ⟨Z, e, k1, k2⟩ := M_copies hN Y (f := 5 + k + 1) (t := 5 + k) (by omega) (by omega) (by omega)
        obtain ⟨mm', e2, g1, g2⟩ := ih (k + 1) Z f' (by omega) (fun i hi => by rw [k2 i (by omega)]; exact h1 i hi) (fun q hq => by
          by_cases c : q = k
          · subst c
            exact RM_copy (h3 (q + 1) (by omega) (by omega)) (fun j hj => by rw [k1 j hj, show 427 * (5 + q + 1) + j = 427 * (5 + (q + 1)) + j by omega])
          · exact RM_move (h2 q (by omega)) (fun i i1 i2 => k2 i (by omega))) (fun q q1 q2 => RM_move (h3 q (by omega) q2) (fun i i1 i2 => k2 i (by omega))) (by omega)
        refine ⟨mm', ?_, g1, g2⟩
        show fX12_lays_11b N (fX12_lays_11 N f') Y (nI 8) (nI k) = _
        unfold fX12_lays_11b
        rw [nI_1, if_neg (fun c => by have := (nI_leI (a := 8) (b := k + 1) (by decide) (by omega)).mp c; omega), show (5 : Int32) + nI k = nI (5 + k) from ad_1 5 k, nI_1, e, b1_s, e2]
    obtain ⟨Z, e, g1, g2⟩ := gen 7 0 mm N (by omega) (fun _ _ => rfl) (fun q hq => absurd hq (Nat.not_lt_zero q)) (fun q _ hq => hU q hq) (by omega)
    obtain ⟨mm', e2, k1, k2⟩ := M_lays47 hN (mm := Z) (u := 7) (by decide)
    refine ⟨mm', ?_, fun i hi => ?_, fun q hq => ?_⟩
    · rw [if_pos (show nI 8 = 8 from rfl)]
      have e' : fX12_lays_11 N N mm (nI 8) 0 = fX12_lays_37 N Z (nI 8) := e
      have e2' : fX12_lays_47 N Z (nI 8 - 1) = some (mm', nI 8) := e2
      rw [e']
      unfold fX12_lays_37
      rw [lt_e, e2']
      rfl
    · rw [k2 i (by omega)]; exact g1 i hi
    · rw [if_pos rfl] at hq
      rw [if_pos rfl]
      by_cases c : q = 7
      · subst c
        rw [if_pos rfl]
        exact RM_copy hA (fun j hj => by rw [k1 j hj, g1 _ (by omega)])
      · rw [if_neg c]
        exact RM_move (g2 q (by omega)) (fun i i1 i2 => k2 i (by omega))
  · obtain ⟨mm', e2, k1, k2⟩ := M_lays47 hN (mm := mm) (u := u) (by omega)
    refine ⟨mm', ?_, fun i hi => k2 i (by omega), fun q hq => ?_⟩
    · rw [if_neg (by rw [show (8 : Int32) = nI 8 from rfl, eq_n (by omega) (by omega)]; exact q8), e2, if_neg q8]
    · rw [if_neg q8] at hq
      rw [if_neg q8]
      by_cases c : q = u
      · subst c
        rw [if_pos rfl]
        exact RM_copy hA (fun j hj => k1 j hj)
      · rw [if_neg c]
        exact RM_move (hU q (by omega)) (fun i i1 i2 => k2 i (by omega))
/-! told rows -/
theorem TL_0 (zn mr : Nat → Int64) : TLD 0 zn 0 mr := ⟨rfl, by decide, by decide, fun i hi => by rw [i0] at hi; omega⟩
theorem TL_a {z : Nat} {zn mr : Nat → Int64} (h : TLD (nI z) zn (nI z) mr) (hz : z < 24) (a : Int64) : fX8_adds (nI z) zn a = some (nI (z + 1), vp_updL zn z a) ∧ fX12_enters (nI z) mr a = some (nI (z + 1), vp_updL mr z a) ∧ TLD (nI (z + 1)) (vp_updL zn z a) (nI (z + 1)) (vp_updL mr z a) := by
  obtain ⟨_, h1, h2, h3⟩ := h
  have e := nI_toInt (n := z) (by omega)
  have e1 := nI_toInt (n := z + 1) (by omega)
  refine ⟨?_, ?_, rfl, by omega, by omega, fun i hi => ?_⟩
  · unfold fX8_adds
    rw [if_neg (by rw [le_24 (by omega)]; omega), inb_n hz (by decide), grd_t, cl_n (by omega), lt_e, nI_1, lt_e]
  · unfold fX12_enters
    rw [inb_n (by omega) (by decide), grd_t, cl_n (by omega), lt_e, nI_1, lt_e]
  · by_cases q : i = z
    · rw [q, pk_uLs, pk_uLs]
    · rw [pk_uLn q, pk_uLn q]; exact h3 i (by omega)
theorem TL_1 (ztz : Int32) (zn mr : Nat → Int64) (a : Int64) : ∃ zn' mr', fX8_tells ztz zn a = some (1, zn') ∧ fX12_enters 0 mr a = some (1, mr') ∧ TLD 1 zn' 1 mr' := by
  obtain ⟨e1, e2, h⟩ := TL_a (z := 0) (TL_0 zn mr) (by decide) a
  have e1' : fX8_adds 0 zn a = some (1, vp_updL zn 0 a) := e1
  refine ⟨_, _, ?_, e2, h⟩
  unfold fX8_tells fX8_clears
  rw [b1_s, e1', b2_s]
theorem TL_2 (ztz : Int32) (zn mr : Nat → Int64) (a c : Int64) : ∃ zn' mr1 mr', fX8_tells_ ztz zn a c = some (2, zn') ∧ fX12_enters 0 mr a = some (1, mr1) ∧ fX12_enters 1 mr1 c = some (2, mr') ∧ TLD 2 zn' 2 mr' := by
  obtain ⟨zn1, mr1, e1, e2, h⟩ := TL_1 ztz zn mr a
  obtain ⟨f1, f2, g⟩ := TL_a (z := 1) h (by decide) c
  have f1' : fX8_adds 1 zn1 c = some (2, vp_updL zn1 1 c) := f1
  refine ⟨_, mr1, _, ?_, e2, f2, g⟩
  unfold fX8_tells_
  rw [e1, b2_s, f1', b2_s]
theorem TL_3 (ztz : Int32) (zn mr : Nat → Int64) (a c d : Int64) : ∃ zn' mr1 mr2 mr', fX8_tells__ ztz zn a c d = some (3, zn') ∧ fX12_enters 0 mr a = some (1, mr1) ∧ fX12_enters 1 mr1 c = some (2, mr2) ∧ fX12_enters 2 mr2 d = some (3, mr') ∧ TLD 3 zn' 3 mr' := by
  obtain ⟨zn1, mr1, mr2, e1, e2, e3, h⟩ := TL_2 ztz zn mr a c
  obtain ⟨f1, f2, g⟩ := TL_a (z := 2) h (by decide) d
  have f1' : fX8_adds 2 zn1 d = some (3, vp_updL zn1 2 d) := f1
  refine ⟨_, mr1, mr2, _, ?_, e2, e3, f2, g⟩
  unfold fX8_tells__
  rw [e1, b2_s, f1', b2_s]
/-! the relation -/
def COR (B : Nat) (HS : Nat → Nat → Nat → Int32) (zkb zpn zps : Int32) (mme : Nat → Int32) (mun : Int32) (mkp : Nat → Int32) (A : AS) (K U : Nat → AS) (kb : Nat → Bool) (u pn : Nat) : Prop :=
  (J B A [] none ∧ RC (HS 0) A ∧ RM mme 0 mme A) ∧
  (zkb = bs kb ∧ ∀ i, i < 2 → mkp i = bI (kb i) ∧ (kb i = true → J B (K i) [] none ∧ RC (HS (2 + i)) (K i) ∧ RM mme (427 * (1 + i)) mme (K i))) ∧
  (zps = nI u ∧ mun = nI u ∧ u ≤ 8 ∧ zpn = nI pn ∧ pn < 9 ∧ ∀ q, q < u → J B (U q) [] none ∧ RC (HS (4 + (pn + 9 - u + q) % 9)) (U q) ∧ RM mme (427 * (5 + q)) mme (U q))
abbrev INV (j : Nat) (c : CSt) (m : MSt) : Prop := ∃ (A : AS) (K U : Nat → AS) (kb : Nat → Bool) (u pn : Nat), COR (640 * j) c.1 c.2.1 c.2.2.2.2.1 c.2.2.2.2.2.1 m.2.2.2.2.2.2.2.1 m.2.2.2.2.2.2.2.2.1 m.2.2.2.2.2.2.2.2.2.2.2.2.2.2.2.2.2.2.2.2 A K U kb u pn ∧ TXT c.2.2.2.2.2.2.2.2.1 c.2.2.2.2.2.2.2.2.2.2.1 m.2.2.2.1 m.2.2.2.2.1 ∧ TLD c.2.2.2.2.2.2.1 c.2.2.2.2.2.2.2.1 m.2.1 m.2.2.1 ∧ m.2.2.2.2.2.2.2.2.2.1 = 0
theorem COR_up {B B' : Nat} {HS : Nat → Nat → Nat → Int32} {zkb zpn zps : Int32} {mme : Nat → Int32} {mun : Int32} {mkp : Nat → Int32} {A : AS} {K U : Nat → AS} {kb : Nat → Bool} {u pn : Nat} (h : COR B HS zkb zpn zps mme mun mkp A K U kb u pn) (hb : B ≤ B') : COR B' HS zkb zpn zps mme mun mkp A K U kb u pn := by
  obtain ⟨⟨a1, a2, a3⟩, ⟨b1, b2⟩, c1, c2, c3, c4, c5, c6⟩ := h
  exact ⟨⟨J_up a1 hb, a2, a3⟩, ⟨b1, fun i hi => ⟨(b2 i hi).1, fun hk => ⟨J_up ((b2 i hi).2 hk).1 hb, ((b2 i hi).2 hk).2⟩⟩⟩, c1, c2, c3, c4, c5, fun q hq => ⟨J_up (c6 q hq).1 hb, (c6 q hq).2⟩⟩
theorem INV_mono (j : Nat) (c : CSt) (m : MSt) (h : INV j c m) : INV (j + 1) c m := by
  obtain ⟨A, K, U, kb, u, pn, h1, h2⟩ := h
  exact ⟨A, K, U, kb, u, pn, COR_up h1 (by omega), h2⟩
/-- what would be was tried on the spare heap, on the fifth area -/
theorem COR_sp {B : Nat} {HS HS' : Nat → Nat → Nat → Int32} {zkb zpn zps : Int32} {mme mme' : Nat → Int32} {mun : Int32} {mkp : Nat → Int32} {A : AS} {K U : Nat → AS} {kb : Nat → Bool} {u pn : Nat} (h : COR B HS zkb zpn zps mme mun mkp A K U kb u pn) (e1 : ∀ i, i ≠ 1 → HS' i = HS i) (e2 : ∀ i : Nat, (i < 1708 ∨ 2135 ≤ i) → mme' i = mme i) : COR B HS' zkb zpn zps mme' mun mkp A K U kb u pn := by
  obtain ⟨⟨a1, a2, a3⟩, ⟨b1, b2⟩, c1, c2, c3, c4, c5, c6⟩ := h
  refine ⟨⟨a1, by rw [e1 0 (by decide)]; exact a2, RM_move a3 (fun i i1 i2 => e2 i (by omega))⟩, ⟨b1, fun i hi => ⟨(b2 i hi).1, fun hk => ?_⟩⟩, c1, c2, c3, c4, c5, fun q hq => ?_⟩
  · obtain ⟨d1, d2, d3⟩ := (b2 i hi).2 hk
    exact ⟨d1, by rw [e1 _ (by omega)]; exact d2, RM_move d3 (fun i i1 i2 => e2 i (by omega))⟩
  · obtain ⟨d1, d2, d3⟩ := c6 q hq
    exact ⟨d1, by rw [e1 _ (by omega)]; exact d2, RM_move d3 (fun i i1 i2 => e2 i (by omega))⟩
/-- a mark that comes to nothing -/
theorem COR_mk {B : Nat} {HS : Nat → Nat → Nat → Int32} {zkb zpn zps : Int32} {mme mme' : Nat → Int32} {mun : Int32} {mkp : Nat → Int32} {A : AS} {K U : Nat → AS} {kb : Nat → Bool} {u pn : Nat} (h : COR B HS zkb zpn zps mme mun mkp A K U kb u pn) (Y X' : Nat → Nat → Int32) (hX : RC X' A) (e2 : ∀ i : Nat, (427 ≤ i ∧ (i < 1281 ∨ 1708 ≤ i)) → mme' i = mme i) (hR : RM mme' 0 mme' A) : COR B (updH (updH HS (4 + pn) Y) 0 X') zkb zpn zps mme' mun mkp A K U kb u pn := by
  obtain ⟨⟨a1, a2, a3⟩, ⟨b1, b2⟩, c1, c2, c3, c4, c5, c6⟩ := h
  have f : ∀ i, i ≠ 0 → i ≠ 4 + pn → updH (updH HS (4 + pn) Y) 0 X' i = HS i := fun i h1 h2 => by
    unfold updH
    rw [if_neg h1, if_neg h2]
  refine ⟨⟨a1, hX, hR⟩, ⟨b1, fun i hi => ⟨(b2 i hi).1, fun hk => ?_⟩⟩, c1, c2, c3, c4, c5, fun q hq => ?_⟩
  · obtain ⟨d1, d2, d3⟩ := (b2 i hi).2 hk
    exact ⟨d1, by rw [f _ (by omega) (by omega)]; exact d2, RM_move d3 (fun i i1 i2 => e2 i (by omega))⟩
  · obtain ⟨d1, d2, d3⟩ := c6 q hq
    exact ⟨d1, by rw [f _ (by omega) (by omega)]; exact d2, RM_move d3 (fun i i1 i2 => e2 i (by omega))⟩
theorem keeps_c {u pn : Nat} (hu : u ≤ 8) (hp : pn < 9) : fX5_keeps (nI pn) (nI u) = some (nI ((pn + 1) % 9), nI (upn u)) := by
  have e1 : (if (8 : Int32) < nI u + 1 then (8 : Int32) else nI u + 1) = nI (upn u) := by
    unfold upn
    rw [nI_1]
    by_cases q : u = 8
    · subst q; rfl
    · rw [if_neg (fun c => by have := (nI_ltI (a := 8) (b := u + 1) (by decide) (by omega)).mp c; omega), if_neg q]
  unfold fX5_keeps fX5_keeps_20
  by_cases q : pn = 8
  · subst q
    rw [if_pos (show nI 8 = 8 from rfl), e1, lt_e]
    rfl
  · rw [if_neg (by rw [show (8 : Int32) = nI 8 from rfl, eq_n (by omega) (by omega)]; exact q), e1, lt_e, nI_1, show (pn + 1) % 9 = pn + 1 by omega]
/-- a change that is kept -/
theorem COR_ps {B B' : Nat} (hb : B ≤ B') {N : Nat} (hN : 1000 < N) {HS : Nat → Nat → Nat → Int32} {zkb zpn zps : Int32} {mme mm1 : Nat → Int32} {mun : Int32} {mkp : Nat → Int32} {A A' : AS} {K U : Nat → AS} {kb : Nat → Bool} {u pn : Nat} (h : COR B HS zkb zpn zps mme mun mkp A K U kb u pn) {X' : Nat → Nat → Int32} (hJ : J B' A' [] none) (hX : RC X' A') (hR : RM mm1 0 mm1 A') (e2 : ∀ i : Nat, (427 ≤ i ∧ (i < 1281 ∨ 1708 ≤ i)) → mm1 i = mme i) (hS : RM mm1 1281 mm1 A) : ∃ mm2 zpn' zps' mun', fX5_keeps zpn zps = some (zpn', zps') ∧ fX12_lays N mm1 mun = some (mm2, mun') ∧ (∀ i : Nat, i < 2135 → mm2 i = mm1 i) ∧ COR B' (updH (updH HS (4 + pn) (HS 0)) 0 X') zkb zpn' zps' mm2 mun' mkp A' K (upush U u A) kb (upn u) ((pn + 1) % 9) := by
  obtain ⟨⟨a1, a2, a3⟩, ⟨b1, b2⟩, c1, c2, c3, c4, c5, c6⟩ := h
  subst c1 c2 c4
  obtain ⟨mm2, e, g1, g2⟩ := M_lays hN (mm := mm1) c3 hS (U := U) (fun q hq => RM_move (c6 q hq).2.2 (fun i i1 i2 => e2 i (by omega)))
  refine ⟨mm2, _, _, _, keeps_c c3 c5, e, g1, ⟨hJ, hX, RM_move hR (fun i i1 i2 => g1 i (by omega))⟩, ⟨b1, fun i hi => ⟨(b2 i hi).1, fun hk => ?_⟩⟩, rfl, rfl, ?_, rfl, by omega, fun q hq => ⟨?_, ?_, g2 q hq⟩⟩
  · obtain ⟨d1, d2, d3⟩ := (b2 i hi).2 hk
    refine ⟨J_up d1 hb, ?_, ?_⟩
    · have : updH (updH HS (4 + pn) (HS 0)) 0 X' (2 + i) = HS (2 + i) := by
        unfold updH
        rw [if_neg (by omega), if_neg (by omega)]
      rw [this]; exact d2
    · exact RM_move (RM_move d3 (fun i i1 i2 => e2 i (by omega))) (fun i i1 i2 => g1 i (by omega))
  · unfold upn; split <;> omega
  · unfold upush
    unfold upn at hq
    by_cases q8 : u = 8
    · rw [if_pos q8] at hq ⊢
      by_cases q7 : q = 7
      · rw [if_pos q7]; exact J_up a1 hb
      · rw [if_neg q7]; exact J_up (c6 (q + 1) (by omega)).1 hb
    · rw [if_neg q8] at hq ⊢
      by_cases q7 : q = u
      · rw [if_pos q7]; exact J_up a1 hb
      · rw [if_neg q7]; exact J_up (c6 q (by omega)).1 hb
  · unfold upush
    unfold upn at hq ⊢
    by_cases q8 : u = 8
    · rw [if_pos q8] at hq ⊢
      rw [if_pos q8]
      by_cases q7 : q = 7
      · rw [if_pos q7]
        have : updH (updH HS (4 + pn) (HS 0)) 0 X' (4 + ((pn + 1) % 9 + 9 - 8 + q) % 9) = HS 0 := by
          unfold updH
          rw [if_neg (by omega), if_pos (by omega)]
        rw [this]; exact a2
      · rw [if_neg q7]
        have : updH (updH HS (4 + pn) (HS 0)) 0 X' (4 + ((pn + 1) % 9 + 9 - 8 + q) % 9) = HS (4 + (pn + 9 - u + (q + 1)) % 9) := by
          unfold updH
          rw [if_neg (by omega), if_neg (by omega)]
          congr 1
          omega
        rw [this]; exact (c6 (q + 1) (by omega)).2.1
    · rw [if_neg q8] at hq ⊢
      rw [if_neg q8]
      by_cases q7 : q = u
      · rw [if_pos q7]
        have : updH (updH HS (4 + pn) (HS 0)) 0 X' (4 + ((pn + 1) % 9 + 9 - (u + 1) + q) % 9) = HS 0 := by
          unfold updH
          rw [if_neg (by omega), if_pos (by omega)]
        rw [this]; exact a2
      · rw [if_neg q7]
        have : updH (updH HS (4 + pn) (HS 0)) 0 X' (4 + ((pn + 1) % 9 + 9 - (u + 1) + q) % 9) = HS (4 + (pn + 9 - u + q) % 9) := by
          unfold updH
          rw [if_neg (by omega), if_neg (by omega)]
          congr 1
          omega
        rw [this]; exact (c6 q (by omega)).2.1
