/-! acts: what is asked for, and the trial behind an act -/
theorem lit_within (a b : Int32) {n m : Nat} (ha : a.toInt = n) (hb : b.toInt = m) (p : Int32) : fX1_isWithin p a b = some (bI (decide ((n : Int) ≤ p.toInt ∧ p.toInt ≤ m))) := by
  unfold fX1_isWithin
  simp only [lt_i, ha, hb]
  by_cases q1 : p.toInt < n
  · rw [if_pos q1, decide_eq_false (by omega)]; rfl
  · rw [if_neg q1]
    by_cases q2 : (m : Int) < p.toInt
    · rw [if_pos q2, decide_eq_false (by omega)]; rfl
    · rw [if_neg q2, decide_eq_true (by omega)]; rfl
theorem lit_in (a b : Int32) {c d : Int64} {n m : Nat} (hc : c = a.toInt64) (hd : d = b.toInt64) (ha : a.toInt = n) (hb : b.toInt = m) (p : Int32) : fX12_in p.toInt64 c d = some (bI (decide ((n : Int) ≤ p.toInt ∧ p.toInt ≤ m))) := by
  rw [hc, hd, in_c, ha, hb]
  by_cases q : (n : Int) ≤ p.toInt ∧ p.toInt ≤ m
  · rw [if_pos q, decide_eq_true q]; rfl
  · rw [if_neg q, decide_eq_false q]; rfl
theorem nI_back {p : Int32} (h : 0 ≤ p.toInt) : p = nI p.toInt.toNat ∧ p.toInt.toNat < 2147483648 := by
  have h2 := Int32.toInt_lt p
  refine ⟨Int32.toInt_inj.mp ?_, by omega⟩
  rw [nI_toInt (by omega)]
  omega
theorem has_no {X : Nat → Nat → Int32} {p : Int32} (h : p.toInt < 0 ∨ 24 ≤ p.toInt) : fX3_has X p = some 0 := by
  unfold fX3_has
  simp only [lt_i, le_i, i0, show (24 : Int32).toInt = 24 from by decide]
  by_cases q1 : p.toInt < 0
  · rw [if_pos q1]
  · rw [if_neg q1, if_pos (by omega)]
theorem there_no {mm : Nat → Int32} {d p : Int32} (h : p.toInt < 0 ∨ 24 ≤ p.toInt) : fX12_isThere mm d p = some 0 := by
  have i23 : (23 : Int32).toInt = 23 := by decide
  unfold fX12_isThere
  rw [in_n' (a := p) (c := 23) (d := 23) rfl (by omega)]
  rfl
/-- a number names an object that is there, or none does -/
theorem obj_or (A : AS) (p : Int32) : (∃ o, p = nI o ∧ o < 24 ∧ a_th A o = true) ∨ ((∀ X, RC X A → fX3_has X p = some 0) ∧ ∀ (m0 : Nat → Int32) (b : Nat) (mm : Nat → Int32), b ≤ 5124 → RM m0 b mm A → fX12_isThere mm (nI b) p = some 0) := by
  by_cases q : p.toInt < 0 ∨ 24 ≤ p.toInt
  · exact Or.inr ⟨fun X _ => has_no q, fun m0 b mm _ _ => there_no q⟩
  · obtain ⟨e, h⟩ := nI_back (p := p) (by omega)
    have ho : p.toInt.toNat < 24 := by omega
    generalize p.toInt.toNat = o at *
    subst e
    cases ht : a_th A o with
    | true => exact Or.inl ⟨o, rfl, ho, ht⟩
    | false =>
      refine Or.inr ⟨fun X hX => ?_, fun m0 b mm hb hR => ?_⟩
      · rw [C_has hX ho, ht]; rfl
      · rw [M_isThere hR hb ho, ht]; rfl
/-- a number names an object or none, or it is no such number -/
theorem tgt_or (A : AS) (p : Int32) : (∃ v, p = oI v ∧ (∀ t, v = some t → a_th A t = true) ∧ (∀ X, RC X A → fX3_hasOrNone X p = some 1) ∧ ∀ (m0 : Nat → Int32) (b : Nat) (mm : Nat → Int32), b ≤ 5124 → RM m0 b mm A → fX12_isOther mm (nI b) p = some 1) ∨ ((∀ X, RC X A → fX3_hasOrNone X p = some 0) ∧ ∀ (m0 : Nat → Int32) (b : Nat) (mm : Nat → Int32), b ≤ 5124 → RM m0 b mm A → fX12_isOther mm (nI b) p = some 0) := by
  by_cases q : p = -1
  · refine Or.inl ⟨none, q, (fun t e => nomatch e), fun X _ => ?_, fun m0 b mm _ _ => ?_⟩
    · unfold fX3_hasOrNone; rw [if_pos q]
    · unfold fX12_isOther; rw [if_pos q]
  · rcases obj_or A p with ⟨o, e, ho, ht⟩ | ⟨h1, h2⟩
    · refine Or.inl ⟨some o, e, fun t e2 => by cases e2; exact ht, fun X hX => ?_, fun m0 b mm hb hR => ?_⟩
      · unfold fX3_hasOrNone; rw [if_neg q, e, C_has hX ho, ht]; rfl
      · unfold fX12_isOther; rw [if_neg q, e, M_isThere hR hb ho, ht]; rfl
    · refine Or.inr ⟨fun X hX => ?_, fun m0 b mm hb hR => ?_⟩
      · unfold fX3_hasOrNone; rw [if_neg q, h1 X hX]; rfl
      · unfold fX12_isOther; rw [if_neg q, h2 m0 b mm hb hR]; rfl
def CDo (N : Nat) (za0 za1 za2 za3 za4 : Int32) (A A' : AS) (r : Int32) : Prop := ∀ (X : Nat → Nat → Int32) (zcd : Int32) (zgo : Nat → Int32) (ztd ztv : Int32) (zcl zca zwa zpt zpf : Nat → Int32), RC X A → ∃ zcd' zgo' ztd' ztv' zcl' zca' zwa' zpt' zpf' X', fX1_does N za0 za1 za2 za3 za4 zcd zgo ztd ztv zcl zca zwa zpt zpf X = some (r, zcd', zgo', ztd', ztv', zcl', zca', zwa', zpt', zpf', X') ∧ RC X' A'
def MDo (f : (Nat → Int32) → Int32 → (Nat → Int32) → (Nat → Int32) → Int32 → Option (Int32 × (Nat → Int32) × (Nat → Int32) × (Nat → Int32) × Int32)) (A A' : AS) (r : Int32) : Prop := ∀ (m0 : Nat → Int32) (b : Nat) (mm mco mcn : Nat → Int32) (mvi : Int32), b ≤ 5124 → RM m0 b mm A → ∃ mm' mco' mcn' mvi', f mm (nI b) mco mcn mvi = some (r, mm', mco', mcn', mvi') ∧ RM m0 b mm' A'
def dt (A A' : AS) : Nat := (a_lg A').1 - (a_lg A).1
theorem b10_s {α β γ δ ε ζ η θ ι κ μ : Type} (a : α) (b : β) (c : γ) (d : δ) (e : ε) (f : ζ) (g : η) (h : θ) (i : ι) (j : κ) (k : α → β → γ → δ → ε → ζ → η → θ → ι → κ → Option μ) : bnd10 (some (a, b, c, d, e, f, g, h, i, j)) k = k a b c d e f g h i j := rfl
/-- the trial behind an act -/
theorem T_acted {N B : Nat} (hN : 200000 ≤ N) (hB : B ≤ 2147400000) {A : AS} (hJ : J B A [] none) : ∃ A', J B A' [] none ∧ LGR (a_lg A) (a_lg A') ∧
    (∀ (za0 za1 za2 za3 za4 : Int32) (X : Nat → Nat → Int32) (zcd : Int32) (zgo : Nat → Int32) (ztd ztv : Int32) (zcl zca zwa zpt zpf : Nat → Int32) (x4 : Int32), RC X A → ¬ za0 = 119 → ¬ za0 = 116 → ∃ zcd' zgo' ztd' ztv' zcl' zca' zwa' zpt' zpf' X', fX1_does_223 N za0 za1 za2 za3 za4 zcd zgo ztd ztv zcl zca zwa zpt zpf X x4 = some (X' 10 3 - x4, zcd', zgo', ztd', ztv', zcl', zca', zwa', zpt', zpf', X') ∧ RC X' A') ∧
    (∀ (m0 : Nat → Int32) (b : Nat) (mm mco mcn : Nat → Int32) (mvi : Int32), b ≤ 5124 → RM m0 b mm A → ∃ mm' mco' mcn' mvi', fX12_isActed N mm (nI b) mco mcn mvi = some (mm', mco', mcn', mvi') ∧ RM m0 b mm' A') := by
  have w := hJ.1
  have hlen := W_len w
  have hli : 1 ≤ a_li A ∧ a_li A ≤ 24 := w.2.2.2.2.2.2.2.2.2
  by_cases q : (a_ls A).length < a_li A
  · refine ⟨A, hJ, LGR_r _, fun za0 za1 za2 za3 za4 X zcd zgo ztd ztv zcl zca zwa zpt zpf x4 hX k1 k2 => ⟨zcd, zgo, ztd, ztv, zcl, zca, zwa, zpt, zpf, X, ?_, hX⟩, fun m0 b mm mco mcn mvi hb hR => ⟨mm, mco, mcn, mvi, ?_, hR⟩⟩
    · unfold fX1_does_223 fX1_does_263
      rw [if_neg k1, if_neg k2, RC_h11 hX, RC_h3 hX, if_pos ((ltn (by omega) (by omega)).mpr q)]
    · unfold fX12_isActed
      have e0 : nI b + 0 = nI b := Int32.add_zero _
      have e2 : mm b = nI (a_li A) := hR.2.1
      rw [M_listed hR hb, b1_s, e0, inb_n (by omega) (by decide), grd_t, cl_n (by omega), e2, if_pos ((ltn (by omega) (by omega)).mpr q)]
  · obtain ⟨A', v, g1, g2, g3, g4⟩ := T_trial hN hB hJ
    refine ⟨A', g1, g2, fun za0 za1 za2 za3 za4 X zcd zgo ztd ztv zcl zca zwa zpt zpf x4 hX k1 k2 => ?_, fun m0 b mm mco mcn mvi hb hR => ?_⟩
    · obtain ⟨z1, z2, z3, z4, z5, z6, z7, z8, X', e, r⟩ := g3 X zcd zgo ztd ztv zcl zca zwa zpt zpf hX
      refine ⟨z1, z2, z3, nI v, z4, z5, z6, z7, z8, X', ?_, r⟩
      unfold fX1_does_223 fX1_does_263
      rw [if_neg k1, if_neg k2, RC_h11 hX, RC_h3 hX, if_neg (fun c => q ((ltn (by omega) (by omega)).mp c)), e, b10_s]
    · obtain ⟨m1, mc1, mn1, e, r⟩ := g4 m0 b mm mco mcn mvi hb hR
      refine ⟨m1, mc1, mn1, nI v, ?_, r⟩
      unfold fX12_isActed
      have e0 : nI b + 0 = nI b := Int32.add_zero _
      have e2 : mm b = nI (a_li A) := hR.2.1
      rw [M_listed hR hb, b1_s, e0, inb_n (by omega) (by decide), grd_t, cl_n (by omega), e2, if_neg (fun c => q ((ltn (by omega) (by omega)).mp c)), e, b4_s]
theorem lg_dt {A A' : AS} (h : LGR (a_lg A) (a_lg A')) : nI (a_lg A').1 - nI (a_lg A).1 = nI (dt A A') := pk_sub h.1
def okT (p : Nat → Bool) : Option Nat → Bool
  | none => true
  | some o => p o
theorem C_isIn {p : Nat → Bool} {v : Option Nat} (hv : SM v) : fX1_isIn (bs p) (oI v) = some (bI (okT p v)) := by
  unfold fX1_isIn fX11_bit
  cases v with
  | none => rw [oI_n, if_pos rfl]; rfl
  | some o =>
    have ho := hv o rfl
    rw [oI_s, if_neg (nI_ne1 (by omega)), bs_bit _ ho, b1_s]
    show _ = some (bI (p o))
    cases p o <;> rfl
/-- a reference was laid: the trial behind it, and the rows -/
theorem T_rows {N B : Nat} (hN : 200000 ≤ N) (hB : B ≤ 2147400000) {A A1 : AS} (hJ1 : J B A1 [] none) (hl : LGR (a_lg A) (a_lg A1)) : ∃ A', J B A' [] none ∧ LGR (a_lg A) (a_lg A') ∧
    (∀ (za0 za1 za2 za3 za4 : Int32) (X X0 : Nat → Nat → Int32) (zcd : Int32) (zgo : Nat → Int32) (ztd ztv : Int32) (zcl zca zwa zpt zpf : Nat → Int32), RC X0 A → RC X A1 → ¬ za0 = 119 → ¬ za0 = 116 → ∃ zcd' zgo' ztd' ztv' zcl' zca' zwa' zpt' zpf' X', fX1_does_223 N za0 za1 za2 za3 za4 zcd zgo ztd ztv zcl zca zwa zpt zpf X (X0 10 3) = some (nI (dt A A'), zcd', zgo', ztd', ztv', zcl', zca', zwa', zpt', zpf', X') ∧ RC X' A') ∧
    (∀ (m0 m0' : Nat → Int32) (b : Nat) (mm0 mm mco mcn : Nat → Int32) (mvi : Int32), b ≤ 5124 → RM m0 b mm0 A → RM m0' b mm A1 → ∃ mm' mco' mcn' mvi', fX12_isActed N mm (nI b) mco mcn mvi = some (mm', mco', mcn', mvi') ∧ RM m0' b mm' A' ∧ inb (nI b + 2) 5551 = true ∧ mm' (nI b + 2).toNatClampNeg - mm0 (nI b + 2).toNatClampNeg = nI (dt A A')) := by
  obtain ⟨A', g1, g2, g3, g4⟩ := T_acted hN hB hJ1
  refine ⟨A', g1, LGR_t hl g2, fun za0 za1 za2 za3 za4 X X0 zcd zgo ztd ztv zcl zca zwa zpt zpf h0 hX k1 k2 => ?_, fun m0 m0' b mm0 mm mco mcn mvi hb h0 hR => ?_⟩
  · obtain ⟨z1, z2, z3, z4, z5, z6, z7, z8, z9, X', e, r⟩ := g3 za0 za1 za2 za3 za4 X zcd zgo ztd ztv zcl zca zwa zpt zpf (X0 10 3) hX k1 k2
    refine ⟨z1, z2, z3, z4, z5, z6, z7, z8, z9, X', ?_, r⟩
    rw [e, RC_h15 r, RC_h15 h0, lg_dt (LGR_t hl g2)]
  · obtain ⟨m1, mc1, mn1, mv1, e, r⟩ := g4 m0' b mm mco mcn mvi hb hR
    have e2 : nI b + 2 = nI (b + 2) := ad_1 b 2
    have a1 : m1 (b + 2) = nI (a_lg A').1 := r.2.2.2.1
    have a2 : mm0 (b + 2) = nI (a_lg A).1 := h0.2.2.2.1
    refine ⟨m1, mc1, mn1, mv1, e, r, ?_, ?_⟩
    · rw [e2]; exact inb_n (by omega) (by decide)
    · rw [e2, cl_n (by omega), a1, a2, lg_dt (LGR_t hl g2)]
