/-! the way: the reference measures; nearest; way -/
def sv (v : Nat → Nat) : Nat → Nat
  | 0 => 0
  | n + 1 => sv v n + v n
theorem sv_u {v : Nat → Nat} {x a : Nat} : ∀ n, (x < n → sv (fs v x a) n + v x = sv v n + a) ∧ (n ≤ x → sv (fs v x a) n = sv v n) := by
  intro n
  induction n with
  | zero => exact ⟨fun h => by omega, fun _ => rfl⟩
  | succ n ih =>
    have e : sv (fs v x a) (n + 1) = sv (fs v x a) n + fs v x a n := rfl
    have e2 : sv v (n + 1) = sv v n + v n := rfl
    refine ⟨fun h => ?_, fun h => ?_⟩
    · by_cases c : x = n
      · subst c
        rw [e, e2, fs_s, ih.2 (by omega)]
        omega
      · have := ih.1 (by omega)
        rw [e, e2, fs_n (fun q => c q.symm)]
        omega
    · rw [e, e2, fs_n (by omega), ih.2 (by omega)]
theorem sv_le {v : Nat → Nat} (h : ∀ x, x < 24 → v x ≤ 100) : sv v 24 ≤ 2400 := by
  have gen : ∀ n, n ≤ 24 → sv v n ≤ 100 * n := by
    intro n
    induction n with
    | zero => intro _; exact Nat.le_refl 0
    | succ n ih =>
      intro hn
      have := ih (by omega)
      have := h n (by omega)
      show sv v n + v n ≤ _
      omega
  exact gen 24 (by omega)
def VI (A : AS) (t : Nat) (mfa : Nat → Int32) (v : Nat → Nat) : Prop := v t = 1 ∧ ∀ x, x < 24 → mfa x = nI (v x) ∧ v x ≤ 100 ∧ (v x = 100 ∨ ∃ d, v x = d + 1 ∧ wi (a_fd A) t d x)
def STP (v v' : Nat → Nat) (f f' : Int32) (E : Prop) : Prop := (v' = v ∧ f' = f ∧ E) ∨ (f' = 1 ∧ sv v' 24 < sv v 24)
theorem M_f50 {mme : Nat → Int32} {A : AS} (h : RM mme 0 mme A) (w : WF A) {N : Nat} {t : Nat} (p1 : Int32) (k33 : (Nat → Int32) → Int32 → Option (Nat → Int32)) (K : (Nat → Int32) → Int32 → Int32 → Option (Nat → Int32)) {x : Nat} (hx : x < 24) (htx : a_th A x = true) : ∀ n j mfa v f, j ≤ a_my A x → VI A t mfa v → a_my A x - j < n → ∃ mfa' v' f', VI A t mfa' v' ∧ fX12_measures_50 N mme 0 p1 k33 K n mfa f (nI x) (nI j) = K mfa' f' (nI (x + 1)) ∧ STP v v' f f' (∀ i y, j ≤ i → a_fd A x i = some y → v x ≤ v y + 1) := by
  have hmy := W_my w x
  have m1 : fX12_of mme 0 (nI x) 1 = some (nI (a_my A x)) := M_of1 (b := 0) h (by decide) hx htx
  have m2 : fX12_isThere mme 0 (nI x) = some (bI (a_th A x)) := M_isThere (b := 0) h (by decide) hx
  intro n
  induction n with
  | zero => intro j mfa v f _ _ h; omega
  | succ n ih =>
    intro j mfa v f hj hv hn
    have eC : fX12_measures_50 N mme 0 p1 k33 K (n + 1) mfa f (nI x) (nI j) = fX12_measures_50b N mme 0 p1 k33 K (fX12_measures_50 N mme 0 p1 k33 K n) mfa f (nI x) (nI j) := rfl
    rw [eC]
    unfold fX12_measures_50b
    rw [m1, b1_s]
    by_cases q : j = a_my A x
    · refine ⟨mfa, v, f, hv, ?_, Or.inl ⟨rfl, rfl, fun i y hi e => by have := (W_fd w e).2.1; omega⟩⟩
      rw [if_pos (by rw [le_n (by omega) (by omega)]; omega), nI_1]
    · have m3 : fX12_fieldOf mme 0 (nI x) (nI j) = some (oI (a_fd A x j)) := M_fieldOf (b := 0) h (by decide) hx (by omega) htx
      rw [if_neg (by rw [le_n (by omega) (by omega)]; omega), m2, htx, b1_s, if_neg (by decide), m3, b1_s, nI_1]
      have more : (∀ y, a_fd A x j = some y → v x ≤ v y + 1) → ∀ v' f', STP v v' f f' (∀ i y, j + 1 ≤ i → a_fd A x i = some y → v x ≤ v y + 1) → STP v v' f f' (∀ i y, j ≤ i → a_fd A x i = some y → v x ≤ v y + 1) := fun hE v' f' hS => by
        rcases hS with ⟨s1, s2, s3⟩ | s
        · exact Or.inl ⟨s1, s2, fun i y hi e => by
            by_cases c : i = j
            · subst c; exact hE y e
            · exact s3 i y (by omega) e⟩
        · exact Or.inr s
      cases e : a_fd A x j with
      | none =>
        rw [oI_n, if_pos neg1_lt]
        obtain ⟨mfa', v', f', g1, g2, g3⟩ := ih (j + 1) mfa v f (by omega) hv (by omega)
        exact ⟨mfa', v', f', g1, g2, more (fun y e2 => by rw [e] at e2; cases e2) v' f' g3⟩
      | some y =>
        have hy := W_sf w x j y e
        have hx1 := (hv.2 x hx).1
        have hx2 := (hv.2 x hx).2.1
        have hy1 := (hv.2 y hy).1
        have hy2 := (hv.2 y hy).2.1
        rw [oI_s, if_neg (nI_nlt0 (by omega)), inb_n hy (by decide), inb_n hx (by decide), grd_t, grd_t, grd_t, grd_t, cl_n (by omega), cl_n (by omega), hx1, hy1, nI_1, lt_e]
        by_cases c : v x ≤ v y + 1
        · rw [if_pos ((le_n (by omega) (by omega)).mpr c)]
          obtain ⟨mfa', v', f', g1, g2, g3⟩ := ih (j + 1) mfa v f (by omega) hv (by omega)
          exact ⟨mfa', v', f', g1, g2, more (fun y' e2 => by rw [e] at e2; injection e2 with e2; rw [← e2]; exact c) v' f' g3⟩
        · rw [if_neg (fun q => c ((le_n (by omega) (by omega)).mp q))]
          have hxt : x ≠ t := fun q => by rw [q, hv.1] at c; omega
          have hv' : VI A t (upd mfa x (nI (v y + 1))) (fs v x (v y + 1)) := by
            refine ⟨by rw [fs_n (fun q => hxt q.symm)]; exact hv.1, fun z hz => ?_⟩
            by_cases c2 : z = x
            · subst c2
              rw [pk_us, fs_s]
              refine ⟨rfl, by omega, Or.inr ?_⟩
              rcases (hv.2 y hy).2.2 with hy3 | ⟨d, hd, hw⟩
              · omega
              · exact ⟨v y, rfl, by rw [hd]; exact Or.inr ⟨j, y, e, hw⟩⟩
            · rw [pk_un c2, fs_n c2]; exact hv.2 z hz
          obtain ⟨mfa', v', f', g1, g2, g3⟩ := ih (j + 1) _ _ 1 (by omega) hv' (by omega)
          have hs := (sv_u (v := v) (x := x) (a := v y + 1) 24).1 hx
          refine ⟨mfa', v', f', g1, g2, Or.inr ?_⟩
          rcases g3 with ⟨s1, s2, _⟩ | ⟨s1, s2⟩
          · rw [s1]; exact ⟨s2, by omega⟩
          · exact ⟨s1, by omega⟩
theorem M_f41 {mme : Nat → Int32} {A : AS} (h : RM mme 0 mme A) (w : WF A) {N : Nat} (hN : 24 < N) {t : Nat} (p1 : Int32) (K : (Nat → Int32) → Int32 → Option (Nat → Int32)) : ∀ n x mfa v f, x ≤ 24 → VI A t mfa v → 24 - x < n → ∃ mfa' v' f', VI A t mfa' v' ∧ fX12_measures_41 N mme 0 p1 K n mfa f (nI x) = K mfa' f' ∧ STP v v' f f' (∀ z i y, x ≤ z → a_fd A z i = some y → v z ≤ v y + 1) := by
  intro n
  induction n with
  | zero => intro x mfa v f _ _ h; omega
  | succ n ih =>
    intro x mfa v f hx hv hn
    have eC : fX12_measures_41 N mme 0 p1 K (n + 1) mfa f (nI x) = fX12_measures_41b N mme 0 p1 K (fX12_measures_41 N mme 0 p1 K n) mfa f (nI x) := rfl
    rw [eC]
    unfold fX12_measures_41b
    by_cases q : x = 24
    · subst q
      refine ⟨mfa, v, f, hv, ?_, Or.inl ⟨rfl, rfl, fun z i y hz e => by have := W_th w (W_fd w e).1; omega⟩⟩
      rw [if_pos (by rw [le_24 (by omega)]; omega)]
    · have hx' : x < 24 := by omega
      rw [if_neg (by rw [le_24 (by omega)]; omega)]
      have step : ∃ mfa' v' f', VI A t mfa' v' ∧ fX12_measures_50 N mme 0 p1 K (fX12_measures_41 N mme 0 p1 K n) N mfa f (nI x) 0 = fX12_measures_41 N mme 0 p1 K n mfa' f' (nI (x + 1)) ∧ STP v v' f f' (∀ i y, 0 ≤ i → a_fd A x i = some y → v x ≤ v y + 1) := by
        cases ht : a_th A x with
        | true =>
          have hmy := W_my w x
          exact M_f50 h w p1 K (fX12_measures_41 N mme 0 p1 K n) hx' ht N 0 mfa v f (Nat.zero_le _) hv (by omega)
        | false =>
          have m2 : fX12_isThere mme 0 (nI x) = some (bI (a_th A x)) := M_isThere (b := 0) h (by decide) hx'
          have m1 : fX12_of mme 0 (nI x) 1 = some (mme (0 + 163 + 11 * x + 1)) := of_n mme (b := 0) (w := 1) (by decide) hx' (by decide)
          obtain ⟨N', rfl⟩ : ∃ f, N = f + 1 := ⟨N - 1, by omega⟩
          refine ⟨mfa, v, f, hv, ?_, Or.inl ⟨rfl, rfl, fun i y _ e => by rw [(W_fd w e).1] at ht; cases ht⟩⟩
          have eC : fX12_measures_50 (N' + 1) mme 0 p1 K (fX12_measures_41 (N' + 1) mme 0 p1 K n) (N' + 1) mfa f (nI x) 0 = fX12_measures_50b (N' + 1) mme 0 p1 K (fX12_measures_41 (N' + 1) mme 0 p1 K n) (fX12_measures_50 (N' + 1) mme 0 p1 K (fX12_measures_41 (N' + 1) mme 0 p1 K n) N') mfa f (nI x) 0 := rfl
          rw [eC]
          unfold fX12_measures_50b
          rw [m1, b1_s, m2, ht, b1_s, if_pos (show bI false = 0 from rfl), nI_1]
          by_cases c : mme (0 + 163 + 11 * x + 1) ≤ 0
          · rw [if_pos c]
          · rw [if_neg c]
      obtain ⟨mfa1, v1, f1, g1, g2, g3⟩ := step
      obtain ⟨mfa', v', f', k1, k2, k3⟩ := ih (x + 1) mfa1 v1 f1 (by omega) g1 (by omega)
      refine ⟨mfa', v', f', k1, by rw [g2, k2], ?_⟩
      rcases g3 with ⟨s1, s2, s3⟩ | ⟨s1, s2⟩
      · subst s1 s2
        rcases k3 with ⟨u1, u2, u3⟩ | u
        · exact Or.inl ⟨u1, u2, fun z i y hz e => by
            by_cases c : z = x
            · subst c; exact s3 i y (Nat.zero_le _) e
            · exact u3 z i y (by omega) e⟩
        · exact Or.inr u
      · rcases k3 with ⟨u1, u2, _⟩ | ⟨u1, u2⟩
        · subst u1; exact Or.inr ⟨by rw [u2]; exact s1, s2⟩
        · exact Or.inr ⟨u1, by omega⟩
theorem M_f33 {mme : Nat → Int32} {A : AS} (h : RM mme 0 mme A) (w : WF A) {N : Nat} (hN : 24 < N) {t : Nat} (p1 : Int32) : ∀ n mfa v, VI A t mfa v → sv v 24 + 2 ≤ n → ∃ mfa' v', VI A t mfa' v' ∧ fX12_measures_33 N mme 0 p1 n mfa 1 = some mfa' ∧ ∀ z i y, a_fd A z i = some y → v' z ≤ v' y + 1 := by
  intro n
  induction n with
  | zero => intro mfa v _ h; omega
  | succ n ih =>
    intro mfa v hv hn
    have eC : fX12_measures_33 N mme 0 p1 (n + 1) mfa 1 = fX12_measures_33b N mme 0 p1 (fX12_measures_33 N mme 0 p1 n) mfa 1 := rfl
    rw [eC]
    unfold fX12_measures_33b
    rw [if_neg (by decide)]
    obtain ⟨mfa1, v1, f1, g1, g2, g3⟩ := M_f41 h w hN (t := t) p1 (fX12_measures_33 N mme 0 p1 n) N 0 mfa v 0 (by omega) hv (by omega)
    have g2' : fX12_measures_41 N mme 0 p1 (fX12_measures_33 N mme 0 p1 n) N mfa 0 0 = fX12_measures_33 N mme 0 p1 n mfa1 f1 := g2
    rw [g2']
    rcases g3 with ⟨s1, s2, s3⟩ | ⟨s1, s2⟩
    · subst s1 s2
      obtain ⟨n', rfl⟩ : ∃ f, n = f + 1 := ⟨n - 1, by omega⟩
      refine ⟨mfa1, v1, g1, ?_, fun z i y e => s3 z i y (Nat.zero_le _) e⟩
      show fX12_measures_33b N mme 0 p1 (fX12_measures_33 N mme 0 p1 n') mfa1 0 = _
      unfold fX12_measures_33b
      rw [if_pos rfl]
    · subst s1
      exact ih mfa1 v1 g1 (by omega)
def mv (F : Nat → Nat → Option Nat) (t m : Nat) (mfa : Nat → Int32) : Prop := ∀ x, x < 24 → (wi F t m x → mfa x = nI (dst F t x + 1)) ∧ (¬ wi F t m x → mfa x = nI 100)
theorem M_meas {mme : Nat → Int32} {A : AS} (h : RM mme 0 mme A) (w : WF A) {N : Nat} (hN : 200000 ≤ N) {t m : Nat} (ht : t < 24) (hm : m ≤ 23) (hcl : ∀ k x, x < 24 → wi (a_fd A) t k x → wi (a_fd A) t m x) (mfa : Nat → Int32) : ∃ mfa', fX12_measures N mme 0 mfa (nI t) = some mfa' ∧ mv (a_fd A) t m mfa' := by
  have e0 : fX12_measures N mme 0 mfa (nI t) = fX12_measures_33 N mme 0 (nI t) N (upk mfa (fun x => if x = t then 1 else 100) 24) 1 := by
    have := lpE (fun n j => fX12_measures_2 N mme 0 (nI t) n (upk mfa (fun x => if x = t then 1 else 100) j) (nI j)) 24 (fX12_measures_33 N mme 0 (nI t) N (upk mfa (fun x => if x = t then 1 else 100) 24) 1) (fun n j hj => ?_) (fun n => ?_) N 0 (by omega) (by omega)
    · rw [upk_0] at this; exact this
    · show fX12_measures_2b N mme 0 (nI t) (fX12_measures_2 N mme 0 (nI t) n) (upk mfa (fun x => if x = t then 1 else 100) j) (nI j) = fX12_measures_2 N mme 0 (nI t) n (upk mfa (fun x => if x = t then 1 else 100) (j + 1)) (nI (j + 1))
      unfold fX12_measures_2b
      rw [if_neg (by rw [le_24 (by omega)]; omega), inb_n hj (by decide), grd_t, grd_t, cl_n (by omega), lt_e, lt_e, nI_1, ← upk_1]
      by_cases c : j = t
      · subst c; rw [if_pos rfl, if_pos rfl]
      · rw [if_neg (fun q => c ((eq_n (by omega) (by omega)).mp q)), if_neg c]
    · show fX12_measures_2b N mme 0 (nI t) (fX12_measures_2 N mme 0 (nI t) n) (upk mfa (fun x => if x = t then 1 else 100) 24) (nI 24) = _
      unfold fX12_measures_2b
      rw [if_pos (by rw [le_24 (by omega)]; omega)]
  have hv : VI A t (upk mfa (fun x => if x = t then 1 else 100) 24) (fun x => if x = t then 1 else 100) := by
    refine ⟨if_pos rfl, fun x hx => ?_⟩
    rw [upk_s hx]
    by_cases c : x = t
    · have e : (fun x => if x = t then 1 else 100) x = 1 := if_pos c
      rw [e, if_pos c]; exact ⟨rfl, by omega, Or.inr ⟨0, rfl, c⟩⟩
    · have e : (fun x => if x = t then 1 else 100) x = 100 := if_neg c
      rw [e, if_neg c]; exact ⟨rfl, by omega, Or.inl rfl⟩
  have hle := sv_le (fun x hx => (hv.2 x hx).2.1)
  obtain ⟨mfa', v, g1, g2, g3⟩ := M_f33 h w (N := N) (by omega) (nI t) N _ _ hv (by omega)
  refine ⟨mfa', by rw [e0]; exact g2, fun x hx => ?_⟩
  have up : ∀ d x, x < 24 → wi (a_fd A) t d x → v x ≤ d + 1 := by
    intro d
    induction d with
    | zero => intro x _ q; rw [show x = t from q, g1.1]; omega
    | succ d ih =>
      intro x hx q
      rcases q with q | ⟨j, y, e, q⟩
      · have := ih x hx q; omega
      · have := ih y (W_sf w x j y e) q
        have := g3 x j y e
        omega
  obtain ⟨a1, a2, a3⟩ := g1.2 x hx
  refine ⟨fun q => ?_, fun q => ?_⟩
  · have hd := dst_le q
    have h1 := up _ x hx (dst_w q).1
    rcases a3 with a3 | ⟨d, hd1, hd2⟩
    · omega
    · have := dst_le hd2
      rw [a1]; congr 1; omega
  · rcases a3 with a3 | ⟨d, _, hd2⟩
    · rw [a1, a3]
    · exact absurd (hcl d x hx hd2) q
theorem near_j {F : Nat → Nat → Option Nat} {t m : Nat} (hm : m ≤ 23) {z mfa : Nat → Int32} (hz : ∀ x, x < 24 → z x = zv F t m x) (hf : mv F t m mfa) (p : Nat → Bool) {N : Nat} : ∀ n k c r, k ≤ 24 → ((c = -1 ∧ (r = -1 ∨ ∃ b, b < 24 ∧ ¬ wi F t m b ∧ r = nI b) ∧ ∀ i, i < k → p i = true → ¬ wi F t m i) ∨ ∃ b, b < 24 ∧ p b = true ∧ wi F t m b ∧ c = nI b ∧ r = nI b ∧ ∀ i, i < k → p i = true → wi F t m i → dst F t b ≤ dst F t i) → 24 - k < n → ∃ c' r', fX10_nearest_4 N z (bs p) n c (nI k) = some c' ∧ fX12_nearest_4 N mfa (bs p) n r (nI k) = some r' ∧ ((c' = -1 ∧ ∀ i, i < 24 → p i = true → ¬ wi F t m i) ∨ ∃ b, b < 24 ∧ p b = true ∧ wi F t m b ∧ c' = nI b ∧ r' = nI b ∧ ∀ i, i < 24 → p i = true → wi F t m i → dst F t b ≤ dst F t i) := by
  intro n
  induction n with
  | zero => intro k c r _ _ h; omega
  | succ n ih =>
    intro k c r hk hI hn
    have eC : fX10_nearest_4 N z (bs p) (n + 1) c (nI k) = fX10_nearest_4b N z (bs p) (fX10_nearest_4 N z (bs p) n) c (nI k) := rfl
    have eM : fX12_nearest_4 N mfa (bs p) (n + 1) r (nI k) = fX12_nearest_4b N mfa (bs p) (fX12_nearest_4 N mfa (bs p) n) r (nI k) := rfl
    rw [eC, eM]
    unfold fX10_nearest_4b fX12_nearest_4b fX11_bit
    by_cases q : k = 24
    · subst q
      have y24 : (24 : Int32) ≤ nI 24 := by decide
      rw [if_pos y24, if_pos y24]
      refine ⟨c, r, rfl, rfl, ?_⟩
      rcases hI with ⟨h1, _, h3⟩ | h
      · exact Or.inl ⟨h1, h3⟩
      · exact Or.inr h
    · have hk' : k < 24 := by omega
      have n24 : ¬ (24 : Int32) ≤ nI k := by rw [le_24 (by omega)]; omega
      rw [if_neg n24, if_neg n24, bs_bit _ hk', b1_s, M_has _ hk', b1_s, inb_n hk' (by decide), grd_t, grd_t, grd_t, cl_n (by omega), hz k hk', nI_1]
      cases e : p k with
      | false =>
        rw [if_neg (show ¬ bI false = 1 from by decide), if_pos (show bI false = 0 from rfl)]
        refine ih (k + 1) c r (by omega) ?_ (by omega)
        rcases hI with ⟨h1, h2, h3⟩ | ⟨b, b1, b2, b3, b4, b5, b6⟩
        · exact Or.inl ⟨h1, h2, fun i hi pi => by
            by_cases cc : i = k
            · rw [cc, e] at pi; cases pi
            · exact h3 i (by omega) pi⟩
        · exact Or.inr ⟨b, b1, b2, b3, b4, b5, fun i hi pi => by
            by_cases cc : i = k
            · rw [cc, e] at pi; cases pi
            · exact b6 i (by omega) pi⟩
      | true =>
        rw [if_pos (show bI true = 1 from rfl), if_neg (show ¬ bI true = 0 from by decide)]
        by_cases cw : wi F t m k
        · have hd := dst_le cw
          have fk := (hf k hk').1 cw
          rw [zv_t cw, if_neg (nI_ne1 (by omega)), fk]
          rcases hI with ⟨h1, h2, h3⟩ | ⟨b, b1, b2, b3, b4, b5, b6⟩
          · subst h1
            rw [if_pos rfl]
            have nextI := ih (k + 1) (nI k) (nI k) (by omega) (Or.inr ⟨k, hk', e, cw, rfl, rfl, fun i hi pi wi' => by
              by_cases cc : i = k
              · rw [cc]; exact Nat.le_refl _
              · exact absurd wi' (h3 i (by omega) pi)⟩) (by omega)
            rcases h2 with h2 | ⟨b', b1, b2, b3⟩
            · subst h2; rw [if_pos neg1_lt]; exact nextI
            · subst b3
              have fb := (hf b' b1).2 b2
              rw [if_neg (nI_nlt0 (by omega)), inb_n b1 (by decide), grd_t, cl_n (by omega), fb, if_neg (fun cc => by have := (le_n (i := 100) (j := dst F t k + 1) (by omega) (by omega)).mp cc; omega)]
              exact nextI
          · subst b4 b5
            have hdb := dst_le b3
            have fb := (hf b b1).1 b3
            rw [if_neg (nI_ne1 (by omega)), if_neg (nI_nlt0 (by omega)), inb_n b1 (by decide), grd_t, grd_t, cl_n (by omega), hz b b1, zv_t b3, fb]
            by_cases cc : dst F t b ≤ dst F t k
            · rw [if_pos ((le_n (by omega) (by omega)).mpr cc), if_pos ((le_n (by omega) (by omega)).mpr (by omega))]
              exact ih (k + 1) (nI b) (nI b) (by omega) (Or.inr ⟨b, b1, b2, b3, rfl, rfl, fun i hi pi wi' => by
                by_cases c4 : i = k
                · rw [c4]; exact cc
                · exact b6 i (by omega) pi wi'⟩) (by omega)
            · rw [if_neg (fun c5 => cc ((le_n (by omega) (by omega)).mp c5)), if_neg (fun c5 => by have := (le_n (i := dst F t b + 1) (j := dst F t k + 1) (by omega) (by omega)).mp c5; omega)]
              exact ih (k + 1) (nI k) (nI k) (by omega) (Or.inr ⟨k, hk', e, cw, rfl, rfl, fun i hi pi wi' => by
                by_cases c4 : i = k
                · rw [c4]; exact Nat.le_refl _
                · have := b6 i (by omega) pi wi'; omega⟩) (by omega)
        · have fk := (hf k hk').2 cw
          rw [zv_f cw, if_pos rfl, fk]
          rcases hI with ⟨h1, h2, h3⟩ | ⟨b, b1, b2, b3, b4, b5, b6⟩
          · have nI3 : ∀ i, i < k + 1 → p i = true → ¬ wi F t m i := fun i hi pi => by
              by_cases cc : i = k
              · rw [cc]; exact cw
              · exact h3 i (by omega) pi
            rcases h2 with h2 | ⟨b', b1, b2, b3⟩
            · subst h2; rw [if_pos neg1_lt]
              exact ih (k + 1) c (nI k) (by omega) (Or.inl ⟨h1, Or.inr ⟨k, hk', cw, rfl⟩, nI3⟩) (by omega)
            · subst b3
              have fb := (hf b' b1).2 b2
              rw [if_neg (nI_nlt0 (by omega)), inb_n b1 (by decide), grd_t, cl_n (by omega), fb, if_pos (by decide)]
              exact ih (k + 1) c (nI b') (by omega) (Or.inl ⟨h1, Or.inr ⟨b', b1, b2, rfl⟩, nI3⟩) (by omega)
          · subst b4 b5
            have hdb := dst_le b3
            have fb := (hf b b1).1 b3
            rw [if_neg (nI_nlt0 (by omega)), inb_n b1 (by decide), grd_t, cl_n (by omega), fb, if_pos ((le_n (i := dst F t b + 1) (j := 100) (by omega) (by omega)).mpr (by omega))]
            exact ih (k + 1) (nI b) (nI b) (by omega) (Or.inr ⟨b, b1, b2, b3, rfl, rfl, fun i hi pi wi' => by
              by_cases c4 : i = k
              · rw [c4] at wi'; exact absurd wi' cw
              · exact b6 i (by omega) pi wi'⟩) (by omega)
theorem near_c {F : Nat → Nat → Option Nat} {t m : Nat} (hm : m ≤ 23) {z mfa : Nat → Int32} (hz : ∀ x, x < 24 → z x = zv F t m x) (hf : mv F t m mfa) (p : Nat → Bool) {N : Nat} (hN : 24 < N) : ∃ c' r', fX10_nearest N z (bs p) = some c' ∧ fX12_nearest N mfa (bs p) = some r' ∧ ((c' = -1 ∧ ∀ i, i < 24 → p i = true → ¬ wi F t m i) ∨ ∃ b, b < 24 ∧ p b = true ∧ wi F t m b ∧ c' = nI b ∧ r' = nI b ∧ ∀ i, i < 24 → p i = true → wi F t m i → dst F t b ≤ dst F t i) :=
  near_j hm hz hf p N 0 (-1) (-1) (by omega) (Or.inl ⟨rfl, Or.inl rfl, fun i hi => absurd hi (Nat.not_lt_zero i)⟩) (by omega)
theorem walk_j {HS : Nat → Nat → Nat → Int32} {mme : Nat → Int32} {A : AS} (hX : RC (HS 0) A) (hR : RM mme 0 mme A) (w : WF A) {N : Nat} (hN : 1000 < N) {t m : Nat} (ht : t < 24) (hm : m ≤ 23) {z mfa : Nat → Int32} (hz : ∀ x, x < 24 → z x = zv (a_fd A) t m x) (hf : mv (a_fd A) t m mfa) : ∀ d n c b zn mr, b < 24 → a_th A b = true → wi (a_fd A) t m b → dst (a_fd A) t b = d → d ≤ m → c + d ≤ 24 → TLD (nI c) zn (nI c) mr → d < n → ∃ c' zn' mr', fX11_way_75 N HS (nI t) n (nI c) zn z (nI b) (nI d) = some (nI c', nI c', zn', z) ∧ fX12_way_52 N mme 0 (nI t) n 0 (nI c) mr mfa (nI b) = some (nI c', 0, nI c', mr', mfa) ∧ TLD (nI c') zn' (nI c') mr' := by
  intro d
  induction d with
  | zero =>
    intro n c b zn mr hb htb hw hd hdm hc hT hn
    obtain ⟨n, rfl⟩ : ∃ f, n = f + 1 := ⟨n - 1, by omega⟩
    have hbt : b = t := by have := (dst_w hw).1; rw [hd] at this; exact this
    refine ⟨c, zn, mr, ?_, ?_, hT⟩
    · show fX11_way_75b N HS (nI t) (fX11_way_75 N HS (nI t) n) (nI c) zn z (nI b) (nI 0) = _
      unfold fX11_way_75b
      rw [if_pos (by decide)]
    · show fX12_way_52b N mme 0 (nI t) (fX12_way_52 N mme 0 (nI t) n) 0 (nI c) mr mfa (nI b) = _
      unfold fX12_way_52b
      rw [if_pos (by rw [hbt])]
  | succ d ih =>
    intro n c b zn mr hb htb hw hd hdm hc hT hn
    obtain ⟨n, rfl⟩ : ∃ f, n = f + 1 := ⟨n - 1, by omega⟩
    have hbt : ¬ b = t := fun q => by
      have : wi (a_fd A) t 0 b := q
      have := dst_le this; omega
    have hw1 := dst_w hw
    rw [hd] at hw1
    obtain ⟨i, y, e, hy⟩ : ∃ i y, a_fd A b i = some y ∧ wi (a_fd A) t d y := by
      rcases hw1.1 with q | q
      · exact absurd q (hw1.2 d (by omega))
      · exact q
    have hy24 := W_sf w b i y e
    have hym : wi (a_fd A) t m y := wi_le (by omega) hy
    have m2 : fX12_next N mme 0 (nI b) = some (bs (nx (a_fd A) b)) := M_next (b := 0) hR (by decide) w htb (by omega)
    obtain ⟨c', r', e1, e2, hq⟩ := near_c hm hz hf (nx (a_fd A) b) (N := N) (by omega)
    rcases hq with ⟨_, hq⟩ | ⟨b', b1, b2, b3, b4, b5, b6⟩
    · exact absurd hym (hq y hy24 (nx_some w e))
    · subst b4 b5
      obtain ⟨i2, _, e3⟩ := nx_iff.mp b2
      have hd' : dst (a_fd A) t b' = d := by
        have h1 := b6 y hy24 (nx_some w e) hym
        have h2 := dst_le hy
        have h3 : ¬ dst (a_fd A) t b' < d := fun q => hw1.2 (dst (a_fd A) t b' + 1) (by omega) (Or.inr ⟨i2, b', e3, (dst_w b3).1⟩)
        omega
      obtain ⟨t1, t2, t3⟩ := TL_a hT (by omega) (nI b').toInt64
      obtain ⟨c2, zn', mr', f1, f2, f3⟩ := ih n (c + 1) b' _ _ b1 (W_fd w e3).2.2 b3 hd' (by omega) (by omega) t3 (by omega)
      refine ⟨c2, zn', mr', ?_, ?_, f3⟩
      · show fX11_way_75b N HS (nI t) (fX11_way_75 N HS (nI t) n) (nI c) zn z (nI b) (nI (d + 1)) = _
        unfold fX11_way_75b
        rw [if_neg (by rw [le_f0 (by omega)]; omega), if_neg (nI_ne1 (by omega)), C_fieldBits hX w hb (by omega), b1_s, e1, b1_s, t1, b2_s, ← Int32.sub_eq_add_neg, nI_pred, f1]
      · show fX12_way_52b N mme 0 (nI t) (fX12_way_52 N mme 0 (nI t) n) 0 (nI c) mr mfa (nI b) = _
        unfold fX12_way_52b
        rw [if_neg (fun q => hbt ((eq_n (by omega) (by omega)).mp q)), m2, b1_s, e2, b1_s, t2, b2_s, f2]
theorem rcd_wi {A : AS} (w : WF A) {t : Nat} (ht : t < 24) : rcd A t = true ↔ ∃ x k, rtn (a_rt A) nof 6 x = true ∧ wi (a_fd A) t k x := by
  constructor
  · intro h
    exact rch_m h (fun y => ∃ x k, rtn (a_rt A) nof 6 x = true ∧ wi (a_fd A) y k x) (fun x hx q _ => ⟨x, 0, q, rfl⟩) (fun y j x q e _ => by
      obtain ⟨s, k, q1, q2⟩ := q
      exact ⟨s, k + 1, q1, wi_ap e k s q2⟩)
  · rintro ⟨x, k, q1, q2⟩
    have hx : rcd A x = true := rch_b (W_th w (rtn_th w nof x q1)) q1 rfl
    have gen : ∀ k x, rcd A x = true → wi (a_fd A) t k x → rcd A t = true := by
      intro k
      induction k with
      | zero => intro x h1 h2; rw [← show x = t from h2]; exact h1
      | succ k ih =>
        intro x h1 h2
        rcases h2 with h2 | ⟨j, y, e, h2⟩
        · exact ih x h1 h2
        · exact ih y (rch_s h1 e (W_sf w x j y e) rfl) h2
    exact gen k x hx q2
theorem S_way {N : Nat} (hN : 200000 ≤ N) (j : Nat) (hj : j < 512) : ST_way N (INV j) (INV (j + 1)) := by
  intro HS zkb zdr zky zpn zps ztz ztn zxz zxa zsg za0 za1 za2 za3 za4 zfr zcd zgo ztd ztv zcl zca zwa zpt zpf mth mto mrw mta mtp mat mtt mme mun mde mco mcn mvi men mfa mac mfi mse mtd mra mkp a1 hI
  obtain ⟨A, K, U, kb, u, pn, hc, hx, ht, hd⟩ := hI
  have hd' : mde = 0 := hd
  subst hd'
  replace hc : COR (640 * j) HS zkb zpn zps mme mun mkp A K U kb u pn := hc
  replace hx : TXT zxz zsg mta mtp := hx
  replace ht : TLD ztz ztn mto mrw := ht
  have hJ : J (640 * j) A [] none := hc.1.1
  have w := hJ.1
  have hX0 : RC (HS 0) A := hc.1.2.1
  have hR0 : RM mme 0 mme A := hc.1.2.2
  have hcu : COR (640 * (j + 1)) HS zkb zpn zps mme mun mkp A K U kb u pn := COR_up hc (by omega)
  rcases obj_or A a1 with ⟨i, e1, hi, hti⟩ | ⟨n1, n2⟩
  · subst e1
    have m1 : fX12_isThere mme 0 (nI i) = some (bI (a_th A i)) := M_isThere (b := 0) hR0 (by decide) hi
    have m2 : fX12_isReached N mme 0 (nI i) = some (bI (rcd A i)) := M_isReached (b := 0) hR0 (by decide) w hi (by omega)
    have m3 : fX12_inRoots N mme 0 0 = some (bs (rtn (a_rt A) nof 6)) := M_inRoots (b := 0) hR0 (by decide) w has0 (by omega)
    obtain ⟨z', m, hm, ez, hz, hcl⟩ := C_meas hX0 w (N := N) (by omega) hi zfr
    obtain ⟨mfa', ef, hf⟩ := M_meas hR0 w hN hi hm hcl mfa
    obtain ⟨c', r', g1, g2, hq⟩ := near_c hm hz hf (rtn (a_rt A) nof 6) (N := N) (by omega)
    rcases hq with ⟨hq1, hq2⟩ | ⟨b, b1, b2, b3, b4, b5, b6⟩
    · have hr : rcd A i = false := by
        cases qr : rcd A i with
        | false => rfl
        | true =>
          obtain ⟨x, k, q1, q2⟩ := (rcd_wi w hi).mp qr
          have hx24 := W_th w (rtn_th w nof x q1)
          exact absurd (hcl k x hx24 q2) (hq2 x hx24 q1)
      refine ⟨-2, ztz, ztn, z', 0, mto, mrw, mfa, ?_, ?_, A, K, U, kb, u, pn, hcu, hx, ht, rfl⟩
      · unfold fX11_way
        rw [C_has hX0 hi, hti, b1_s, if_neg (by decide), ez, b1_s, C_rootBits hX0 w bit0 (by omega), b1_s, g1, b1_s, if_pos hq1]
      · unfold fX12_way
        rw [m1, hti, b1_s, if_neg (by decide), m2, hr, b1_s, if_pos (by decide)]
    · subst b4 b5
      have hr : rcd A i = true := (rcd_wi w hi).mpr ⟨b, m, b2, b3⟩
      have hd := dst_le b3
      obtain ⟨t1, t2, t3⟩ := TL_a (z := 0) (TL_0 ztn mrw) (by decide) (nI b).toInt64
      have t1' : fX8_adds 0 ztn (nI b).toInt64 = some (nI 1, vp_updL ztn 0 (nI b).toInt64) := t1
      have t2' : fX12_enters 0 mrw (nI b).toInt64 = some (nI 1, vp_updL mrw 0 (nI b).toInt64) := t2
      obtain ⟨c2, zn', mr', f1, f2, f3⟩ := walk_j (HS := HS) hX0 hR0 w (N := N) (by omega) hi hm hz hf (dst (a_fd A) i b) N 1 b _ _ b1 (rtn_th w nof b b2) b3 rfl hd (by omega) t3 (by omega)
      refine ⟨nI c2, nI c2, zn', z', 0, nI c2, mr', mfa', ?_, ?_, A, K, U, kb, u, pn, hcu, hx, f3, rfl⟩
      · unfold fX11_way fX8_clears
        rw [C_has hX0 hi, hti, b1_s, if_neg (by decide), ez, b1_s, C_rootBits hX0 w bit0 (by omega), b1_s, g1, b1_s, if_neg (nI_ne1 (by omega)), b1_s, t1', b2_s, inb_n b1 (by decide), grd_t, cl_n (by omega), hz b b1, zv_t b3, lt_e]
        exact f1
      · unfold fX12_way
        rw [m1, hti, b1_s, if_neg (by decide), m2, hr, b1_s, if_neg (by decide), ef, b1_s, m3, b1_s, g2, b1_s, t2', b2_s]
        exact f2
  · refine ⟨-1, ztz, ztn, zfr, 0, mto, mrw, mfa, ?_, ?_, A, K, U, kb, u, pn, hcu, hx, ht, rfl⟩
    · unfold fX11_way; rw [n1 _ hX0, b1_s, if_pos rfl]
    · have m1 : fX12_isThere mme 0 a1 = some 0 := n2 mme 0 mme (by decide) hR0
      unfold fX12_way; rw [m1, b1_s, if_pos rfl]
