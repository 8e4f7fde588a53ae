/-! a reference is laid: both sides -/
def upA (A : AS) (v : Option Nat) : AS := match v with
  | none => A
  | some o => ucA A o
theorem upA_rf (A : AS) (v : Option Nat) (t : Nat) : rf (upA A v) t = rf A t := by cases v <;> rfl
theorem upA_th (A : AS) (v : Option Nat) : a_th (upA A v) = a_th A := by cases v <;> rfl
theorem upA_ct {A : AS} {v : Option Nat} (t : Nat) : a_ct (upA A v) t = a_ct A t + (if v = some t then 1 else 0) := by
  cases v with
  | none => rw [if_neg nn_ne]; show a_ct A t = _; omega
  | some o =>
    show fs (a_ct A) o (a_ct A o + 1) t = _
    by_cases q : t = o
    · rw [q, fs_s, if_pos rfl]
    · rw [fs_n q, if_neg (sm_ne q)]; omega
theorem upA_WF {A : AS} {v : Option Nat} (w : WF A) : WF (upA A v) := by
  cases v with
  | none => exact w
  | some o =>
    obtain ⟨w1, w2, w3, w4, w5, w6, w7, w8, w9, w10⟩ := w
    refine ⟨w1, w2, w3, w4, w5, w6, w7, fun x hx => ?_, w9, w10⟩
    have hx2 : fs (a_mt A) o false x = true := hx
    by_cases q : x = o
    · subst q; rw [fs_s] at hx2; cases hx2
    · rw [fs_n q] at hx2; exact w8 x hx2
theorem upA_log (A : AS) (v : Option Nat) : (a_lg (upA A v)).1 = (a_lg A).1 ∧ nt (upA A v) = nt A ∧ un (upA A v) = un A := by
  cases v <;> exact ⟨rfl, rfl, rfl⟩
theorem J_lay {B : Nat} {A A1 : AS} {old v : Option Nat} (h : J B A [] none) (w : WF A1) (h1 : a_th A1 = a_th A) (h2 : a_ct A1 = a_ct A) (h3 : ∀ t, rf A1 t + (if old = some t then 1 else 0) = rf A t + (if v = some t then 1 else 0)) (h4 : ∀ t, old = some t → a_th A t = true) (h5 : (a_lg A1).1 = (a_lg A).1 ∧ nt A1 = nt A ∧ un A1 = un A) : J B (upA A1 v) [] old := by
  obtain ⟨k1, k2, k3, k4, k5, k6⟩ := h
  obtain ⟨u1, u2, u3⟩ := upA_log A1 v
  refine ⟨upA_WF w, fun t ht => ?_, k3, (fun x hx => absurd hx List.not_mem_nil), fun t ht => ⟨?_, List.not_mem_nil⟩, by omega⟩
  · rw [upA_th, h1] at ht
    have e := k2 t ht
    rw [if_neg nn_ne] at e
    have e3 := h3 t
    rw [upA_ct, upA_rf, h2, e]
    split at e3 <;> split at e3 <;> rename_i q1 q2
    · rw [if_pos q1, if_pos q2]; omega
    · rw [if_pos q1, if_neg q2]; omega
    · rw [if_neg q1, if_pos q2]; omega
    · rw [if_neg q1, if_neg q2]; omega
  · rw [upA_th, h1]; exact h4 t ht
theorem C_recounts {N B : Nat} (hN : 100000 < N) {X : Nat → Nat → Int32} {A1 A' : AS} (hX : RC X A1) {old v : Option Nat} (hv : SM v) (zcd : Int32) (zgo : Nat → Int32) (hT : ∀ (X : Nat → Nat → Int32) (zcd : Int32) (zgo : Nat → Int32), RC X (upA A1 v) → ∃ zcd' zgo' X', fX2_countsDown N zcd zgo X (oI old) = some (zcd', zgo', X') ∧ RC X' A') : ∃ zcd' zgo' X', fX2_recounts N zcd zgo X (oI old) (oI v) = some (zcd', zgo', X') ∧ RC X' A' := by
  cases v with
  | none =>
    obtain ⟨z, g, Y, e, r⟩ := hT X zcd zgo hX
    refine ⟨z, g, Y, ?_, r⟩
    unfold fX2_recounts fX2_recounts_23
    rw [oI_n, if_pos rfl, e, b3_s]
  | some o =>
    have ho := hv o rfl
    have h2 := C_ct hX o (a_ct A1 o + 1)
    obtain ⟨V, c1, c2⟩ := C_trusts h2 ho
    obtain ⟨z, g, Y, e, r⟩ := hT V zcd zgo c2
    refine ⟨z, g, Y, ?_, r⟩
    unfold fX2_recounts fX2_recounts_23
    rw [oI_s, if_neg (nI_ne1 (by omega)), inb_n ho (by decide), grd_t, grd_t, cl_n (by omega), RC_h7 hX o ho, cI_add, lt_e, c1, b1_s, e, b3_s]
/-- what both sides answer by a change from A to A' -/
def MLay (N : Nat) (f : (Nat → Int32) → Int32 → Option (Nat → Int32)) (A A' : AS) : Prop := ∀ (m0 : Nat → Int32) (b : Nat) (mm : Nat → Int32), b ≤ 5124 → RM m0 b mm A → ∃ mm', f mm (nI b) = some mm' ∧ RM m0 b mm' A'
def CLay (N : Nat) (f : Int32 → (Nat → Int32) → (Nat → Nat → Int32) → Option (Int32 × (Nat → Int32) × (Nat → Nat → Int32))) (A A' : AS) : Prop := ∀ (X : Nat → Nat → Int32) (zcd : Int32) (zgo : Nat → Int32), RC X A → ∃ zcd' zgo' X', f zcd zgo X = some (zcd', zgo', X') ∧ RC X' A'
theorem RLT_upA (A : AS) (v : Option Nat) : RLT A (upA A v) := by
  cases v with
  | none => exact RLT_r A
  | some o => exact RLT_same rfl rfl rfl rfl rfl rfl (fun _ h => h) (LGR_r _)
theorem T_layR {N B : Nat} (hN : 100000 < N) (hB : B ≤ 2147400000) {A : AS} (hJ : J B A [] none) {r : Nat} (hr : r < 6) {v : Option Nat} (hv : ∀ t, v = some t → a_th A t = true) : ∃ A', J B A' [] none ∧ RLT A A' ∧ MLay N (fun mm d => fX12_laysRoot N mm d (nI r) (oI v)) A A' ∧ CLay N (fun zcd zgo X => fX2_laysRoot N zcd zgo X (nI r) (oI v)) A A' := by
  have w := hJ.1
  have hv2 : SM v := fun t e => W_th w (hv t e)
  have w1 : WF (u_rt A (fs (a_rt A) r v)) := by
    obtain ⟨w1, w2, w3, w4, w5, w6⟩ := w
    refine ⟨w1, w2, w3, fun r2 t q => ?_, w5, w6⟩
    have q2 : fs (a_rt A) r v r2 = some t := q
    by_cases q3 : r2 = r
    · rw [q3, fs_s] at q2; exact ⟨by omega, hv t q2⟩
    · rw [fs_n q3] at q2; exact w4 r2 t q2
  have hJ1 : J B (upA (u_rt A (fs (a_rt A) r v)) v) [] (a_rt A r) := by
    refine J_lay hJ w1 rfl rfl (fun t => ?_) (fun t q => (W_rt w q).2) ⟨rfl, rfl, rfl⟩
    have := rfR_u (a_rt A) hr v t
    have e1 : rf (u_rt A (fs (a_rt A) r v)) t = rfF (a_fd A) t + rfR (fs (a_rt A) r v) t := rfl
    have e2 : rf A t = rfF (a_fd A) t + rfR (a_rt A) t := rfl
    omega
  obtain ⟨A', g1, g2, g3, g4⟩ := T_cd hN hB hJ1
  have hR1 : RLT A (u_rt A (fs (a_rt A) r v)) := RLT_same rfl rfl rfl rfl rfl rfl (fun _ h => h) (LGR_r _)
  refine ⟨A', g1, RLT_t (RLT_t hR1 (RLT_upA _ v)) g2, fun m0 b mm hb hR => ?_, fun X zcd zgo hX => ?_⟩
  · have r4 := M_rt hR hr v
    have e6 := M_rootOf hR hb hr
    show ∃ mm', fX12_laysRoot N mm (nI b) (nI r) (oI v) = some mm' ∧ _
    unfold fX12_laysRoot fX12_laysRoot_o
    rw [e6, b1_s, show (33 : Int32) = nI 33 from rfl, ad_c, inb_n (by omega) (by decide), grd_t, cl_n (by omega), lt_e]
    unfold fX12_laysRoot_o_30
    cases v with
    | none =>
      rw [oI_n, if_pos neg1_lt]
      exact g3 m0 b _ hb r4
    | some o =>
      have ho := hv2 o rfl
      obtain ⟨m5, e7, r5⟩ := M_countsUp r4 hb ho (hv o rfl)
      have e7' : fX12_countsUp (upd mm (b + 33 + r) (nI o)) (nI b) (nI o) = some m5 := e7
      rw [oI_s, if_neg (nI_nlt0 (by omega)), e7', b1_s]
      exact g3 m0 b _ hb r5
  · have hX1 := C_rt hX r v
    obtain ⟨z, g, Y, e, q⟩ := C_recounts (B := B) hN hX1 (old := a_rt A r) hv2 zcd zgo g4
    refine ⟨z, g, Y, ?_, q⟩
    show fX2_laysRoot N zcd zgo X (nI r) (oI v) = _
    unfold fX2_laysRoot
    rw [inb_n hr (by decide), grd_t, grd_t, cl_n (by omega), lt_e, RC_h9 hX r hr, e, b3_s]
theorem T_layF {N B : Nat} (hN : 100000 < N) (hB : B ≤ 2147400000) {A : AS} (hJ : J B A [] none) {o k : Nat} (ht : a_th A o = true) (hk : k < a_my A o) {v : Option Nat} (hv : ∀ t, v = some t → a_th A t = true) : ∃ A', J B A' [] none ∧ LGR (a_lg A) (a_lg A') ∧ MLay N (fun mm d => fX12_laysField N mm d (nI o) (nI k) (oI v)) A A' ∧ CLay N (fun zcd zgo X => fX2_laysField N zcd zgo X (nI o) (nI k) (oI v)) A A' := by
  have w := hJ.1
  have ho := W_th w ht
  have hk4 : k < 4 := by have := W_my w o; omega
  have hv2 : SM v := fun t e => W_th w (hv t e)
  have w1 : WF (u_fd A (f2 (a_fd A) o k v)) := by
    obtain ⟨w1, w2, w3, w4, w5, w6⟩ := w
    refine ⟨w1, w2, fun i j t q => ?_, w4, w5, w6⟩
    have q2 : f2 (a_fd A) o k v i j = some t := q
    unfold f2 at q2
    by_cases q3 : i = o ∧ j = k
    · rw [if_pos q3] at q2
      rw [q3.1, q3.2]
      exact ⟨ht, hk, hv t q2⟩
    · rw [if_neg q3] at q2; exact w3 i j t q2
  have hJ1 : J B (upA (u_fd A (f2 (a_fd A) o k v)) v) [] (a_fd A o k) := by
    refine J_lay hJ w1 rfl rfl (fun t => ?_) (fun t q => (W_fd w q).2.2) ⟨rfl, rfl, rfl⟩
    have := rfF_u (a_fd A) ho hk4 v t
    have e1 : rf (u_fd A (f2 (a_fd A) o k v)) t = rfF (f2 (a_fd A) o k v) t + rfR (a_rt A) t := rfl
    have e2 : rf A t = rfF (a_fd A) t + rfR (a_rt A) t := rfl
    omega
  obtain ⟨A', g1, g2, g3, g4⟩ := T_cd hN hB hJ1
  have hl : LGR (a_lg A) (a_lg A') := LGR_t (RLT_upA (u_fd A (f2 (a_fd A) o k v)) v).2.2.2.2.2.2.2 g2.2.2.2.2.2.2.2
  refine ⟨A', g1, hl, fun m0 b mm hb hR => ?_, fun X zcd zgo hX => ?_⟩
  · obtain ⟨m4, e4, r4⟩ := M_putF hR hb ho hk4 v
    show ∃ mm', fX12_laysField N mm (nI b) (nI o) (nI k) (oI v) = some mm' ∧ _
    unfold fX12_laysField fX12_laysField_o
    rw [M_fieldOf hR hb ho hk4 ht, b1_s, e4, b1_s]
    unfold fX12_laysField_o_27
    cases v with
    | none =>
      rw [oI_n, if_pos neg1_lt]
      exact g3 m0 b _ hb r4
    | some p =>
      have hp := hv2 p rfl
      obtain ⟨m5, e7, r5⟩ := M_countsUp r4 hb hp (hv p rfl)
      rw [oI_s, if_neg (nI_nlt0 (by omega)), e7, b1_s]
      exact g3 m0 b _ hb r5
  · obtain ⟨Y1, c1, hX1⟩ := C_fills hX ho hk4 v
    obtain ⟨z, g, Y, e, q⟩ := C_recounts (B := B) hN hX1 (old := a_fd A o k) hv2 zcd zgo g4
    refine ⟨z, g, Y, ?_, q⟩
    show fX2_laysField N zcd zgo X (nI o) (nI k) (oI v) = _
    unfold fX2_laysField
    rw [C_fieldAt hX ho hk4, b1_s, c1, b1_s, e, b3_s]
