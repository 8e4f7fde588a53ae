/-! a trial: ends run, those that stay are suspects again -/
theorem W_rn {A : AS} (w : WF A) (f : Nat → Bool) : WF (u_rn A f) := w
theorem W_lg {A : AS} (w : WF A) (k o : Nat) : WF (lgA A k o) := w
theorem J_log {B : Nat} {A : AS} {st : List Nat} (h : J B A st none) (kd o : Nat) (hs : (a_lg A).1 + 5 * nt A + 2 * un A + 1 ≤ B + st.length) : J B (lgA A kd o) st none := by
  obtain ⟨k1, k2, k3, k4, k5, k6⟩ := h
  refine ⟨W_lg k1 kd o, k2, k3, k4, k5, ?_⟩
  show (a_lg A).1 + 1 + 5 * nt A + 2 * un A ≤ B + st.length
  omega
theorem J_layR {B : Nat} {A : AS} (hJ : J B A [] none) {r : Nat} (hr : r < 6) {v : Option Nat} (hv : ∀ t, v = some t → a_th A t = true) : J B (upA (u_rt A (fs (a_rt A) r v)) v) [] (a_rt A r) := by
  have w := hJ.1
  have w1 : WF (u_rt A (fs (a_rt A) r v)) := by
    obtain ⟨w1, w2, w3, w4, w5, w6⟩ := w
    refine ⟨w1, w2, w3, fun r2 t q => ?_, w5, w6⟩
    have q2 : fs (a_rt A) r v r2 = some t := q
    by_cases q3 : r2 = r
    · rw [q3, fs_s] at q2; exact ⟨by omega, hv t q2⟩
    · rw [fs_n q3] at q2; exact w4 r2 t q2
  refine J_lay hJ w1 rfl rfl (fun t => ?_) (fun t q => (W_rt w q).2) ⟨rfl, rfl, rfl⟩
  have := rfR_u (a_rt A) hr v t
  have e1 : rf (u_rt A (fs (a_rt A) r v)) t = rfF (a_fd A) t + rfR (fs (a_rt A) r v) t := rfl
  have e2 : rf A t = rfF (a_fd A) t + rfR (a_rt A) t := rfl
  omega
theorem e3_rt (A : AS) (o : Nat) : a_rt (lgA (e3A A o) 4 o) = a_rt A := rfl
theorem e3_th (A : AS) (o : Nat) : a_th (lgA (e3A A o) 4 o) = a_th A := rfl
theorem e4_up (A : AS) (o : Nat) : e4A A o = upA (u_rt (lgA (e3A A o) 4 o) (fs (a_rt A) (a_en A o - 2) (some o))) (some o) := rfl
theorem J_e4t {B : Nat} {A : AS} {o : Nat} (h : J B A [] none) (ht : a_th A o = true) (hr : a_rn A o = false) (he : 2 ≤ a_en A o) : J B (e4A A o) [] (a_rt A (a_en A o - 2)) := by
  obtain ⟨h3, hs⟩ := J_e3 h ht hr
  have hen := W_en h.1 o
  have h4 := J_log h3 4 o hs
  have key := J_layR h4 (r := a_en A o - 2) (by omega) (v := some o) (fun t q => by cases q; rw [e3_th]; exact ht)
  rw [e3_rt] at key
  rw [e4_up]
  exact key
theorem re_one {N B : Nat} (hN : 200000 ≤ N) (hB : B ≤ 2147400000) {A : AS} (hJ : J B A [] none) {o : Nat} (hh : hE A o = true) : ∃ A', J B A' [] none ∧ LGR (a_lg A) (a_lg A') ∧
    (∀ (m0 : Nat → Int32) (b : Nat) (mm : Nat → Int32), b ≤ 5124 → RM m0 b mm A → ∃ r mm', fX12_runsEnd N mm (nI b) (nI o) = some (r, mm') ∧ RM m0 b mm' A') ∧
    (∀ (X : Nat → Nat → Int32) (zcd : Int32) (zgo : Nat → Int32), RC X A → ∃ r Y zcd' zgo' X', fX2_runsEnd X (nI o) = some (r, Y) ∧ fX2_countsDown N zcd zgo Y r = some (zcd', zgo', X') ∧ RC X' A') := by
  have w := hJ.1
  have hh2 := hh
  unfold hE at hh2
  rw [Bool.and_eq_true, Bool.and_eq_true, decide_eq_true_eq, Bool.not_eq_true'] at hh2
  obtain ⟨⟨ht, hen0⟩, hrn⟩ := hh2
  have ho := W_th w ht
  have hen := W_en w o
  have hlg := J_lg hJ (by decide) hB
  by_cases q : a_en A o < 2
  · obtain ⟨hJ3, _⟩ := J_e3 hJ ht hrn
    refine ⟨e3A A o, hJ3, e3_lgr A o, fun m0 b mm hb hR => ?_, fun X zcd zgo hX => ?_⟩
    · obtain ⟨mm', e, r⟩ := M_end1 hR hb ho ht (by omega) (by omega) (fX12_countsDown_d N 64)
      exact ⟨0, mm', e, r⟩
    · obtain ⟨Y, e, r⟩ := C_end1 hX ho q (by omega)
      obtain ⟨A', _, _, _, g4⟩ := T_cd (N := N) (v := none) (by omega) hB hJ3
      refine ⟨-1, Y, 0, zgo, Y, e, ?_, r⟩
      obtain ⟨f, rfl⟩ : ∃ f, N = f + 1 := ⟨N - 1, by omega⟩
      unfold fX2_countsDown
      show fX2_countsDown_10b (f + 1) (-1) (fX2_countsDown_10 (f + 1) (-1) f) 0 zgo Y (-1) 0 = _
      unfold fX2_countsDown_10b
      rw [if_neg (by decide), if_pos rfl, if_pos (by decide)]
  · have hJ4 := J_e4t hJ ht hrn (by omega)
    obtain ⟨A', g1, g2, g3, g4⟩ := T_cd (N := N) (by omega) hB hJ4
    refine ⟨A', g1, LGR_t (e4_lgr A o) g2.2.2.2.2.2.2.2, fun m0 b mm hb hR => ?_, fun X zcd zgo hX => ?_⟩
    · obtain ⟨m1, e1, r1⟩ := M_end4 hR hb ho ht (by omega) hen (by omega) (fX12_countsDown_d N 64)
      obtain ⟨m2, e2, r2⟩ := g3 m0 b m1 hb r1
      refine ⟨1, m2, ?_, r2⟩
      have e2' : fX12_laysRoot_o_30 (fX12_countsDown_d N 64) (nI b) (nI (a_en A o - 2)) (nI o) m1 (oI (a_rt A (a_en A o - 2))) = some m2 := e2
      show fX12_runsEnd_o (fX12_countsDown_d N 64) mm (nI b) (nI o) = _
      rw [e1, e2', b1_s]
    · obtain ⟨Y, e, r⟩ := C_end4 hX ho (by omega) hen (by omega)
      obtain ⟨z, g, X', e2, r2⟩ := g4 Y zcd zgo r
      exact ⟨_, Y, z, g, X', e, e2, r2⟩
theorem re_loop {N B : Nat} (hN : 200000 ≤ N) (hB : B ≤ 2147400000) {c : Nat → Nat} : ∀ (r i : Nat) (A : AS), i + r = 24 → J B A [] none → ∃ A', J B A' [] none ∧ LGR (a_lg A) (a_lg A') ∧
    (∀ (m0 : Nat → Int32) (b : Nat) (mm mcn : Nat → Int32) (f : Nat), b ≤ 5124 → RM m0 b mm A → r < f → ∃ mm', fX12_runsEnds_28 N (nI b) mcn (bs (fun o => decide (c o = 2))) f mm (nI i) = fX12_runsEnds_74 N (nI b) mcn (bs (fun o => decide (c o = 2))) N mm' 0 ∧ RM m0 b mm' A') ∧
    (∀ (X : Nat → Nat → Int32) (zcd : Int32) (zgo zcl zca : Nat → Int32) (f : Nat), RC X A → CP zcl c → r < f → ∃ zcd' zgo' X', fX9_runsEnds_17 N zcl zca f zcd zgo X (nI i) = fX9_runsEnds_66 N zcl zca N zcd' zgo' X' 0 ∧ RC X' A') := by
  intro r
  induction r with
  | zero =>
    intro i A hi hJ
    refine ⟨A, hJ, LGR_r _, fun m0 b mm mcn f hb hR hf => ⟨mm, ?_, hR⟩, fun X zcd zgo zcl zca f hX hC hf => ⟨zcd, zgo, X, ?_, hX⟩⟩
    · obtain ⟨f', rfl⟩ : ∃ f', f = f' + 1 := ⟨f - 1, by omega⟩
      show fX12_runsEnds_28b N (nI b) mcn (bs (fun o => decide (c o = 2))) (fX12_runsEnds_28 N (nI b) mcn (bs (fun o => decide (c o = 2))) f') mm (nI i) = _
      unfold fX12_runsEnds_28b
      rw [if_pos (by rw [le_24 (by omega)]; omega)]
    · obtain ⟨f', rfl⟩ : ∃ f', f = f' + 1 := ⟨f - 1, by omega⟩
      show fX9_runsEnds_17b N zcl zca (fX9_runsEnds_17 N zcl zca f') zcd zgo X (nI i) = _
      unfold fX9_runsEnds_17b
      rw [if_pos (by rw [le_24 (by omega)]; omega)]
  | succ r ih =>
    intro i A hi hJ
    have hi24 : i < 24 := by omega
    have w := hJ.1
    have hen := W_en w i
    have mkey : ∀ (m0 : Nat → Int32) (b : Nat) (mm mcn : Nat → Int32) (f : Nat), b ≤ 5124 → RM m0 b mm A → fX12_runsEnds_28 N (nI b) mcn (bs (fun o => decide (c o = 2))) (f + 1) mm (nI i) = (if decide (c i = 2) && hE A i then bnd2 (fX12_runsEnd N mm (nI b) (nI i)) fun _ m => fX12_runsEnds_28 N (nI b) mcn (bs (fun o => decide (c o = 2))) f m (nI (i + 1)) else fX12_runsEnds_28 N (nI b) mcn (bs (fun o => decide (c o = 2))) f mm (nI (i + 1))) := by
      intro m0 b mm mcn f hb hR
      show fX12_runsEnds_28b N (nI b) mcn (bs (fun o => decide (c o = 2))) (fX12_runsEnds_28 N (nI b) mcn (bs (fun o => decide (c o = 2))) f) mm (nI i) = _
      unfold fX12_runsEnds_28b
      rw [if_neg (by rw [le_24 (by omega)]; omega), M_has _ hi24, b1_s, nI_1]
      by_cases q : c i = 2
      · rw [decide_eq_true q, if_neg (by decide), M_of0 hR hb hi24, b1_s]
        cases q2 : a_th A i with
        | false =>
          have : hE A i = false := by unfold hE; rw [q2]; rfl
          rw [this]
          rfl
        | true =>
          rw [if_pos (show bI true = 1 from rfl), M_hasEnd hR hb hi24 q2 hen, b1_s]
          cases hE A i with
          | false => rfl
          | true => rfl
      · rw [decide_eq_false q]
        rfl
    have ckey : ∀ (X : Nat → Nat → Int32) (zcd : Int32) (zgo zcl zca : Nat → Int32) (f : Nat), RC X A → CP zcl c → fX9_runsEnds_17 N zcl zca (f + 1) zcd zgo X (nI i) = (if decide (c i = 2) && hE A i then bnd2 (fX2_runsEnd X (nI i)) fun r Y => bnd3 (fX2_countsDown N zcd zgo Y r) fun z g Y2 => fX9_runsEnds_17 N zcl zca f z g Y2 (nI (i + 1)) else fX9_runsEnds_17 N zcl zca f zcd zgo X (nI (i + 1))) := by
      intro X zcd zgo zcl zca f hX hC
      obtain ⟨c1, c2⟩ := hC i hi24
      have ce : fX3_hasEndToRun X (nI i) = some (bI (hE A i)) := C_hasEnd hX hi24 hen
      show fX9_runsEnds_17b N zcl zca (fX9_runsEnds_17 N zcl zca f) zcd zgo X (nI i) = _
      unfold fX9_runsEnds_17b
      rw [if_neg (by rw [le_24 (by omega)]; omega), inb_n hi24 (by decide), grd_t, cl_n (by omega), c1, ce, b1_s, nI_1]
      by_cases q : c i = 2
      · rw [q, if_pos (show nI 2 = 2 from rfl)]
        cases hE A i with
        | false => rfl
        | true => rfl
      · rw [if_neg (by rw [show (2 : Int32) = nI 2 from rfl, eq_n (by omega) (by omega)]; exact q), decide_eq_false q]
        rfl
    cases q : (decide (c i = 2) && hE A i) with
    | false =>
      obtain ⟨A', g1, gl, g2, g3⟩ := ih (i + 1) A (by omega) hJ
      refine ⟨A', g1, gl, fun m0 b mm mcn f hb hR hf => ?_, fun X zcd zgo zcl zca f hX hC hf => ?_⟩
      · obtain ⟨f', rfl⟩ : ∃ f', f = f' + 1 := ⟨f - 1, by omega⟩
        rw [mkey m0 b mm mcn f' hb hR, q, if_neg (by decide)]
        exact g2 m0 b mm mcn f' hb hR (by omega)
      · obtain ⟨f', rfl⟩ : ∃ f', f = f' + 1 := ⟨f - 1, by omega⟩
        rw [ckey X zcd zgo zcl zca f' hX hC, q, if_neg (by decide)]
        exact g3 X zcd zgo zcl zca f' hX hC (by omega)
    | true =>
      have q2 : hE A i = true := (Bool.and_eq_true _ _ ▸ q : _ ∧ _).2
      obtain ⟨A1, k1, kl, k2, k3⟩ := re_one hN hB hJ q2
      obtain ⟨A', g1, gl, g2, g3⟩ := ih (i + 1) A1 (by omega) k1
      refine ⟨A', g1, LGR_t kl gl, fun m0 b mm mcn f hb hR hf => ?_, fun X zcd zgo zcl zca f hX hC hf => ?_⟩
      · obtain ⟨f', rfl⟩ : ∃ f', f = f' + 1 := ⟨f - 1, by omega⟩
        obtain ⟨rr, m1, e1, r1⟩ := k2 m0 b mm hb hR
        rw [mkey m0 b mm mcn f' hb hR, q, if_pos rfl, e1, b2_s]
        exact g2 m0 b m1 mcn f' hb r1 (by omega)
      · obtain ⟨f', rfl⟩ : ∃ f', f = f' + 1 := ⟨f - 1, by omega⟩
        obtain ⟨rr, Y, z, g, Y2, e1, e2, r2⟩ := k3 X zcd zgo hX
        rw [ckey X zcd zgo zcl zca f' hX hC, q, if_pos rfl, e1, b2_s, e2, b3_s]
        exact g3 Y2 z g zcl zca f' r2 hC (by omega)
theorem mn_loop {N B : Nat} (hN : 200000 ≤ N) {c : Nat → Nat} : ∀ (r i : Nat) (A : AS), i + r = 24 → J B A [] none → ∃ A', J B A' [] none ∧ LGR (a_lg A) (a_lg A') ∧
    (∀ (m0 : Nat → Int32) (b : Nat) (mm mcn : Nat → Int32) (f : Nat), b ≤ 5124 → RM m0 b mm A → r < f → ∃ mm', fX12_runsEnds_74 N (nI b) mcn (bs (fun o => decide (c o = 2))) f mm (nI i) = some mm' ∧ RM m0 b mm' A') ∧
    (∀ (X : Nat → Nat → Int32) (zcd : Int32) (zgo zcl zca : Nat → Int32) (f : Nat), RC X A → CP zcl c → r < f → ∃ X', fX9_runsEnds_66 N zcl zca f zcd zgo X (nI i) = some (zcd, zgo, X') ∧ RC X' A') := by
  intro r
  induction r with
  | zero =>
    intro i A hi hJ
    refine ⟨A, hJ, LGR_r _, fun m0 b mm mcn f hb hR hf => ⟨mm, ?_, hR⟩, fun X zcd zgo zcl zca f hX hC hf => ⟨X, ?_, hX⟩⟩
    · obtain ⟨f', rfl⟩ : ∃ f', f = f' + 1 := ⟨f - 1, by omega⟩
      show fX12_runsEnds_74b N (nI b) mcn (bs (fun o => decide (c o = 2))) (fX12_runsEnds_74 N (nI b) mcn (bs (fun o => decide (c o = 2))) f') mm (nI i) = _
      unfold fX12_runsEnds_74b
      rw [if_pos (by rw [le_24 (by omega)]; omega)]
    · obtain ⟨f', rfl⟩ : ∃ f', f = f' + 1 := ⟨f - 1, by omega⟩
      show fX9_runsEnds_66b N zcl zca (fX9_runsEnds_66 N zcl zca f') zcd zgo X (nI i) = _
      unfold fX9_runsEnds_66b
      rw [if_pos (by rw [le_24 (by omega)]; omega)]
  | succ r ih =>
    intro i A hi hJ
    have hi24 : i < 24 := by omega
    have w := hJ.1
    have hmy := W_my w i
    have mkey : ∀ (m0 : Nat → Int32) (b : Nat) (mm mcn : Nat → Int32) (f : Nat), b ≤ 5124 → RM m0 b mm A → fX12_runsEnds_74 N (nI b) mcn (bs (fun o => decide (c o = 2))) (f + 1) mm (nI i) = (if decide (c i = 2) && a_th A i && decide (a_my A i ≠ 0) && !(a_ls A).contains i then bnd1 (fX12_isSuspect N mm (nI b) (nI i)) fun m => fX12_runsEnds_74 N (nI b) mcn (bs (fun o => decide (c o = 2))) f m (nI (i + 1)) else fX12_runsEnds_74 N (nI b) mcn (bs (fun o => decide (c o = 2))) f mm (nI (i + 1))) := by
      intro m0 b mm mcn f hb hR
      show fX12_runsEnds_74b N (nI b) mcn (bs (fun o => decide (c o = 2))) (fX12_runsEnds_74 N (nI b) mcn (bs (fun o => decide (c o = 2))) f) mm (nI i) = _
      unfold fX12_runsEnds_74b
      rw [if_neg (by rw [le_24 (by omega)]; omega), M_has _ hi24, b1_s, nI_1]
      by_cases q : c i = 2
      · rw [decide_eq_true q, if_neg (by decide), M_of0 hR hb hi24, b1_s]
        cases q2 : a_th A i with
        | false => rfl
        | true =>
          rw [if_pos (show bI true = 1 from rfl), M_of1 hR hb hi24 q2, b1_s]
          by_cases q3 : a_my A i = 0
          · rw [if_pos (by rw [le_f0 (by omega)]; exact q3)]; simp [q3]
          · rw [if_neg (by rw [le_f0 (by omega)]; exact q3)]
            have hlen := W_len w
            obtain ⟨rr, e, k⟩ := M_place hR hb (W_l24 w) hi24 (N := N) (by omega)
            rcases k with ⟨k1, k2⟩ | ⟨k, k1, k2, k3⟩
            · rw [e, b1_s, k2, if_neg (by decide)]
              simp [q3, k1]
            · have hm : i ∈ a_ls A := by rw [← k2]; exact getD_mem k1
              rw [e, b1_s, k3, if_pos (nI_pos' (by omega))]
              simp [hm]
      · rw [decide_eq_false q]
        rfl
    have ckey : ∀ (X : Nat → Nat → Int32) (zcd : Int32) (zgo zcl zca : Nat → Int32) (f : Nat), RC X A → CP zcl c → fX9_runsEnds_66 N zcl zca (f + 1) zcd zgo X (nI i) = (if decide (c i = 2) && a_th A i && decide (a_my A i ≠ 0) && !(a_ls A).contains i then bnd1 (fX6_means X (nI i)) fun Y => fX9_runsEnds_66 N zcl zca f zcd zgo Y (nI (i + 1)) else fX9_runsEnds_66 N zcl zca f zcd zgo X (nI (i + 1))) := by
      intro X zcd zgo zcl zca f hX hC
      obtain ⟨c1, c2⟩ := hC i hi24
      show fX9_runsEnds_66b N zcl zca (fX9_runsEnds_66 N zcl zca f) zcd zgo X (nI i) = _
      unfold fX9_runsEnds_66b fX11_bit
      rw [if_neg (by rw [le_24 (by omega)]; omega), inb_n hi24 (by decide), grd_t, cl_n (by omega), c1, C_has hX hi24, b1_s, grd_t, RC_h4 hX i hi24, RC_h12 hX, bs_bit _ hi24, b1_s, nI_1]
      by_cases q : c i = 2
      · rw [q, if_pos (show nI 2 = 2 from rfl)]
        cases q2 : a_th A i with
        | false => rfl
        | true =>
          rw [if_neg (by decide)]
          by_cases q3 : a_my A i = 0
          · rw [if_pos (by rw [le_f0 (by omega)]; exact q3)]; simp [q3]
          · rw [if_neg (by rw [le_f0 (by omega)]; exact q3)]
            cases q4 : (a_ls A).contains i with
            | false => rw [if_pos (show bI false = 0 from rfl)]; simp [q3]
            | true => rw [if_neg (by decide)]; simp
      · rw [if_neg (by rw [show (2 : Int32) = nI 2 from rfl, eq_n (by omega) (by omega)]; exact q), decide_eq_false q]
        rfl
    cases q : (decide (c i = 2) && a_th A i && decide (a_my A i ≠ 0) && !(a_ls A).contains i) with
    | false =>
      obtain ⟨A', g1, gl, g2, g3⟩ := ih (i + 1) A (by omega) hJ
      refine ⟨A', g1, gl, fun m0 b mm mcn f hb hR hf => ?_, fun X zcd zgo zcl zca f hX hC hf => ?_⟩
      · obtain ⟨f', rfl⟩ : ∃ f', f = f' + 1 := ⟨f - 1, by omega⟩
        rw [mkey m0 b mm mcn f' hb hR, q, if_neg (by decide)]
        exact g2 m0 b mm mcn f' hb hR (by omega)
      · obtain ⟨f', rfl⟩ : ∃ f', f = f' + 1 := ⟨f - 1, by omega⟩
        rw [ckey X zcd zgo zcl zca f' hX hC, q, if_neg (by decide)]
        exact g3 X zcd zgo zcl zca f' hX hC (by omega)
    | true =>
      have q' := q
      rw [Bool.and_eq_true, Bool.and_eq_true, Bool.and_eq_true] at q'
      have ht : a_th A i = true := q'.1.1.2
      have k1 := J_mn hJ ht (o := i) List.not_mem_nil
      obtain ⟨A', g1, gl, g2, g3⟩ := ih (i + 1) (mnA A i) (by omega) k1
      refine ⟨A', g1, gl, fun m0 b mm mcn f hb hR hf => ?_, fun X zcd zgo zcl zca f hX hC hf => ?_⟩
      · obtain ⟨f', rfl⟩ : ∃ f', f = f' + 1 := ⟨f - 1, by omega⟩
        obtain ⟨m1, e1, r1⟩ := M_isSuspect hR hb (W_l24 w) hi24 (fun hn => W_len1 w hi24 hn) (N := N) (by omega)
        rw [mkey m0 b mm mcn f' hb hR, q, if_pos rfl, e1, b1_s]
        exact g2 m0 b m1 mcn f' hb r1 (by omega)
      · obtain ⟨f', rfl⟩ : ∃ f', f = f' + 1 := ⟨f - 1, by omega⟩
        obtain ⟨Y, e1, r1⟩ := C_means hX hi24 (fun hn => W_len1 w hi24 hn)
        rw [ckey X zcd zgo zcl zca f' hX hC, q, if_pos rfl, e1, b1_s]
        exact g3 Y zcd zgo zcl zca f' r1 hC (by omega)
