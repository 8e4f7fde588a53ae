/-! one step of a count down, class and reference -/
def hE (A : AS) (o : Nat) : Bool := a_th A o && decide (a_en A o ≠ 0) && !a_rn A o
theorem C_end1 {X : Nat → Nat → Int32} {A : AS} (h : RC X A) {o : Nat} (ho : o < 24) (he : a_en A o < 2) (ht : (a_lg A).1 < 2147480000) : ∃ X', fX2_runsEnd X (nI o) = some (-1, X') ∧ RC X' (e3A A o) := by
  have h2 := C_rn h (fs (a_rn A) o true)
  obtain ⟨Y, c1, c2⟩ := C_log h2 (kd := 3) (by decide) ho (by show (a_lg A).1 < _; omega)
  have c1' : fX4_adds (up2 X 0 1 (bs (fs (a_rn A) o true))) 3 (nI o) = some Y := c1
  refine ⟨Y, ?_, c2⟩
  have e6 : Y 3 o = nI (a_en A o) := RC_h6 c2 o ho
  have hneg : nI (a_en A o) - 2 < 0 := pk_sneg (b := 2) (by decide) he
  unfold fX2_runsEnd
  rw [RC_h2 h, bs_set _ ho, lt_e, c1', b1_s, inb_n ho (by decide), grd_t, cl_n (by omega), e6, lt_e, if_pos hneg]
theorem C_end4 {X : Nat → Nat → Int32} {A : AS} (h : RC X A) {o : Nat} (ho : o < 24) (he : 2 ≤ a_en A o) (he2 : a_en A o ≤ 7) (ht : (a_lg A).1 < 2147480000) : ∃ X', fX2_runsEnd X (nI o) = some (oI (a_rt A (a_en A o - 2)), X') ∧ RC X' (e4A A o) := by
  have h2 := C_rn h (fs (a_rn A) o true)
  obtain ⟨Y, c1, c2⟩ := C_log h2 (kd := 3) (by decide) ho (by show (a_lg A).1 < _; omega)
  have c1' : fX4_adds (up2 X 0 1 (bs (fs (a_rn A) o true))) 3 (nI o) = some Y := c1
  have e6 : Y 3 o = nI (a_en A o) := RC_h6 c2 o ho
  have e7 : nI (a_en A o) - 2 = nI (a_en A o - 2) := pk_sub (b := 2) he
  obtain ⟨Z, d1, d2⟩ := C_log c2 (kd := 4) (by decide) ho (by show (a_lg A).1 + 1 < _; omega)
  have d1' : fX4_adds Y 4 (nI o) = some Z := d1
  have e9 : Z 6 (a_en A o - 2) = oI (a_rt A (a_en A o - 2)) := RC_h9 d2 _ (by omega)
  have f1 := C_rt d2 (a_en A o - 2) (some o)
  have e10 : up2 Z 6 (a_en A o - 2) (nI o) 4 o = cI (a_ct A o) := RC_h7 f1 o ho
  have f2 := C_ct f1 o (a_ct A o + 1)
  obtain ⟨V, g1, g2⟩ := C_trusts f2 ho
  refine ⟨V, ?_, g2⟩
  unfold fX2_runsEnd
  rw [RC_h2 h, bs_set _ ho, lt_e, c1', b1_s, inb_n ho (by decide), grd_t, cl_n (by omega), e6, lt_e, e7, if_neg (nI_nlt0 (by omega)), if_pos (show nI (a_en A o - 2) < 6 from (ltn (j := 6) (by omega) (by omega)).mpr (by omega)), d1', b1_s, inb_n (i := a_en A o - 2) (by omega) (by decide), grd_t, cl_n (i := a_en A o - 2) (by omega), lt_e, grd_t, lt_e, grd_t, grd_t, lt_e, e9, e10, cI_add]
  have g1' : fX6_trusts (up2 (up2 Z 6 (a_en A o - 2) (nI o)) 4 o (cI (a_ct A o + 1))) (nI o) = some V := g1
  rw [g1', b1_s]
theorem C_one_pos {X : Nat → Nat → Int32} {A : AS} (h : RC X A) (w : WF A) {o : Nat} (ho : o < 24) (hc : 1 < a_ct A o) (hc2 : a_ct A o ≤ 1000) (N : Nat) (zcd : Int32) (zgo : Nat → Int32) : ∃ X', fX2_countsOneDown N zcd zgo X (nI o) = some (-1, zcd, zgo, X') ∧ RC X' (if a_my A o = 0 then dcA A o else mnA (dcA A o) o) := by
  have h1 : RC (up2 X 4 o (cI (a_ct A o - 1))) (dcA A o) := C_ct h o (a_ct A o - 1)
  have e7 : X 4 o - 1 = cI (a_ct A o - 1) := by rw [RC_h7 h o ho, cI_sub]
  have hm := W_my w o
  have e1 : up2 X 4 o (cI (a_ct A o - 1)) 4 o = cI (a_ct A o - 1) := (RC_h7 h1 o ho).trans (congrArg cI fs_s)
  have e2 : up2 X 4 o (cI (a_ct A o - 1)) 1 o = nI (a_my A o) := RC_h4 h1 o ho
  unfold fX2_countsOneDown
  rw [inb_n ho (by decide), grd_t, grd_t, cl_n (by omega), e7, lt_e, grd_t, e1, if_neg (by rw [cI_le0 (by omega) (by omega)]; omega), grd_t, e2]
  by_cases q : a_my A o = 0
  · refine ⟨_, by rw [if_pos (by rw [le_f0 (by omega)]; exact q)], ?_⟩
    rw [if_pos q]; exact h1
  · obtain ⟨Y, c1, c2⟩ := C_means h1 ho (fun hn => W_len1 w ho hn)
    refine ⟨Y, by rw [if_neg (by rw [le_f0 (by omega)]; exact q), c1, b1_s], ?_⟩
    rw [if_neg q]; exact c2
theorem C_72 {X : Nat → Nat → Int32} {A : AS} (h : RC X A) {o : Nat} (ho : o < 24) (ht : (a_lg A).1 < 2147480000) (N : Nat) {sl : Nat} (hs : sl < 24) (zgo : Nat → Int32) : ∃ X', fX2_countsOneDown_72 N (nI o) (nI sl) zgo X = some (-1, nI (sl + 1), upd zgo sl (nI o), X') ∧ RC X' (lgA A 1 o) := by
  obtain ⟨Y, c1, c2⟩ := C_log h (kd := 1) (by decide) ho (by omega)
  have c1' : fX4_adds X 1 (nI o) = some Y := c1
  refine ⟨Y, ?_, c2⟩
  unfold fX2_countsOneDown_72
  rw [c1', b1_s, if_neg (by rw [le_24 (by omega)]; omega), inb_n hs (by decide), grd_t, cl_n (by omega), lt_e, lt_e, nI_1]
theorem C_one_zero {X : Nat → Nat → Int32} {A : AS} (h : RC X A) (w : WF A) {o : Nat} (ht : a_th A o = true) (hc : a_ct A o = 1) (hg : (a_lg A).1 < 2147470000) {N : Nat} (hN : 24 < N) {sl : Nat} (hs : sl < 24) (zgo : Nat → Int32) :
    (hE A o = false → ∃ X', fX2_countsOneDown N (nI sl) zgo X (nI o) = some (-1, nI (sl + 1), upd zgo sl (nI o), X') ∧ RC X' (lgA (drA (dcA A o) o) 1 o)) ∧
    (hE A o = true → a_en A o < 2 → ∃ X', fX2_countsOneDown N (nI sl) zgo X (nI o) = some (-1, nI (sl + 1), upd zgo sl (nI o), X') ∧ RC X' (lgA (e3A (drA (dcA A o) o) o) 1 o)) ∧
    (hE A o = true → 2 ≤ a_en A o → ∃ X', fX2_countsOneDown N (nI sl) zgo X (nI o) = some (oI (a_rt A (a_en A o - 2)), nI sl, zgo, X') ∧ RC X' (e4A (drA (dcA A o) o) o)) := by
  have ho := W_th w ht
  have h1 : RC (up2 X 4 o (cI (a_ct A o - 1))) (dcA A o) := C_ct h o (a_ct A o - 1)
  have e7 : X 4 o - 1 = cI (a_ct A o - 1) := by rw [RC_h7 h o ho, cI_sub]
  have e1 : up2 X 4 o (cI (a_ct A o - 1)) 4 o = cI (a_ct A o - 1) := (RC_h7 h1 o ho).trans (congrArg cI fs_s)
  obtain ⟨Y, c1, c2⟩ := C_drops h1 ho (W_len w) (W_l24 w) hN
  have ce : fX3_hasEndToRun Y (nI o) = some (bI (hE A o)) := C_hasEnd c2 ho (W_en w o)
  have en := W_en w o
  have key : fX2_countsOneDown N (nI sl) zgo X (nI o) = (if bI (hE A o) = 0 then fX2_countsOneDown_72 N (nI o) (nI sl) zgo Y else bnd2 (fX2_runsEnd Y (nI o)) fun r176 X_176 => grd (inb (nI o) 24) <| if X_176 4 (nI o).toNatClampNeg ≤ 0 then fX2_countsOneDown_72 N (nI o) (nI sl) zgo X_176 else some (r176, nI sl, zgo, X_176)) := by
    unfold fX2_countsOneDown
    rw [inb_n ho (by decide), grd_t, grd_t, cl_n (by omega), e7, lt_e, grd_t, e1, if_pos (by rw [cI_le0 (by omega) (by omega)]; omega), c1, b1_s, ce, b1_s]
  have hg2 : (a_lg (drA (dcA A o) o)).1 < 2147480000 := by show (a_lg A).1 < _; omega
  refine ⟨fun q => ?_, fun q q2 => ?_, fun q q2 => ?_⟩
  · obtain ⟨Z, d1, d2⟩ := C_72 c2 ho hg2 N hs zgo
    exact ⟨Z, by rw [key, q, if_pos (show bI false = 0 from rfl), d1], d2⟩
  · obtain ⟨V, f1, f2⟩ := C_end1 c2 ho q2 hg2
    obtain ⟨Z, d1, d2⟩ := C_72 f2 ho (by show (a_lg A).1 + 1 < _; omega) N hs zgo
    refine ⟨Z, ?_, d2⟩
    have e4 : V 4 o = cI (a_ct A o - 1) := (RC_h7 f2 o ho).trans (congrArg cI fs_s)
    rw [key, q, if_neg (by decide), f1, b2_s, inb_n ho (by decide), grd_t, cl_n (by omega), e4, if_pos (by rw [cI_le0 (by omega) (by omega)]; omega), d1]
  · obtain ⟨V, f1, f2⟩ := C_end4 c2 ho q2 en hg2
    refine ⟨V, ?_, f2⟩
    have e4 : V 4 o = cI (a_ct A o - 1 + 1) := (RC_h7 f2 o ho).trans (congrArg cI (fs_s.trans (congrArg (· + 1) fs_s)))
    have f1' : fX2_runsEnd Y (nI o) = some (oI (a_rt A (a_en A o - 2)), V) := f1
    rw [key, q, if_neg (by decide), f1', b2_s, inb_n ho (by decide), grd_t, cl_n (by omega), e4, if_neg (by rw [cI_le0 (by omega) (by omega)]; omega)]
theorem fs_self {α : Type} {f : Nat → α} {i : Nat} {v : α} (h : f i = v) : fs f i v = f := by
  funext j
  by_cases q : j = i
  · subst q; rw [fs_s, h]
  · rw [fs_n q]
theorem dr_id {A : AS} (w : WF A) {o : Nat} (h : o ∉ a_ls A) : drA A o = A := by
  have e1 : (a_ls A).filter (fun x => decide (x ≠ o)) = a_ls A := by
    rw [List.filter_eq_self]
    intro x hx
    exact decide_eq_true (fun q => h (q ▸ hx))
  have e2 : fs (a_mt A) o false = a_mt A := fs_self (by
    cases e : a_mt A o with
    | false => rfl
    | true => exact absurd (W_mt w e) h)
  unfold drA
  rw [e1, e2]
theorem dr_go {A : AS} (w : WF A) {k : Nat} (hk : k < (a_ls A).length) : drA A ((a_ls A).getD k 0) = goA A k := by
  unfold drA goA
  rw [er_flt (W_nd w) hk]
theorem M_drop {m0 mm : Nat → Int32} {b : Nat} {A : AS} (h : RM m0 b mm A) (hb : b ≤ 5124) (w : WF A) {o : Nat} (ho : o < 24) {N : Nat} (hN : 24 < N) (K : (Nat → Int32) → Option (Nat → Int32)) : ∃ mm', (bnd1 (fX12_placeOnList N mm (nI b) (nI o)) fun r => if r < 0 then K mm else bnd1 (fX12_goesOffList N mm (nI b) r) fun m => K m) = K mm' ∧ RM m0 b mm' (drA A o) := by
  obtain ⟨r, e, c⟩ := M_place h hb (W_l24 w) ho hN
  rcases c with ⟨q, er⟩ | ⟨k, hk, hq, er⟩
  · refine ⟨mm, ?_, ?_⟩
    · rw [e, b1_s, er, if_pos neg1_lt]
    · rw [dr_id w q]; exact h
  · obtain ⟨m1, e1, r1⟩ := M_goesOff h hb (W_l24 w) hk hN
    have := W_len w
    refine ⟨m1, ?_, ?_⟩
    · rw [e, b1_s, er, if_neg (nI_nlt0 (by omega)), e1, b1_s]
    · rw [← hq, dr_go w hk]; exact r1
theorem M_cd_pos {m0 mm : Nat → Int32} {b : Nat} {A : AS} (h : RM m0 b mm A) (hb : b ≤ 5124) (w : WF A) {o : Nat} (ht : a_th A o = true) (hc : 1 < a_ct A o) (hc2 : a_ct A o ≤ 1000) {N : Nat} (hN : 24 < N) (rc : (Nat → Int32) → Int32 → Int32 → Option ((Nat → Int32))) : ∃ mm', fX12_countsDown_o rc N mm (nI b) (nI o) = some mm' ∧ RM m0 b mm' (if a_my A o = 0 then dcA A o else mnA (dcA A o) o) := by
  have ho := W_th w ht
  obtain ⟨m1, e1, r1⟩ := M_put5 h hb ho (a_ct A o - 1)
  have r1' : RM m0 b m1 (dcA A o) := r1
  have e5 : fX12_of m1 (nI b) (nI o) 5 = some (cI (a_ct A o - 1)) := (M_of5 r1 hb ho ht).trans (congrArg (fun z => some (cI z)) fs_s)
  have e6 : fX12_of m1 (nI b) (nI o) 1 = some (nI (a_my A o)) := M_of1 r1 hb ho ht
  have hm := W_my w o
  unfold fX12_countsDown_o
  rw [M_of5 h hb ho ht, b1_s, cI_sub, e1, b1_s, e5, b1_s, if_neg (by rw [cI_le0 (by omega) (by omega)]; omega), e6, b1_s]
  by_cases q : a_my A o = 0
  · refine ⟨m1, by rw [if_pos (by rw [le_f0 (by omega)]; exact q)], ?_⟩
    rw [if_pos q]; exact r1
  · obtain ⟨Y, c1, c2⟩ := M_isSuspect r1' hb (W_l24 w) ho (fun hn => W_len1 w ho hn) hN
    refine ⟨Y, by rw [if_neg (by rw [le_f0 (by omega)]; exact q), c1, b1_s], ?_⟩
    rw [if_neg q]; exact c2
theorem M_cd_zero {m0 mm : Nat → Int32} {b : Nat} {A : AS} (h : RM m0 b mm A) (hb : b ≤ 5124) (w : WF A) {o : Nat} (ht : a_th A o = true) (hc : a_ct A o = 1) {N : Nat} (hN : 24 < N) (rc : (Nat → Int32) → Int32 → Int32 → Option ((Nat → Int32))) : ∃ mm', fX12_countsDown_o rc N mm (nI b) (nI o) = fX12_countsDown_o_53 rc N (nI b) (nI o) mm' ∧ RM m0 b mm' (drA (dcA A o) o) := by
  have ho := W_th w ht
  obtain ⟨m1, e1, r1⟩ := M_put5 h hb ho (a_ct A o - 1)
  have r1' : RM m0 b m1 (dcA A o) := r1
  have e5 : fX12_of m1 (nI b) (nI o) 5 = some (cI (a_ct A o - 1)) := (M_of5 r1 hb ho ht).trans (congrArg (fun z => some (cI z)) fs_s)
  have w1 : WF (dcA A o) := w
  obtain ⟨m2, e2, r2⟩ := M_drop r1' hb w1 ho hN (fX12_countsDown_o_53 rc N (nI b) (nI o))
  refine ⟨m2, ?_, r2⟩
  unfold fX12_countsDown_o
  rw [M_of5 h hb ho ht, b1_s, cI_sub, e1, b1_s, e5, b1_s, if_pos (by rw [cI_le0 (by omega) (by omega)]; omega)]
  exact e2
theorem M_e3 {m0 mm : Nat → Int32} {b : Nat} {A : AS} (h : RM m0 b mm A) (hb : b ≤ 5124) {o : Nat} (ho : o < 24) (hg : (a_lg A).1 < 2147480000) : ∃ m1 mm', fX12_puts mm (nI b) (nI o) 4 1 = some m1 ∧ fX12_logs m1 (nI b) 3 (nI o) = some mm' ∧ RM m0 b mm' (e3A A o) := by
  obtain ⟨m1, e1, r1⟩ := M_put4 h hb ho true
  obtain ⟨m2, e2, r2⟩ := M_log r1 hb (kd := 3) (o := o) (by decide) (by show (a_lg A).1 < _; omega)
  exact ⟨m1, m2, e1, e2, r2⟩
theorem M_end1 {m0 mm : Nat → Int32} {b : Nat} {A : AS} (h : RM m0 b mm A) (hb : b ≤ 5124) {o : Nat} (ho : o < 24) (ht : a_th A o = true) (he : a_en A o = 1) (hg : (a_lg A).1 < 2147480000) (rc : (Nat → Int32) → Int32 → Int32 → Option ((Nat → Int32))) : ∃ mm', fX12_runsEnd_o rc mm (nI b) (nI o) = some (0, mm') ∧ RM m0 b mm' (e3A A o) := by
  obtain ⟨m1, m2, e1, e2, r2⟩ := M_e3 h hb ho hg
  refine ⟨m2, ?_, r2⟩
  have e3 : fX12_of m2 (nI b) (nI o) 3 = some (nI (a_en A o)) := M_of3 r2 hb ho ht
  unfold fX12_runsEnd_o
  rw [e1, b1_s, e2, b1_s, e3, b1_s, he, if_pos (show nI 1 = 1 from rfl)]
theorem M_end4 {m0 mm : Nat → Int32} {b : Nat} {A : AS} (h : RM m0 b mm A) (hb : b ≤ 5124) {o : Nat} (ho : o < 24) (ht : a_th A o = true) (he : 2 ≤ a_en A o) (he2 : a_en A o ≤ 7) (hg : (a_lg A).1 < 2147480000) (rc : (Nat → Int32) → Int32 → Int32 → Option ((Nat → Int32))) : ∃ mm', fX12_runsEnd_o rc mm (nI b) (nI o) = (bnd1 (fX12_laysRoot_o_30 rc (nI b) (nI (a_en A o - 2)) (nI o) mm' (oI (a_rt A (a_en A o - 2)))) fun m => some (1, m)) ∧ RM m0 b mm' (e4A A o) := by
  obtain ⟨m1, m2, e1, e2, r2⟩ := M_e3 h hb ho hg
  have e3 : fX12_of m2 (nI b) (nI o) 3 = some (nI (a_en A o)) := M_of3 r2 hb ho ht
  obtain ⟨m3, e4, r3⟩ := M_log r2 hb (kd := 4) (o := o) (by decide) (by show (a_lg A).1 + 1 < _; omega)
  have e4' : fX12_logs m2 (nI b) 4 (nI o) = some m3 := e4
  have e5 : fX12_of m3 (nI b) (nI o) 3 = some (nI (a_en A o)) := M_of3 r3 hb ho ht
  have e6 : fX12_rootOf m3 (nI b) (nI (a_en A o - 2)) = some (oI (a_rt A (a_en A o - 2))) := M_rootOf r3 hb (by omega)
  have r4 := M_rt r3 (o := a_en A o - 2) (by omega) (some o)
  obtain ⟨m5, e7, r5⟩ := M_countsUp r4 hb ho ht
  have e7' : fX12_countsUp (upd m3 (b + 33 + (a_en A o - 2)) (nI o)) (nI b) (nI o) = some m5 := e7
  refine ⟨m5, ?_, r5⟩
  unfold fX12_runsEnd_o fX12_laysRoot_o
  rw [e1, b1_s, e2, b1_s, e3, b1_s, if_neg (by rw [show (1 : Int32) = nI 1 from rfl, eq_n (by omega) (by omega)]; omega), e4', b1_s, e5, b1_s, show nI (a_en A o) - 2 = nI (a_en A o - 2) from pk_sub (b := 2) he, e6, b1_s, show (33 : Int32) = nI 33 from rfl, ad_c, inb_n (by omega) (by decide), grd_t, cl_n (by omega), lt_e, if_neg (nI_nlt0 (by omega)), e7', b1_s]
