/-! the count down: the class's loop and the reference's recursion do the same -/
theorem le_100k {x : Nat} (h : x < 2147483648) : (100000 : Int32) ≤ nI x ↔ 100000 ≤ x := nI_leI (a := 100000) (by decide) (by omega)
def SK (zgo : Nat → Int32) (st : List Nat) : Prop := ∀ i, i < st.length → zgo i = nI (st.getD i 0)
theorem SK_push {zgo : Nat → Int32} {st : List Nat} (h : SK zgo st) (o : Nat) : SK (upd zgo st.length (nI o)) (st ++ [o]) := by
  intro i hi
  rw [List.length_append] at hi
  have hi2 : i < st.length + 1 := hi
  by_cases q : i = st.length
  · rw [q, pk_us, getD_lst]
  · rw [pk_un q, getD_app (by omega)]; exact h i (by omega)
theorem SK_pop {zgo : Nat → Int32} {st : List Nat} {o : Nat} (h : SK zgo (st ++ [o])) : SK zgo st := by
  intro i hi
  have := h i (by rw [List.length_append]; omega)
  rw [getD_app hi] at this
  exact this
theorem SK_top {zgo : Nat → Int32} {st : List Nat} {o : Nat} (h : SK zgo (st ++ [o])) : zgo st.length = nI o := by
  have := h st.length (by rw [List.length_append]; show st.length < st.length + 1; omega)
  rw [getD_lst] at this
  exact this
def CDS (N n : Nat) (A : AS) (st : List Nat) (v : Option Nat) (A' : AS) (st' : List Nat) (v' : Option Nat) : Prop :=
  ∀ (X : Nat → Nat → Int32) (zgo : Nat → Int32) (p2 : Int32) (k x : Nat), RC X A → SK zgo st → x + n ≤ 100000 → ∃ X' zgo', fX2_countsDown_10 N p2 (k + n) (nI st.length) zgo X (oI v) (nI x) = fX2_countsDown_10 N p2 k (nI st'.length) zgo' X' (oI v') (nI (x + n)) ∧ RC X' A' ∧ SK zgo' st'
theorem CDS_0 (N : Nat) (A : AS) (st : List Nat) (v : Option Nat) : CDS N 0 A st v A st v := fun X zgo _ _ _ h1 h2 _ => ⟨X, zgo, rfl, h1, h2⟩
theorem CDS_t {N n1 n2 : Nat} {A1 A2 A3 : AS} {s1 s2 s3 : List Nat} {v1 v2 v3 : Option Nat} (h : CDS N n1 A1 s1 v1 A2 s2 v2) (h' : CDS N n2 A2 s2 v2 A3 s3 v3) : CDS N (n1 + n2) A1 s1 v1 A3 s3 v3 := by
  intro X zgo p2 k x hX hS hx
  obtain ⟨X1, z1, e1, r1, k1⟩ := h X zgo p2 (k + n2) x hX hS (by omega)
  obtain ⟨X2, z2, e2, r2, k2⟩ := h' X1 z1 p2 k (x + n1) r1 k1 (by omega)
  refine ⟨X2, z2, ?_, r2, k2⟩
  rw [show k + (n1 + n2) = k + n2 + n1 by omega, e1, e2, Nat.add_assoc]
theorem CD_one {N : Nat} {p2 : Int32} {k x : Nat} {zcd : Int32} {zgo : Nat → Int32} {X : Nat → Nat → Int32} {o : Nat} (ho : o < 24) (hx : x < 100000) : fX2_countsDown_10 N p2 (k + 1) zcd zgo X (nI o) (nI x) = bnd4 (fX2_countsOneDown N zcd zgo X (nI o)) fun r z g Y => fX2_countsDown_10 N p2 k z g Y r (nI (x + 1)) := by
  show fX2_countsDown_10b N p2 (fX2_countsDown_10 N p2 k) zcd zgo X (nI o) (nI x) = _
  unfold fX2_countsDown_10b fX2_countsDown_29
  rw [if_neg (by rw [le_100k (by omega)]; omega), if_neg (nI_ne1 (by omega)), if_neg (nI_ne1 (by omega)), nI_1]
theorem CD_free {N : Nat} {p2 : Int32} {k x sl : Nat} {zgo : Nat → Int32} {X : Nat → Nat → Int32} (hs : sl < 24) (hx : x < 100000) : fX2_countsDown_10 N p2 (k + 1) (nI (sl + 1)) zgo X (-1) (nI x) = bnd3 (fX2_goesOnFreeing N (nI (sl + 1)) zgo X) fun r z Y => fX2_countsDown_10 N p2 k z zgo Y r (nI (x + 1)) := by
  show fX2_countsDown_10b N p2 (fX2_countsDown_10 N p2 k) (nI (sl + 1)) zgo X (-1) (nI x) = _
  unfold fX2_countsDown_10b fX2_countsDown_29
  rw [if_neg (by rw [le_100k (by omega)]; omega), if_pos rfl, if_neg (by rw [le_f0 (by omega)]; omega), if_pos rfl, nI_1]
theorem C_gof {X : Nat → Nat → Int32} {A : AS} (h : RC X A) (w : WF A) {o : Nat} (ho : o < 24) (hg : (a_lg A).1 < 2147480000) {N : Nat} (hN : 24 < N) {sl : Nat} (hs : sl < 24) {zgo : Nat → Int32} (hz : zgo sl = nI o) :
    (∀ k t, k < 4 → (∀ i, i < k → a_fd A o i = none) → a_fd A o k = some t → ∃ X', fX2_goesOnFreeing N (nI (sl + 1)) zgo X = some (nI t, nI (sl + 1), X') ∧ RC X' (u_fd A (f2 (a_fd A) o k none))) ∧
    ((∀ i, i < 4 → a_fd A o i = none) → ∃ X', fX2_goesOnFreeing N (nI (sl + 1)) zgo X = some (-1, nI sl, X') ∧ RC X' (lsA A o)) := by
  have e0 : nI (sl + 1) - 1 = nI sl := nI_pred sl
  have key : fX2_goesOnFreeing N (nI (sl + 1)) zgo X = fX2_goesOnFreeing_14 N zgo N (nI (sl + 1)) X (nI o) (nI 0) := by
    unfold fX2_goesOnFreeing
    rw [e0, inb_n hs (by decide), grd_t, cl_n (by omega), hz, lt_e]
    rfl
  have step : ∀ n j, j < 4 → a_fd A o j = none → fX2_goesOnFreeing_14 N zgo (n + 1) (nI (sl + 1)) X (nI o) (nI j) = fX2_goesOnFreeing_14 N zgo n (nI (sl + 1)) X (nI o) (nI (j + 1)) := by
    intro n j hj e
    show fX2_goesOnFreeing_14b N zgo (fX2_goesOnFreeing_14 N zgo n) (nI (sl + 1)) X (nI o) (nI j) = _
    unfold fX2_goesOnFreeing_14b
    rw [if_neg (by rw [le_4 (by omega)]; omega), C_fieldAt h ho hj, b1_s, e, oI_n, if_pos rfl, nI_1]
  have skip : ∀ k, k ≤ 4 → (∀ i, i < k → a_fd A o i = none) → ∀ n, fX2_goesOnFreeing_14 N zgo (n + k) (nI (sl + 1)) X (nI o) (nI 0) = fX2_goesOnFreeing_14 N zgo n (nI (sl + 1)) X (nI o) (nI k) := by
    intro k
    induction k with
    | zero => intro _ _ n; rfl
    | succ k ih =>
      intro hk hi n
      rw [show n + (k + 1) = n + 1 + k by omega, ih (by omega) (fun i q => hi i (by omega)) (n + 1), step n k (by omega) (hi k (by omega))]
  refine ⟨fun k t hk hi e => ?_, fun hi => ?_⟩
  · obtain ⟨Y, c1, c2⟩ := C_fills h ho hk none
    refine ⟨Y, ?_, c2⟩
    rw [key, show N = (N - k - 1) + 1 + k by omega, ]
    have e2 := skip k (by omega) hi ((N - k - 1) + 1)
    rw [show (N - k - 1) + 1 + k = N by omega] at e2 ⊢
    rw [e2]
    show fX2_goesOnFreeing_14b N zgo (fX2_goesOnFreeing_14 N zgo (N - k - 1)) (nI (sl + 1)) X (nI o) (nI k) = _
    unfold fX2_goesOnFreeing_14b
    have ht := W_sf w o k t e
    have c1' : fX3_fills X (nI o) (nI k) (-1) = some Y := c1
    rw [if_neg (by rw [le_4 (by omega)]; omega), C_fieldAt h ho hk, b1_s, e, oI_s, if_neg (nI_ne1 (by omega)), c1', b1_s]
  · obtain ⟨Y, c1, c2⟩ := C_loses h (W_sw w) ho hg (N := N) (by omega)
    refine ⟨Y, ?_, c2⟩
    have e2 := skip 4 (by omega) hi ((N - 5) + 1)
    rw [show (N - 5) + 1 + 4 = N by omega] at e2
    rw [key, e2]
    show fX2_goesOnFreeing_14b N zgo (fX2_goesOnFreeing_14 N zgo (N - 5)) (nI (sl + 1)) X (nI o) (nI 4) = _
    unfold fX2_goesOnFreeing_14b fX2_goesOnFreeing_49
    rw [if_pos (by rw [le_4 (by omega)]; omega), lt_e, c1, b1_s, e0]
def Wp (A : AS) : Nat := 2 * fc A + 2 * un A + 2 * nt A
def CDI (N B d : Nat) : Prop := ∀ (A : AS) (st : List Nat) (o : Nat), J B A st (some o) → (24 - st.length) + un A < d → ∃ A' n, J B A' st none ∧ RLT A A' ∧ n + Wp A' ≤ Wp A + 1 ∧ (∀ (m0 : Nat → Int32) (b : Nat) (mm : Nat → Int32), b ≤ 5124 → RM m0 b mm A → ∃ mm', fX12_countsDown_d N d mm (nI b) (nI o) = some mm' ∧ RM m0 b mm' A') ∧ CDS N n A st (some o) A' st none
theorem f2_self {F : Nat → Nat → Option Nat} {o k : Nat} {v : Option Nat} (h : F o k = v) : f2 F o k v = F := by
  funext i j
  unfold f2
  by_cases q : i = o ∧ j = k
  · rw [if_pos q, q.1, q.2, h]
  · rw [if_neg q]
theorem RLT_clr (A : AS) (o k : Nat) : RLT A (u_fd A (f2 (a_fd A) o k none)) := by
  refine ⟨fun i j => ?_, rfl, rfl, rfl, rfl, fun _ h => h, fun _ h => h, LGR_r _⟩
  show f2 (a_fd A) o k none i j = _ ∨ f2 (a_fd A) o k none i j = none
  unfold f2
  by_cases q : i = o ∧ j = k
  · rw [if_pos q]; exact Or.inr rfl
  · rw [if_neg q]; exact Or.inl rfl
theorem J_st {B : Nat} {A : AS} {st : List Nat} {o : Nat} {pd : Option Nat} (h : J B A (st ++ [o]) pd) : st.length < 24 := by
  have := nd_len h.2.2.1 (n := 24) (fun x hx => W_th h.1 (h.2.2.2.1 x hx).1)
  rw [List.length_append] at this
  exact this
theorem J_lg {B : Nat} {A : AS} {st : List Nat} {pd : Option Nat} (h : J B A st pd) (hs : st.length ≤ 24) (hB : B ≤ 2147400000) : (a_lg A).1 < 2147470000 := by
  have := h.2.2.2.2.2
  omega
theorem fr {N B d : Nat} (hN : 1000 ≤ N) (hB : B ≤ 2147400000) (IH : CDI N B d) : ∀ (j : Nat) (A : AS) (st : List Nat) (o k : Nat), k + j = a_my A o → J B A (st ++ [o]) none → (24 - (st.length + 1)) + un A < d → (∀ i, i < k → a_fd A o i = none) → ∃ A' n, J B A' (st ++ [o]) none ∧ RLT A A' ∧ (∀ i, i < 4 → a_fd A' o i = none) ∧ n + Wp A' ≤ Wp A ∧ (∀ (m0 : Nat → Int32) (b : Nat) (mm : Nat → Int32) (f : Nat), b ≤ 5124 → RM m0 b mm A → j < f → ∃ mm', fX12_isFreed_o_8 (fX12_countsDown_d N d) N (nI b) (nI o) f mm (nI k) = fX12_isFreed_o_31 (fX12_countsDown_d N d) N (nI b) (nI o) mm' ∧ RM m0 b mm' A') ∧ CDS N n A (st ++ [o]) none A' (st ++ [o]) none := by
  intro j
  induction j with
  | zero =>
    intro A st o k hk hJ hm hf
    have w := hJ.1
    have ht := (hJ.2.2.2.1 o (by simp)).1
    have ho := W_th w ht
    have hmy := W_my w o
    refine ⟨A, 0, hJ, RLT_r A, fun i _ => ?_, by omega, fun m0 b mm f hb hR hf2 => ⟨mm, ?_, hR⟩, CDS_0 N A _ none⟩
    · by_cases q : i < k
      · exact hf i q
      · exact W_nf w (by omega)
    · obtain ⟨f', rfl⟩ : ∃ f', f = f' + 1 := ⟨f - 1, by omega⟩
      show fX12_isFreed_o_8b (fX12_countsDown_d N d) N (nI b) (nI o) (fX12_isFreed_o_8 (fX12_countsDown_d N d) N (nI b) (nI o) f') mm (nI k) = _
      unfold fX12_isFreed_o_8b
      rw [M_of1 hR hb ho ht, b1_s, if_pos (by rw [le_n (by omega) (by omega)]; omega)]
  | succ j ih =>
    intro A st o k hk hJ hm hf
    have w := hJ.1
    have ht := (hJ.2.2.2.1 o (by simp)).1
    have ho := W_th w ht
    have hmy := W_my w o
    have hk4 : k < 4 := by omega
    have hsl := J_st hJ
    have hlg := J_lg hJ (by rw [List.length_append]; show st.length + 1 ≤ 24; omega) hB
    have mstep : ∀ (m0 : Nat → Int32) (b : Nat) (mm : Nat → Int32) (f : Nat), b ≤ 5124 → RM m0 b mm A → ∃ m1, RM m0 b m1 (u_fd A (f2 (a_fd A) o k none)) ∧ fX12_isFreed_o_8 (fX12_countsDown_d N d) N (nI b) (nI o) (f + 1) mm (nI k) = bnd1 (fX12_laysField_o_27 (fX12_countsDown_d N d) (nI b) (nI o) (nI k) (-1) m1 (oI (a_fd A o k))) fun m => fX12_isFreed_o_8 (fX12_countsDown_d N d) N (nI b) (nI o) f m (nI (k + 1)) := by
      intro m0 b mm f hb hR
      obtain ⟨m1, e1, r1⟩ := M_putF hR hb ho hk4 none
      have e1' : fX12_puts mm (nI b) (nI o) (7 + nI k) (-1) = some m1 := e1
      refine ⟨m1, r1, ?_⟩
      show fX12_isFreed_o_8b (fX12_countsDown_d N d) N (nI b) (nI o) (fX12_isFreed_o_8 (fX12_countsDown_d N d) N (nI b) (nI o) f) mm (nI k) = _
      unfold fX12_isFreed_o_8b fX12_laysField_o
      rw [M_of1 hR hb ho ht, b1_s, if_neg (by rw [le_n (by omega) (by omega)]; omega), M_fieldOf hR hb ho hk4 ht, b1_s, e1', b1_s, if_pos neg1_lt, nI_1]
    cases e : a_fd A o k with
    | none =>
      obtain ⟨A', n, g1, g2, g3, g4, g5, g6⟩ := ih A st o (k + 1) (by omega) hJ hm (fun i hi => by
        by_cases q : i = k
        · rw [q]; exact e
        · exact hf i (by omega))
      refine ⟨A', n, g1, g2, g3, g4, fun m0 b mm f hb hR hf2 => ?_, g6⟩
      obtain ⟨f', rfl⟩ : ∃ f', f = f' + 1 := ⟨f - 1, by omega⟩
      obtain ⟨m1, r1, e1⟩ := mstep m0 b mm f' hb hR
      rw [f2_self e] at r1
      obtain ⟨mm', e2, r2⟩ := g5 m0 b m1 f' hb r1 (by omega)
      refine ⟨mm', ?_, r2⟩
      rw [e1, e]
      show bnd1 (if (-1 : Int32) < 0 then some m1 else _) _ = _
      rw [if_pos neg1_lt, b1_s, e2]
    | some t =>
      have hJ1 := J_clr hJ ho hk4 e
      have hun : un (u_fd A (f2 (a_fd A) o k none)) = un A := rfl
      have hntt : nt (u_fd A (f2 (a_fd A) o k none)) = nt A := rfl
      have hfc := fc_clr A ho hk4 (by rw [e]; rfl)
      obtain ⟨A2, n1, i1, i2, i3, i4, i5⟩ := IH (u_fd A (f2 (a_fd A) o k none)) (st ++ [o]) t hJ1 (by rw [List.length_append]; show 24 - (st.length + 1) + un A < d; exact hm)
      have hmy2 : a_my A2 = a_my A := i2.2.1
      obtain ⟨A3, n2, g1, g2, g3, g4, g5, g6⟩ := ih A2 st o (k + 1) (by rw [hmy2]; omega) i1 (by have := RLT_un i2; omega) (fun i hi => by
        have hn : a_fd (u_fd A (f2 (a_fd A) o k none)) o i = none := by
          show f2 (a_fd A) o k none o i = none
          unfold f2
          by_cases q : o = o ∧ i = k
          · rw [if_pos q]
          · rw [if_neg q]; exact hf i (by omega)
        rcases i2.1 o i with q | q
        · rw [q]; exact hn
        · exact q)
      refine ⟨A3, 1 + n1 + n2, g1, RLT_t (RLT_t (RLT_clr A o k) i2) g2, g3, ?_, fun m0 b mm f hb hR hf2 => ?_, ?_⟩
      · unfold Wp at *
        omega
      · obtain ⟨f', rfl⟩ : ∃ f', f = f' + 1 := ⟨f - 1, by omega⟩
        obtain ⟨m1, r1, e1⟩ := mstep m0 b mm f' hb hR
        obtain ⟨m2, e2, r2⟩ := i4 m0 b m1 hb r1
        obtain ⟨mm', e3, r3⟩ := g5 m0 b m2 f' hb r2 (by omega)
        refine ⟨mm', ?_, r3⟩
        have ht24 := W_sf w o k t e
        rw [e1, e]
        show bnd1 (if nI t < 0 then some m1 else bnd1 (fX12_countsDown_d N d m1 (nI b) (nI t)) fun m => some m) _ = _
        rw [if_neg (nI_nlt0 (by omega)), e2, b1_s, b1_s, e3]
      · refine CDS_t (CDS_t ?_ i5) g6
        intro X zgo p2 k' x hX hS hx
        have hz := SK_top hS
        obtain ⟨Y, c1, c2⟩ := (C_gof hX w ho (by omega) (N := N) (by omega) hsl hz).1 k t hk4 hf e
        refine ⟨Y, zgo, ?_, c2, hS⟩
        rw [List.length_append]
        show fX2_countsDown_10 N p2 (k' + 1) (nI (st.length + 1)) zgo X (-1) (nI x) = _
        rw [CD_free hsl (by omega), c1, b3_s]
        rfl
theorem fr2 {N B d : Nat} (hN : 1000 ≤ N) (hB : B ≤ 2147400000) (IH : CDI N B d) {D : AS} {st : List Nat} {o : Nat} (hJ : J B D st none) (ht : a_th D o = true) (ho : o ∉ st) (hr : rf D o = 0) (hl : o ∉ a_ls D) (hm : (24 - st.length) + un D < d + 1) : ∃ A' n, J B A' st none ∧ RLT D A' ∧ n + Wp A' + 1 ≤ Wp D ∧ (∀ (m0 : Nat → Int32) (b : Nat) (mm : Nat → Int32), b ≤ 5124 → RM m0 b mm D → ∃ mm', fX12_isFreed_o (fX12_countsDown_d N d) N mm (nI b) (nI o) = some mm' ∧ RM m0 b mm' A') ∧ CDS N n (lgA D 1 o) (st ++ [o]) none A' st none := by
  have hJ1 := J_push hJ ht ho hr hl
  have hsl := J_st hJ1
  have w := hJ.1
  have ho24 := W_th w ht
  have hlg := J_lg hJ (by omega) hB
  obtain ⟨A1, n1, g1, g2, g3, g4, g5, g6⟩ := fr hN hB IH (a_my D o) (lgA D 1 o) st o 0 (Nat.zero_add _) hJ1 (by have : un (lgA D 1 o) = un D := rfl; omega) (fun i hi => absurd hi (Nat.not_lt_zero i))
  have hlg1 := J_lg g1 (by rw [List.length_append]; show st.length + 1 ≤ 24; omega) hB
  obtain ⟨p1, p2, p3, p4⟩ := J_pop g1 g3
  have p5 := RLT_un p2
  have hW : Wp (lgA D 1 o) = Wp D := rfl
  have w1 := g1.1
  have ht1 := (g1.2.2.2.1 o (by simp)).1
  have hR0 : RLT D (lgA D 1 o) := ⟨fun _ _ => Or.inl rfl, rfl, rfl, rfl, rfl, fun _ h => h, fun _ h => h, LGR_a D 1 o⟩
  refine ⟨lsA A1 o, n1 + 1, p1, RLT_t (RLT_t hR0 g2) p2, ?_, fun m0 b mm hb hR => ?_, ?_⟩
  · unfold Wp at *
    omega
  · obtain ⟨m1, e1, r1⟩ := M_log hR hb (kd := 1) (o := o) (by decide) (by omega)
    have e1' : fX12_logs mm (nI b) 1 (nI o) = some m1 := e1
    have hmy := W_my w o
    obtain ⟨m2, e2, r2⟩ := g5 m0 b m1 N hb r1 (by omega)
    obtain ⟨m3, e3, r3⟩ := M_clearsWeak r2 hb (W_sw w1) ho24 (by omega) (N := N) (by omega)
    obtain ⟨m4, e4, r4⟩ := M_put0 r3 hb ho24
    refine ⟨m4, ?_, ?_⟩
    · unfold fX12_isFreed_o
      have e2' : fX12_isFreed_o_8 (fX12_countsDown_d N d) N (nI b) (nI o) N m1 0 = fX12_isFreed_o_31 (fX12_countsDown_d N d) N (nI b) (nI o) m2 := e2
      rw [e1', b1_s, e2']
      unfold fX12_isFreed_o_31
      rw [e3, b1_s, e4, b1_s]
    · obtain ⟨f, g, ef, _⟩ := wc_form A1 o 4
      have : a_th (wcA A1 o 4) = a_th A1 := by rw [ef]
      rw [this] at r4
      exact r4
  · refine CDS_t g6 ?_
    intro X zgo p2 k' x hX hS hx
    have hz := SK_top hS
    obtain ⟨Y, c1, c2⟩ := (C_gof hX w1 ho24 (by omega) (N := N) (by omega) hsl hz).2 g3
    refine ⟨Y, zgo, ?_, c2, SK_pop hS⟩
    rw [List.length_append]
    show fX2_countsDown_10 N p2 (k' + 1) (nI (st.length + 1)) zgo X (-1) (nI x) = _
    rw [CD_free hsl (by omega), c1, b3_s]
    rfl
