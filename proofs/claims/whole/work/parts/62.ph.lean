/-! a trial: the list is gone through -/
theorem fill_c {N : Nat} (hN : 24 < N) (z : Nat → Int32) : ∃ z', fJ7_fill_53178_cl N z 0 = some z' ∧ CP z' (fun _ => 0) := by
  have hs : ∀ (n j : Nat) (g : Nat → Int32), j < 24 → (∀ i, i < j → g i = 0) → (∃ s', (∀ i, i < j + 1 → s' i = 0) ∧ fJ7_fill_53178_cl_5 N 0 (n + 1) g (nI j) 24 = fJ7_fill_53178_cl_5 N 0 n s' (nI (j + 1)) 24) ∨ ∃ r, fJ7_fill_53178_cl_5 N 0 (n + 1) g (nI j) 24 = some r ∧ CP r (fun _ => 0) := by
    intro n j g hj hg
    left
    refine ⟨upd g j 0, fun i hi => ?_, ?_⟩
    · by_cases q : i = j
      · rw [q, pk_us]
      · rw [pk_un q]; exact hg i (by omega)
    · show fJ7_fill_53178_cl_5b N 0 (fJ7_fill_53178_cl_5 N 0 n) g (nI j) 24 = _
      unfold fJ7_fill_53178_cl_5b
      rw [if_neg (by rw [le_24 (by omega)]; omega), inb_n hj (by decide), grd_t, cl_n (by omega), lt_e, nI_1]
  have he : ∀ (n : Nat) (g : Nat → Int32), (∀ i, i < 24 → g i = 0) → ∃ r, fJ7_fill_53178_cl_5 N 0 (n + 1) g (nI 24) 24 = some r ∧ CP r (fun _ => 0) := by
    intro n g hg
    refine ⟨g, ?_, fun o ho => ⟨hg o ho, Nat.zero_le 3⟩⟩
    show fJ7_fill_53178_cl_5b N 0 (fJ7_fill_53178_cl_5 N 0 n) g (nI 24) 24 = _
    unfold fJ7_fill_53178_cl_5b
    rw [if_pos (by rw [le_24 (by omega)]; omega)]
  exact lpC (fun n j (g : Nat → Int32) => fJ7_fill_53178_cl_5 N 0 n g (nI j) 24) (fun j g => ∀ i, i < j → g i = 0) (fun r => CP r (fun _ => 0)) 24 hs he N 0 z (by omega) (fun i hi => absurd hi (Nat.not_lt_zero i)) (by omega)
theorem drop_c {l : List Nat} {i : Nat} (h : i < l.length) : l.drop i = l.getD i 0 :: l.drop (i + 1) := by
  rw [List.drop_eq_getElem_cons h, List.getD_eq_getElem?_getD, List.getElem?_eq_getElem h]
  rfl
theorem ph1C {A : AS} (w : WF A) {N : Nat} (hN : 1000 ≤ N) {zcd ztd : Int32} {zgo zca zpt zpf : Nat → Int32} : ∀ (r i : Nat) (c : Nat → Nat) (t : Nat → Int) (v : Nat) (X : Nat → Nat → Int32) (zcl zwa : Nat → Int32) (f : Nat), i + r = (a_ls A).length → RC X (u_ct A t) → CP zcl c → r < f →
    ∃ (c' : Nat → Nat) (t' : Nat → Int) (v' : Nat) (zcl' zwa' : Nat → Int32) (X' : Nat → Nat → Int32), GSq (a_fd A) ((a_ls A).drop i) c t v c' t' v' ∧ fX9_tries_37 N f zcd zgo ztd (nI v) zcl zca zwa zpt zpf X (nI i) = fX9_tries_70 N N zcd zgo ztd (nI v') zcl' zca zwa' zpt zpf X' 0 ∧ RC X' (u_ct A t') ∧ CP zcl' c' := by
  intro r
  have hlen := W_len w
  induction r with
  | zero =>
    intro i c t v X zcl zwa f hi hX hC hf
    obtain ⟨f', rfl⟩ : ∃ f', f = f' + 1 := ⟨f - 1, by omega⟩
    refine ⟨c, t, v, zcl, zwa, X, ?_, ?_, hX, hC⟩
    · rw [List.drop_eq_nil_of_le (by omega)]; exact ⟨rfl, rfl, rfl⟩
    · show fX9_tries_37b N (fX9_tries_37 N f') zcd zgo ztd (nI v) zcl zca zwa zpt zpf X (nI i) = _
      unfold fX9_tries_37b
      have e : X 8 1 = nI (a_ls A).length := RC_h11 (A := u_ct A t) hX
      rw [e, if_pos (by rw [le_n (by omega) (by omega)]; omega)]
  | succ r ih =>
    intro i c t v X zcl zwa f hi hX hC hf
    obtain ⟨f', rfl⟩ : ∃ f', f = f' + 1 := ⟨f - 1, by omega⟩
    have hi2 : i < (a_ls A).length := by omega
    obtain ⟨c1, t1, v1, g1, _, g3⟩ := T_gray w hN (W_ls w (getD_mem hi2)) c t v
    obtain ⟨zcl1, zwa1, X1, e1, r1, k1⟩ := g3 X zcl zwa hX hC
    obtain ⟨c', t', v', zcl', zwa', X', s1, s2, s3, s4⟩ := ih (i + 1) c1 t1 v1 X1 zcl1 zwa1 f' (by omega) r1 k1 (by omega)
    refine ⟨c', t', v', zcl', zwa', X', ?_, ?_, s3, s4⟩
    · rw [drop_c hi2]; exact ⟨c1, t1, v1, g1, s1⟩
    · show fX9_tries_37b N (fX9_tries_37 N f') zcd zgo ztd (nI v) zcl zca zwa zpt zpf X (nI i) = _
      unfold fX9_tries_37b
      have e : X 8 1 = nI (a_ls A).length := RC_h11 (A := u_ct A t) hX
      have e9 : X 9 i = nI ((a_ls A).getD i 0) := RC_h14 hX i hi2
      have e1' : fX9_takesAway N (nI v) zcl zwa X (nI ((a_ls A).getD i 0)) = some (nI v1, zcl1, zwa1, X1) := e1
      rw [e, if_neg (by rw [le_n (by omega) (by omega)]; omega), inb_n (by omega) (by decide), grd_t, cl_n (by omega), e9, e1', b4_s, nI_1, s2]
theorem er_app {f r : List Nat} {x : Nat} : (f ++ x :: r).eraseIdx f.length = f ++ r := by
  rw [List.eraseIdx_append_of_length_le (Nat.le_refl _), Nat.sub_self]
  rfl
theorem getD_mid {f r : List Nat} {x : Nat} : (f ++ x :: r).getD f.length 0 = x := by
  simp [List.getD]
theorem ph1M {A : AS} (w : WF A) {N : Nat} (hN : 1000 ≤ N) {m0 : Nat → Int32} {b : Nat} (hb : b ≤ 5124) {mcn : Nat → Int32} : ∀ (r i : Nat) (c : Nat → Nat) (t : Nat → Int) (v : Nat) (mm mco : Nat → Int32) (f : Nat), i + r = (a_ls A).length → RM m0 b mm (u_ct (u_ls A (((a_ls A).take i).filter (a_mt A) ++ (a_ls A).drop i)) t) → CP mco c → r < f →
    ∃ (c' : Nat → Nat) (t' : Nat → Int) (v' : Nat) (mm' mco' : Nat → Int32), GSq (a_fd A) (((a_ls A).drop i).filter (a_mt A)) c t v c' t' v' ∧ fX12_runsTrial_40 N (nI b) f mm mco mcn (nI v) (nI (((a_ls A).take i).filter (a_mt A)).length) = fX12_runsTrial_85 N (nI b) N mm' mco' mcn (nI v') 0 ∧ RM m0 b mm' (u_ct (dtA A) t') ∧ CP mco' c' := by
  intro r
  have hlen := W_len w
  induction r with
  | zero =>
    intro i c t v mm mco f hi hR hC hf
    obtain ⟨f', rfl⟩ : ∃ f', f = f' + 1 := ⟨f - 1, by omega⟩
    have hle := FP_le (a_ls A) (a_mt A) i
    have e0 : (a_ls A).drop i = [] := List.drop_eq_nil_of_le (by omega)
    have e1 : (a_ls A).take i = a_ls A := List.take_of_length_le (by omega)
    rw [e0, List.append_nil] at hR
    refine ⟨c, t, v, mm, mco, ?_, ?_, ?_, hC⟩
    · rw [e0]; exact ⟨rfl, rfl, rfl⟩
    · show fX12_runsTrial_40b N (nI b) (fX12_runsTrial_40 N (nI b) f') mm mco mcn (nI v) _ = _
      unfold fX12_runsTrial_40b
      have e2 := M_listed hR hb
      have e2' : fX12_listed mm (nI b) = some (nI (((a_ls A).take i).filter (a_mt A)).length) := e2
      rw [e2', b1_s, if_pos (by rw [le_n (by omega) (by omega)]; omega)]
    · rw [e1] at hR; exact hR
  | succ r ih =>
    intro i c t v mm mco f hi hR hC hf
    obtain ⟨f', rfl⟩ : ∃ f', f = f' + 1 := ⟨f - 1, by omega⟩
    have hi2 : i < (a_ls A).length := by omega
    have hle := FP_le (a_ls A) (a_mt A) i
    have hdrop := drop_c hi2
    have htx := W_ls w (getD_mem hi2)
    have hx24 := W_th w htx
    have hsub : (((a_ls A).take i).filter (a_mt A) ++ (a_ls A).drop i).Sublist (a_ls A) := by
      have h1 : (((a_ls A).take i).filter (a_mt A) ++ (a_ls A).drop i).Sublist ((a_ls A).take i ++ (a_ls A).drop i) := List.Sublist.append List.filter_sublist (List.Sublist.refl _)
      rw [List.take_append_drop] at h1
      exact h1
    have wi : WF (u_ls A (((a_ls A).take i).filter (a_mt A) ++ (a_ls A).drop i)) := by
      obtain ⟨w1, w2, w3, w4, w5, w6, w7, w8, w9, w10⟩ := w
      refine ⟨w1, w2, w3, w4, w5, w6.sublist hsub, fun x hx => w7 x (hsub.subset hx), fun o ho => ?_, w9, w10⟩
      have hm := w8 o ho
      rw [← List.take_append_drop i (a_ls A)] at hm
      show o ∈ ((a_ls A).take i).filter (a_mt A) ++ (a_ls A).drop i
      rcases List.mem_append.mp hm with h | h
      · exact List.mem_append_left _ (List.mem_filter.mpr ⟨h, ho⟩)
      · exact List.mem_append_right _ h
    have hlenA : (((a_ls A).take i).filter (a_mt A) ++ (a_ls A).drop i).length = (((a_ls A).take i).filter (a_mt A)).length + ((a_ls A).length - i) := by
      rw [List.length_append, List.length_drop]
    have e2 : fX12_listed mm (nI b) = some (nI (((a_ls A).take i).filter (a_mt A) ++ (a_ls A).drop i).length) := M_listed hR hb
    have hget : (((a_ls A).take i).filter (a_mt A) ++ (a_ls A).drop i).getD (((a_ls A).take i).filter (a_mt A)).length 0 = (a_ls A).getD i 0 := by
      rw [hdrop, getD_mid]
    have e3 : fX12_onList mm (nI b) (nI (((a_ls A).take i).filter (a_mt A)).length) = some (nI ((a_ls A).getD i 0)) := by
      have := M_onList hR hb (i := (((a_ls A).take i).filter (a_mt A)).length) (by show _ < (((a_ls A).take i).filter (a_mt A) ++ (a_ls A).drop i).length; omega)
      rw [this]
      exact congrArg (fun z => some (nI z)) hget
    have e4 : fX12_of mm (nI b) (nI ((a_ls A).getD i 0)) 6 = some (bI (a_mt A ((a_ls A).getD i 0))) := M_of6 hR hb hx24 htx
    have key : fX12_runsTrial_40 N (nI b) (f' + 1) mm mco mcn (nI v) (nI (((a_ls A).take i).filter (a_mt A)).length) = (if bI (a_mt A ((a_ls A).getD i 0)) = 0 then bnd1 (fX12_goesOffList N mm (nI b) (nI (((a_ls A).take i).filter (a_mt A)).length)) fun m => fX12_runsTrial_40 N (nI b) f' m mco mcn (nI v) (nI (((a_ls A).take i).filter (a_mt A)).length) else bnd3 (fX12_grays N mm (nI b) mco (nI v) (nI ((a_ls A).getD i 0))) fun m c2 v2 => fX12_runsTrial_40 N (nI b) f' m c2 mcn v2 (nI ((((a_ls A).take i).filter (a_mt A)).length + 1))) := by
      show fX12_runsTrial_40b N (nI b) (fX12_runsTrial_40 N (nI b) f') mm mco mcn (nI v) _ = _
      unfold fX12_runsTrial_40b
      rw [e2, b1_s, if_neg (by rw [le_n (by omega) (by omega)]; omega), e3, b1_s, e4, b1_s, nI_1]
    cases q : a_mt A ((a_ls A).getD i 0) with
    | false =>
      obtain ⟨m1, e5, r5⟩ := M_goesOff hR hb (fun x hx => W_l24 w x (hsub.subset hx)) (k := (((a_ls A).take i).filter (a_mt A)).length) (by show _ < (((a_ls A).take i).filter (a_mt A) ++ (a_ls A).drop i).length; omega) (N := N) (by omega)
      have ef : ((a_ls A).take (i + 1)).filter (a_mt A) = ((a_ls A).take i).filter (a_mt A) := by
        rw [tk_s hi2, List.filter_append, List.filter_cons_of_neg (by rw [q]; decide), List.filter_nil, List.append_nil]
      have hgo : goA (u_ct (u_ls A (((a_ls A).take i).filter (a_mt A) ++ (a_ls A).drop i)) t) (((a_ls A).take i).filter (a_mt A)).length = u_ct (u_ls A (((a_ls A).take (i + 1)).filter (a_mt A) ++ (a_ls A).drop (i + 1))) t := by
        have h1 : fs (a_mt A) ((((a_ls A).take i).filter (a_mt A) ++ (a_ls A).drop i).getD (((a_ls A).take i).filter (a_mt A)).length 0) false = a_mt A := fs_self (by rw [hget]; exact q)
        have h2 : (((a_ls A).take i).filter (a_mt A) ++ (a_ls A).drop i).eraseIdx (((a_ls A).take i).filter (a_mt A)).length = ((a_ls A).take (i + 1)).filter (a_mt A) ++ (a_ls A).drop (i + 1) := by
          rw [hdrop, er_app, ef]
        unfold goA
        show u_ls (u_mt (u_ct (u_ls A _) t) (fs (a_mt A) ((((a_ls A).take i).filter (a_mt A) ++ (a_ls A).drop i).getD (((a_ls A).take i).filter (a_mt A)).length 0) false)) ((((a_ls A).take i).filter (a_mt A) ++ (a_ls A).drop i).eraseIdx (((a_ls A).take i).filter (a_mt A)).length) = _
        rw [h1, h2]
      rw [hgo] at r5
      obtain ⟨c', t', v', mm', mco', s1, s2, s3, s4⟩ := ih (i + 1) c t v m1 mco f' (by omega) r5 hC (by omega)
      refine ⟨c', t', v', mm', mco', ?_, ?_, s3, s4⟩
      · rw [hdrop, List.filter_cons_of_neg (by rw [q]; decide)]; exact s1
      · rw [ef] at s2
        rw [key, q, if_pos (show bI false = 0 from rfl), e5, b1_s, s2]
    | true =>
      obtain ⟨c1, t1, v1, g1, g2, _⟩ := T_gray wi hN htx c t v
      obtain ⟨m1, mc1, e5, r5, k5⟩ := g2 m0 b mm mco hb hR hC
      have ef : ((a_ls A).take (i + 1)).filter (a_mt A) = ((a_ls A).take i).filter (a_mt A) ++ [(a_ls A).getD i 0] := by
        rw [tk_s hi2, List.filter_append, List.filter_cons_of_pos q, List.filter_nil]
      have hl2 : ((a_ls A).take i).filter (a_mt A) ++ (a_ls A).drop i = ((a_ls A).take (i + 1)).filter (a_mt A) ++ (a_ls A).drop (i + 1) := by
        rw [ef, hdrop, List.append_assoc]; rfl
      rw [hl2] at r5
      obtain ⟨c', t', v', mm', mco', s1, s2, s3, s4⟩ := ih (i + 1) c1 t1 v1 m1 mc1 f' (by omega) r5 k5 (by omega)
      refine ⟨c', t', v', mm', mco', ?_, ?_, s3, s4⟩
      · rw [hdrop, List.filter_cons_of_pos q]; exact ⟨c1, t1, v1, g1, s1⟩
      · rw [ef, List.length_append] at s2
        have e5' : fX12_grays N mm (nI b) mco (nI v) (nI ((a_ls A).getD i 0)) = some (m1, mc1, nI v1) := e5
        rw [key, q, if_neg (by decide), e5', b3_s]
        exact s2
theorem C_look {A : AS} {N : Nat} (hN : 200000 ≤ N) {n o : Nat} {c : Nat → Nat} {t : Nat → Int} {v : Nat} {c' : Nat → Nat} {t' : Nat → Int} {v' : Nat} (h : LCS N A n o [] c t v c' t' v') (hn : n < 100000) {X : Nat → Nat → Int32} {zcl : Nat → Int32} (zwa zpt zpf : Nat → Int32) (ztd : Int32) (hX : RC X (u_ct A t)) (hC : CP zcl c) : ∃ zcl' zwa' zpt' zpf' X', fX9_looksThrough N ztd (nI v) zcl zwa zpt zpf X (nI o) = some (0, nI v', zcl', zwa', zpt', zpf', X') ∧ RC X' (u_ct A t') ∧ CP zcl' c' := by
  obtain ⟨zcl', zwa', zpt', zpf', X', e, r1, r2, _, _⟩ := h [] X zcl zwa zpt zpf (nI o) (N - n) 0 rfl hX hC (fun i hi => absurd hi (Nat.not_lt_zero i)) (fun i hi => absurd hi (Nat.not_lt_zero i)) (by omega)
  refine ⟨zcl', zwa', zpt', zpf', X', ?_, r1, r2⟩
  rw [show N - n + n = N by omega] at e
  unfold fX9_looksThrough
  have e' : (bnd7 (fX9_looksAt N 0 (nI v) zcl zwa zpt zpf X (nI o)) fun z1 z2 z3 z4 z5 z6 Y => fX9_looksThrough_13 N (nI o) N z1 z2 z3 z4 z5 z6 Y 0) = fX9_looksThrough_13 N (nI o) (N - n) 0 (nI v') zcl' zwa' zpt' zpf' X' (nI (0 + n)) := e
  rw [e']
  obtain ⟨f, hf⟩ : ∃ f, N - n = f + 1 := ⟨N - n - 1, by omega⟩
  rw [hf]
  show fX9_looksThrough_13b N (nI o) (fX9_looksThrough_13 N (nI o) f) 0 (nI v') zcl' zwa' zpt' zpf' X' (nI (0 + n)) = _
  unfold fX9_looksThrough_13b
  rw [if_neg (by rw [le_100k (by omega)]; omega), if_pos (by decide)]
theorem ph2 {A : AS} (w : WF A) {N : Nat} (hN : 200000 ≤ N) : ∀ (r i : Nat) (c : Nat → Nat) (t : Nat → Int) (v : Nat), i + r = (a_ls A).length → P2 A c t → WD A c [] → (∀ s ∈ (a_ls A).take i, c s ≠ 1) →
    ∃ c' t' v', P2 A c' t' ∧ WD A c' [] ∧ (∀ s ∈ a_ls A, c' s ≠ 1) ∧ (∀ y, c' y = 0 ↔ c y = 0) ∧
    (∀ (m0 : Nat → Int32) (b : Nat) (mm mco mcn : Nat → Int32) (f : Nat), b ≤ 5124 → RM m0 b mm (u_ct A t) → CP mco c → r < f → ∃ mm' mco', fX12_runsTrial_85 N (nI b) f mm mco mcn (nI v) (nI i) = fX12_runsTrial_108 N (nI b) N mm' mco' mcn (nI v') ∧ RM m0 b mm' (u_ct A t') ∧ CP mco' c') ∧
    (∀ (X : Nat → Nat → Int32) (zcl zwa zpt zpf zgo zca : Nat → Int32) (zcd ztd : Int32) (f : Nat), RC X (u_ct A t) → CP zcl c → r < f → ∃ ztd' zcl' zwa' zpt' zpf' X', fX9_tries_70 N f zcd zgo ztd (nI v) zcl zca zwa zpt zpf X (nI i) = fX9_tries_101 N zcd zgo ztd' (nI v') zcl' zca zwa' zpt' zpf' X' ∧ RC X' (u_ct A t') ∧ CP zcl' c') := by
  intro r
  have hlen := W_len w
  induction r with
  | zero =>
    intro i c t v hi hP hW hs
    refine ⟨c, t, v, hP, hW, fun s h => hs s (by rw [List.take_of_length_le (by omega)]; exact h), fun _ => Iff.rfl, fun m0 b mm mco mcn f hb hR hC hf => ⟨mm, mco, ?_, hR, hC⟩, fun X zcl zwa zpt zpf zgo zca zcd ztd f hX hC hf => ⟨ztd, zcl, zwa, zpt, zpf, X, ?_, hX, hC⟩⟩
    · obtain ⟨f', rfl⟩ : ∃ f', f = f' + 1 := ⟨f - 1, by omega⟩
      show fX12_runsTrial_85b N (nI b) (fX12_runsTrial_85 N (nI b) f') mm mco mcn (nI v) (nI i) = _
      unfold fX12_runsTrial_85b
      have e2 : fX12_listed mm (nI b) = some (nI (a_ls A).length) := M_listed (A := u_ct A t) hR hb
      rw [e2, b1_s, if_pos (by rw [le_n (by omega) (by omega)]; omega)]
    · obtain ⟨f', rfl⟩ : ∃ f', f = f' + 1 := ⟨f - 1, by omega⟩
      show fX9_tries_70b N (fX9_tries_70 N f') zcd zgo ztd (nI v) zcl zca zwa zpt zpf X (nI i) = _
      unfold fX9_tries_70b
      have e : X 8 1 = nI (a_ls A).length := RC_h11 (A := u_ct A t) hX
      rw [e, if_pos (by rw [le_n (by omega) (by omega)]; omega)]
  | succ r ih =>
    intro i c t v hi hP hW hs
    have hi2 : i < (a_ls A).length := by omega
    have htx := W_ls w (getD_mem hi2)
    have hg : gct c ≤ 24 := fb_ct_le _ _
    obtain ⟨c1, t1, v1, n, g1, g2, g3, g4, g5, g6, g7, g8⟩ := lt_main w (N := N) (by omega) 64 ((a_ls A).getD i 0) c t v [] hP htx List.nodup_nil (fun y hy => absurd hy List.not_mem_nil) hW (by omega)
    obtain ⟨c', t', v', s1, s2, s3, s4, s5, s6⟩ := ih (i + 1) c1 t1 v1 (by omega) g1 g4 (fun s h => by
      rw [tk_s hi2] at h
      rcases List.mem_append.mp h with h | h
      · exact g2 s (hs s h)
      · rw [List.mem_singleton.mp h]; exact g5)
    refine ⟨c', t', v', s1, s2, s3, fun y => (s4 y).trans (g3 y), fun m0 b mm mco mcn f hb hR hC hf => ?_, fun X zcl zwa zpt zpf zgo zca zcd ztd f hX hC hf => ?_⟩
    · obtain ⟨f', rfl⟩ : ∃ f', f = f' + 1 := ⟨f - 1, by omega⟩
      obtain ⟨m1, mc1, e1, r1, k1⟩ := g7 m0 b mm mco hb hR hC
      obtain ⟨mm', mco', e5, r5, k5⟩ := s5 m0 b m1 mc1 mcn f' hb r1 k1 (by omega)
      refine ⟨mm', mco', ?_, r5, k5⟩
      show fX12_runsTrial_85b N (nI b) (fX12_runsTrial_85 N (nI b) f') mm mco mcn (nI v) (nI i) = _
      unfold fX12_runsTrial_85b
      have e2 : fX12_listed mm (nI b) = some (nI (a_ls A).length) := M_listed (A := u_ct A t) hR hb
      have e3 : fX12_onList mm (nI b) (nI i) = some (nI ((a_ls A).getD i 0)) := M_onList hR hb hi2
      have e1' : fX12_looksThrough N mm (nI b) mco (nI v) (nI ((a_ls A).getD i 0)) = some (m1, mc1, nI v1) := e1
      rw [e2, b1_s, if_neg (by rw [le_n (by omega) (by omega)]; omega), e3, b1_s, e1', b3_s, nI_1, e5]
    · obtain ⟨f', rfl⟩ : ∃ f', f = f' + 1 := ⟨f - 1, by omega⟩
      obtain ⟨zcl1, zwa1, zpt1, zpf1, X1, e1, r1, k1⟩ := C_look hN g8 (by omega) zwa zpt zpf ztd hX hC
      obtain ⟨ztd', zcl', zwa', zpt', zpf', X', e5, r5, k5⟩ := s6 X1 zcl1 zwa1 zpt1 zpf1 zgo zca zcd 0 f' r1 k1 (by omega)
      refine ⟨ztd', zcl', zwa', zpt', zpf', X', ?_, r5, k5⟩
      show fX9_tries_70b N (fX9_tries_70 N f') zcd zgo ztd (nI v) zcl zca zwa zpt zpf X (nI i) = _
      unfold fX9_tries_70b
      have e : X 8 1 = nI (a_ls A).length := RC_h11 (A := u_ct A t) hX
      have e9 : X 9 i = nI ((a_ls A).getD i 0) := RC_h14 hX i hi2
      rw [e, if_neg (by rw [le_n (by omega) (by omega)]; omega), inb_n (by omega) (by decide), grd_t, cl_n (by omega), e9, e1, b7_s, nI_1, e5]
