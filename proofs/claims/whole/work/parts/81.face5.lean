/-! keepers, rings -/
theorem jshl_f {n : Nat} (hn : n < 24) : jshl (bI false) (nI n) = 0 := b_ext (fun i hi => by rw [bt_shl (by omega) _ hi, bI_f, b_0, b_0]; simp)
theorem bsn6 (p : Nat → Bool) : bsn p 6 = bs (fun i => decide (i < 6) && p i) := by
  have gen : ∀ m, 6 ≤ m → m ≤ 24 → bsn (fun i => decide (i < 6) && p i) m = bsn p 6 := by
    intro m
    induction m with
    | zero => intro h; omega
    | succ m ih =>
      intro h1 h2
      by_cases q : m = 5
      · subst q; rfl
      · show bsn (fun i => decide (i < 6) && p i) m ||| jshl (bI (decide (m < 6) && p m)) (nI m) = _
        rw [ih (by omega) (by omega), decide_eq_false (by omega : ¬ m < 6), Bool.false_and, jshl_f (by omega), or0]
  exact (gen 24 (by omega) (by omega)).symm
noncomputable def kpr (A : AS) (o k : Nat) : Bool := rch (a_fd A) (rtn (a_rt A) (fun r => !decide (r = k)) 6) nof o
theorem bitk : ∀ k, k < 6 → ∀ r, r < 6 → jushr ((jshl 1 (nI k)) ^^^ (-1)) (nI r) &&& 1 = bI (!decide (r = k)) := by decide +kernel
theorem C_spr0 {X : Nat → Nat → Int32} {A : AS} (h : RC X A) (w : WF A) (S : Nat → Bool) {N : Nat} (hN : 24 < N) : fX10_spreads N X (bs S) 0 = some (bs (rch (a_fd A) S nof)) := by
  have := C_spr h w S nof hN
  rw [nof_bs] at this; exact this
theorem M_reach0 {mme : Nat → Int32} {A : AS} (h : RM mme 0 mme A) (w : WF A) {S : Nat → Bool} (hS : ∀ x, x < 24 → S x = true → a_th A x = true) {N : Nat} (hN : 1000 < N) : fX12_reach N mme 0 (bs S) 0 = some (bs (rch (a_fd A) S nof)) := by
  have := M_reach (N := N) (b := 0) h (by decide) w (S := S) nof hS hN
  rw [nof_bs] at this; exact this
theorem C_keep {HS : Nat → Nat → Nat → Int32} {A : AS} (h : RC (HS 0) A) (w : WF A) {o : Nat} (ho : o < 24) {N : Nat} (hN : 24 < N) (ztz : Int32) (ztn : Nat → Int64) : fX11_keepers_17 N HS (nI o) N ztz ztn 0 0 = fX11_keepers_66 N HS (nI o) ztz ztn (bsn (kpr A o) 6) := by
  refine lpE (fun n j => fX11_keepers_17 N HS (nI o) n ztz ztn (bsn (kpr A o) j) (nI j)) 6 _ (fun n j hj => ?_) (fun n => ?_) N 0 (by omega) (by omega)
  · show fX11_keepers_17b N HS (nI o) (fX11_keepers_17 N HS (nI o) n) ztz ztn (bsn (kpr A o) j) (nI j) = fX11_keepers_17 N HS (nI o) n ztz ztn (bsn (kpr A o) j ||| jshl (bI (kpr A o j)) (nI j)) (nI (j + 1))
    unfold fX11_keepers_17b fX11_bit
    rw [if_neg (by rw [le_6 (by omega)]; omega), C_rootBits h w (bitk j hj) hN, b1_s, C_spr0 h w _ hN, b1_s, bs_bit _ ho, b1_s, nI_1]
    rfl
  · show fX11_keepers_17b N HS (nI o) (fX11_keepers_17 N HS (nI o) n) ztz ztn (bsn (kpr A o) 6) (nI 6) = _
    unfold fX11_keepers_17b
    rw [if_pos (by rw [le_6 (by omega)]; omega)]
theorem kpr_n {A : AS} {o k : Nat} (e : a_rt A k = none) : kpr A o k = false := by
  cases c : kpr A o k with
  | false => rfl
  | true => exact False.elim (rch_m c (fun _ => False) (fun x hx q _ => by
      obtain ⟨r, _, q1, q2⟩ := (rtn_iff _ _ _ _).mp q
      have : r = k := by simpa using q1
      rw [this, e] at q2; cases q2) (fun y j x q _ _ => q))
theorem kpr_s {A : AS} {o k t : Nat} (hk : k < 6) (e : a_rt A k = some t) : kpr A o k = rch (a_fd A) (fun j => decide (j = t)) nof o := by
  unfold kpr
  have : rtn (a_rt A) (fun r => !decide (r = k)) 6 = fun j => decide (j = t) := by
    funext x
    cases c : rtn (a_rt A) (fun r => !decide (r = k)) 6 x with
    | true =>
      obtain ⟨r, _, q1, q2⟩ := (rtn_iff _ _ _ _).mp c
      have : r = k := by simpa using q1
      rw [this, e] at q2
      injection q2 with q2
      exact (decide_eq_true q2.symm).symm
    | false =>
      by_cases q : x = t
      · have : rtn (a_rt A) (fun r => !decide (r = k)) 6 x = true := (rtn_iff _ _ _ _).mpr ⟨k, hk, by simp, by rw [q]; exact e⟩
        rw [this] at c; cases c
      · exact (decide_eq_false q).symm
  rw [this]
theorem M_keep {mme : Nat → Int32} {A : AS} (h : RM mme 0 mme A) (w : WF A) {o : Nat} (ho : o < 24) {N : Nat} (hN : 1000 < N) (mto : Int32) (mrw : Nat → Int64) : fX12_keepers_30 N mme 0 (nI o) N 0 mto mrw 0 0 = fX12_keepers_82 N mme 0 (nI o) 0 mto mrw (bsn (kpr A o) 6) := by
  refine lpE (fun n j => fX12_keepers_30 N mme 0 (nI o) n 0 mto mrw (bsn (kpr A o) j) (nI j)) 6 _ (fun n j hj => ?_) (fun n => ?_) N 0 (by omega) (by omega)
  · have m : fX12_rootOf mme 0 (nI j) = some (oI (a_rt A j)) := M_rootOf (b := 0) h (by decide) hj
    show fX12_keepers_30b N mme 0 (nI o) (fX12_keepers_30 N mme 0 (nI o) n) 0 mto mrw (bsn (kpr A o) j) (nI j) = fX12_keepers_30 N mme 0 (nI o) n 0 mto mrw (bsn (kpr A o) j ||| jshl (bI (kpr A o j)) (nI j)) (nI (j + 1))
    unfold fX12_keepers_30b fX12_keepers_68 fX12_keepers_69
    rw [if_neg (by rw [le_6 (by omega)]; omega), m, b1_s, b1_s, nI_1]
    cases e : a_rt A j with
    | none => rw [oI_n, if_pos neg1_lt, kpr_n e]; rfl
    | some t =>
      have ht := (W_rt w e).2
      have ht24 := W_th w ht
      rw [oI_s, if_neg (nI_nlt0 (by omega)), bs_one ht24, M_reach0 h w (fun x _ q => by rw [decide_eq_true_eq.mp q]; exact ht) hN, b1_s, M_has _ ho, b1_s, kpr_s hj e]
      cases rch (a_fd A) (fun j => decide (j = t)) nof o <;> rfl
  · show fX12_keepers_30b N mme 0 (nI o) (fX12_keepers_30 N mme 0 (nI o) n) 0 mto mrw (bsn (kpr A o) 6) (nI 6) = _
    unfold fX12_keepers_30b
    rw [if_pos (by rw [le_6 (by omega)]; omega)]
theorem kpr_rcd {A : AS} (w : WF A) {o : Nat} : rcd A o = true ↔ ∃ k, k < 6 ∧ kpr A o k = true := by
  constructor
  · intro h
    refine rch_m h (fun x => ∃ k, k < 6 ∧ kpr A x k = true) (fun x hx q _ => ?_) (fun y j x q e _ => ?_)
    · obtain ⟨r, hr, _, q2⟩ := (rtn_iff _ _ _ _).mp q
      exact ⟨r, hr, rch_b hx ((rtn_iff _ _ _ _).mpr ⟨r, hr, by simp, q2⟩) rfl⟩
    · obtain ⟨k, hk, q2⟩ := q
      exact ⟨k, hk, rch_s q2 e (W_sf w y j x e) rfl⟩
  · rintro ⟨k, hk, h⟩
    refine rch_m h (fun x => rcd A x = true) (fun x hx q _ => ?_) (fun y j x q e _ => rch_s q e (W_sf w y j x e) rfl)
    obtain ⟨r, hr, _, q2⟩ := (rtn_iff _ _ _ _).mp q
    exact rch_b hx ((rtn_iff _ _ _ _).mpr ⟨r, hr, rfl, q2⟩) rfl
theorem S_keepers {N : Nat} (hN : 200000 ≤ N) (j : Nat) (hj : j < 512) : ST_keepers N (INV j) (INV (j + 1)) := by
  intro HS zkb zdr zky zpn zps ztz ztn zxz zxa zsg za0 za1 za2 za3 za4 zfr zcd zgo ztd ztv zcl zca zwa zpt zpf mth mto mrw mta mtp mat mtt mme mun mde mco mcn mvi men mfa mac mfi mse mtd mra mkp a1 hI
  obtain ⟨A, K, U, kb, u, pn, hc, hx, ht, hd⟩ := hI
  have hd' : mde = 0 := hd
  subst hd'
  replace hc : COR (640 * j) HS zkb zpn zps mme mun mkp A K U kb u pn := hc
  replace hx : TXT zxz zsg mta mtp := hx
  replace ht : TLD ztz ztn mto mrw := ht
  have hJ : J (640 * j) A [] none := hc.1.1
  have w := hJ.1
  have hX0 : RC (HS 0) A := hc.1.2.1
  have hR0 : RM mme 0 mme A := hc.1.2.2
  have hcu : COR (640 * (j + 1)) HS zkb zpn zps mme mun mkp A K U kb u pn := COR_up hc (by omega)
  rcases obj_or A a1 with ⟨i, e1, hi, hti⟩ | ⟨n1, n2⟩
  · subst e1
    have m1 : fX12_isThere mme 0 (nI i) = some (bI (a_th A i)) := M_isThere (b := 0) hR0 (by decide) hi
    have m2 : fX12_isReached N mme 0 (nI i) = some (bI (rcd A i)) := M_isReached (b := 0) hR0 (by decide) w hi (by omega)
    have m3 : fX12_reached N mme 0 = some (bs (rcd A)) := M_reached (b := 0) hR0 (by decide) w (by omega)
    cases qr : rcd A i with
    | false =>
      have hz : bsn (kpr A i) 6 = 0 := by
        rw [bsn6]
        refine bs_eq0.mpr (fun k _ => ?_)
        cases c : (decide (k < 6) && kpr A i k) with
        | false => rfl
        | true =>
          rw [Bool.and_eq_true] at c
          have := (kpr_rcd w (o := i)).mpr ⟨k, of_decide_eq_true c.1, c.2⟩
          rw [qr] at this; cases this
      refine ⟨-2, ztz, ztn, 0, mto, mrw, ?_, ?_, A, K, U, kb, u, pn, hcu, hx, ht, rfl⟩
      · unfold fX11_keepers
        rw [C_has hX0 hi, hti, b1_s, if_neg (by decide), C_keep hX0 w hi (by omega)]
        unfold fX11_keepers_66
        rw [hz, if_pos rfl]
      · unfold fX12_keepers
        rw [m1, hti, b1_s, if_neg (by decide), m2, qr, b1_s, if_pos (by decide)]
    | true =>
      have hz : ¬ bs (fun k => decide (k < 6) && kpr A i k) = 0 := fun q => by
        obtain ⟨k, hk, q2⟩ := (kpr_rcd w (o := i)).mp qr
        have := bs_eq0.mp q k (by omega)
        rw [q2, decide_eq_true hk] at this; cases this
      have m4 : fX12_inRoots N mme 0 (bs (fun k => decide (k < 6) && kpr A i k)) = some (bs (rtn (a_rt A) (fun k => decide (k < 6) && kpr A i k) 6)) := M_inRoots (b := 0) hR0 (by decide) w (fun r hr => M_has _ (by omega)) (by omega)
      obtain ⟨zn', mr', t1, t2, ht2⟩ := TL_1 ztz ztn mrw (nI (fb_ct (fun x => rcd A x && !rch (a_fd A) (rtn (a_rt A) (fun k => decide (k < 6) && kpr A i k) 6) nof x) 24)).toInt64
      refine ⟨bs (fun k => decide (k < 6) && kpr A i k), 1, zn', 0, 1, mr', ?_, ?_, A, K, U, kb, u, pn, hcu, hx, ht2, rfl⟩
      · unfold fX11_keepers
        rw [C_has hX0 hi, hti, b1_s, if_neg (by decide), C_keep hX0 w hi (by omega), bsn6]
        unfold fX11_keepers_66
        rw [if_neg hz, C_rootBits hX0 w (fun r hr => bs_bit _ (by omega)) (by omega), b1_s, C_spr0 hX0 w _ (by omega), b1_s, C_reached hX0 w (by omega), b1_s, bs_andn, bitCount_c, b1_s, t1, b2_s]
      · unfold fX12_keepers
        rw [m1, hti, b1_s, if_neg (by decide), m2, qr, b1_s, if_neg (by decide), M_keep hR0 w hi (by omega), bsn6]
        unfold fX12_keepers_82
        rw [m3, b1_s, m4, b1_s, M_reach0 hR0 w (fun x _ q => rtn_th w _ x q) (by omega), b1_s, bs_andn, M_sizeOf (by omega), b1_s, t2, b2_s]
  · refine ⟨-1, ztz, ztn, 0, mto, mrw, ?_, ?_, A, K, U, kb, u, pn, hcu, hx, ht, rfl⟩
    · unfold fX11_keepers; rw [n1 _ hX0, b1_s, if_pos rfl]
    · have m1 : fX12_isThere mme 0 a1 = some 0 := n2 mme 0 mme (by decide) hR0
      unfold fX12_keepers; rw [m1, b1_s, if_pos rfl]
def upk (z f : Nat → Int32) (k : Nat) : Nat → Int32 := fun i => if i < k then f i else z i
theorem upk_0 (z f : Nat → Int32) : upk z f 0 = z := funext fun i => if_neg (Nat.not_lt_zero i)
theorem upk_1 (z f : Nat → Int32) (k : Nat) : upd (upk z f k) k (f k) = upk z f (k + 1) := funext fun i => by
  by_cases q : i = k
  · subst q; rw [pk_us]; exact (if_pos (by omega)).symm
  · rw [pk_un q]
    unfold upk
    by_cases q2 : i < k
    · rw [if_pos q2, if_pos (by omega)]
    · rw [if_neg q2, if_neg (by omega)]
theorem upk_s {z f : Nat → Int32} {k i : Nat} (h : i < k) : upk z f k i = f i := if_pos h
noncomputable def kyF (A : AS) (i : Nat) : Nat → Bool := rch (a_fd A) (nx (a_fd A) i) nof
noncomputable def onF (A : AS) (i : Nat) : Nat → Bool := rch (a_fd A) (fun j => decide (j = i)) nof
theorem bI_ij {a b : Bool} (h : bI a = bI b) : a = b := by cases a <;> cases b <;> first | rfl | cases h
theorem onF_ky {A : AS} (w : WF A) {i t : Nat} (hi : i < 24) (ht : t < 24) : onF A i t = if t = i then true else kyF A i t := by
  have h := rch_one w hi
  rw [bs_set _ hi] at h
  have h2 := congrArg (fun x => jushr x (nI t) &&& 1) h
  have h3 : bI (fs (kyF A i) i true t) = bI (onF A i t) := by
    rw [← bs_bit (fs (kyF A i) i true) ht, ← bs_bit (onF A i) ht]; exact h2
  exact (bI_ij h3).symm
theorem C_keys {HS : Nat → Nat → Nat → Int32} {A : AS} (h : RC (HS 0) A) (w : WF A) {N : Nat} (hN : 24 < N) (zky : Nat → Int32) (ztz : Int32) (ztn : Nat → Int64) : fX11_rings_2 N HS N zky ztz ztn 0 = fX11_rings_40 N HS (upk zky (fun i => bs (kyF A i)) 24) ztz ztn := by
  have := lpE (fun n j => fX11_rings_2 N HS n (upk zky (fun i => bs (kyF A i)) j) ztz ztn (nI j)) 24 (fX11_rings_40 N HS (upk zky (fun i => bs (kyF A i)) 24) ztz ztn) (fun n j hj => ?_) (fun n => ?_) N 0 (by omega) (by omega)
  · rw [upk_0] at this; exact this
  · show fX11_rings_2b N HS (fX11_rings_2 N HS n) (upk zky (fun i => bs (kyF A i)) j) ztz ztn (nI j) = fX11_rings_2 N HS n (upk zky (fun i => bs (kyF A i)) (j + 1)) ztz ztn (nI (j + 1))
    unfold fX11_rings_2b
    rw [if_neg (by rw [le_24 (by omega)]; omega), C_fieldBits h w hj hN, b1_s, C_spr0 h w _ hN, b1_s, inb_n hj (by decide), grd_t, cl_n (by omega), lt_e, nI_1, ← upk_1]
    rfl
  · show fX11_rings_2b N HS (fX11_rings_2 N HS n) (upk zky (fun i => bs (kyF A i)) 24) ztz ztn (nI 24) = _
    unfold fX11_rings_2b
    rw [if_pos (by rw [le_24 (by omega)]; omega)]
theorem bI_and (a b : Bool) : bI a &&& bI b = bI (a && b) := by cases a <;> cases b <;> decide
theorem C_ringOf {A : AS} {z : Nat → Int32} (hz : ∀ i, i < 24 → z i = bs (kyF A i)) {o : Nat} (ho : o < 24) {N : Nat} (hN : 24 < N) : fX11_ringOf N z (nI o) = some (bs (fun t => kyF A o t && kyF A t o)) := by
  refine lpE (fun n j => fX11_ringOf_4 N z (nI o) n (bsn (fun t => kyF A o t && kyF A t o) j) (nI j)) 24 _ (fun n j hj => ?_) (fun n => ?_) N 0 (by omega) (by omega)
  · show fX11_ringOf_4b N z (nI o) (fX11_ringOf_4 N z (nI o) n) (bsn (fun t => kyF A o t && kyF A t o) j) (nI j) = fX11_ringOf_4 N z (nI o) n (bsn (fun t => kyF A o t && kyF A t o) j ||| jshl (bI (kyF A o j && kyF A j o)) (nI j)) (nI (j + 1))
    unfold fX11_ringOf_4b fX11_bit
    rw [if_neg (by rw [le_24 (by omega)]; omega), inb_n ho (by decide), grd_t, cl_n (by omega), hz o ho, bs_bit _ hj, b1_s, inb_n hj (by decide), grd_t, cl_n (by omega), hz j hj, bs_bit _ ho, b1_s, lt_e, bI_and, nI_1]
  · show fX11_ringOf_4b N z (nI o) (fX11_ringOf_4 N z (nI o) n) (bsn (fun t => kyF A o t && kyF A t o) 24) (nI 24) = _
    unfold fX11_ringOf_4b
    rw [if_pos (by rw [le_24 (by omega)]; omega)]
    rfl
theorem M_ring {mme : Nat → Int32} {A : AS} (h : RM mme 0 mme A) (w : WF A) {o : Nat} (ho : o < 24) (hto : a_th A o = true) {N : Nat} (hN : 1000 < N) (K : Int32 → Int32 → (Nat → Int64) → Int32 → Int32 → Option (Int32 × Int32 × Int32 × (Nat → Int64))) (mto : Int32) (mrw : Nat → Int64) (x1 : Int32) : fX12_rings_71 N mme 0 K N 0 mto mrw x1 (nI o) 0 (bs (onF A o)) 0 = fX12_rings_124 N mme 0 K 0 mto mrw x1 (nI o) (bs (fun t => onF A o t && onF A t o)) := by
  refine lpE (fun n j => fX12_rings_71 N mme 0 K n 0 mto mrw x1 (nI o) (bsn (fun t => onF A o t && onF A t o) j) (bs (onF A o)) (nI j)) 24 _ (fun n j hj => ?_) (fun n => ?_) N 0 (by omega) (by omega)
  · show fX12_rings_71b N mme 0 K (fX12_rings_71 N mme 0 K n) 0 mto mrw x1 (nI o) (bsn (fun t => onF A o t && onF A t o) j) (bs (onF A o)) (nI j) = fX12_rings_71 N mme 0 K n 0 mto mrw x1 (nI o) (bsn (fun t => onF A o t && onF A t o) j ||| jshl (bI (onF A o j && onF A j o)) (nI j)) (bs (onF A o)) (nI (j + 1))
    unfold fX12_rings_71b fX12_rings_109 fX12_rings_110
    rw [if_neg (by rw [le_24 (by omega)]; omega), M_has _ hj, b1_s, nI_1]
    cases e : onF A o j with
    | false => rw [if_pos (by decide)]; rfl
    | true =>
      have htj : a_th A j = true := rch_th w (fun x _ q => by rw [decide_eq_true_eq.mp q]; exact hto) e
      rw [if_neg (by decide), bs_one hj, M_reach0 h w (fun x _ q => by rw [decide_eq_true_eq.mp q]; exact htj) hN, b1_s, M_has _ ho, b1_s, Bool.true_and]
      show (if bI (onF A j o) = 0 then _ else _) = _
      cases onF A j o <;> rfl
  · show fX12_rings_71b N mme 0 K (fX12_rings_71 N mme 0 K n) 0 mto mrw x1 (nI o) (bsn (fun t => onF A o t && onF A t o) 24) (bs (onF A o)) (nI 24) = _
    unfold fX12_rings_71b
    rw [if_pos (by rw [le_24 (by omega)]; omega)]
    rfl
theorem rings_j {HS : Nat → Nat → Nat → Int32} {mme : Nat → Int32} {A : AS} (hR : RM mme 0 mme A) (w : WF A) {N : Nat} (hN : 1000 < N) {z : Nat → Int32} (hz : ∀ i, i < 24 → z i = bs (kyF A i)) : ∀ n k c d zn mr, k ≤ 24 → c ≤ k → TLD (nI c) zn (nI c) mr → 24 - k < n → ∃ c' zn' mr', fX11_rings_51 N HS n z (nI c) zn (bs d) (nI k) = some (nI c', z, nI c', zn') ∧ fX12_rings_14 N mme 0 n 0 (nI c) mr (bs d) (nI k) = some (nI c', 0, nI c', mr') ∧ TLD (nI c') zn' (nI c') mr' := by
  intro n
  induction n with
  | zero => intro k c d zn mr _ _ _ h; omega
  | succ n ih =>
    intro k c d zn mr hk hc ht hn
    show ∃ c' zn' mr', fX11_rings_51b N HS (fX11_rings_51 N HS n) z (nI c) zn (bs d) (nI k) = _ ∧ fX12_rings_14b N mme 0 (fX12_rings_14 N mme 0 n) 0 (nI c) mr (bs d) (nI k) = _ ∧ _
    unfold fX11_rings_51b fX12_rings_14b fX11_bit
    by_cases q : k = 24
    · subst q
      rw [if_pos (by rw [le_24 (by omega)]; omega), if_pos (by rw [le_24 (by omega)]; omega)]
      exact ⟨c, zn, mr, rfl, rfl, ht⟩
    · have hk' : k < 24 := by omega
      have m1 : fX12_isThere mme 0 (nI k) = some (bI (a_th A k)) := M_isThere (b := 0) hR (by decide) hk'
      rw [if_neg (by rw [le_24 (by omega)]; omega), if_neg (by rw [le_24 (by omega)]; omega), inb_n hk' (by decide), grd_t, cl_n (by omega), hz k hk', bs_bit _ hk', b1_s, bs_bit _ hk', b1_s, m1, b1_s, M_has _ hk', b1_s, nI_1]
      have skip := ih (k + 1) c d zn mr (by omega) (by omega) ht (by omega)
      cases ek : kyF A k k with
      | false =>
        rw [if_neg (show ¬ bI false = 1 from by decide)]
        cases et : a_th A k with
        | false => rw [if_pos (show bI false = 0 from rfl)]; exact skip
        | true =>
          rw [if_neg (show ¬ bI true = 0 from by decide)]
          cases d k with
          | true => rw [if_neg (show ¬ bI true = 0 from by decide)]; exact skip
          | false =>
            have m2 : fX12_next N mme 0 (nI k) = some (bs (nx (a_fd A) k)) := M_next (b := 0) hR (by decide) w et (by omega)
            rw [if_pos (show bI false = 0 from rfl), m2, b1_s, M_reach0 hR w (fun x _ q => by obtain ⟨k, _, e⟩ := nx_iff.mp q; exact (W_fd w e).2.2) hN, b1_s, M_has _ hk', b1_s]
            have ek' : rch (a_fd A) (nx (a_fd A) k) nof k = false := ek
            rw [ek', if_pos (show bI false = 0 from rfl)]; exact skip
      | true =>
        have et : a_th A k = true := rch_th w (fun x _ q => by obtain ⟨k, _, e⟩ := nx_iff.mp q; exact (W_fd w e).2.2) ek
        rw [if_pos (show bI true = 1 from rfl), et, if_neg (show ¬ bI true = 0 from by decide)]
        cases d k with
        | true => rw [if_neg (show ¬ bI true = 0 from by decide), if_neg (show ¬ bI true = 0 from by decide)]; exact skip
        | false =>
          have m2 : fX12_next N mme 0 (nI k) = some (bs (nx (a_fd A) k)) := M_next (b := 0) hR (by decide) w et (by omega)
          have ek' : rch (a_fd A) (nx (a_fd A) k) nof k = true := ek
          have same : bs (fun t => onF A k t && onF A t k) = bs (fun t => kyF A k t && kyF A t k) := bs_ext (fun t ht => by
            rw [onF_ky w hk' ht, onF_ky w ht hk']
            by_cases q : t = k
            · subst q; rw [if_pos rfl, ek]
            · rw [if_neg q, if_neg (fun c => q c.symm)])
          obtain ⟨t1, t2, t3⟩ := TL_a ht (by omega) (bs (fun t => kyF A k t && kyF A t k)).toInt64
          have m3 : fX12_reach N mme 0 (bs (fun j => decide (j = k))) 0 = some (bs (onF A k)) := M_reach0 hR w (fun x _ q => by rw [decide_eq_true_eq.mp q]; exact et) hN
          rw [if_pos (show bI false = 0 from rfl), if_pos (show bI false = 0 from rfl), C_ringOf hz hk' (by omega), b1_s, m2, b1_s, M_reach0 hR w (fun x _ q => by obtain ⟨k, _, e⟩ := nx_iff.mp q; exact (W_fd w e).2.2) hN, b1_s, M_has _ hk', b1_s, ek', if_neg (show ¬ bI true = 0 from by decide), bs_one hk', m3, b1_s, M_ring hR w hk' et hN, same]
          unfold fX12_rings_124
          rw [t1, b2_s, t2, b2_s, bs_or, nI_1]
          exact ih (k + 1) (c + 1) _ _ _ (by omega) (by omega) t3 (by omega)
theorem S_rings {N : Nat} (hN : 200000 ≤ N) (j : Nat) (hj : j < 512) : ST_rings N (INV j) (INV (j + 1)) := by
  intro HS zkb zdr zky zpn zps ztz ztn zxz zxa zsg za0 za1 za2 za3 za4 zfr zcd zgo ztd ztv zcl zca zwa zpt zpf mth mto mrw mta mtp mat mtt mme mun mde mco mcn mvi men mfa mac mfi mse mtd mra mkp hI
  obtain ⟨A, K, U, kb, u, pn, hc, hx, ht, hd⟩ := hI
  have hd' : mde = 0 := hd
  subst hd'
  replace hc : COR (640 * j) HS zkb zpn zps mme mun mkp A K U kb u pn := hc
  replace hx : TXT zxz zsg mta mtp := hx
  replace ht : TLD ztz ztn mto mrw := ht
  have hJ : J (640 * j) A [] none := hc.1.1
  have w := hJ.1
  have hX0 : RC (HS 0) A := hc.1.2.1
  have hR0 : RM mme 0 mme A := hc.1.2.2
  have hcu : COR (640 * (j + 1)) HS zkb zpn zps mme mun mkp A K U kb u pn := COR_up hc (by omega)
  obtain ⟨c', zn', mr', e1, e2, h3⟩ := rings_j (HS := HS) hR0 w (N := N) (by omega) (z := upk zky (fun i => bs (kyF A i)) 24) (fun i hi => upk_s hi) N 0 0 nof ztn mrw (by omega) (by omega) (TL_0 ztn mrw) (by omega)
  rw [nof_bs] at e1 e2
  refine ⟨nI c', upk zky (fun i => bs (kyF A i)) 24, nI c', zn', 0, nI c', mr', ?_, e2, A, K, U, kb, u, pn, hcu, hx, h3, rfl⟩
  unfold fX11_rings
  rw [C_keys hX0 w (by omega)]
  exact e1
