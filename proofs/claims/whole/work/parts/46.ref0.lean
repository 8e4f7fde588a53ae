/-! reference: small functions over RM -/
def SM (v : Option Nat) : Prop := ∀ t, v = some t → t < 24
theorem SM_n : SM none := fun _ h => nomatch h
theorem SM_s {o : Nat} (h : o < 24) : SM (some o) := fun _ e => by cases e; exact h
theorem oI_n : oI none = -1 := rfl
theorem oI_s (o : Nat) : oI (some o) = nI o := rfl
theorem oI_m1 {v : Option Nat} (h : SM v) : oI v = (-1) ↔ v = none := by
  cases v with
  | none => exact ⟨fun _ => rfl, fun _ => rfl⟩
  | some t => exact ⟨fun q => absurd q (nI_ne1 (by have := h t rfl; omega)), fun q => nomatch q⟩
theorem oI_neg {v : Option Nat} (h : SM v) : oI v < 0 ↔ v = none := by
  cases v with
  | none => exact ⟨fun _ => rfl, fun _ => neg1_lt⟩
  | some t => exact ⟨fun q => absurd q (nI_nlt0 (by have := h t rfl; omega)), fun q => nomatch q⟩
theorem oI_eq {v : Option Nat} (h : SM v) {o : Nat} (ho : o < 24) : oI v = nI o ↔ v = some o := by
  cases v with
  | none => exact ⟨fun q => absurd q.symm (nI_ne1 (by omega)), fun q => nomatch q⟩
  | some t =>
    have := h t rfl
    show nI t = nI o ↔ _
    rw [eq_n (by omega) (by omega)]
    exact ⟨fun q => by rw [q], fun q => by cases q; rfl⟩
theorem adO (b o w : Nat) : ((nI b + 163) + (11 * nI o)) + nI w = nI (b + 163 + 11 * o + w) := by
  rw [show (163 : Int32) = nI 163 from rfl, show (11 : Int32) = nI 11 from rfl, pk_mul, nI_add, nI_add, nI_add]
theorem of_n (mm : Nat → Int32) {b o w : Nat} (hb : b ≤ 5124) (ho : o < 24) (hw : w < 11) : fX12_of mm (nI b) (nI o) (nI w) = some (mm (b + 163 + 11 * o + w)) := by
  unfold fX12_of
  rw [adO, inb_n (by omega) (by decide), cl_n (by omega)]
  rfl
theorem puts_n (mm : Nat → Int32) (v : Int32) {b o w : Nat} (hb : b ≤ 5124) (ho : o < 24) (hw : w < 11) : fX12_puts mm (nI b) (nI o) (nI w) v = some (upd mm (b + 163 + 11 * o + w) v) := by
  unfold fX12_puts
  rw [adO, inb_n (by omega) (by decide), cl_n (by omega)]
  rfl
theorem M_of1 {m0 mm : Nat → Int32} {b : Nat} {A : AS} (h : RM m0 b mm A) (hb : b ≤ 5124) {o : Nat} (ho : o < 24) (ht : a_th A o = true) : fX12_of mm (nI b) (nI o) 1 = some (nI (a_my A o)) := (of_n mm (w := 1) hb ho (by decide)).trans (congrArg some (h.2.2.2.2.2.2.2.2.2.2.2.1 o ho ht))
theorem M_of2 {m0 mm : Nat → Int32} {b : Nat} {A : AS} (h : RM m0 b mm A) (hb : b ≤ 5124) {o : Nat} (ho : o < 24) (ht : a_th A o = true) : fX12_of mm (nI b) (nI o) 2 = some (a_wt A o) := (of_n mm (w := 2) hb ho (by decide)).trans (congrArg some (h.2.2.2.2.2.2.2.2.2.2.2.2.1 o ho ht))
theorem M_of3 {m0 mm : Nat → Int32} {b : Nat} {A : AS} (h : RM m0 b mm A) (hb : b ≤ 5124) {o : Nat} (ho : o < 24) (ht : a_th A o = true) : fX12_of mm (nI b) (nI o) 3 = some (nI (a_en A o)) := (of_n mm (w := 3) hb ho (by decide)).trans (congrArg some (h.2.2.2.2.2.2.2.2.2.2.2.2.2.1 o ho ht))
theorem M_of4 {m0 mm : Nat → Int32} {b : Nat} {A : AS} (h : RM m0 b mm A) (hb : b ≤ 5124) {o : Nat} (ho : o < 24) (ht : a_th A o = true) : fX12_of mm (nI b) (nI o) 4 = some (bI (a_rn A o)) := (of_n mm (w := 4) hb ho (by decide)).trans (congrArg some (h.2.2.2.2.2.2.2.2.2.2.2.2.2.2.1 o ho ht))
theorem M_of5 {m0 mm : Nat → Int32} {b : Nat} {A : AS} (h : RM m0 b mm A) (hb : b ≤ 5124) {o : Nat} (ho : o < 24) (ht : a_th A o = true) : fX12_of mm (nI b) (nI o) 5 = some (cI (a_ct A o)) := (of_n mm (w := 5) hb ho (by decide)).trans (congrArg some (h.2.2.2.2.2.2.2.2.2.2.2.2.2.2.2.1 o ho ht))
theorem M_of6 {m0 mm : Nat → Int32} {b : Nat} {A : AS} (h : RM m0 b mm A) (hb : b ≤ 5124) {o : Nat} (ho : o < 24) (ht : a_th A o = true) : fX12_of mm (nI b) (nI o) 6 = some (bI (a_mt A o)) := (of_n mm (w := 6) hb ho (by decide)).trans (congrArg some (h.2.2.2.2.2.2.2.2.2.2.2.2.2.2.2.2.1 o ho ht))
theorem M_of0 {m0 mm : Nat → Int32} {b : Nat} {A : AS} (h : RM m0 b mm A) (hb : b ≤ 5124) {o : Nat} (ho : o < 24) : fX12_of mm (nI b) (nI o) 0 = some (bI (a_th A o)) := (of_n mm (w := 0) hb ho (by decide)).trans (congrArg some (h.2.2.2.2.2.2.2.2.2.2.1 o ho))
theorem M_put1 {m0 mm : Nat → Int32} {b : Nat} {A : AS} (h : RM m0 b mm A) (hb : b ≤ 5124) {o : Nat} (ho : o < 24) (v : Nat) : ∃ mm', fX12_puts mm (nI b) (nI o) 1 (nI v) = some mm' ∧ RM m0 b mm' (u_my A (fs (a_my A) o v)) := ⟨_, puts_n mm (nI v) (w := 1) hb ho (by decide), M_my h ho v⟩
theorem M_put2 {m0 mm : Nat → Int32} {b : Nat} {A : AS} (h : RM m0 b mm A) (hb : b ≤ 5124) {o : Nat} (ho : o < 24) (v : Int32) : ∃ mm', fX12_puts mm (nI b) (nI o) 2 (v) = some mm' ∧ RM m0 b mm' (u_wt A (fs (a_wt A) o v)) := ⟨_, puts_n mm (v) (w := 2) hb ho (by decide), M_wt h ho v⟩
theorem M_put3 {m0 mm : Nat → Int32} {b : Nat} {A : AS} (h : RM m0 b mm A) (hb : b ≤ 5124) {o : Nat} (ho : o < 24) (v : Nat) : ∃ mm', fX12_puts mm (nI b) (nI o) 3 (nI v) = some mm' ∧ RM m0 b mm' (u_en A (fs (a_en A) o v)) := ⟨_, puts_n mm (nI v) (w := 3) hb ho (by decide), M_en h ho v⟩
theorem M_put4 {m0 mm : Nat → Int32} {b : Nat} {A : AS} (h : RM m0 b mm A) (hb : b ≤ 5124) {o : Nat} (ho : o < 24) (v : Bool) : ∃ mm', fX12_puts mm (nI b) (nI o) 4 (bI v) = some mm' ∧ RM m0 b mm' (u_rn A (fs (a_rn A) o v)) := ⟨_, puts_n mm (bI v) (w := 4) hb ho (by decide), M_rn h ho v⟩
theorem M_put5 {m0 mm : Nat → Int32} {b : Nat} {A : AS} (h : RM m0 b mm A) (hb : b ≤ 5124) {o : Nat} (ho : o < 24) (v : Int) : ∃ mm', fX12_puts mm (nI b) (nI o) 5 (cI v) = some mm' ∧ RM m0 b mm' (u_ct A (fs (a_ct A) o v)) := ⟨_, puts_n mm (cI v) (w := 5) hb ho (by decide), M_ct h ho v⟩
theorem M_put6 {m0 mm : Nat → Int32} {b : Nat} {A : AS} (h : RM m0 b mm A) (hb : b ≤ 5124) {o : Nat} (ho : o < 24) (v : Bool) : ∃ mm', fX12_puts mm (nI b) (nI o) 6 (bI v) = some mm' ∧ RM m0 b mm' (u_mt A (fs (a_mt A) o v)) := ⟨_, puts_n mm (bI v) (w := 6) hb ho (by decide), M_mt h ho v⟩
theorem M_put0 {m0 mm : Nat → Int32} {b : Nat} {A : AS} (h : RM m0 b mm A) (hb : b ≤ 5124) {o : Nat} (ho : o < 24) : ∃ mm', fX12_puts mm (nI b) (nI o) 0 0 = some mm' ∧ RM m0 b mm' (u_th A (fs (a_th A) o false)) := ⟨_, puts_n mm 0 (w := 0) hb ho (by decide), M_thF h ho⟩
theorem ad7 (k : Nat) : 7 + nI k = nI (7 + k) := by rw [show (7 : Int32) = nI 7 from rfl, nI_add]
theorem M_fieldOf {m0 mm : Nat → Int32} {b : Nat} {A : AS} (h : RM m0 b mm A) (hb : b ≤ 5124) {o k : Nat} (ho : o < 24) (hk : k < 4) (ht : a_th A o = true) : fX12_fieldOf mm (nI b) (nI o) (nI k) = some (oI (a_fd A o k)) := by
  unfold fX12_fieldOf
  rw [ad7, of_n mm hb ho (by omega), show b + 163 + 11 * o + (7 + k) = b + 163 + 11 * o + 7 + k by omega, h.2.2.2.2.2.2.2.2.2.2.2.2.2.2.2.2.2.1 o k ho hk ht]
  rfl
theorem M_putF {m0 mm : Nat → Int32} {b : Nat} {A : AS} (h : RM m0 b mm A) (hb : b ≤ 5124) {o k : Nat} (ho : o < 24) (hk : k < 4) (v : Option Nat) : ∃ mm', fX12_puts mm (nI b) (nI o) (7 + nI k) (oI v) = some mm' ∧ RM m0 b mm' (u_fd A (f2 (a_fd A) o k v)) := by
  refine ⟨upd mm (b + 163 + 11 * o + 7 + k) (oI v), ?_, M_fd h ho hk v⟩
  rw [ad7, puts_n mm _ hb ho (by omega), show b + 163 + 11 * o + (7 + k) = b + 163 + 11 * o + 7 + k by omega]
theorem M_isThere {m0 mm : Nat → Int32} {b : Nat} {A : AS} (h : RM m0 b mm A) (hb : b ≤ 5124) {o : Nat} (ho : o < 24) : fX12_isThere mm (nI b) (nI o) = some (bI (a_th A o)) := by
  have e := nI_toInt (n := o) (by omega)
  have i23 : (23 : Int32).toInt = 23 := by decide
  unfold fX12_isThere
  rw [in_y' (a := nI o) (c := 23) (d := 23) rfl (by omega), M_of0 h hb ho]
  cases a_th A o <;> rfl
theorem ad_c (b c k : Nat) : (nI b + nI c) + nI k = nI (b + c + k) := by rw [nI_add, nI_add]
theorem ad_1 (b c : Nat) : nI b + nI c = nI (b + c) := nI_add b c
theorem M_rootOf {m0 mm : Nat → Int32} {b : Nat} {A : AS} (h : RM m0 b mm A) (hb : b ≤ 5124) {r : Nat} (hr : r < 6) : fX12_rootOf mm (nI b) (nI r) = some (oI (a_rt A r)) := by
  unfold fX12_rootOf
  rw [show (33 : Int32) = nI 33 from rfl, ad_c, inb_n (by omega) (by decide), cl_n (by omega), h.2.2.2.2.2.2.1 r hr]
  rfl
theorem M_weakOf {m0 mm : Nat → Int32} {b : Nat} {A : AS} (h : RM m0 b mm A) (hb : b ≤ 5124) {r : Nat} (hr : r < 4) : fX12_weakOf mm (nI b) (nI r) = some (oI (a_wk A r)) := by
  unfold fX12_weakOf
  rw [show (39 : Int32) = nI 39 from rfl, ad_c, inb_n (by omega) (by decide), cl_n (by omega), h.2.2.2.2.2.2.2.1 r hr]
  rfl
theorem M_listed {m0 mm : Nat → Int32} {b : Nat} {A : AS} (h : RM m0 b mm A) (hb : b ≤ 5124) : fX12_listed mm (nI b) = some (nI (a_ls A).length) := by
  unfold fX12_listed
  rw [show (1 : Int32) = nI 1 from rfl, ad_1, inb_n (by omega) (by decide), cl_n (by omega), h.2.2.1]
  rfl
theorem M_onList {m0 mm : Nat → Int32} {b : Nat} {A : AS} (h : RM m0 b mm A) (hb : b ≤ 5124) {i : Nat} (hi : i < (a_ls A).length) : fX12_onList mm (nI b) (nI i) = some (nI ((a_ls A).getD i 0)) := by
  have hl : (a_ls A).length ≤ 24 := h.2.2.2.2.2.2.2.2.2.2.2.2.2.2.2.2.2.2
  unfold fX12_onList
  rw [show (9 : Int32) = nI 9 from rfl, ad_c, inb_n (by omega) (by decide), cl_n (by omega), h.2.2.2.2.2.1 i hi]
  rfl
theorem M_log {m0 mm : Nat → Int32} {b : Nat} {A : AS} (h : RM m0 b mm A) (hb : b ≤ 5124) {kd o : Nat} (hk : kd < 6) (ht : (a_lg A).1 < 2147483000) : ∃ mm', fX12_logs mm (nI b) (nI kd) (nI o) = some mm' ∧ RM m0 b mm' (lgA A kd o) := by
  obtain ⟨h1, h2, h3, h4, h5, h6, h7, h8, h9, h10, h11, h12, h13, h14, h15, h16, h17, h18, h19⟩ := h
  have hq : (a_lg A).1 % 60 < 60 := Nat.mod_lt _ (by decide)
  have e2 : nI b + 2 = nI (b + 2) := ad_1 b 2
  have e : jrem (mm (b + 2)) 60 = nI ((a_lg A).1 % 60) := by rw [h4]; exact pk_rem (by omega) (by decide) (by decide)
  have e3 : (nI b + 43) + (2 * nI ((a_lg A).1 % 60)) = nI (b + 43 + 2 * ((a_lg A).1 % 60)) := by
    rw [show (43 : Int32) = nI 43 from rfl, show (2 : Int32) = nI 2 from rfl, pk_mul, ad_c]
  have e4 : (nI b + 3) + nI kd = nI (b + 3 + kd) := ad_c b 3 kd
  refine ⟨upd (upd (upd (upd mm (b + 43 + 2 * ((a_lg A).1 % 60)) (nI kd)) (b + 43 + 2 * ((a_lg A).1 % 60) + 1) (nI o)) (b + 2) (nI ((a_lg A).1 + 1))) (b + 3 + kd) ((a_lg A).2.2.2 kd + 1), ?_, ?_⟩
  · unfold fX12_logs
    rw [e2, inb_n (by omega) (by decide), cl_n (by omega), e, e3, lt_e, inb_n (i := b + 43 + 2 * ((a_lg A).1 % 60)) (by omega) (by decide), cl_n (by omega), nI_1, inb_n (i := b + 43 + 2 * ((a_lg A).1 % 60) + 1) (by omega) (by decide), cl_n (by omega), e4, inb_n (i := b + 3 + kd) (by omega) (by decide), cl_n (by omega)]
    show some (upd (upd (upd (upd mm (b + 43 + 2 * ((a_lg A).1 % 60)) (nI kd)) (b + 43 + 2 * ((a_lg A).1 % 60) + 1) (nI o)) (b + 2) (upd (upd mm (b + 43 + 2 * ((a_lg A).1 % 60)) (nI kd)) (b + 43 + 2 * ((a_lg A).1 % 60) + 1) (nI o) (b + 2) + 1)) (b + 3 + kd) (upd (upd (upd mm (b + 43 + 2 * ((a_lg A).1 % 60)) (nI kd)) (b + 43 + 2 * ((a_lg A).1 % 60) + 1) (nI o)) (b + 2) (upd (upd mm (b + 43 + 2 * ((a_lg A).1 % 60)) (nI kd)) (b + 43 + 2 * ((a_lg A).1 % 60) + 1) (nI o) (b + 2) + 1) (b + 3 + kd) + 1)) = _
    rw [pk_un (j := b + 3 + kd) (k := b + 2) (by omega), pk_un (j := b + 3 + kd) (k := b + 43 + 2 * ((a_lg A).1 % 60) + 1) (by omega), pk_un (j := b + 3 + kd) (k := b + 43 + 2 * ((a_lg A).1 % 60)) (by omega), pk_un (j := b + 2) (k := b + 43 + 2 * ((a_lg A).1 % 60) + 1) (by omega), pk_un (j := b + 2) (k := b + 43 + 2 * ((a_lg A).1 % 60)) (by omega), h4, h5 kd hk, nI_1]
  · refine ⟨?_, ?_, ?_, ?_, ?_, ?_, ?_, ?_, ?_, ?_, ?_, ?_, ?_, ?_, ?_, ?_, ?_, ?_, h19⟩
    · intro i hi; rw [pk_un (by omega), pk_un (by omega), pk_un (by omega), pk_un (by omega)]; exact h1 i hi
    · rw [pk_un (by omega), pk_un (by omega), pk_un (by omega), pk_un (by omega)]; exact h2
    · rw [pk_un (by omega), pk_un (by omega), pk_un (by omega), pk_un (by omega)]; exact h3
    · rw [pk_un (by omega), pk_us]; rfl
    · intro k hk2
      show _ = fs (a_lg A).2.2.2 kd ((a_lg A).2.2.2 kd + 1) k
      by_cases q : k = kd
      · subst q; rw [pk_us, fs_s]
      · rw [pk_un (by omega), pk_un (by omega), pk_un (by omega), pk_un (by omega), fs_n q]; exact h5 k hk2
    · intro i hi; have hi2 : i < (a_ls A).length := hi; rw [pk_un (by omega), pk_un (by omega), pk_un (by omega), pk_un (by omega)]; exact h6 i hi2
    · intro i hi; rw [pk_un (by omega), pk_un (by omega), pk_un (by omega), pk_un (by omega)]; exact h7 i hi
    · intro i hi; rw [pk_un (by omega), pk_un (by omega), pk_un (by omega), pk_un (by omega)]; exact h8 i hi
    · intro p hp
      show _ = fs (a_lg A).2.1 ((a_lg A).1 % 60) (nI kd) p
      rw [pk_un (by omega), pk_un (by omega), pk_un (by omega)]
      by_cases q : p = (a_lg A).1 % 60
      · rw [q, pk_us, fs_s]
      · rw [pk_un (by omega), fs_n q]; exact h9 p hp
    · intro p hp
      show _ = fs (a_lg A).2.2.1 ((a_lg A).1 % 60) (nI o) p
      rw [pk_un (by omega), pk_un (by omega)]
      by_cases q : p = (a_lg A).1 % 60
      · rw [q, pk_us, fs_s]
      · rw [pk_un (by omega), pk_un (by omega), fs_n q]; exact h10 p hp
    · intro i hi; rw [pk_un (by omega), pk_un (by omega), pk_un (by omega), pk_un (by omega)]; exact h11 i hi
    · intro i hi ht; rw [pk_un (by omega), pk_un (by omega), pk_un (by omega), pk_un (by omega)]; exact h12 i hi ht
    · intro i hi ht; rw [pk_un (by omega), pk_un (by omega), pk_un (by omega), pk_un (by omega)]; exact h13 i hi ht
    · intro i hi ht; rw [pk_un (by omega), pk_un (by omega), pk_un (by omega), pk_un (by omega)]; exact h14 i hi ht
    · intro i hi ht; rw [pk_un (by omega), pk_un (by omega), pk_un (by omega), pk_un (by omega)]; exact h15 i hi ht
    · intro i hi ht; rw [pk_un (by omega), pk_un (by omega), pk_un (by omega), pk_un (by omega)]; exact h16 i hi ht
    · intro i hi ht; rw [pk_un (by omega), pk_un (by omega), pk_un (by omega), pk_un (by omega)]; exact h17 i hi ht
    · intro i j hi hj ht; rw [pk_un (by omega), pk_un (by omega), pk_un (by omega), pk_un (by omega)]; exact h18 i j hi hj ht
