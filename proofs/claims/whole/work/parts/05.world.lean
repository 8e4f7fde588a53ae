/-! the class's world: thirteen heaps of fourteen cells, 21 others -/
abbrev ZC : Type := va_G × (Nat → Nat) × ClassId × ClassId × ClassId
def hA (Z : ZC) (j t : Nat) : Nat := Z.2.1 (14 * j + t)
def oA (Z : ZC) (k : Nat) : Nat := Z.2.1 (182 + k)
def isNest : Cond → Bool
  | .fieldLinkNest _ _ _ _ _ _ => true
  | .methodLinkNest _ _ _ _ => true
  | _ => false
theorem nest_warm {w : Cond} (h : isNest w = true) {s U : State} (hW : s.WarmedH U.vm) (hz : va_Nw w s) : va_Nw w U := by
  cases w <;> first | exact va_Nw.warmF hW hz | exact va_Nw.warmM hW hz | cases h
theorem nest_same {w : Cond} (h : isNest w = true) {s U : State} (hv : s.vm = U.vm) (hz : va_Nw w s) : va_Nw w U := by
  cases w <;> first | exact va_Nw.same rfl hv hz | cases h
def NW (s : State) : Prop := ∀ (k : Nat) (w : Cond), tables_1[k]? = some w → isNest w = true → va_Nw w s
theorem NW.use {s : State} {w : Cond} {args : Array Value} (h : NW s) (k : Nat) (hk : tables_1[k]? = some w) (hn : isNest w = true) (ht : w.onTables = true) : w.before args s = true := va_Nw.use ht (h k w hk hn)
def updH (HS : Nat → Nat → Nat → Int32) (j : Nat) (X : Nat → Nat → Int32) : Nat → Nat → Nat → Int32 := fun i => if i = j then X else HS i
def up2 (X : Nat → Nat → Int32) (t i : Nat) (v : Int32) : Nat → Nat → Int32 := fun a => if a = t then upd (X t) i v else X a
def upR (X : Nat → Nat → Int32) (t : Nat) (f : Nat → Int32) : Nat → Nat → Int32 := fun a => if a = t then f else X a
theorem upR_ne {X : Nat → Nat → Int32} {t a : Nat} {f : Nat → Int32} (h : a ≠ t) : upR X t f a = X a := by simp [upR, h]
theorem upR_at (X : Nat → Nat → Int32) (t : Nat) (f : Nat → Int32) : upR X t f t = f := by simp [upR]
theorem sw_ne {x k : Int32} (h : ¬ x = k) : ¬ x.toInt = k.toInt := fun e => h (Int32.toInt_inj.mp e)
theorem hj_of2 {i : Int32} (h : inb i 2 = true) : 2 + i.toNatClampNeg < 13 := by simp [inb] at h; omega
theorem hj_of4 {i : Int32} (h : inb i 9 = true) : 4 + i.toNatClampNeg < 13 := by simp [inb] at h; omega
theorem updH_at (HS : Nat → Nat → Nat → Int32) (j : Nat) (X : Nat → Nat → Int32) : updH HS j X j = X := by simp [updH]
theorem updH_upd (HS : Nat → Nat → Nat → Int32) (j : Nat) (X Y : Nat → Nat → Int32) : updH (updH HS j X) j Y = updH HS j Y := by funext i; simp only [updH]; split <;> rfl
theorem updH_eq {HS : Nat → Nat → Nat → Int32} {j : Nat} {X : Nat → Nat → Int32} (h : HS j = X) : updH HS j X = HS := by
  funext i; simp only [updH]; split
  · rename_i q; rw [q, h]
  · rfl
theorem updH_self (HS : Nat → Nat → Nat → Int32) (j : Nat) : updH HS j (HS j) = HS := updH_eq rfl
theorem updH_let {HS : Nat → Nat → Nat → Int32} {j : Nat} {X Y Y1 : Nat → Nat → Int32} (h : Y1 = Y) : updH (updH HS j X) j Y = updH HS j Y1 := by rw [updH_upd, h]
theorem up2_ne {X : Nat → Nat → Int32} {t i a : Nat} {v : Int32} (h : a ≠ t) : up2 X t i v a = X a := by simp [up2, h]
theorem up2_at (X : Nat → Nat → Int32) (t i : Nat) (v : Int32) : up2 X t i v t = upd (X t) i v := by simp [up2]

def eH (Z : ZC) (j : Nat) (X : Nat → Nat → Int32) (t : Nat) : va_E := match t with
  | 0 => .inr (3, [.int (X 0 0), .int (X 0 1), .int (X 0 2), .ref (hA Z j 1), .ref (hA Z j 2), .ref (hA Z j 3), .ref (hA Z j 4), .ref (hA Z j 5), .ref (hA Z j 6), .ref (hA Z j 7), .ref (hA Z j 8), .ref (hA Z j 10)])
  | 1 => .inl (Z.2.2.1, 24, .inl (X 1))
  | 2 => .inl (Z.2.2.1, 24, .inl (X 2))
  | 3 => .inl (Z.2.2.1, 24, .inl (X 3))
  | 4 => .inl (Z.2.2.1, 24, .inl (X 4))
  | 5 => .inl (Z.2.2.1, 96, .inl (X 5))
  | 6 => .inl (Z.2.2.1, 6, .inl (X 6))
  | 7 => .inl (Z.2.2.1, 4, .inl (X 7))
  | 8 => .inr (6, [.ref (hA Z j 9), .int (X 8 1), .int (X 8 2), .int (X 8 3)])
  | 9 => .inl (Z.2.2.1, 24, .inl (X 9))
  | 10 => .inr (4, [.ref (hA Z j 11), .ref (hA Z j 12), .ref (hA Z j 13), .int (X 10 3)])
  | 11 => .inl (Z.2.2.1, 60, .inl (X 11))
  | 12 => .inl (Z.2.2.1, 60, .inl (X 12))
  | _ => .inl (Z.2.2.1, 6, .inl (X 13))
def eO (Z : ZC) (zkb : Int32) (zdr : Int32) (zky : Nat → Int32) (zpn : Int32) (zps : Int32) (ztz : Int32) (ztn : Nat → Int64) (zxz : Int32) (zxa : Int32) (zsg : Nat → Int32) (za0 : Int32) (za1 : Int32) (za2 : Int32) (za3 : Int32) (za4 : Int32) (zfr : Nat → Int32) (zcd : Int32) (zgo : Nat → Int32) (ztd : Int32) (ztv : Int32) (zcl : Nat → Int32) (zca : Nat → Int32) (zwa : Nat → Int32) (zpt : Nat → Int32) (zpf : Nat → Int32) : List va_E := [.inr (11, [.ref (hA Z 0 0), .ref (hA Z 1 0), .ref (oA Z 1), .int zkb, .ref (oA Z 2), .ref (oA Z 4), .ref (oA Z 6), .ref (oA Z 8), .ref (oA Z 9), .ref (oA Z 11), .ref (oA Z 13), .ref (oA Z 19), .ref (oA Z 20), .int zdr]), .inl (Z.2.2.2.2, 2, .inr (.inr (.inr (.inr (fun i => some (hA Z (2 + i) 0)))))), .inr (5, [.ref (oA Z 3), .int zpn, .int zps]), .inl (Z.2.2.2.2, 9, .inr (.inr (.inr (.inr (fun i => some (hA Z (4 + i) 0)))))), .inr (8, [.ref (oA Z 5), .int ztz]), .inl (Z.2.2.2.1, 24, .inr (.inl ztn)), .inr (7, [.ref (oA Z 7), .int zxz, .int zxa]), .inl (Z.2.2.1, 80, .inl zsg), .inr (0, [.int za0, .int za1, .int za2, .int za3, .int za4]), .inr (10, [.ref (oA Z 10)]), .inl (Z.2.2.1, 24, .inl zfr), .inr (2, [.ref (oA Z 12), .int zcd]), .inl (Z.2.2.1, 24, .inl zgo), .inr (9, [.ref (oA Z 11), .ref (oA Z 14), .ref (oA Z 15), .ref (oA Z 16), .ref (oA Z 17), .ref (oA Z 18), .int ztd, .int ztv]), .inl (Z.2.2.1, 24, .inl zcl), .inl (Z.2.2.1, 24, .inl zca), .inl (Z.2.2.1, 24, .inl zwa), .inl (Z.2.2.1, 24, .inl zpt), .inl (Z.2.2.1, 24, .inl zpf), .inr (1, [.ref (oA Z 11), .ref (oA Z 13), .ref (oA Z 9)]), .inl (Z.2.2.1, 24, .inl zky)]
def wX (Z : ZC) (HS : Nat → Nat → Nat → Int32) (L : List va_E) : Nat → va_E := fun i => if i < 182 then eH Z (i / 14) (HS (i / 14)) (i % 14) else L.getD (i - 182) (.inr (0, []))
def lX (Z : ZC) (HS : Nat → Nat → Nat → Int32) (L : List va_E) : va_W := (List.range 203).map (fun i => (Z.2.1 i, wX Z HS L i))
def AX (Z : ZC) : Nat → Prop := fun q => ∃ i, i < 203 ∧ q = Z.2.1 i
def tysX (Z : ZC) : List (ClassId × FieldType) := [(Z.2.2.1, .int), (Z.2.2.2.1, .long), (Z.2.2.2.2, .object "CountedHeap$Heap")]
def KX (Z : ZC) (s : State) : Prop := (∀ i k : Nat, i < 203 → k < 203 → Z.2.1 i = Z.2.1 k → i = k) ∧ va_K Z.1 vwCl (tysX Z) s ∧ NW s
theorem okX (Z : ZC) : Kok (AX Z) (KX Z) := ⟨fun s U _ hW _ h => ⟨h.1, va_K.moved hW.alike h.2.1, fun k w hk hn => nest_warm hn hW (h.2.2 k w hk hn)⟩, fun U g mk a h => ⟨h.1, va_K.moved (u := U) (U := U.calling g mk a) (Vm.Alike.refl U.vm) h.2.1, fun k w hk hn => nest_same (s := U) (U := U.calling g mk a) hn rfl (h.2.2 k w hk hn)⟩⟩
theorem lX_get {Z : ZC} {HS : Nat → Nat → Nat → Int32} {L : List va_E} {i : Nat} (h : i < 203) : (lX Z HS L)[i]? = some (Z.2.1 i, wX Z HS L i) := by simp [lX, h]
theorem lX_h {Z : ZC} {HS : Nat → Nat → Nat → Int32} {L : List va_E} {j t : Nat} (hj : j < 13) (ht : t < 14) : (lX Z HS L)[14 * j + t]? = some (hA Z j t, eH Z j (HS j) t) := by
  have h1 : 14 * j + t < 182 := by omega
  have h2 : (14 * j + t) / 14 = j := by omega
  have h3 : (14 * j + t) % 14 = t := by omega
  rw [lX_get (by omega)]
  simp only [wX, if_pos h1, h2, h3, hA]
theorem lX_o {Z : ZC} {HS : Nat → Nat → Nat → Int32} {L : List va_E} {k : Nat} {v : va_E} (hk : k < 21) (h : L.getD k (.inr (0, [])) = v) : (lX Z HS L)[182 + k]? = some (oA Z k, v) := by
  have h1 : ¬ 182 + k < 182 := by omega
  have h2 : 182 + k - 182 = k := by omega
  rw [lX_get (by omega)]
  simp only [wX, if_neg h1, h2, oA, h]
theorem lX_D {Z : ZC} {HS : Nat → Nat → Nat → Int32} {L : List va_E} {s : State} (C : KX Z s) : va_D (AX Z) (lX Z HS L) := by
  have hl : ∀ (i : Nat) (p : Nat × va_E), (lX Z HS L)[i]? = some p → i < 203 ∧ p.1 = Z.2.1 i := by
    intro i p h
    have hi : i < 203 := by
      have := (List.getElem?_eq_some_iff.mp h).1
      simpa [lX] using this
    rw [lX_get hi] at h
    cases h
    exact ⟨hi, rfl⟩
  refine ⟨fun i j p q h1 h2 h3 => ?_, fun k q h => ?_⟩
  · obtain ⟨a1, a2⟩ := hl i p h1
    obtain ⟨b1, b2⟩ := hl j q h2
    exact C.1 i j a1 b1 (by rw [← a2, ← b2, h3])
  · obtain ⟨a1, a2⟩ := hl k q h
    exact ⟨k, a1, a2⟩
theorem eH_same {Z : ZC} {j : Nat} {X Y : Nat → Nat → Int32} {t : Nat} (ht : t < 14) (h : X t = Y t) : eH Z j X t = eH Z j Y t := by
  rcases t with _ | _ | _ | _ | _ | _ | _ | _ | _ | _ | _ | _ | _ | _ | t <;> first | (exfalso; omega) | simp only [eH, h] | (simp only [Nat.zero_add] at h; simp only [eH, h])
theorem lX_setH {Z : ZC} {HS : Nat → Nat → Nat → Int32} {L : List va_E} {j t : Nat} {X : Nat → Nat → Int32} (hj : j < 13) (ht : t < 14) (hX : ∀ a, a ≠ t → X a = HS j a) : (lX Z HS L).set (14 * j + t) (hA Z j t, eH Z j X t) = lX Z (updH HS j X) L := by
  apply List.ext_getElem?
  intro i
  by_cases hi : i < 203
  · rw [lX_get hi, List.getElem?_set]
    by_cases he : 14 * j + t = i
    · rw [if_pos he, if_pos (by simp [lX]; omega)]
      subst he
      have h1 : 14 * j + t < 182 := by omega
      have h2 : (14 * j + t) / 14 = j := by omega
      have h3 : (14 * j + t) % 14 = t := by omega
      simp only [wX, if_pos h1, h2, h3, hA, updH_at]
    · rw [if_neg he, lX_get hi]
      by_cases h1 : i < 182
      · simp only [wX, if_pos h1]
        by_cases h2 : i / 14 = j
        · rw [h2, updH_at]
          have h3 : i % 14 ≠ t := by omega
          rw [eH_same (X := X) (Y := HS j) (by omega) (hX _ h3)]
        · simp only [updH, if_neg h2]
      · simp only [wX, if_neg h1]
  · have e1 : (lX Z (updH HS j X) L)[i]? = none := List.getElem?_eq_none (by simp [lX]; omega)
    have e2 : ((lX Z HS L).set (14 * j + t) (hA Z j t, eH Z j X t))[i]? = none := List.getElem?_eq_none (by simp [lX]; omega)
    rw [e1, e2]
theorem vp_cell_ext {cA : ClassId} {n : Nat} {f g : Nat → Int32} (h : ∀ i, i < n → f i = g i) : vp_cell cA (n, .inl f) = vp_cell cA (n, .inl g) := by
  rw [vp_cell_i, vp_cell_i]
  unfold arrV
  congr 1
  apply Array.ext
  · simp
  · intro i h1 h2
    simp at h1
    simp [h i h1]
theorem va_P_cell {D : va_G} {cl : List vw_C} {ws : va_W} {k a : Nat} {cA : ClassId} {x y : vp_A} {H : Heap} (h : vp_cell cA x = vp_cell cA y) (hP : va_P D cl (ws.set k (a, .inl (cA, x))) H) : va_P D cl (ws.set k (a, .inl (cA, y))) H := by
  intro i q hq
  rw [List.getElem?_set] at hq
  by_cases he : k = i
  · rw [if_pos he] at hq
    by_cases hl : k < ws.length
    · rw [if_pos hl] at hq
      cases hq
      have h1 := hP i (a, .inl (cA, x)) (by rw [List.getElem?_set, if_pos he, if_pos hl])
      show H[a]? = _
      rw [← h]
      exact h1
    · rw [if_neg hl] at hq
      cases hq
  · rw [if_neg he] at hq
    exact hP i q (by rw [List.getElem?_set, if_neg he]; exact hq)
theorem lX_setO {Z : ZC} {HS : Nat → Nat → Nat → Int32} {L : List va_E} {k : Nat} {v : va_E} (hk : k < 21) (hL : L.length = 21) : (lX Z HS L).set (182 + k) (oA Z k, v) = lX Z HS (L.set k v) := by
  apply List.ext_getElem?
  intro i
  by_cases hi : i < 203
  · rw [lX_get hi, List.getElem?_set]
    by_cases he : 182 + k = i
    · rw [if_pos he, if_pos (by simp [lX]; omega)]
      subst he
      have h1 : ¬ 182 + k < 182 := by omega
      have h2 : 182 + k - 182 = k := by omega
      simp only [wX, if_neg h1, h2, oA]
      simp [hL, hk]
    · rw [if_neg he, lX_get hi]
      by_cases h1 : i < 182
      · simp only [wX, if_pos h1]
      · have h2 : k ≠ i - 182 := by omega
        simp only [wX, if_neg h1]
        simp [List.getElem?_set, h2]
  · have e1 : (lX Z HS (L.set k v))[i]? = none := List.getElem?_eq_none (by simp [lX]; omega)
    have e2 : ((lX Z HS L).set (182 + k) (oA Z k, v))[i]? = none := List.getElem?_eq_none (by simp [lX]; omega)
    rw [e1, e2]
def PX (Z : ZC) (HS : Nat → Nat → Nat → Int32) (zkb : Int32) (zdr : Int32) (zky : Nat → Int32) (zpn : Int32) (zps : Int32) (ztz : Int32) (ztn : Nat → Int64) (zxz : Int32) (zxa : Int32) (zsg : Nat → Int32) (za0 : Int32) (za1 : Int32) (za2 : Int32) (za3 : Int32) (za4 : Int32) (zfr : Nat → Int32) (zcd : Int32) (zgo : Nat → Int32) (ztd : Int32) (ztv : Int32) (zcl : Nat → Int32) (zca : Nat → Int32) (zwa : Nat → Int32) (zpt : Nat → Int32) (zpf : Nat → Int32) (H : Heap) : Prop := va_P Z.1 vwCl (lX Z HS (eO Z zkb zdr zky zpn zps ztz ztn zxz zxa zsg za0 za1 za2 za3 za4 zfr zcd zgo ztd ztv zcl zca zwa zpt zpf)) H
theorem inX0 : ∀ w ∈ wsX00, w ∈ bigW := fun w h => bw_in ((by decide +kernel : ∀ w ∈ wsX00, w ∈ lw_tbl) w h) (List.all_eq_true.mp (by decide +kernel : wsX00.all goodWord = true) w h)
theorem inX1 : ∀ w ∈ wsX10, w ∈ bigW := fun w h => bw_in ((by decide +kernel : ∀ w ∈ wsX10, w ∈ lw_tbl) w h) (List.all_eq_true.mp (by decide +kernel : wsX10.all goodWord = true) w h)
theorem inX2 : ∀ w ∈ wsX20, w ∈ bigW := fun w h => bw_in ((by decide +kernel : ∀ w ∈ wsX20, w ∈ lw_tbl) w h) (List.all_eq_true.mp (by decide +kernel : wsX20.all goodWord = true) w h)
theorem inX3 : ∀ w ∈ wsX30, w ∈ bigW := fun w h => bw_in ((by decide +kernel : ∀ w ∈ wsX30, w ∈ lw_tbl) w h) (List.all_eq_true.mp (by decide +kernel : wsX30.all goodWord = true) w h)
theorem inX4 : ∀ w ∈ wsX40, w ∈ bigW := fun w h => bw_in ((by decide +kernel : ∀ w ∈ wsX40, w ∈ lw_tbl) w h) (List.all_eq_true.mp (by decide +kernel : wsX40.all goodWord = true) w h)
theorem inX5 : ∀ w ∈ wsX50, w ∈ bigW := fun w h => bw_in ((by decide +kernel : ∀ w ∈ wsX50, w ∈ lw_tbl) w h) (List.all_eq_true.mp (by decide +kernel : wsX50.all goodWord = true) w h)
theorem inX6 : ∀ w ∈ wsX60, w ∈ bigW := fun w h => bw_in ((by decide +kernel : ∀ w ∈ wsX60, w ∈ lw_tbl) w h) (List.all_eq_true.mp (by decide +kernel : wsX60.all goodWord = true) w h)
theorem inX7 : ∀ w ∈ wsX70, w ∈ bigW := fun w h => bw_in ((by decide +kernel : ∀ w ∈ wsX70, w ∈ lw_tbl) w h) (List.all_eq_true.mp (by decide +kernel : wsX70.all goodWord = true) w h)
theorem inX8 : ∀ w ∈ wsX80, w ∈ bigW := fun w h => bw_in ((by decide +kernel : ∀ w ∈ wsX80, w ∈ lw_tbl) w h) (List.all_eq_true.mp (by decide +kernel : wsX80.all goodWord = true) w h)
theorem inX9 : ∀ w ∈ wsX90, w ∈ bigW := fun w h => bw_in ((by decide +kernel : ∀ w ∈ wsX90, w ∈ lw_tbl) w h) (List.all_eq_true.mp (by decide +kernel : wsX90.all goodWord = true) w h)
theorem inX10 : ∀ w ∈ wsX100, w ∈ bigW := fun w h => bw_in ((by decide +kernel : ∀ w ∈ wsX100, w ∈ lw_tbl) w h) (List.all_eq_true.mp (by decide +kernel : wsX100.all goodWord = true) w h)
theorem inX11 : ∀ w ∈ wsX110, w ∈ bigW := fun w h => bw_in ((by decide +kernel : ∀ w ∈ wsX110, w ∈ lw_tbl) w h) (List.all_eq_true.mp (by decide +kernel : wsX110.all goodWord = true) w h)
theorem inX12 : ∀ w ∈ wsX120, w ∈ bigW := fun w h => bw_in ((by decide +kernel : ∀ w ∈ wsX120, w ∈ lw_tbl) w h) (List.all_eq_true.mp (by decide +kernel : wsX120.all goodWord = true) w h)
