/-! the start: what the tables and the Statement's premises give -/
theorem st_big {s : State} {args : Array Value} (hts : ∀ w ∈ lw_tbl, w.before args s = true) : ∀ w ∈ bigW, w.before args s = true := fun w h => hts w (List.mem_filter.mp h).1
theorem st_NW {s : State} {args : Array Value} (hts : ∀ w ∈ lw_tbl, w.before args s = true) : NW s := fun k w hk hn => va_Nw.of (by cases w <;> first | rfl | cases hn) (hts w (List.mem_append_right _ (List.mem_of_getElem? hk)))
theorem st_DC {s : State} {args : Array Value} (hts : ∀ w ∈ lw_tbl, w.before args s = true) : DCW s := fun w hw hd => va_Nw.of (by cases w <;> first | rfl | cases hd) (hts w (List.mem_append_right _ hw))
set_option maxRecDepth 20000 in
theorem st_KC {s : State} {args : Array Value} (hts : ∀ w ∈ lw_tbl, w.before args s = true) : ∃ Y : YC, KC Y s := by
  have hB := st_big hts
  obtain ⟨c0, i0, k0⟩ := u_known (C := RX0) (T := TX0) (N := 5) (n := 5) hB inX0 (hB (.instantiable RX0 5) (bw_t 210 (by decide +kernel) rfl))
  obtain ⟨c1, i1, k1⟩ := u_known (C := RX1) (T := TX1) (N := 3) (n := 3) hB inX1 (hB (.instantiable RX1 3) (bw_t 293 (by decide +kernel) rfl))
  obtain ⟨c2, i2, k2⟩ := u_known (C := RX2) (T := TX2) (N := 2) (n := 2) hB inX2 (hB (.instantiable RX2 2) (bw_t 248 (by decide +kernel) rfl))
  obtain ⟨c3, i3, k3⟩ := u_known (C := RX3) (T := TX3) (N := 12) (n := 12) hB inX3 (hB (.instantiable RX3 12) (bw_t 35 (by decide +kernel) rfl))
  obtain ⟨c4, i4, k4⟩ := u_known (C := RX4) (T := TX4) (N := 4) (n := 4) hB inX4 (hB (.instantiable RX4 4) (bw_t 68 (by decide +kernel) rfl))
  obtain ⟨c5, i5, k5⟩ := u_known (C := RX5) (T := TX5) (N := 3) (n := 3) hB inX5 (hB (.instantiable RX5 3) (bw_t 158 (by decide +kernel) rfl))
  obtain ⟨c6, i6, k6⟩ := u_known (C := RX6) (T := TX6) (N := 4) (n := 4) hB inX6 (hB (.instantiable RX6 4) (bw_t 41 (by decide +kernel) rfl))
  obtain ⟨c7, i7, k7⟩ := u_known (C := RX7) (T := TX7) (N := 3) (n := 3) hB inX7 (hB (.instantiable RX7 3) (bw_t 193 (by decide +kernel) rfl))
  obtain ⟨c8, i8, k8⟩ := u_known (C := RX8) (T := TX8) (N := 2) (n := 2) hB inX8 (hB (.instantiable RX8 2) (bw_t 177 (by decide +kernel) rfl))
  obtain ⟨c9, i9, k9⟩ := u_known (C := RX9) (T := TX9) (N := 8) (n := 8) hB inX9 (hB (.instantiable RX9 8) (bw_t 261 (by decide +kernel) rfl))
  obtain ⟨c10, i10, k10⟩ := u_known (C := RX10) (T := TX10) (N := 1) (n := 1) hB inX10 (hB (.instantiable RX10 1) (bw_t 237 (by decide +kernel) rfl))
  obtain ⟨c11, i11, k11⟩ := u_known (C := RX11) (T := TX11) (N := 14) (n := 14) hB inX11 (hB (.instantiable RX11 14) (bw_t 27 (by decide +kernel) rfl))
  obtain ⟨c12, i12, k12⟩ := u_known (C := RX12) (T := TX12) (N := 21) (n := 21) hB inX12 (hB (.instantiable RX12 21) (bw_t 994 (by decide +kernel) rfl))
  obtain ⟨dC, dI, hcl⟩ : ∃ (dC : Nat → ClassId) (dI : Nat → Nat → Nat), ∀ (k : Nat) (q : vw_C), vwCl[k]? = some q → u_Kn s q.1 q.2.1 q.2.2 (dC k) (dI k) := by
    refine ⟨fun k => match k with | 0 => c0 | 1 => c1 | 2 => c2 | 3 => c3 | 4 => c4 | 5 => c5 | 6 => c6 | 7 => c7 | 8 => c8 | 9 => c9 | 10 => c10 | 11 => c11 | _ => c12, fun k => match k with | 0 => i0 | 1 => i1 | 2 => i2 | 3 => i3 | 4 => i4 | 5 => i5 | 6 => i6 | 7 => i7 | 8 => i8 | 9 => i9 | 10 => i10 | 11 => i11 | _ => i12, ?_⟩
    intro k q hq
    match k, hq with
    | 0, hq => cases hq; exact k0
    | 1, hq => cases hq; exact k1
    | 2, hq => cases hq; exact k2
    | 3, hq => cases hq; exact k3
    | 4, hq => cases hq; exact k4
    | 5, hq => cases hq; exact k5
    | 6, hq => cases hq; exact k6
    | 7, hq => cases hq; exact k7
    | 8, hq => cases hq; exact k8
    | 9, hq => cases hq; exact k9
    | 10, hq => cases hq; exact k10
    | 11, hq => cases hq; exact k11
    | 12, hq => cases hq; exact k12
    | k + 13, hq => simp [vwCl] at hq
  obtain ⟨cI, kI, pI, a1, a2, a3⟩ := Cond.arrayClass_spec (hB (.arrayClass .int) (bw_t 66 (by decide +kernel) rfl))
  obtain ⟨cJ, kJ, pJ, b1, b2, b3⟩ := Cond.arrayClass_spec (hB (.arrayClass .long) (bw_t 191 (by decide +kernel) rfl))
  obtain ⟨cZ, kZ, pZ, d1, d2, d3⟩ := Cond.arrayClass_spec (hB (.arrayClass .boolean) (bw_t 1063 (by decide +kernel) rfl))
  have hov : (Cond.arrayOver (.object "CountedHeap$Heap")).before args s = true := hts _ (List.mem_append_right _ (List.mem_of_getElem? (i := 156) (by decide +kernel)))
  obtain ⟨pO, cO, kO, f1, -, f2, f3, f4⟩ := Cond.arrayOver_spec hov
  refine ⟨((dC, dI), cI, cJ, cO, cZ), ⟨hcl, fun k q hk => ?_⟩, st_NW hts, va_AO.of hov⟩
  match k, hk with
  | 0, hk => cases hk; exact ⟨fun n z => ⟨(fun k h => by cases h), kI, a2, pI, a3⟩, a1⟩
  | 1, hk => cases hk; exact ⟨fun n z => ⟨(fun k h => by cases h), kJ, b2, pJ, b3⟩, b1⟩
  | 2, hk => cases hk; exact ⟨fun n z => ⟨(fun k h => by cases h), kO, f2, pO, f3⟩, kO, pO, f2, f3, f1, f4⟩
  | 3, hk => cases hk; exact ⟨fun n z => ⟨(fun k h => by cases h), kZ, d2, pZ, d3⟩, d1⟩
  | k + 4, hk => simp [tysC] at hk

