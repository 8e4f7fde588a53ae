set_option maxRecDepth 100000 in
set_option maxHeartbeats 4000000 in
theorem c_X6 {l : Launch} {Y : YC} {h0 sz : Nat}  : Mc l yX6_init cX6_init 1 1 40 Y [.ref h0] [(h0, .inr (6, [.null, .int 0, .int 0, .int 0]))] sz (fun H => ∃ q1 : Nat, va_P Y.1 vwCl [(h0, .inr (6, [.ref q1, .int 0, .int 0, .int 0])), (q1, .inl (Y.2.1, 24, .inl (fun _ => 0)))] H ∧ va_D (va_A [(h0, .inr (6, [.null, .int 0, .int 0, .int 0]))] sz) [(h0, .inr (6, [.ref q1, .int 0, .int 0, .int 0])), (q1, .inl (Y.2.1, 24, .inl (fun _ => 0)))]) 1 24 := by
  refine Mc.start (lv := [(0, .ref h0)]) (by decide) rfl (Nat.le_of_ble_eq_true rfl) rfl ?_
  intro p e s m below meth c A F hr hlk hin C hsz hP hD hAq hAe ls hl
  rw [← hAe]
  have hS : va_S A s.heap s.heap [] := va_S.rf
  refine lv_aload_n F.1 F.2.1 dX6_init_0 rfl (lv_at hl 0 rfl) ?_
  refine W.objInit F.1 F.2.1 F.2.2.2.1 (F.2.2.2.2 _ (bw_t 45 (by decide +kernel) rfl)) (F.2.2.2.2 _ (bw_t 32 (by decide +kernel) rfl)) (F.2.2.2.2 _ (bw_t 33 (by decide +kernel) rfl)) rfl (by rw [F.2.2.1]; exact hl.1) rfl dX6_init_1 (Nat.le_of_ble_eq_true rfl) (Nat.le_of_ble_eq_true rfl) ?_
  refine W.eq (g2 := F0 m 4 ls []) rfl ?_
  refine lv_aload_n F.1 F.2.1 dX6_init_4 rfl (lv_at hl 0 rfl) ?_
  refine lv_bipush (v := 24) F.1 F.2.1 dX6_init_5 (by decide) ?_
  refine ct_newi (N := 24) F C hP hD hS hAq (by decide) rfl (Nat.le_of_ble_eq_true rfl) (Nat.le_of_ble_eq_true rfl) (Nat.le_of_ble_eq_true rfl) dX6_init_7 (fun q1 H hP hD hS => ?_)
  have hP : va_P Y.1 vwCl [(h0, .inr (6, [.null, .int 0, .int 0, .int 0])), (q1, .inl (Y.2.1, 24, .inl (fun _ => 0)))] H := hP
  have hD : va_D A [(h0, .inr (6, [.null, .int 0, .int 0, .int 0])), (q1, .inl (Y.2.1, 24, .inl (fun _ => 0)))] := hD
  refine va_putF (ci := 6) (v := .ref q1) (ty := .array .int) (C := RX6) (T := TX6) (N := 4) F.1 F.2.1 F.2.2.2.2 inX6 tyX6 tyX6_ok nmX6 F.2.2.2.1 C.1 hP hD hS 0 rfl rfl 0 (by decide) (F.2.2.2.2 _ (bw_t 46 (by decide +kernel) rfl)) (fun _ h => h) rfl hin rfl (by decide +kernel) rfl rfl (Nat.le_of_ble_eq_true rfl) dX6_init_9 (fun H locs hP hD hS => ?_)
  have hP : va_P Y.1 vwCl [(h0, .inr (6, [.ref q1, .int 0, .int 0, .int 0])), (q1, .inl (Y.2.1, 24, .inl (fun _ => 0)))] H := hP
  have hD : va_D A [(h0, .inr (6, [.ref q1, .int 0, .int 0, .int 0])), (q1, .inl (Y.2.1, 24, .inl (fun _ => 0)))] := hD
  exact ct_ret (B := fun H => ∃ q1 : Nat, va_P Y.1 vwCl [(h0, .inr (6, [.ref q1, .int 0, .int 0, .int 0])), (q1, .inl (Y.2.1, 24, .inl (fun _ => 0)))] H ∧ va_D A [(h0, .inr (6, [.ref q1, .int 0, .int 0, .int 0])), (q1, .inl (Y.2.1, 24, .inl (fun _ => 0)))]) F hr hlk ⟨q1, hP, hD⟩ hS dX6_init_12

set_option maxRecDepth 100000 in
set_option maxHeartbeats 4000000 in
theorem c_X4 {l : Launch} {Y : YC} {h0 sz : Nat}  : Mc l yX4_init cX4_init 1 1 40 Y [.ref h0] [(h0, .inr (4, [.null, .null, .null, .int 0]))] sz (fun H => ∃ q1 : Nat, ∃ q2 : Nat, ∃ q3 : Nat, va_P Y.1 vwCl [(h0, .inr (4, [.ref q1, .ref q2, .ref q3, .int 0])), (q1, .inl (Y.2.1, 60, .inl (fun _ => 0))), (q2, .inl (Y.2.1, 60, .inl (fun _ => 0))), (q3, .inl (Y.2.1, 6, .inl (fun _ => 0)))] H ∧ va_D (va_A [(h0, .inr (4, [.null, .null, .null, .int 0]))] sz) [(h0, .inr (4, [.ref q1, .ref q2, .ref q3, .int 0])), (q1, .inl (Y.2.1, 60, .inl (fun _ => 0))), (q2, .inl (Y.2.1, 60, .inl (fun _ => 0))), (q3, .inl (Y.2.1, 6, .inl (fun _ => 0)))]) 3 126 := by
  refine Mc.start (lv := [(0, .ref h0)]) (by decide) rfl (Nat.le_of_ble_eq_true rfl) rfl ?_
  intro p e s m below meth c A F hr hlk hin C hsz hP hD hAq hAe ls hl
  rw [← hAe]
  have hS : va_S A s.heap s.heap [] := va_S.rf
  refine lv_aload_n F.1 F.2.1 dX4_init_0 rfl (lv_at hl 0 rfl) ?_
  refine W.objInit F.1 F.2.1 F.2.2.2.1 (F.2.2.2.2 _ (bw_t 72 (by decide +kernel) rfl)) (F.2.2.2.2 _ (bw_t 32 (by decide +kernel) rfl)) (F.2.2.2.2 _ (bw_t 33 (by decide +kernel) rfl)) rfl (by rw [F.2.2.1]; exact hl.1) rfl dX4_init_1 (Nat.le_of_ble_eq_true rfl) (Nat.le_of_ble_eq_true rfl) ?_
  refine W.eq (g2 := F0 m 4 ls []) rfl ?_
  refine lv_aload_n F.1 F.2.1 dX4_init_4 rfl (lv_at hl 0 rfl) ?_
  refine lv_bipush (v := 60) F.1 F.2.1 dX4_init_5 (by decide) ?_
  refine ct_newi (N := 60) F C hP hD hS hAq (by decide) rfl (Nat.le_of_ble_eq_true rfl) (Nat.le_of_ble_eq_true rfl) (Nat.le_of_ble_eq_true rfl) dX4_init_7 (fun q1 H hP hD hS => ?_)
  have hP : va_P Y.1 vwCl [(h0, .inr (4, [.null, .null, .null, .int 0])), (q1, .inl (Y.2.1, 60, .inl (fun _ => 0)))] H := hP
  have hD : va_D A [(h0, .inr (4, [.null, .null, .null, .int 0])), (q1, .inl (Y.2.1, 60, .inl (fun _ => 0)))] := hD
  refine va_putF (ci := 4) (v := .ref q1) (ty := .array .int) (C := RX4) (T := TX4) (N := 4) F.1 F.2.1 F.2.2.2.2 inX4 tyX4 tyX4_ok nmX4 F.2.2.2.1 C.1 hP hD hS 0 rfl rfl 0 (by decide) (F.2.2.2.2 _ (bw_t 73 (by decide +kernel) rfl)) (fun _ h => h) rfl hin rfl (by decide +kernel) rfl rfl (Nat.le_of_ble_eq_true rfl) dX4_init_9 (fun H locs hP hD hS => ?_)
  have hP : va_P Y.1 vwCl [(h0, .inr (4, [.ref q1, .null, .null, .int 0])), (q1, .inl (Y.2.1, 60, .inl (fun _ => 0)))] H := hP
  have hD : va_D A [(h0, .inr (4, [.ref q1, .null, .null, .int 0])), (q1, .inl (Y.2.1, 60, .inl (fun _ => 0)))] := hD
  refine lv_aload_n F.1 F.2.1 dX4_init_12 rfl (lv_at hl 0 rfl) ?_
  refine lv_bipush (v := 60) F.1 F.2.1 dX4_init_13 (by decide) ?_
  refine ct_newi (N := 60) F C hP hD hS hAq (by decide) rfl (Nat.le_of_ble_eq_true rfl) (Nat.le_of_ble_eq_true rfl) (Nat.le_of_ble_eq_true rfl) dX4_init_15 (fun q2 H hP hD hS => ?_)
  have hP : va_P Y.1 vwCl [(h0, .inr (4, [.ref q1, .null, .null, .int 0])), (q1, .inl (Y.2.1, 60, .inl (fun _ => 0))), (q2, .inl (Y.2.1, 60, .inl (fun _ => 0)))] H := hP
  have hD : va_D A [(h0, .inr (4, [.ref q1, .null, .null, .int 0])), (q1, .inl (Y.2.1, 60, .inl (fun _ => 0))), (q2, .inl (Y.2.1, 60, .inl (fun _ => 0)))] := hD
  refine va_putF (ci := 4) (v := .ref q2) (ty := .array .int) (C := RX4) (T := TX4) (N := 4) F.1 F.2.1 F.2.2.2.2 inX4 tyX4 tyX4_ok nmX4 F.2.2.2.1 C.1 hP hD hS 0 rfl rfl 1 (by decide) (F.2.2.2.2 _ (bw_t 74 (by decide +kernel) rfl)) (fun _ h => h) rfl hin rfl (by decide +kernel) rfl rfl (Nat.le_of_ble_eq_true rfl) dX4_init_17 (fun H locs hP hD hS => ?_)
  have hP : va_P Y.1 vwCl [(h0, .inr (4, [.ref q1, .ref q2, .null, .int 0])), (q1, .inl (Y.2.1, 60, .inl (fun _ => 0))), (q2, .inl (Y.2.1, 60, .inl (fun _ => 0)))] H := hP
  have hD : va_D A [(h0, .inr (4, [.ref q1, .ref q2, .null, .int 0])), (q1, .inl (Y.2.1, 60, .inl (fun _ => 0))), (q2, .inl (Y.2.1, 60, .inl (fun _ => 0)))] := hD
  refine lv_aload_n F.1 F.2.1 dX4_init_20 rfl (lv_at hl 0 rfl) ?_
  refine lv_bipush (v := 6) F.1 F.2.1 dX4_init_21 (by decide) ?_
  refine ct_newi (N := 6) F C hP hD hS hAq (by decide) rfl (Nat.le_of_ble_eq_true rfl) (Nat.le_of_ble_eq_true rfl) (Nat.le_of_ble_eq_true rfl) dX4_init_23 (fun q3 H hP hD hS => ?_)
  have hP : va_P Y.1 vwCl [(h0, .inr (4, [.ref q1, .ref q2, .null, .int 0])), (q1, .inl (Y.2.1, 60, .inl (fun _ => 0))), (q2, .inl (Y.2.1, 60, .inl (fun _ => 0))), (q3, .inl (Y.2.1, 6, .inl (fun _ => 0)))] H := hP
  have hD : va_D A [(h0, .inr (4, [.ref q1, .ref q2, .null, .int 0])), (q1, .inl (Y.2.1, 60, .inl (fun _ => 0))), (q2, .inl (Y.2.1, 60, .inl (fun _ => 0))), (q3, .inl (Y.2.1, 6, .inl (fun _ => 0)))] := hD
  refine va_putF (ci := 4) (v := .ref q3) (ty := .array .int) (C := RX4) (T := TX4) (N := 4) F.1 F.2.1 F.2.2.2.2 inX4 tyX4 tyX4_ok nmX4 F.2.2.2.1 C.1 hP hD hS 0 rfl rfl 2 (by decide) (F.2.2.2.2 _ (bw_t 75 (by decide +kernel) rfl)) (fun _ h => h) rfl hin rfl (by decide +kernel) rfl rfl (Nat.le_of_ble_eq_true rfl) dX4_init_25 (fun H locs hP hD hS => ?_)
  have hP : va_P Y.1 vwCl [(h0, .inr (4, [.ref q1, .ref q2, .ref q3, .int 0])), (q1, .inl (Y.2.1, 60, .inl (fun _ => 0))), (q2, .inl (Y.2.1, 60, .inl (fun _ => 0))), (q3, .inl (Y.2.1, 6, .inl (fun _ => 0)))] H := hP
  have hD : va_D A [(h0, .inr (4, [.ref q1, .ref q2, .ref q3, .int 0])), (q1, .inl (Y.2.1, 60, .inl (fun _ => 0))), (q2, .inl (Y.2.1, 60, .inl (fun _ => 0))), (q3, .inl (Y.2.1, 6, .inl (fun _ => 0)))] := hD
  exact ct_ret (B := fun H => ∃ q1 : Nat, ∃ q2 : Nat, ∃ q3 : Nat, va_P Y.1 vwCl [(h0, .inr (4, [.ref q1, .ref q2, .ref q3, .int 0])), (q1, .inl (Y.2.1, 60, .inl (fun _ => 0))), (q2, .inl (Y.2.1, 60, .inl (fun _ => 0))), (q3, .inl (Y.2.1, 6, .inl (fun _ => 0)))] H ∧ va_D A [(h0, .inr (4, [.ref q1, .ref q2, .ref q3, .int 0])), (q1, .inl (Y.2.1, 60, .inl (fun _ => 0))), (q2, .inl (Y.2.1, 60, .inl (fun _ => 0))), (q3, .inl (Y.2.1, 6, .inl (fun _ => 0)))]) F hr hlk ⟨q1, q2, q3, hP, hD⟩ hS dX4_init_28

set_option maxRecDepth 100000 in
set_option maxHeartbeats 4000000 in
theorem c_X8 {l : Launch} {Y : YC} {h0 sz : Nat}  : Mc l yX8_init cX8_init 1 1 40 Y [.ref h0] [(h0, .inr (8, [.null, .int 0]))] sz (fun H => ∃ q1 : Nat, va_P Y.1 vwCl [(h0, .inr (8, [.ref q1, .int 0])), (q1, .inl (Y.2.2.1, 24, .inr (.inl (fun _ => 0))))] H ∧ va_D (va_A [(h0, .inr (8, [.null, .int 0]))] sz) [(h0, .inr (8, [.ref q1, .int 0])), (q1, .inl (Y.2.2.1, 24, .inr (.inl (fun _ => 0))))]) 1 24 := by
  refine Mc.start (lv := [(0, .ref h0)]) (by decide) rfl (Nat.le_of_ble_eq_true rfl) rfl ?_
  intro p e s m below meth c A F hr hlk hin C hsz hP hD hAq hAe ls hl
  rw [← hAe]
  have hS : va_S A s.heap s.heap [] := va_S.rf
  refine lv_aload_n F.1 F.2.1 dX8_init_0 rfl (lv_at hl 0 rfl) ?_
  refine W.objInit F.1 F.2.1 F.2.2.2.1 (F.2.2.2.2 _ (bw_t 181 (by decide +kernel) rfl)) (F.2.2.2.2 _ (bw_t 32 (by decide +kernel) rfl)) (F.2.2.2.2 _ (bw_t 33 (by decide +kernel) rfl)) rfl (by rw [F.2.2.1]; exact hl.1) rfl dX8_init_1 (Nat.le_of_ble_eq_true rfl) (Nat.le_of_ble_eq_true rfl) ?_
  refine W.eq (g2 := F0 m 4 ls []) rfl ?_
  refine lv_aload_n F.1 F.2.1 dX8_init_4 rfl (lv_at hl 0 rfl) ?_
  refine lv_bipush (v := 24) F.1 F.2.1 dX8_init_5 (by decide) ?_
  refine ct_newl (N := 24) F C hP hD hS hAq (by decide) rfl (Nat.le_of_ble_eq_true rfl) (Nat.le_of_ble_eq_true rfl) (Nat.le_of_ble_eq_true rfl) dX8_init_7 (fun q1 H hP hD hS => ?_)
  have hP : va_P Y.1 vwCl [(h0, .inr (8, [.null, .int 0])), (q1, .inl (Y.2.2.1, 24, .inr (.inl (fun _ => 0))))] H := hP
  have hD : va_D A [(h0, .inr (8, [.null, .int 0])), (q1, .inl (Y.2.2.1, 24, .inr (.inl (fun _ => 0))))] := hD
  refine va_putF (ci := 8) (v := .ref q1) (ty := .array .long) (C := RX8) (T := TX8) (N := 2) F.1 F.2.1 F.2.2.2.2 inX8 tyX8 tyX8_ok nmX8 F.2.2.2.1 C.1 hP hD hS 0 rfl rfl 0 (by decide) (F.2.2.2.2 _ (bw_t 182 (by decide +kernel) rfl)) (fun _ h => h) rfl hin rfl (by decide +kernel) rfl rfl (Nat.le_of_ble_eq_true rfl) dX8_init_9 (fun H locs hP hD hS => ?_)
  have hP : va_P Y.1 vwCl [(h0, .inr (8, [.ref q1, .int 0])), (q1, .inl (Y.2.2.1, 24, .inr (.inl (fun _ => 0))))] H := hP
  have hD : va_D A [(h0, .inr (8, [.ref q1, .int 0])), (q1, .inl (Y.2.2.1, 24, .inr (.inl (fun _ => 0))))] := hD
  exact ct_ret (B := fun H => ∃ q1 : Nat, va_P Y.1 vwCl [(h0, .inr (8, [.ref q1, .int 0])), (q1, .inl (Y.2.2.1, 24, .inr (.inl (fun _ => 0))))] H ∧ va_D A [(h0, .inr (8, [.ref q1, .int 0])), (q1, .inl (Y.2.2.1, 24, .inr (.inl (fun _ => 0))))]) F hr hlk ⟨q1, hP, hD⟩ hS dX8_init_12

set_option maxRecDepth 100000 in
set_option maxHeartbeats 4000000 in
theorem c_X7 {l : Launch} {Y : YC} {h0 sz : Nat}  : Mc l yX7_init cX7_init 1 1 40 Y [.ref h0] [(h0, .inr (7, [.null, .int 0, .int 0]))] sz (fun H => ∃ q1 : Nat, va_P Y.1 vwCl [(h0, .inr (7, [.ref q1, .int 0, .int 0])), (q1, .inl (Y.2.1, 80, .inl (fun _ => 0)))] H ∧ va_D (va_A [(h0, .inr (7, [.null, .int 0, .int 0]))] sz) [(h0, .inr (7, [.ref q1, .int 0, .int 0])), (q1, .inl (Y.2.1, 80, .inl (fun _ => 0)))]) 1 80 := by
  refine Mc.start (lv := [(0, .ref h0)]) (by decide) rfl (Nat.le_of_ble_eq_true rfl) rfl ?_
  intro p e s m below meth c A F hr hlk hin C hsz hP hD hAq hAe ls hl
  rw [← hAe]
  have hS : va_S A s.heap s.heap [] := va_S.rf
  refine lv_aload_n F.1 F.2.1 dX7_init_0 rfl (lv_at hl 0 rfl) ?_
  refine W.objInit F.1 F.2.1 F.2.2.2.1 (F.2.2.2.2 _ (bw_t 197 (by decide +kernel) rfl)) (F.2.2.2.2 _ (bw_t 32 (by decide +kernel) rfl)) (F.2.2.2.2 _ (bw_t 33 (by decide +kernel) rfl)) rfl (by rw [F.2.2.1]; exact hl.1) rfl dX7_init_1 (Nat.le_of_ble_eq_true rfl) (Nat.le_of_ble_eq_true rfl) ?_
  refine W.eq (g2 := F0 m 4 ls []) rfl ?_
  refine lv_aload_n F.1 F.2.1 dX7_init_4 rfl (lv_at hl 0 rfl) ?_
  refine lv_bipush (v := 80) F.1 F.2.1 dX7_init_5 (by decide) ?_
  refine ct_newi (N := 80) F C hP hD hS hAq (by decide) rfl (Nat.le_of_ble_eq_true rfl) (Nat.le_of_ble_eq_true rfl) (Nat.le_of_ble_eq_true rfl) dX7_init_7 (fun q1 H hP hD hS => ?_)
  have hP : va_P Y.1 vwCl [(h0, .inr (7, [.null, .int 0, .int 0])), (q1, .inl (Y.2.1, 80, .inl (fun _ => 0)))] H := hP
  have hD : va_D A [(h0, .inr (7, [.null, .int 0, .int 0])), (q1, .inl (Y.2.1, 80, .inl (fun _ => 0)))] := hD
  refine va_putF (ci := 7) (v := .ref q1) (ty := .array .int) (C := RX7) (T := TX7) (N := 3) F.1 F.2.1 F.2.2.2.2 inX7 tyX7 tyX7_ok nmX7 F.2.2.2.1 C.1 hP hD hS 0 rfl rfl 0 (by decide) (F.2.2.2.2 _ (bw_t 198 (by decide +kernel) rfl)) (fun _ h => h) rfl hin rfl (by decide +kernel) rfl rfl (Nat.le_of_ble_eq_true rfl) dX7_init_9 (fun H locs hP hD hS => ?_)
  have hP : va_P Y.1 vwCl [(h0, .inr (7, [.ref q1, .int 0, .int 0])), (q1, .inl (Y.2.1, 80, .inl (fun _ => 0)))] H := hP
  have hD : va_D A [(h0, .inr (7, [.ref q1, .int 0, .int 0])), (q1, .inl (Y.2.1, 80, .inl (fun _ => 0)))] := hD
  exact ct_ret (B := fun H => ∃ q1 : Nat, va_P Y.1 vwCl [(h0, .inr (7, [.ref q1, .int 0, .int 0])), (q1, .inl (Y.2.1, 80, .inl (fun _ => 0)))] H ∧ va_D A [(h0, .inr (7, [.ref q1, .int 0, .int 0])), (q1, .inl (Y.2.1, 80, .inl (fun _ => 0)))]) F hr hlk ⟨q1, hP, hD⟩ hS dX7_init_12

set_option maxRecDepth 100000 in
set_option maxHeartbeats 4000000 in
theorem c_X0 {l : Launch} {Y : YC} {h0 sz : Nat}  : Mc l yX0_init cX0_init 1 1 40 Y [.ref h0] [(h0, .inr (0, [.int 0, .int 0, .int 0, .int 0, .int 0]))] sz (fun H => va_P Y.1 vwCl [(h0, .inr (0, [.int 0, .int 0, .int 0, .int 0, .int 0]))] H ∧ va_D (va_A [(h0, .inr (0, [.int 0, .int 0, .int 0, .int 0, .int 0]))] sz) [(h0, .inr (0, [.int 0, .int 0, .int 0, .int 0, .int 0]))]) 0 0 := by
  refine Mc.start (lv := [(0, .ref h0)]) (by decide) rfl (Nat.le_of_ble_eq_true rfl) rfl ?_
  intro p e s m below meth c A F hr hlk hin C hsz hP hD hAq hAe ls hl
  rw [← hAe]
  have hS : va_S A s.heap s.heap [] := va_S.rf
  refine lv_aload_n F.1 F.2.1 dX0_init_0 rfl (lv_at hl 0 rfl) ?_
  refine W.objInit F.1 F.2.1 F.2.2.2.1 (F.2.2.2.2 _ (bw_t 214 (by decide +kernel) rfl)) (F.2.2.2.2 _ (bw_t 32 (by decide +kernel) rfl)) (F.2.2.2.2 _ (bw_t 33 (by decide +kernel) rfl)) rfl (by rw [F.2.2.1]; exact hl.1) rfl dX0_init_1 (Nat.le_of_ble_eq_true rfl) (Nat.le_of_ble_eq_true rfl) ?_
  refine W.eq (g2 := F0 m 4 ls []) rfl ?_
  exact ct_ret (B := fun H => va_P Y.1 vwCl [(h0, .inr (0, [.int 0, .int 0, .int 0, .int 0, .int 0]))] H ∧ va_D A [(h0, .inr (0, [.int 0, .int 0, .int 0, .int 0, .int 0]))]) F hr hlk ⟨hP, hD⟩ hS dX0_init_4

set_option maxRecDepth 100000 in
set_option maxHeartbeats 4000000 in
theorem c_X10 {l : Launch} {Y : YC} {h0 sz : Nat}  : Mc l yX10_init cX10_init 1 1 40 Y [.ref h0] [(h0, .inr (10, [.null]))] sz (fun H => ∃ q1 : Nat, va_P Y.1 vwCl [(h0, .inr (10, [.ref q1])), (q1, .inl (Y.2.1, 24, .inl (fun _ => 0)))] H ∧ va_D (va_A [(h0, .inr (10, [.null]))] sz) [(h0, .inr (10, [.ref q1])), (q1, .inl (Y.2.1, 24, .inl (fun _ => 0)))]) 1 24 := by
  refine Mc.start (lv := [(0, .ref h0)]) (by decide) rfl (Nat.le_of_ble_eq_true rfl) rfl ?_
  intro p e s m below meth c A F hr hlk hin C hsz hP hD hAq hAe ls hl
  rw [← hAe]
  have hS : va_S A s.heap s.heap [] := va_S.rf
  refine lv_aload_n F.1 F.2.1 dX10_init_0 rfl (lv_at hl 0 rfl) ?_
  refine W.objInit F.1 F.2.1 F.2.2.2.1 (F.2.2.2.2 _ (bw_t 241 (by decide +kernel) rfl)) (F.2.2.2.2 _ (bw_t 32 (by decide +kernel) rfl)) (F.2.2.2.2 _ (bw_t 33 (by decide +kernel) rfl)) rfl (by rw [F.2.2.1]; exact hl.1) rfl dX10_init_1 (Nat.le_of_ble_eq_true rfl) (Nat.le_of_ble_eq_true rfl) ?_
  refine W.eq (g2 := F0 m 4 ls []) rfl ?_
  refine lv_aload_n F.1 F.2.1 dX10_init_4 rfl (lv_at hl 0 rfl) ?_
  refine lv_bipush (v := 24) F.1 F.2.1 dX10_init_5 (by decide) ?_
  refine ct_newi (N := 24) F C hP hD hS hAq (by decide) rfl (Nat.le_of_ble_eq_true rfl) (Nat.le_of_ble_eq_true rfl) (Nat.le_of_ble_eq_true rfl) dX10_init_7 (fun q1 H hP hD hS => ?_)
  have hP : va_P Y.1 vwCl [(h0, .inr (10, [.null])), (q1, .inl (Y.2.1, 24, .inl (fun _ => 0)))] H := hP
  have hD : va_D A [(h0, .inr (10, [.null])), (q1, .inl (Y.2.1, 24, .inl (fun _ => 0)))] := hD
  refine va_putF (ci := 10) (v := .ref q1) (ty := .array .int) (C := RX10) (T := TX10) (N := 1) F.1 F.2.1 F.2.2.2.2 inX10 tyX10 tyX10_ok nmX10 F.2.2.2.1 C.1 hP hD hS 0 rfl rfl 0 (by decide) (F.2.2.2.2 _ (bw_t 242 (by decide +kernel) rfl)) (fun _ h => h) rfl hin rfl (by decide +kernel) rfl rfl (Nat.le_of_ble_eq_true rfl) dX10_init_9 (fun H locs hP hD hS => ?_)
  have hP : va_P Y.1 vwCl [(h0, .inr (10, [.ref q1])), (q1, .inl (Y.2.1, 24, .inl (fun _ => 0)))] H := hP
  have hD : va_D A [(h0, .inr (10, [.ref q1])), (q1, .inl (Y.2.1, 24, .inl (fun _ => 0)))] := hD
  exact ct_ret (B := fun H => ∃ q1 : Nat, va_P Y.1 vwCl [(h0, .inr (10, [.ref q1])), (q1, .inl (Y.2.1, 24, .inl (fun _ => 0)))] H ∧ va_D A [(h0, .inr (10, [.ref q1])), (q1, .inl (Y.2.1, 24, .inl (fun _ => 0)))]) F hr hlk ⟨q1, hP, hD⟩ hS dX10_init_12

set_option maxRecDepth 100000 in
set_option maxHeartbeats 4000000 in
theorem c_X2 {l : Launch} {Y : YC} {h0 sz : Nat}  : Mc l yX2_init cX2_init 1 1 40 Y [.ref h0] [(h0, .inr (2, [.null, .int 0]))] sz (fun H => ∃ q1 : Nat, va_P Y.1 vwCl [(h0, .inr (2, [.ref q1, .int 0])), (q1, .inl (Y.2.1, 24, .inl (fun _ => 0)))] H ∧ va_D (va_A [(h0, .inr (2, [.null, .int 0]))] sz) [(h0, .inr (2, [.ref q1, .int 0])), (q1, .inl (Y.2.1, 24, .inl (fun _ => 0)))]) 1 24 := by
  refine Mc.start (lv := [(0, .ref h0)]) (by decide) rfl (Nat.le_of_ble_eq_true rfl) rfl ?_
  intro p e s m below meth c A F hr hlk hin C hsz hP hD hAq hAe ls hl
  rw [← hAe]
  have hS : va_S A s.heap s.heap [] := va_S.rf
  refine lv_aload_n F.1 F.2.1 dX2_init_0 rfl (lv_at hl 0 rfl) ?_
  refine W.objInit F.1 F.2.1 F.2.2.2.1 (F.2.2.2.2 _ (bw_t 252 (by decide +kernel) rfl)) (F.2.2.2.2 _ (bw_t 32 (by decide +kernel) rfl)) (F.2.2.2.2 _ (bw_t 33 (by decide +kernel) rfl)) rfl (by rw [F.2.2.1]; exact hl.1) rfl dX2_init_1 (Nat.le_of_ble_eq_true rfl) (Nat.le_of_ble_eq_true rfl) ?_
  refine W.eq (g2 := F0 m 4 ls []) rfl ?_
  refine lv_aload_n F.1 F.2.1 dX2_init_4 rfl (lv_at hl 0 rfl) ?_
  refine lv_bipush (v := 24) F.1 F.2.1 dX2_init_5 (by decide) ?_
  refine ct_newi (N := 24) F C hP hD hS hAq (by decide) rfl (Nat.le_of_ble_eq_true rfl) (Nat.le_of_ble_eq_true rfl) (Nat.le_of_ble_eq_true rfl) dX2_init_7 (fun q1 H hP hD hS => ?_)
  have hP : va_P Y.1 vwCl [(h0, .inr (2, [.null, .int 0])), (q1, .inl (Y.2.1, 24, .inl (fun _ => 0)))] H := hP
  have hD : va_D A [(h0, .inr (2, [.null, .int 0])), (q1, .inl (Y.2.1, 24, .inl (fun _ => 0)))] := hD
  refine va_putF (ci := 2) (v := .ref q1) (ty := .array .int) (C := RX2) (T := TX2) (N := 2) F.1 F.2.1 F.2.2.2.2 inX2 tyX2 tyX2_ok nmX2 F.2.2.2.1 C.1 hP hD hS 0 rfl rfl 0 (by decide) (F.2.2.2.2 _ (bw_t 253 (by decide +kernel) rfl)) (fun _ h => h) rfl hin rfl (by decide +kernel) rfl rfl (Nat.le_of_ble_eq_true rfl) dX2_init_9 (fun H locs hP hD hS => ?_)
  have hP : va_P Y.1 vwCl [(h0, .inr (2, [.ref q1, .int 0])), (q1, .inl (Y.2.1, 24, .inl (fun _ => 0)))] H := hP
  have hD : va_D A [(h0, .inr (2, [.ref q1, .int 0])), (q1, .inl (Y.2.1, 24, .inl (fun _ => 0)))] := hD
  exact ct_ret (B := fun H => ∃ q1 : Nat, va_P Y.1 vwCl [(h0, .inr (2, [.ref q1, .int 0])), (q1, .inl (Y.2.1, 24, .inl (fun _ => 0)))] H ∧ va_D A [(h0, .inr (2, [.ref q1, .int 0])), (q1, .inl (Y.2.1, 24, .inl (fun _ => 0)))]) F hr hlk ⟨q1, hP, hD⟩ hS dX2_init_12

set_option maxRecDepth 100000 in
set_option maxHeartbeats 4000000 in
theorem c_X9 {l : Launch} {Y : YC} {h0 sz : Nat} {a1 : Nat} : Mc l yX9_init cX9_init 2 1 40 Y [.ref h0, .ref a1] [(h0, .inr (9, [.null, .null, .null, .null, .null, .null, .int 0, .int 0]))] sz (fun H => ∃ q1 : Nat, ∃ q2 : Nat, ∃ q3 : Nat, ∃ q4 : Nat, ∃ q5 : Nat, va_P Y.1 vwCl [(h0, .inr (9, [.ref a1, .ref q1, .ref q2, .ref q3, .ref q4, .ref q5, .int 0, .int 0])), (q1, .inl (Y.2.1, 24, .inl (fun _ => 0))), (q2, .inl (Y.2.1, 24, .inl (fun _ => 0))), (q3, .inl (Y.2.1, 24, .inl (fun _ => 0))), (q4, .inl (Y.2.1, 24, .inl (fun _ => 0))), (q5, .inl (Y.2.1, 24, .inl (fun _ => 0)))] H ∧ va_D (va_A [(h0, .inr (9, [.null, .null, .null, .null, .null, .null, .int 0, .int 0]))] sz) [(h0, .inr (9, [.ref a1, .ref q1, .ref q2, .ref q3, .ref q4, .ref q5, .int 0, .int 0])), (q1, .inl (Y.2.1, 24, .inl (fun _ => 0))), (q2, .inl (Y.2.1, 24, .inl (fun _ => 0))), (q3, .inl (Y.2.1, 24, .inl (fun _ => 0))), (q4, .inl (Y.2.1, 24, .inl (fun _ => 0))), (q5, .inl (Y.2.1, 24, .inl (fun _ => 0)))]) 5 120 := by
  refine Mc.start (lv := [(0, .ref h0), (1, .ref a1)]) (by decide) rfl (Nat.le_of_ble_eq_true rfl) rfl ?_
  intro p e s m below meth c A F hr hlk hin C hsz hP hD hAq hAe ls hl
  rw [← hAe]
  have hS : va_S A s.heap s.heap [] := va_S.rf
  refine lv_aload_n F.1 F.2.1 dX9_init_0 rfl (lv_at hl 0 rfl) ?_
  refine W.objInit F.1 F.2.1 F.2.2.2.1 (F.2.2.2.2 _ (bw_t 265 (by decide +kernel) rfl)) (F.2.2.2.2 _ (bw_t 32 (by decide +kernel) rfl)) (F.2.2.2.2 _ (bw_t 33 (by decide +kernel) rfl)) rfl (by rw [F.2.2.1]; exact hl.1) rfl dX9_init_1 (Nat.le_of_ble_eq_true rfl) (Nat.le_of_ble_eq_true rfl) ?_
  refine W.eq (g2 := F0 m 4 ls []) rfl ?_
  refine lv_aload_n F.1 F.2.1 dX9_init_4 rfl (lv_at hl 0 rfl) ?_
  refine lv_bipush (v := 24) F.1 F.2.1 dX9_init_5 (by decide) ?_
  refine ct_newi (N := 24) F C hP hD hS hAq (by decide) rfl (Nat.le_of_ble_eq_true rfl) (Nat.le_of_ble_eq_true rfl) (Nat.le_of_ble_eq_true rfl) dX9_init_7 (fun q1 H hP hD hS => ?_)
  have hP : va_P Y.1 vwCl [(h0, .inr (9, [.null, .null, .null, .null, .null, .null, .int 0, .int 0])), (q1, .inl (Y.2.1, 24, .inl (fun _ => 0)))] H := hP
  have hD : va_D A [(h0, .inr (9, [.null, .null, .null, .null, .null, .null, .int 0, .int 0])), (q1, .inl (Y.2.1, 24, .inl (fun _ => 0)))] := hD
  refine va_putF (ci := 9) (v := .ref q1) (ty := .array .int) (C := RX9) (T := TX9) (N := 8) F.1 F.2.1 F.2.2.2.2 inX9 tyX9 tyX9_ok nmX9 F.2.2.2.1 C.1 hP hD hS 0 rfl rfl 1 (by decide) (F.2.2.2.2 _ (bw_t 267 (by decide +kernel) rfl)) (fun _ h => h) rfl hin rfl (by decide +kernel) rfl rfl (Nat.le_of_ble_eq_true rfl) dX9_init_9 (fun H locs hP hD hS => ?_)
  have hP : va_P Y.1 vwCl [(h0, .inr (9, [.null, .ref q1, .null, .null, .null, .null, .int 0, .int 0])), (q1, .inl (Y.2.1, 24, .inl (fun _ => 0)))] H := hP
  have hD : va_D A [(h0, .inr (9, [.null, .ref q1, .null, .null, .null, .null, .int 0, .int 0])), (q1, .inl (Y.2.1, 24, .inl (fun _ => 0)))] := hD
  refine lv_aload_n F.1 F.2.1 dX9_init_12 rfl (lv_at hl 0 rfl) ?_
  refine lv_bipush (v := 24) F.1 F.2.1 dX9_init_13 (by decide) ?_
  refine ct_newi (N := 24) F C hP hD hS hAq (by decide) rfl (Nat.le_of_ble_eq_true rfl) (Nat.le_of_ble_eq_true rfl) (Nat.le_of_ble_eq_true rfl) dX9_init_15 (fun q2 H hP hD hS => ?_)
  have hP : va_P Y.1 vwCl [(h0, .inr (9, [.null, .ref q1, .null, .null, .null, .null, .int 0, .int 0])), (q1, .inl (Y.2.1, 24, .inl (fun _ => 0))), (q2, .inl (Y.2.1, 24, .inl (fun _ => 0)))] H := hP
  have hD : va_D A [(h0, .inr (9, [.null, .ref q1, .null, .null, .null, .null, .int 0, .int 0])), (q1, .inl (Y.2.1, 24, .inl (fun _ => 0))), (q2, .inl (Y.2.1, 24, .inl (fun _ => 0)))] := hD
  refine va_putF (ci := 9) (v := .ref q2) (ty := .array .int) (C := RX9) (T := TX9) (N := 8) F.1 F.2.1 F.2.2.2.2 inX9 tyX9 tyX9_ok nmX9 F.2.2.2.1 C.1 hP hD hS 0 rfl rfl 2 (by decide) (F.2.2.2.2 _ (bw_t 268 (by decide +kernel) rfl)) (fun _ h => h) rfl hin rfl (by decide +kernel) rfl rfl (Nat.le_of_ble_eq_true rfl) dX9_init_17 (fun H locs hP hD hS => ?_)
  have hP : va_P Y.1 vwCl [(h0, .inr (9, [.null, .ref q1, .ref q2, .null, .null, .null, .int 0, .int 0])), (q1, .inl (Y.2.1, 24, .inl (fun _ => 0))), (q2, .inl (Y.2.1, 24, .inl (fun _ => 0)))] H := hP
  have hD : va_D A [(h0, .inr (9, [.null, .ref q1, .ref q2, .null, .null, .null, .int 0, .int 0])), (q1, .inl (Y.2.1, 24, .inl (fun _ => 0))), (q2, .inl (Y.2.1, 24, .inl (fun _ => 0)))] := hD
  refine lv_aload_n F.1 F.2.1 dX9_init_20 rfl (lv_at hl 0 rfl) ?_
  refine lv_bipush (v := 24) F.1 F.2.1 dX9_init_21 (by decide) ?_
  refine ct_newi (N := 24) F C hP hD hS hAq (by decide) rfl (Nat.le_of_ble_eq_true rfl) (Nat.le_of_ble_eq_true rfl) (Nat.le_of_ble_eq_true rfl) dX9_init_23 (fun q3 H hP hD hS => ?_)
  have hP : va_P Y.1 vwCl [(h0, .inr (9, [.null, .ref q1, .ref q2, .null, .null, .null, .int 0, .int 0])), (q1, .inl (Y.2.1, 24, .inl (fun _ => 0))), (q2, .inl (Y.2.1, 24, .inl (fun _ => 0))), (q3, .inl (Y.2.1, 24, .inl (fun _ => 0)))] H := hP
  have hD : va_D A [(h0, .inr (9, [.null, .ref q1, .ref q2, .null, .null, .null, .int 0, .int 0])), (q1, .inl (Y.2.1, 24, .inl (fun _ => 0))), (q2, .inl (Y.2.1, 24, .inl (fun _ => 0))), (q3, .inl (Y.2.1, 24, .inl (fun _ => 0)))] := hD
  refine va_putF (ci := 9) (v := .ref q3) (ty := .array .int) (C := RX9) (T := TX9) (N := 8) F.1 F.2.1 F.2.2.2.2 inX9 tyX9 tyX9_ok nmX9 F.2.2.2.1 C.1 hP hD hS 0 rfl rfl 3 (by decide) (F.2.2.2.2 _ (bw_t 269 (by decide +kernel) rfl)) (fun _ h => h) rfl hin rfl (by decide +kernel) rfl rfl (Nat.le_of_ble_eq_true rfl) dX9_init_25 (fun H locs hP hD hS => ?_)
  have hP : va_P Y.1 vwCl [(h0, .inr (9, [.null, .ref q1, .ref q2, .ref q3, .null, .null, .int 0, .int 0])), (q1, .inl (Y.2.1, 24, .inl (fun _ => 0))), (q2, .inl (Y.2.1, 24, .inl (fun _ => 0))), (q3, .inl (Y.2.1, 24, .inl (fun _ => 0)))] H := hP
  have hD : va_D A [(h0, .inr (9, [.null, .ref q1, .ref q2, .ref q3, .null, .null, .int 0, .int 0])), (q1, .inl (Y.2.1, 24, .inl (fun _ => 0))), (q2, .inl (Y.2.1, 24, .inl (fun _ => 0))), (q3, .inl (Y.2.1, 24, .inl (fun _ => 0)))] := hD
  refine lv_aload_n F.1 F.2.1 dX9_init_28 rfl (lv_at hl 0 rfl) ?_
  refine lv_bipush (v := 24) F.1 F.2.1 dX9_init_29 (by decide) ?_
  refine ct_newi (N := 24) F C hP hD hS hAq (by decide) rfl (Nat.le_of_ble_eq_true rfl) (Nat.le_of_ble_eq_true rfl) (Nat.le_of_ble_eq_true rfl) dX9_init_31 (fun q4 H hP hD hS => ?_)
  have hP : va_P Y.1 vwCl [(h0, .inr (9, [.null, .ref q1, .ref q2, .ref q3, .null, .null, .int 0, .int 0])), (q1, .inl (Y.2.1, 24, .inl (fun _ => 0))), (q2, .inl (Y.2.1, 24, .inl (fun _ => 0))), (q3, .inl (Y.2.1, 24, .inl (fun _ => 0))), (q4, .inl (Y.2.1, 24, .inl (fun _ => 0)))] H := hP
  have hD : va_D A [(h0, .inr (9, [.null, .ref q1, .ref q2, .ref q3, .null, .null, .int 0, .int 0])), (q1, .inl (Y.2.1, 24, .inl (fun _ => 0))), (q2, .inl (Y.2.1, 24, .inl (fun _ => 0))), (q3, .inl (Y.2.1, 24, .inl (fun _ => 0))), (q4, .inl (Y.2.1, 24, .inl (fun _ => 0)))] := hD
  refine va_putF (ci := 9) (v := .ref q4) (ty := .array .int) (C := RX9) (T := TX9) (N := 8) F.1 F.2.1 F.2.2.2.2 inX9 tyX9 tyX9_ok nmX9 F.2.2.2.1 C.1 hP hD hS 0 rfl rfl 4 (by decide) (F.2.2.2.2 _ (bw_t 270 (by decide +kernel) rfl)) (fun _ h => h) rfl hin rfl (by decide +kernel) rfl rfl (Nat.le_of_ble_eq_true rfl) dX9_init_33 (fun H locs hP hD hS => ?_)
  have hP : va_P Y.1 vwCl [(h0, .inr (9, [.null, .ref q1, .ref q2, .ref q3, .ref q4, .null, .int 0, .int 0])), (q1, .inl (Y.2.1, 24, .inl (fun _ => 0))), (q2, .inl (Y.2.1, 24, .inl (fun _ => 0))), (q3, .inl (Y.2.1, 24, .inl (fun _ => 0))), (q4, .inl (Y.2.1, 24, .inl (fun _ => 0)))] H := hP
  have hD : va_D A [(h0, .inr (9, [.null, .ref q1, .ref q2, .ref q3, .ref q4, .null, .int 0, .int 0])), (q1, .inl (Y.2.1, 24, .inl (fun _ => 0))), (q2, .inl (Y.2.1, 24, .inl (fun _ => 0))), (q3, .inl (Y.2.1, 24, .inl (fun _ => 0))), (q4, .inl (Y.2.1, 24, .inl (fun _ => 0)))] := hD
  refine lv_aload_n F.1 F.2.1 dX9_init_36 rfl (lv_at hl 0 rfl) ?_
  refine lv_bipush (v := 24) F.1 F.2.1 dX9_init_37 (by decide) ?_
  refine ct_newi (N := 24) F C hP hD hS hAq (by decide) rfl (Nat.le_of_ble_eq_true rfl) (Nat.le_of_ble_eq_true rfl) (Nat.le_of_ble_eq_true rfl) dX9_init_39 (fun q5 H hP hD hS => ?_)
  have hP : va_P Y.1 vwCl [(h0, .inr (9, [.null, .ref q1, .ref q2, .ref q3, .ref q4, .null, .int 0, .int 0])), (q1, .inl (Y.2.1, 24, .inl (fun _ => 0))), (q2, .inl (Y.2.1, 24, .inl (fun _ => 0))), (q3, .inl (Y.2.1, 24, .inl (fun _ => 0))), (q4, .inl (Y.2.1, 24, .inl (fun _ => 0))), (q5, .inl (Y.2.1, 24, .inl (fun _ => 0)))] H := hP
  have hD : va_D A [(h0, .inr (9, [.null, .ref q1, .ref q2, .ref q3, .ref q4, .null, .int 0, .int 0])), (q1, .inl (Y.2.1, 24, .inl (fun _ => 0))), (q2, .inl (Y.2.1, 24, .inl (fun _ => 0))), (q3, .inl (Y.2.1, 24, .inl (fun _ => 0))), (q4, .inl (Y.2.1, 24, .inl (fun _ => 0))), (q5, .inl (Y.2.1, 24, .inl (fun _ => 0)))] := hD
  refine va_putF (ci := 9) (v := .ref q5) (ty := .array .int) (C := RX9) (T := TX9) (N := 8) F.1 F.2.1 F.2.2.2.2 inX9 tyX9 tyX9_ok nmX9 F.2.2.2.1 C.1 hP hD hS 0 rfl rfl 5 (by decide) (F.2.2.2.2 _ (bw_t 271 (by decide +kernel) rfl)) (fun _ h => h) rfl hin rfl (by decide +kernel) rfl rfl (Nat.le_of_ble_eq_true rfl) dX9_init_41 (fun H locs hP hD hS => ?_)
  have hP : va_P Y.1 vwCl [(h0, .inr (9, [.null, .ref q1, .ref q2, .ref q3, .ref q4, .ref q5, .int 0, .int 0])), (q1, .inl (Y.2.1, 24, .inl (fun _ => 0))), (q2, .inl (Y.2.1, 24, .inl (fun _ => 0))), (q3, .inl (Y.2.1, 24, .inl (fun _ => 0))), (q4, .inl (Y.2.1, 24, .inl (fun _ => 0))), (q5, .inl (Y.2.1, 24, .inl (fun _ => 0)))] H := hP
  have hD : va_D A [(h0, .inr (9, [.null, .ref q1, .ref q2, .ref q3, .ref q4, .ref q5, .int 0, .int 0])), (q1, .inl (Y.2.1, 24, .inl (fun _ => 0))), (q2, .inl (Y.2.1, 24, .inl (fun _ => 0))), (q3, .inl (Y.2.1, 24, .inl (fun _ => 0))), (q4, .inl (Y.2.1, 24, .inl (fun _ => 0))), (q5, .inl (Y.2.1, 24, .inl (fun _ => 0)))] := hD
  refine lv_aload_n F.1 F.2.1 dX9_init_44 rfl (lv_at hl 0 rfl) ?_
  refine lv_aload_n F.1 F.2.1 dX9_init_45 rfl (lv_at hl 1 rfl) ?_
  refine va_putF (ci := 9) (v := .ref a1) (ty := .object "CountedHeap$Counting") (C := RX9) (T := TX9) (N := 8) F.1 F.2.1 F.2.2.2.2 inX9 tyX9 tyX9_ok nmX9 F.2.2.2.1 C.1 hP hD hS 0 rfl rfl 0 (by decide) (F.2.2.2.2 _ (bw_t 266 (by decide +kernel) rfl)) (fun _ h => h) rfl hin rfl (by decide +kernel) rfl rfl (Nat.le_of_ble_eq_true rfl) dX9_init_46 (fun H locs hP hD hS => ?_)
  have hP : va_P Y.1 vwCl [(h0, .inr (9, [.ref a1, .ref q1, .ref q2, .ref q3, .ref q4, .ref q5, .int 0, .int 0])), (q1, .inl (Y.2.1, 24, .inl (fun _ => 0))), (q2, .inl (Y.2.1, 24, .inl (fun _ => 0))), (q3, .inl (Y.2.1, 24, .inl (fun _ => 0))), (q4, .inl (Y.2.1, 24, .inl (fun _ => 0))), (q5, .inl (Y.2.1, 24, .inl (fun _ => 0)))] H := hP
  have hD : va_D A [(h0, .inr (9, [.ref a1, .ref q1, .ref q2, .ref q3, .ref q4, .ref q5, .int 0, .int 0])), (q1, .inl (Y.2.1, 24, .inl (fun _ => 0))), (q2, .inl (Y.2.1, 24, .inl (fun _ => 0))), (q3, .inl (Y.2.1, 24, .inl (fun _ => 0))), (q4, .inl (Y.2.1, 24, .inl (fun _ => 0))), (q5, .inl (Y.2.1, 24, .inl (fun _ => 0)))] := hD
  exact ct_ret (B := fun H => ∃ q1 : Nat, ∃ q2 : Nat, ∃ q3 : Nat, ∃ q4 : Nat, ∃ q5 : Nat, va_P Y.1 vwCl [(h0, .inr (9, [.ref a1, .ref q1, .ref q2, .ref q3, .ref q4, .ref q5, .int 0, .int 0])), (q1, .inl (Y.2.1, 24, .inl (fun _ => 0))), (q2, .inl (Y.2.1, 24, .inl (fun _ => 0))), (q3, .inl (Y.2.1, 24, .inl (fun _ => 0))), (q4, .inl (Y.2.1, 24, .inl (fun _ => 0))), (q5, .inl (Y.2.1, 24, .inl (fun _ => 0)))] H ∧ va_D A [(h0, .inr (9, [.ref a1, .ref q1, .ref q2, .ref q3, .ref q4, .ref q5, .int 0, .int 0])), (q1, .inl (Y.2.1, 24, .inl (fun _ => 0))), (q2, .inl (Y.2.1, 24, .inl (fun _ => 0))), (q3, .inl (Y.2.1, 24, .inl (fun _ => 0))), (q4, .inl (Y.2.1, 24, .inl (fun _ => 0))), (q5, .inl (Y.2.1, 24, .inl (fun _ => 0)))]) F hr hlk ⟨q1, q2, q3, q4, q5, hP, hD⟩ hS dX9_init_49

set_option maxRecDepth 100000 in
set_option maxHeartbeats 4000000 in
theorem c_X1 {l : Launch} {Y : YC} {h0 sz : Nat} {a1 : Nat} {a2 : Nat} {a3 : Nat} : Mc l yX1_init cX1_init 4 1 40 Y [.ref h0, .ref a1, .ref a2, .ref a3] [(h0, .inr (1, [.null, .null, .null]))] sz (fun H => va_P Y.1 vwCl [(h0, .inr (1, [.ref a1, .ref a2, .ref a3]))] H ∧ va_D (va_A [(h0, .inr (1, [.null, .null, .null]))] sz) [(h0, .inr (1, [.ref a1, .ref a2, .ref a3]))]) 0 0 := by
  refine Mc.start (lv := [(0, .ref h0), (1, .ref a1), (2, .ref a2), (3, .ref a3)]) (by decide) rfl (Nat.le_of_ble_eq_true rfl) rfl ?_
  intro p e s m below meth c A F hr hlk hin C hsz hP hD hAq hAe ls hl
  rw [← hAe]
  have hS : va_S A s.heap s.heap [] := va_S.rf
  refine lv_aload_n F.1 F.2.1 dX1_init_0 rfl (lv_at hl 0 rfl) ?_
  refine W.objInit F.1 F.2.1 F.2.2.2.1 (F.2.2.2.2 _ (bw_t 297 (by decide +kernel) rfl)) (F.2.2.2.2 _ (bw_t 32 (by decide +kernel) rfl)) (F.2.2.2.2 _ (bw_t 33 (by decide +kernel) rfl)) rfl (by rw [F.2.2.1]; exact hl.1) rfl dX1_init_1 (Nat.le_of_ble_eq_true rfl) (Nat.le_of_ble_eq_true rfl) ?_
  refine W.eq (g2 := F0 m 4 ls []) rfl ?_
  refine lv_aload_n F.1 F.2.1 dX1_init_4 rfl (lv_at hl 0 rfl) ?_
  refine lv_aload_n F.1 F.2.1 dX1_init_5 rfl (lv_at hl 1 rfl) ?_
  refine va_putF (ci := 1) (v := .ref a1) (ty := .object "CountedHeap$Counting") (C := RX1) (T := TX1) (N := 3) F.1 F.2.1 F.2.2.2.2 inX1 tyX1 tyX1_ok nmX1 F.2.2.2.1 C.1 hP hD hS 0 rfl rfl 0 (by decide) (F.2.2.2.2 _ (bw_t 298 (by decide +kernel) rfl)) (fun _ h => h) rfl hin rfl (by decide +kernel) rfl rfl (Nat.le_of_ble_eq_true rfl) dX1_init_6 (fun H locs hP hD hS => ?_)
  have hP : va_P Y.1 vwCl [(h0, .inr (1, [.ref a1, .null, .null]))] H := hP
  have hD : va_D A [(h0, .inr (1, [.ref a1, .null, .null]))] := hD
  refine lv_aload_n F.1 F.2.1 dX1_init_9 rfl (lv_at hl 0 rfl) ?_
  refine lv_aload_n F.1 F.2.1 dX1_init_10 rfl (lv_at hl 2 rfl) ?_
  refine va_putF (ci := 1) (v := .ref a2) (ty := .object "CountedHeap$Trial") (C := RX1) (T := TX1) (N := 3) F.1 F.2.1 F.2.2.2.2 inX1 tyX1 tyX1_ok nmX1 F.2.2.2.1 C.1 hP hD hS 0 rfl rfl 1 (by decide) (F.2.2.2.2 _ (bw_t 299 (by decide +kernel) rfl)) (fun _ h => h) rfl hin rfl (by decide +kernel) rfl rfl (Nat.le_of_ble_eq_true rfl) dX1_init_11 (fun H locs hP hD hS => ?_)
  have hP : va_P Y.1 vwCl [(h0, .inr (1, [.ref a1, .ref a2, .null]))] H := hP
  have hD : va_D A [(h0, .inr (1, [.ref a1, .ref a2, .null]))] := hD
  refine lv_aload_n F.1 F.2.1 dX1_init_14 rfl (lv_at hl 0 rfl) ?_
  refine lv_aload_n F.1 F.2.1 dX1_init_15 rfl (lv_at hl 3 rfl) ?_
  refine va_putF (ci := 1) (v := .ref a3) (ty := .object "CountedHeap$Ways") (C := RX1) (T := TX1) (N := 3) F.1 F.2.1 F.2.2.2.2 inX1 tyX1 tyX1_ok nmX1 F.2.2.2.1 C.1 hP hD hS 0 rfl rfl 2 (by decide) (F.2.2.2.2 _ (bw_t 300 (by decide +kernel) rfl)) (fun _ h => h) rfl hin rfl (by decide +kernel) rfl rfl (Nat.le_of_ble_eq_true rfl) dX1_init_16 (fun H locs hP hD hS => ?_)
  have hP : va_P Y.1 vwCl [(h0, .inr (1, [.ref a1, .ref a2, .ref a3]))] H := hP
  have hD : va_D A [(h0, .inr (1, [.ref a1, .ref a2, .ref a3]))] := hD
  exact ct_ret (B := fun H => va_P Y.1 vwCl [(h0, .inr (1, [.ref a1, .ref a2, .ref a3]))] H ∧ va_D A [(h0, .inr (1, [.ref a1, .ref a2, .ref a3]))]) F hr hlk ⟨hP, hD⟩ hS dX1_init_19
