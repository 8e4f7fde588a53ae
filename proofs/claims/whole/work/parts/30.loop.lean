theorem lg_same (x : Int64) : lg_cmp x x = 0 := by simp [lg_cmp]
set_option maxRecDepth 100000 in
set_option maxHeartbeats 8000000 in
theorem law_loop {p : Program} {l : Launch} {e : Env} {s : State} {m : MethodId} {below : List Frame} {meth : Method} {c : Code} {b L : Nat} {xs : Nat → Int32} {Z Zm : ZC} {Y : YS} {o N : Nat} {INV : Nat → CSt → MSt → Prop} (hmono : ∀ (j : Nat) (x : CSt) (y : MSt), INV j x y → INV (j + 1) x y) (hlt : l.stackTraces = false) (hL : L ≤ 2560) (C9 : lw_At p s m meth c b L xs) (hST : ∀ j : Nat, j < 512 → STall N (INV j) (INV (j + 1))) (G : LW s Z Zm Y o) :
    ∀ (n j : Nat), 5 * j ≤ L → L < 5 * (j + n) + 5 → ∀ (HS : Nat → Nat → Nat → Int32) (zkb : Int32) (zdr : Int32) (zky : Nat → Int32) (zpn : Int32) (zps : Int32) (ztz : Int32) (ztn : Nat → Int64) (zxz : Int32) (zxa : Int32) (zsg : Nat → Int32) (za0 : Int32) (za1 : Int32) (za2 : Int32) (za3 : Int32) (za4 : Int32) (zfr : Nat → Int32) (zcd : Int32) (zgo : Nat → Int32) (ztd : Int32) (ztv : Int32) (zcl : Nat → Int32) (zca : Nat → Int32) (zwa : Nat → Int32) (zpt : Nat → Int32) (zpf : Nat → Int32) (mth : Int32) (mto : Int32) (mrw : Nat → Int64) (mta : Nat → Int32) (mtp : Int32) (mat : Int32) (mtt : Int32) (mme : Nat → Int32) (mun : Int32) (mde : Int32) (mco : Nat → Int32) (mcn : Nat → Int32) (mvi : Int32) (men : Int32) (mfa : Nat → Int32) (mac : Nat → Int32) (mfi : Nat → Int32) (mse : Nat → Int32) (mtd : Nat → Int32) (mra : Int32) (mkp : Nat → Int32) (f : Nat → Int64), INV j (HS, zkb, zdr, zky, zpn, zps, ztz, ztn, zxz, zxa, zsg, za0, za1, za2, za3, za4, zfr, zcd, zgo, ztd, ztv, zcl, zca, zwa, zpt, zpf) (mth, mto, mrw, mta, mtp, mat, mtt, mme, mun, mde, mco, mcn, mvi, men, mfa, mac, mfi, mse, mtd, mra, mkp) → ∀ (H : Heap) (locs : List Loc), PX Z HS zkb zdr zky zpn zps ztz ztn zxz zxa zsg za0 za1 za2 za3 za4 zfr zcd zgo ztd ztv zcl zca zwa zpt zpf H → PM Zm mth mto mrw mta mtp mat mtt mme mun mde mco mcn mvi men mfa mac mfi mse mtd mra mkp H → PO Z o f H → va_S (fun q : Nat => s.heap.size ≤ q) s.heap H locs → ∀ ls : Array Slot, lv_has ls 8 [(0, .ref b), (1, .ref (oA Z 0)), (2, .ref (mA Zm 0)), (3, .ref o), (4, .int (nI (5 * j)))] → W p l e room_1 s m #[Value.ref b] below meth c H locs (216 + j) (11263 + 6 * j) (lw_Z below #[Value.ref b] s) (F0 m 23 ls []) := by
  obtain ⟨hx, hb, hr, hml, hown, hts, hX, hbl, hlocks, hgv⟩ := C9
  have F : CallFix p m c cL_law 8 s #[Value.ref b] bigW RL := ⟨hx, hb, hml, hown, fun w h => hts w (List.mem_filter.mp h).1⟩
  have hbA : ¬ (fun q : Nat => s.heap.size ≤ q) b := Nat.not_le.mpr hbl
  have hAO : ∀ q, AO Z o q → s.heap.size ≤ q := fun q h => h.elim (fun h => G.2.1 q h) (fun h => h ▸ G.2.2.2.1)
  have hexit : ∀ (j : Nat), 5 * j ≤ L → L < 5 * j + 5 → ∀ (HS : Nat → Nat → Nat → Int32) (zkb : Int32) (zdr : Int32) (zky : Nat → Int32) (zpn : Int32) (zps : Int32) (ztz : Int32) (ztn : Nat → Int64) (zxz : Int32) (zxa : Int32) (zsg : Nat → Int32) (za0 : Int32) (za1 : Int32) (za2 : Int32) (za3 : Int32) (za4 : Int32) (zfr : Nat → Int32) (zcd : Int32) (zgo : Nat → Int32) (ztd : Int32) (ztv : Int32) (zcl : Nat → Int32) (zca : Nat → Int32) (zwa : Nat → Int32) (zpt : Nat → Int32) (zpf : Nat → Int32) (mth : Int32) (mto : Int32) (mrw : Nat → Int64) (mta : Nat → Int32) (mtp : Int32) (mat : Int32) (mtt : Int32) (mme : Nat → Int32) (mun : Int32) (mde : Int32) (mco : Nat → Int32) (mcn : Nat → Int32) (mvi : Int32) (men : Int32) (mfa : Nat → Int32) (mac : Nat → Int32) (mfi : Nat → Int32) (mse : Nat → Int32) (mtd : Nat → Int32) (mra : Int32) (mkp : Nat → Int32) (f : Nat → Int64), INV j (HS, zkb, zdr, zky, zpn, zps, ztz, ztn, zxz, zxa, zsg, za0, za1, za2, za3, za4, zfr, zcd, zgo, ztd, ztv, zcl, zca, zwa, zpt, zpf) (mth, mto, mrw, mta, mtp, mat, mtt, mme, mun, mde, mco, mcn, mvi, men, mfa, mac, mfi, mse, mtd, mra, mkp) → ∀ (H : Heap) (locs : List Loc), PX Z HS zkb zdr zky zpn zps ztz ztn zxz zxa zsg za0 za1 za2 za3 za4 zfr zcd zgo ztd ztv zcl zca zwa zpt zpf H → PM Zm mth mto mrw mta mtp mat mtt mme mun mde mco mcn mvi men mfa mac mfi mse mtd mra mkp H → PO Z o f H → va_S (fun q : Nat => s.heap.size ≤ q) s.heap H locs → ∀ ls : Array Slot, lv_has ls 8 [(0, .ref b), (1, .ref (oA Z 0)), (2, .ref (mA Zm 0)), (3, .ref o), (4, .int (nI (5 * j)))] → W p l e room_1 s m #[Value.ref b] below meth c H locs (216 + j) (11263 + 6 * j) (lw_Z below #[Value.ref b] s) (F0 m 23 ls []) := by
    intro j hj hj2 HS zkb zdr zky zpn zps ztz ztn zxz zxa zsg za0 za1 za2 za3 za4 zfr zcd zgo ztd ztv zcl zca zwa zpt zpf mth mto mrw mta mtp mat mtt mme mun mde mco mcn mvi men mfa mac mfi mse mtd mra mkp f hI H locs hPX hPM hPO hS ls hl
    refine lv_iload F.1 F.2.1 dL_law_23 (lv_at hl 4 rfl) ?_
    refine lv_aload_n F.1 F.2.1 dL_law_25 rfl (lv_at hl 0 rfl) ?_
    refine va_slen F.1 F.2.1 hX hbl hbA hS dL_law_26 ?_
    refine lv_iconst (v := 5) F.1 F.2.1 dL_law_27 (by decide) ?_
    refine lv_isub F.1 F.2.1 dL_law_28 ?_
    refine lv_icmp_gt (tgt := 1241) F.1 F.2.1 dL_law_29 (by decide) (fun _ => ?_) (fun hc => absurd ((law_gt hL (by omega)).mpr (by omega)) hc)
    refine lv_iconst (v := 1) F.1 F.2.1 dL_law_1241 (by decide) ?_
    refine va_forget (fun q hq => hS.2.2 q hq) ?_
    refine W.widen (k := 601024) (n := 7293034) (by omega) (by omega) ?_
    exact lw_ret hx hb hr hlocks dL_law_1242
  intro n
  induction n with
  | zero => intro j hj hj2; exact hexit j hj (by omega)
  | succ n ih =>
    intro j hj hj2
    by_cases hjL : L < 5 * j + 5
    · exact hexit j hj hjL
    obtain ⟨h_sign, h_end, h_makes, h_sets, h_roots, h_weaks, h_wakes, h_trial, h_limit, h_object, h_field, h_root, h_all, h_list, h_holders, h_way, h_from, h_rings, h_alone, h_keepers, h_cut, h_would, h_settles, h_ranks, h_log, h_logged, h_day, h_undo, h_years, h_keep, h_again, h_count, h_row⟩ := hST j (by omega)
    intro HS zkb zdr zky zpn zps ztz ztn zxz zxa zsg za0 za1 za2 za3 za4 zfr zcd zgo ztd ztv zcl zca zwa zpt zpf mth mto mrw mta mtp mat mtt mme mun mde mco mcn mvi men mfa mac mfi mse mtd mra mkp f hI H locs hPX hPM hPO hS ls hl
    refine lv_iload F.1 F.2.1 dL_law_23 (lv_at hl 4 rfl) ?_
    refine lv_aload_n F.1 F.2.1 dL_law_25 rfl (lv_at hl 0 rfl) ?_
    refine va_slen F.1 F.2.1 hX hbl hbA hS dL_law_26 ?_
    refine lv_iconst (v := 5) F.1 F.2.1 dL_law_27 (by decide) ?_
    refine lv_isub F.1 F.2.1 dL_law_28 ?_
    refine lv_icmp_gt (tgt := 1241) F.1 F.2.1 dL_law_29 (by decide) (fun hc => absurd ((law_gt hL (by omega)).mp hc) (by omega)) (fun _ => ?_)
    refine lv_aload_n F.1 F.2.1 dL_law_32 rfl (lv_at hl 0 rfl) ?_
    refine lv_iload F.1 F.2.1 dL_law_33 (lv_at hl 4 rfl) ?_
    refine va_sld F.1 F.2.1 hX hbl hbA hS (vp_in_nI (by omega) (by omega)) dL_law_35 ?_
    refine lv_bipush (v := 63) F.1 F.2.1 dL_law_36 (by decide) ?_
    refine lv_iand F.1 F.2.1 dL_law_38 ?_
    refine lv_topi (fun xk exk => ?_)
    by_cases hc0 : xk = 0
    · refine lv_tableIn (tgt := 184) (off := 145) F.1 F.2.1 dL_law_39 (by rw [hc0]; decide) (by rw [hc0]; decide) (by rw [hc0]; rfl) (by decide) ?_
      obtain ⟨r', zxz', zsg', mth', mta', mtp', hE1, hE2, hI⟩ := h_sign HS zkb zdr zky zpn zps ztz ztn zxz zxa zsg za0 za1 za2 za3 za4 zfr zcd zgo ztd ztv zcl zca zwa zpt zpf mth mto mrw mta mtp mat mtt mme mun mde mco mcn mvi men mfa mac mfi mse mtd mra mkp (xs (nI (5 * j + 1)).toNatClampNeg) hI
      refine lv_aload_n F.1 F.2.1 dL_law_184 rfl (lv_at hl 1 rfl) ?_
      refine lv_aload_n F.1 F.2.1 dL_law_185 rfl (lv_at hl 0 rfl) ?_
      refine lv_iload F.1 F.2.1 dL_law_186 (lv_at hl 4 rfl) ?_
      refine lv_iconst (v := 1) F.1 F.2.1 dL_law_188 (by decide) ?_
      refine lv_iadd F.1 F.2.1 dL_law_189 ?_
      refine lv_seti (y := nI (5 * j + 1)) (nI_add (5 * j) 1).symm ?_
      refine va_sld F.1 F.2.1 hX hbl hbA hS (vp_in_nI (by omega) (by omega)) dL_law_190 ?_
      refine lw_i (lw_V (As := [.int (xs (nI (5 * j + 1)).toNatClampNeg)]) (rest := []) F (kX11_sign hE1) (okX Z) G.1.1 hS lkL_33 ⟨Nat.le_of_ble_eq_true rfl, Nat.le_of_ble_eq_true rfl⟩ (rvo0 G.1.1 hPX) hPX rfl hl.1 rfl (lv_room (Nat.le_of_ble_eq_true rfl)) dL_law_191 ⟨by show 216 + j ≤ 601024; omega, by show 11263 + 6 * j ≤ 7293034; omega⟩) hS G.2.1 (fun H1 locs hPX hk hS => ?_)
      have hPM := PM_kept G.1.2.1 hPM hk (fun q h1 h2 => G.2.2.2.2.1 q h2 h1)
      have hPO := PO_kept2 hPO G.1.2.2.2.2.2.2.2.2 hk
      refine lv_aload_n F.1 F.2.1 dL_law_194 rfl (lv_at hl 2 rfl) ?_
      refine lv_aload_n F.1 F.2.1 dL_law_195 rfl (lv_at hl 0 rfl) ?_
      refine lv_iload F.1 F.2.1 dL_law_196 (lv_at hl 4 rfl) ?_
      refine lv_iconst (v := 1) F.1 F.2.1 dL_law_198 (by decide) ?_
      refine lv_iadd F.1 F.2.1 dL_law_199 ?_
      refine lv_seti (y := nI (5 * j + 1)) (nI_add (5 * j) 1).symm ?_
      refine va_sld F.1 F.2.1 hX hbl hbA hS (vp_in_nI (by omega) (by omega)) dL_law_200 ?_
      refine lw_i (lw_V (As := [.int (xs (nI (5 * j + 1)).toNatClampNeg)]) (rest := [.int r']) F (kX12_sign hE2) (okM Zm) G.1.2.1 hS lkL_36 ⟨Nat.le_of_ble_eq_true rfl, Nat.le_of_ble_eq_true rfl⟩ (rvM G.1.2.1 hPM) hPM rfl hl.1 rfl (lv_room (Nat.le_of_ble_eq_true rfl)) dL_law_201 ⟨by show 216 + j ≤ 601024; omega, by show 11263 + 6 * j ≤ 7293034; omega⟩) hS G.2.2.1 (fun H1 locs hPM hk hS => ?_)
      have hPX := PX_kept2 G.1.1 hPX hk (fun q h1 h2 => G.2.2.2.2.1 q h1 h2)
      have hPO := PO_kept2 hPO G.2.2.2.2.2 hk
      refine lv_icmp_eq (tgt := 1235) F.1 F.2.1 dL_law_204 (by decide) (fun _ => ?_) (fun hc => absurd rfl hc)
      refine lv_iinc (v := nI (5 * (j + 1))) (lv' := [(4, .int (nI (5 * (j + 1)))), (0, .ref b), (1, .ref (oA Z 0)), (2, .ref (mA Zm 0)), (3, .ref o)]) F.1 F.2.1 dL_law_1235 hl (k := 4) rfl (nI_add (5 * j) 5) (by decide) rfl (fun ls hl => ?_)
      refine lv_goto (tgt := 23) F.1 F.2.1 dL_law_1238 (by decide) ?_
      refine W.widen (k := 216 + (j + 1)) (n := 11263 + 6 * (j + 1)) (by omega) (by omega) ?_
      exact ih (j + 1) (by omega) (by omega) HS zkb zdr zky zpn zps ztz ztn zxz' zxa zsg' za0 za1 za2 za3 za4 zfr zcd zgo ztd ztv zcl zca zwa zpt zpf mth' mto mrw mta' mtp' mat mtt mme mun mde mco mcn mvi men mfa mac mfi mse mtd mra mkp _ hI _ _ hPX hPM hPO hS ls (lv_sub hl [1, 2, 3, 4, 0] rfl)
    by_cases hc1 : xk = 1
    · refine lv_tableIn (tgt := 209) (off := 170) F.1 F.2.1 dL_law_39 (by rw [hc1]; decide) (by rw [hc1]; decide) (by rw [hc1]; rfl) (by decide) ?_
      obtain ⟨r', zxz', mth', mtp', hE1, hE2, hI⟩ := h_end HS zkb zdr zky zpn zps ztz ztn zxz zxa zsg za0 za1 za2 za3 za4 zfr zcd zgo ztd ztv zcl zca zwa zpt zpf mth mto mrw mta mtp mat mtt mme mun mde mco mcn mvi men mfa mac mfi mse mtd mra mkp (xs (nI (5 * j + 1)).toNatClampNeg) hI
      refine lv_aload_n F.1 F.2.1 dL_law_209 rfl (lv_at hl 1 rfl) ?_
      refine lv_aload_n F.1 F.2.1 dL_law_210 rfl (lv_at hl 0 rfl) ?_
      refine lv_iload F.1 F.2.1 dL_law_211 (lv_at hl 4 rfl) ?_
      refine lv_iconst (v := 1) F.1 F.2.1 dL_law_213 (by decide) ?_
      refine lv_iadd F.1 F.2.1 dL_law_214 ?_
      refine lv_seti (y := nI (5 * j + 1)) (nI_add (5 * j) 1).symm ?_
      refine va_sld F.1 F.2.1 hX hbl hbA hS (vp_in_nI (by omega) (by omega)) dL_law_215 ?_
      refine lw_i (lw_V (As := [.int (xs (nI (5 * j + 1)).toNatClampNeg)]) (rest := []) F (kX11_end hE1) (okX Z) G.1.1 hS lkL_37 ⟨Nat.le_of_ble_eq_true rfl, Nat.le_of_ble_eq_true rfl⟩ (rvo0 G.1.1 hPX) hPX rfl hl.1 rfl (lv_room (Nat.le_of_ble_eq_true rfl)) dL_law_216 ⟨by show 216 + j ≤ 601024; omega, by show 11263 + 6 * j ≤ 7293034; omega⟩) hS G.2.1 (fun H1 locs hPX hk hS => ?_)
      have hPM := PM_kept G.1.2.1 hPM hk (fun q h1 h2 => G.2.2.2.2.1 q h2 h1)
      have hPO := PO_kept2 hPO G.1.2.2.2.2.2.2.2.2 hk
      refine lv_aload_n F.1 F.2.1 dL_law_219 rfl (lv_at hl 2 rfl) ?_
      refine lv_aload_n F.1 F.2.1 dL_law_220 rfl (lv_at hl 0 rfl) ?_
      refine lv_iload F.1 F.2.1 dL_law_221 (lv_at hl 4 rfl) ?_
      refine lv_iconst (v := 1) F.1 F.2.1 dL_law_223 (by decide) ?_
      refine lv_iadd F.1 F.2.1 dL_law_224 ?_
      refine lv_seti (y := nI (5 * j + 1)) (nI_add (5 * j) 1).symm ?_
      refine va_sld F.1 F.2.1 hX hbl hbA hS (vp_in_nI (by omega) (by omega)) dL_law_225 ?_
      refine lw_i (lw_V (As := [.int (xs (nI (5 * j + 1)).toNatClampNeg)]) (rest := [.int r']) F (kX12_end hE2) (okM Zm) G.1.2.1 hS lkL_41 ⟨Nat.le_of_ble_eq_true rfl, Nat.le_of_ble_eq_true rfl⟩ (rvM G.1.2.1 hPM) hPM rfl hl.1 rfl (lv_room (Nat.le_of_ble_eq_true rfl)) dL_law_226 ⟨by show 216 + j ≤ 601024; omega, by show 11263 + 6 * j ≤ 7293034; omega⟩) hS G.2.2.1 (fun H1 locs hPM hk hS => ?_)
      have hPX := PX_kept2 G.1.1 hPX hk (fun q h1 h2 => G.2.2.2.2.1 q h1 h2)
      have hPO := PO_kept2 hPO G.2.2.2.2.2 hk
      refine lv_icmp_eq (tgt := 1235) F.1 F.2.1 dL_law_229 (by decide) (fun _ => ?_) (fun hc => absurd rfl hc)
      refine lv_iinc (v := nI (5 * (j + 1))) (lv' := [(4, .int (nI (5 * (j + 1)))), (0, .ref b), (1, .ref (oA Z 0)), (2, .ref (mA Zm 0)), (3, .ref o)]) F.1 F.2.1 dL_law_1235 hl (k := 4) rfl (nI_add (5 * j) 5) (by decide) rfl (fun ls hl => ?_)
      refine lv_goto (tgt := 23) F.1 F.2.1 dL_law_1238 (by decide) ?_
      refine W.widen (k := 216 + (j + 1)) (n := 11263 + 6 * (j + 1)) (by omega) (by omega) ?_
      exact ih (j + 1) (by omega) (by omega) HS zkb zdr zky zpn zps ztz ztn zxz' zxa zsg za0 za1 za2 za3 za4 zfr zcd zgo ztd ztv zcl zca zwa zpt zpf mth' mto mrw mta mtp' mat mtt mme mun mde mco mcn mvi men mfa mac mfi mse mtd mra mkp _ hI _ _ hPX hPM hPO hS ls (lv_sub hl [1, 2, 3, 4, 0] rfl)
    by_cases hc2 : xk = 2
    · refine lv_tableIn (tgt := 234) (off := 195) F.1 F.2.1 dL_law_39 (by rw [hc2]; decide) (by rw [hc2]; decide) (by rw [hc2]; rfl) (by decide) ?_
      obtain ⟨r', zpn', zps', ztz', ztn', za0', za1', za2', za3', za4', zcd', zgo', ztd', ztv', zcl', zca', zwa', zpt', zpf', HS', mth', mto', mrw', mme', mun', mco', mcn', mvi', hE1, hE2, hI⟩ := h_makes HS zkb zdr zky zpn zps ztz ztn zxz zxa zsg za0 za1 za2 za3 za4 zfr zcd zgo ztd ztv zcl zca zwa zpt zpf mth mto mrw mta mtp mat mtt mme mun mde mco mcn mvi men mfa mac mfi mse mtd mra mkp (xs (nI (5 * j + 1)).toNatClampNeg) (xs (nI (5 * j + 2)).toNatClampNeg) (xs (nI (5 * j + 3)).toNatClampNeg) (xs (nI (5 * j + 4)).toNatClampNeg) hI
      refine lv_aload_n F.1 F.2.1 dL_law_234 rfl (lv_at hl 1 rfl) ?_
      refine lv_aload_n F.1 F.2.1 dL_law_235 rfl (lv_at hl 0 rfl) ?_
      refine lv_iload F.1 F.2.1 dL_law_236 (lv_at hl 4 rfl) ?_
      refine lv_iconst (v := 1) F.1 F.2.1 dL_law_238 (by decide) ?_
      refine lv_iadd F.1 F.2.1 dL_law_239 ?_
      refine lv_seti (y := nI (5 * j + 1)) (nI_add (5 * j) 1).symm ?_
      refine va_sld F.1 F.2.1 hX hbl hbA hS (vp_in_nI (by omega) (by omega)) dL_law_240 ?_
      refine lv_aload_n F.1 F.2.1 dL_law_241 rfl (lv_at hl 0 rfl) ?_
      refine lv_iload F.1 F.2.1 dL_law_242 (lv_at hl 4 rfl) ?_
      refine lv_iconst (v := 2) F.1 F.2.1 dL_law_244 (by decide) ?_
      refine lv_iadd F.1 F.2.1 dL_law_245 ?_
      refine lv_seti (y := nI (5 * j + 2)) (nI_add (5 * j) 2).symm ?_
      refine va_sld F.1 F.2.1 hX hbl hbA hS (vp_in_nI (by omega) (by omega)) dL_law_246 ?_
      refine lv_aload_n F.1 F.2.1 dL_law_247 rfl (lv_at hl 0 rfl) ?_
      refine lv_iload F.1 F.2.1 dL_law_248 (lv_at hl 4 rfl) ?_
      refine lv_iconst (v := 3) F.1 F.2.1 dL_law_250 (by decide) ?_
      refine lv_iadd F.1 F.2.1 dL_law_251 ?_
      refine lv_seti (y := nI (5 * j + 3)) (nI_add (5 * j) 3).symm ?_
      refine va_sld F.1 F.2.1 hX hbl hbA hS (vp_in_nI (by omega) (by omega)) dL_law_252 ?_
      refine lv_aload_n F.1 F.2.1 dL_law_253 rfl (lv_at hl 0 rfl) ?_
      refine lv_iload F.1 F.2.1 dL_law_254 (lv_at hl 4 rfl) ?_
      refine lv_iconst (v := 4) F.1 F.2.1 dL_law_256 (by decide) ?_
      refine lv_iadd F.1 F.2.1 dL_law_257 ?_
      refine lv_seti (y := nI (5 * j + 4)) (nI_add (5 * j) 4).symm ?_
      refine va_sld F.1 F.2.1 hX hbl hbA hS (vp_in_nI (by omega) (by omega)) dL_law_258 ?_
      refine lw_i (lw_V (As := [.int (xs (nI (5 * j + 1)).toNatClampNeg), .int (xs (nI (5 * j + 2)).toNatClampNeg), .int (xs (nI (5 * j + 3)).toNatClampNeg), .int (xs (nI (5 * j + 4)).toNatClampNeg)]) (rest := []) F (kX11_makes hE1) (okX Z) G.1.1 hS lkL_42 ⟨Nat.le_of_ble_eq_true rfl, Nat.le_of_ble_eq_true rfl⟩ (rvo0 G.1.1 hPX) hPX rfl hl.1 rfl (lv_room (Nat.le_of_ble_eq_true rfl)) dL_law_259 ⟨by show 216 + j ≤ 601024; omega, by show 11263 + 6 * j ≤ 7293034; omega⟩) hS G.2.1 (fun H1 locs hPX hk hS => ?_)
      have hPM := PM_kept G.1.2.1 hPM hk (fun q h1 h2 => G.2.2.2.2.1 q h2 h1)
      have hPO := PO_kept2 hPO G.1.2.2.2.2.2.2.2.2 hk
      refine lv_aload_n F.1 F.2.1 dL_law_262 rfl (lv_at hl 2 rfl) ?_
      refine lv_aload_n F.1 F.2.1 dL_law_263 rfl (lv_at hl 0 rfl) ?_
      refine lv_iload F.1 F.2.1 dL_law_264 (lv_at hl 4 rfl) ?_
      refine lv_iconst (v := 1) F.1 F.2.1 dL_law_266 (by decide) ?_
      refine lv_iadd F.1 F.2.1 dL_law_267 ?_
      refine lv_seti (y := nI (5 * j + 1)) (nI_add (5 * j) 1).symm ?_
      refine va_sld F.1 F.2.1 hX hbl hbA hS (vp_in_nI (by omega) (by omega)) dL_law_268 ?_
      refine lv_aload_n F.1 F.2.1 dL_law_269 rfl (lv_at hl 0 rfl) ?_
      refine lv_iload F.1 F.2.1 dL_law_270 (lv_at hl 4 rfl) ?_
      refine lv_iconst (v := 2) F.1 F.2.1 dL_law_272 (by decide) ?_
      refine lv_iadd F.1 F.2.1 dL_law_273 ?_
      refine lv_seti (y := nI (5 * j + 2)) (nI_add (5 * j) 2).symm ?_
      refine va_sld F.1 F.2.1 hX hbl hbA hS (vp_in_nI (by omega) (by omega)) dL_law_274 ?_
      refine lv_aload_n F.1 F.2.1 dL_law_275 rfl (lv_at hl 0 rfl) ?_
      refine lv_iload F.1 F.2.1 dL_law_276 (lv_at hl 4 rfl) ?_
      refine lv_iconst (v := 3) F.1 F.2.1 dL_law_278 (by decide) ?_
      refine lv_iadd F.1 F.2.1 dL_law_279 ?_
      refine lv_seti (y := nI (5 * j + 3)) (nI_add (5 * j) 3).symm ?_
      refine va_sld F.1 F.2.1 hX hbl hbA hS (vp_in_nI (by omega) (by omega)) dL_law_280 ?_
      refine lv_aload_n F.1 F.2.1 dL_law_281 rfl (lv_at hl 0 rfl) ?_
      refine lv_iload F.1 F.2.1 dL_law_282 (lv_at hl 4 rfl) ?_
      refine lv_iconst (v := 4) F.1 F.2.1 dL_law_284 (by decide) ?_
      refine lv_iadd F.1 F.2.1 dL_law_285 ?_
      refine lv_seti (y := nI (5 * j + 4)) (nI_add (5 * j) 4).symm ?_
      refine va_sld F.1 F.2.1 hX hbl hbA hS (vp_in_nI (by omega) (by omega)) dL_law_286 ?_
      refine lw_i (lw_V (As := [.int (xs (nI (5 * j + 1)).toNatClampNeg), .int (xs (nI (5 * j + 2)).toNatClampNeg), .int (xs (nI (5 * j + 3)).toNatClampNeg), .int (xs (nI (5 * j + 4)).toNatClampNeg)]) (rest := [.int r']) F (kX12_makes hE2) (okM Zm) G.1.2.1 hS lkL_46 ⟨Nat.le_of_ble_eq_true rfl, Nat.le_of_ble_eq_true rfl⟩ (rvM G.1.2.1 hPM) hPM rfl hl.1 rfl (lv_room (Nat.le_of_ble_eq_true rfl)) dL_law_287 ⟨by show 216 + j ≤ 601024; omega, by show 11263 + 6 * j ≤ 7293034; omega⟩) hS G.2.2.1 (fun H1 locs hPM hk hS => ?_)
      have hPX := PX_kept2 G.1.1 hPX hk (fun q h1 h2 => G.2.2.2.2.1 q h1 h2)
      have hPO := PO_kept2 hPO G.2.2.2.2.2 hk
      refine lv_icmp_eq (tgt := 1235) F.1 F.2.1 dL_law_290 (by decide) (fun _ => ?_) (fun hc => absurd rfl hc)
      refine lv_iinc (v := nI (5 * (j + 1))) (lv' := [(4, .int (nI (5 * (j + 1)))), (0, .ref b), (1, .ref (oA Z 0)), (2, .ref (mA Zm 0)), (3, .ref o)]) F.1 F.2.1 dL_law_1235 hl (k := 4) rfl (nI_add (5 * j) 5) (by decide) rfl (fun ls hl => ?_)
      refine lv_goto (tgt := 23) F.1 F.2.1 dL_law_1238 (by decide) ?_
      refine W.widen (k := 216 + (j + 1)) (n := 11263 + 6 * (j + 1)) (by omega) (by omega) ?_
      exact ih (j + 1) (by omega) (by omega) HS' zkb zdr zky zpn' zps' ztz' ztn' zxz zxa zsg za0' za1' za2' za3' za4' zfr zcd' zgo' ztd' ztv' zcl' zca' zwa' zpt' zpf' mth' mto' mrw' mta mtp mat mtt mme' mun' mde mco' mcn' mvi' men mfa mac mfi mse mtd mra mkp _ hI _ _ hPX hPM hPO hS ls (lv_sub hl [1, 2, 3, 4, 0] rfl)
    by_cases hc3 : xk = 3
    · refine lv_tableIn (tgt := 295) (off := 256) F.1 F.2.1 dL_law_39 (by rw [hc3]; decide) (by rw [hc3]; decide) (by rw [hc3]; rfl) (by decide) ?_
      obtain ⟨r', zpn', zps', ztz', ztn', za0', za1', za2', za3', za4', zcd', zgo', ztd', ztv', zcl', zca', zwa', zpt', zpf', HS', mth', mto', mrw', mme', mun', mco', mcn', mvi', hE1, hE2, hI⟩ := h_sets HS zkb zdr zky zpn zps ztz ztn zxz zxa zsg za0 za1 za2 za3 za4 zfr zcd zgo ztd ztv zcl zca zwa zpt zpf mth mto mrw mta mtp mat mtt mme mun mde mco mcn mvi men mfa mac mfi mse mtd mra mkp (xs (nI (5 * j + 1)).toNatClampNeg) (xs (nI (5 * j + 2)).toNatClampNeg) (xs (nI (5 * j + 3)).toNatClampNeg) hI
      refine lv_aload_n F.1 F.2.1 dL_law_295 rfl (lv_at hl 1 rfl) ?_
      refine lv_aload_n F.1 F.2.1 dL_law_296 rfl (lv_at hl 0 rfl) ?_
      refine lv_iload F.1 F.2.1 dL_law_297 (lv_at hl 4 rfl) ?_
      refine lv_iconst (v := 1) F.1 F.2.1 dL_law_299 (by decide) ?_
      refine lv_iadd F.1 F.2.1 dL_law_300 ?_
      refine lv_seti (y := nI (5 * j + 1)) (nI_add (5 * j) 1).symm ?_
      refine va_sld F.1 F.2.1 hX hbl hbA hS (vp_in_nI (by omega) (by omega)) dL_law_301 ?_
      refine lv_aload_n F.1 F.2.1 dL_law_302 rfl (lv_at hl 0 rfl) ?_
      refine lv_iload F.1 F.2.1 dL_law_303 (lv_at hl 4 rfl) ?_
      refine lv_iconst (v := 2) F.1 F.2.1 dL_law_305 (by decide) ?_
      refine lv_iadd F.1 F.2.1 dL_law_306 ?_
      refine lv_seti (y := nI (5 * j + 2)) (nI_add (5 * j) 2).symm ?_
      refine va_sld F.1 F.2.1 hX hbl hbA hS (vp_in_nI (by omega) (by omega)) dL_law_307 ?_
      refine lv_aload_n F.1 F.2.1 dL_law_308 rfl (lv_at hl 0 rfl) ?_
      refine lv_iload F.1 F.2.1 dL_law_309 (lv_at hl 4 rfl) ?_
      refine lv_iconst (v := 3) F.1 F.2.1 dL_law_311 (by decide) ?_
      refine lv_iadd F.1 F.2.1 dL_law_312 ?_
      refine lv_seti (y := nI (5 * j + 3)) (nI_add (5 * j) 3).symm ?_
      refine va_sld F.1 F.2.1 hX hbl hbA hS (vp_in_nI (by omega) (by omega)) dL_law_313 ?_
      refine lw_i (lw_V (As := [.int (xs (nI (5 * j + 1)).toNatClampNeg), .int (xs (nI (5 * j + 2)).toNatClampNeg), .int (xs (nI (5 * j + 3)).toNatClampNeg)]) (rest := []) F (kX11_sets hE1) (okX Z) G.1.1 hS lkL_47 ⟨Nat.le_of_ble_eq_true rfl, Nat.le_of_ble_eq_true rfl⟩ (rvo0 G.1.1 hPX) hPX rfl hl.1 rfl (lv_room (Nat.le_of_ble_eq_true rfl)) dL_law_314 ⟨by show 216 + j ≤ 601024; omega, by show 11263 + 6 * j ≤ 7293034; omega⟩) hS G.2.1 (fun H1 locs hPX hk hS => ?_)
      have hPM := PM_kept G.1.2.1 hPM hk (fun q h1 h2 => G.2.2.2.2.1 q h2 h1)
      have hPO := PO_kept2 hPO G.1.2.2.2.2.2.2.2.2 hk
      refine lv_aload_n F.1 F.2.1 dL_law_317 rfl (lv_at hl 2 rfl) ?_
      refine lv_aload_n F.1 F.2.1 dL_law_318 rfl (lv_at hl 0 rfl) ?_
      refine lv_iload F.1 F.2.1 dL_law_319 (lv_at hl 4 rfl) ?_
      refine lv_iconst (v := 1) F.1 F.2.1 dL_law_321 (by decide) ?_
      refine lv_iadd F.1 F.2.1 dL_law_322 ?_
      refine lv_seti (y := nI (5 * j + 1)) (nI_add (5 * j) 1).symm ?_
      refine va_sld F.1 F.2.1 hX hbl hbA hS (vp_in_nI (by omega) (by omega)) dL_law_323 ?_
      refine lv_aload_n F.1 F.2.1 dL_law_324 rfl (lv_at hl 0 rfl) ?_
      refine lv_iload F.1 F.2.1 dL_law_325 (lv_at hl 4 rfl) ?_
      refine lv_iconst (v := 2) F.1 F.2.1 dL_law_327 (by decide) ?_
      refine lv_iadd F.1 F.2.1 dL_law_328 ?_
      refine lv_seti (y := nI (5 * j + 2)) (nI_add (5 * j) 2).symm ?_
      refine va_sld F.1 F.2.1 hX hbl hbA hS (vp_in_nI (by omega) (by omega)) dL_law_329 ?_
      refine lv_aload_n F.1 F.2.1 dL_law_330 rfl (lv_at hl 0 rfl) ?_
      refine lv_iload F.1 F.2.1 dL_law_331 (lv_at hl 4 rfl) ?_
      refine lv_iconst (v := 3) F.1 F.2.1 dL_law_333 (by decide) ?_
      refine lv_iadd F.1 F.2.1 dL_law_334 ?_
      refine lv_seti (y := nI (5 * j + 3)) (nI_add (5 * j) 3).symm ?_
      refine va_sld F.1 F.2.1 hX hbl hbA hS (vp_in_nI (by omega) (by omega)) dL_law_335 ?_
      refine lw_i (lw_V (As := [.int (xs (nI (5 * j + 1)).toNatClampNeg), .int (xs (nI (5 * j + 2)).toNatClampNeg), .int (xs (nI (5 * j + 3)).toNatClampNeg)]) (rest := [.int r']) F (kX12_sets hE2) (okM Zm) G.1.2.1 hS lkL_51 ⟨Nat.le_of_ble_eq_true rfl, Nat.le_of_ble_eq_true rfl⟩ (rvM G.1.2.1 hPM) hPM rfl hl.1 rfl (lv_room (Nat.le_of_ble_eq_true rfl)) dL_law_336 ⟨by show 216 + j ≤ 601024; omega, by show 11263 + 6 * j ≤ 7293034; omega⟩) hS G.2.2.1 (fun H1 locs hPM hk hS => ?_)
      have hPX := PX_kept2 G.1.1 hPX hk (fun q h1 h2 => G.2.2.2.2.1 q h1 h2)
      have hPO := PO_kept2 hPO G.2.2.2.2.2 hk
      refine lv_icmp_eq (tgt := 1235) F.1 F.2.1 dL_law_339 (by decide) (fun _ => ?_) (fun hc => absurd rfl hc)
      refine lv_iinc (v := nI (5 * (j + 1))) (lv' := [(4, .int (nI (5 * (j + 1)))), (0, .ref b), (1, .ref (oA Z 0)), (2, .ref (mA Zm 0)), (3, .ref o)]) F.1 F.2.1 dL_law_1235 hl (k := 4) rfl (nI_add (5 * j) 5) (by decide) rfl (fun ls hl => ?_)
      refine lv_goto (tgt := 23) F.1 F.2.1 dL_law_1238 (by decide) ?_
      refine W.widen (k := 216 + (j + 1)) (n := 11263 + 6 * (j + 1)) (by omega) (by omega) ?_
      exact ih (j + 1) (by omega) (by omega) HS' zkb zdr zky zpn' zps' ztz' ztn' zxz zxa zsg za0' za1' za2' za3' za4' zfr zcd' zgo' ztd' ztv' zcl' zca' zwa' zpt' zpf' mth' mto' mrw' mta mtp mat mtt mme' mun' mde mco' mcn' mvi' men mfa mac mfi mse mtd mra mkp _ hI _ _ hPX hPM hPO hS ls (lv_sub hl [1, 2, 3, 4, 0] rfl)
    by_cases hc4 : xk = 4
    · refine lv_tableIn (tgt := 344) (off := 305) F.1 F.2.1 dL_law_39 (by rw [hc4]; decide) (by rw [hc4]; decide) (by rw [hc4]; rfl) (by decide) ?_
      obtain ⟨r', zpn', zps', ztz', ztn', za0', za1', za2', za3', za4', zcd', zgo', ztd', ztv', zcl', zca', zwa', zpt', zpf', HS', mth', mto', mrw', mme', mun', mco', mcn', mvi', hE1, hE2, hI⟩ := h_roots HS zkb zdr zky zpn zps ztz ztn zxz zxa zsg za0 za1 za2 za3 za4 zfr zcd zgo ztd ztv zcl zca zwa zpt zpf mth mto mrw mta mtp mat mtt mme mun mde mco mcn mvi men mfa mac mfi mse mtd mra mkp (xs (nI (5 * j + 1)).toNatClampNeg) (xs (nI (5 * j + 2)).toNatClampNeg) hI
      refine lv_aload_n F.1 F.2.1 dL_law_344 rfl (lv_at hl 1 rfl) ?_
      refine lv_aload_n F.1 F.2.1 dL_law_345 rfl (lv_at hl 0 rfl) ?_
      refine lv_iload F.1 F.2.1 dL_law_346 (lv_at hl 4 rfl) ?_
      refine lv_iconst (v := 1) F.1 F.2.1 dL_law_348 (by decide) ?_
      refine lv_iadd F.1 F.2.1 dL_law_349 ?_
      refine lv_seti (y := nI (5 * j + 1)) (nI_add (5 * j) 1).symm ?_
      refine va_sld F.1 F.2.1 hX hbl hbA hS (vp_in_nI (by omega) (by omega)) dL_law_350 ?_
      refine lv_aload_n F.1 F.2.1 dL_law_351 rfl (lv_at hl 0 rfl) ?_
      refine lv_iload F.1 F.2.1 dL_law_352 (lv_at hl 4 rfl) ?_
      refine lv_iconst (v := 2) F.1 F.2.1 dL_law_354 (by decide) ?_
      refine lv_iadd F.1 F.2.1 dL_law_355 ?_
      refine lv_seti (y := nI (5 * j + 2)) (nI_add (5 * j) 2).symm ?_
      refine va_sld F.1 F.2.1 hX hbl hbA hS (vp_in_nI (by omega) (by omega)) dL_law_356 ?_
      refine lw_i (lw_V (As := [.int (xs (nI (5 * j + 1)).toNatClampNeg), .int (xs (nI (5 * j + 2)).toNatClampNeg)]) (rest := []) F (kX11_roots hE1) (okX Z) G.1.1 hS lkL_52 ⟨Nat.le_of_ble_eq_true rfl, Nat.le_of_ble_eq_true rfl⟩ (rvo0 G.1.1 hPX) hPX rfl hl.1 rfl (lv_room (Nat.le_of_ble_eq_true rfl)) dL_law_357 ⟨by show 216 + j ≤ 601024; omega, by show 11263 + 6 * j ≤ 7293034; omega⟩) hS G.2.1 (fun H1 locs hPX hk hS => ?_)
      have hPM := PM_kept G.1.2.1 hPM hk (fun q h1 h2 => G.2.2.2.2.1 q h2 h1)
      have hPO := PO_kept2 hPO G.1.2.2.2.2.2.2.2.2 hk
      refine lv_aload_n F.1 F.2.1 dL_law_360 rfl (lv_at hl 2 rfl) ?_
      refine lv_aload_n F.1 F.2.1 dL_law_361 rfl (lv_at hl 0 rfl) ?_
      refine lv_iload F.1 F.2.1 dL_law_362 (lv_at hl 4 rfl) ?_
      refine lv_iconst (v := 1) F.1 F.2.1 dL_law_364 (by decide) ?_
      refine lv_iadd F.1 F.2.1 dL_law_365 ?_
      refine lv_seti (y := nI (5 * j + 1)) (nI_add (5 * j) 1).symm ?_
      refine va_sld F.1 F.2.1 hX hbl hbA hS (vp_in_nI (by omega) (by omega)) dL_law_366 ?_
      refine lv_aload_n F.1 F.2.1 dL_law_367 rfl (lv_at hl 0 rfl) ?_
      refine lv_iload F.1 F.2.1 dL_law_368 (lv_at hl 4 rfl) ?_
      refine lv_iconst (v := 2) F.1 F.2.1 dL_law_370 (by decide) ?_
      refine lv_iadd F.1 F.2.1 dL_law_371 ?_
      refine lv_seti (y := nI (5 * j + 2)) (nI_add (5 * j) 2).symm ?_
      refine va_sld F.1 F.2.1 hX hbl hbA hS (vp_in_nI (by omega) (by omega)) dL_law_372 ?_
      refine lw_i (lw_V (As := [.int (xs (nI (5 * j + 1)).toNatClampNeg), .int (xs (nI (5 * j + 2)).toNatClampNeg)]) (rest := [.int r']) F (kX12_roots hE2) (okM Zm) G.1.2.1 hS lkL_55 ⟨Nat.le_of_ble_eq_true rfl, Nat.le_of_ble_eq_true rfl⟩ (rvM G.1.2.1 hPM) hPM rfl hl.1 rfl (lv_room (Nat.le_of_ble_eq_true rfl)) dL_law_373 ⟨by show 216 + j ≤ 601024; omega, by show 11263 + 6 * j ≤ 7293034; omega⟩) hS G.2.2.1 (fun H1 locs hPM hk hS => ?_)
      have hPX := PX_kept2 G.1.1 hPX hk (fun q h1 h2 => G.2.2.2.2.1 q h1 h2)
      have hPO := PO_kept2 hPO G.2.2.2.2.2 hk
      refine lv_icmp_eq (tgt := 1235) F.1 F.2.1 dL_law_376 (by decide) (fun _ => ?_) (fun hc => absurd rfl hc)
      refine lv_iinc (v := nI (5 * (j + 1))) (lv' := [(4, .int (nI (5 * (j + 1)))), (0, .ref b), (1, .ref (oA Z 0)), (2, .ref (mA Zm 0)), (3, .ref o)]) F.1 F.2.1 dL_law_1235 hl (k := 4) rfl (nI_add (5 * j) 5) (by decide) rfl (fun ls hl => ?_)
      refine lv_goto (tgt := 23) F.1 F.2.1 dL_law_1238 (by decide) ?_
      refine W.widen (k := 216 + (j + 1)) (n := 11263 + 6 * (j + 1)) (by omega) (by omega) ?_
      exact ih (j + 1) (by omega) (by omega) HS' zkb zdr zky zpn' zps' ztz' ztn' zxz zxa zsg za0' za1' za2' za3' za4' zfr zcd' zgo' ztd' ztv' zcl' zca' zwa' zpt' zpf' mth' mto' mrw' mta mtp mat mtt mme' mun' mde mco' mcn' mvi' men mfa mac mfi mse mtd mra mkp _ hI _ _ hPX hPM hPO hS ls (lv_sub hl [1, 2, 3, 4, 0] rfl)
    by_cases hc5 : xk = 5
    · refine lv_tableIn (tgt := 381) (off := 342) F.1 F.2.1 dL_law_39 (by rw [hc5]; decide) (by rw [hc5]; decide) (by rw [hc5]; rfl) (by decide) ?_
      obtain ⟨r', zpn', zps', za0', za1', za2', za3', za4', zcd', zgo', ztd', ztv', zcl', zca', zwa', zpt', zpf', HS', mth', mme', mun', hE1, hE2, hI⟩ := h_weaks HS zkb zdr zky zpn zps ztz ztn zxz zxa zsg za0 za1 za2 za3 za4 zfr zcd zgo ztd ztv zcl zca zwa zpt zpf mth mto mrw mta mtp mat mtt mme mun mde mco mcn mvi men mfa mac mfi mse mtd mra mkp (xs (nI (5 * j + 1)).toNatClampNeg) (xs (nI (5 * j + 2)).toNatClampNeg) hI
      refine lv_aload_n F.1 F.2.1 dL_law_381 rfl (lv_at hl 1 rfl) ?_
      refine lv_aload_n F.1 F.2.1 dL_law_382 rfl (lv_at hl 0 rfl) ?_
      refine lv_iload F.1 F.2.1 dL_law_383 (lv_at hl 4 rfl) ?_
      refine lv_iconst (v := 1) F.1 F.2.1 dL_law_385 (by decide) ?_
      refine lv_iadd F.1 F.2.1 dL_law_386 ?_
      refine lv_seti (y := nI (5 * j + 1)) (nI_add (5 * j) 1).symm ?_
      refine va_sld F.1 F.2.1 hX hbl hbA hS (vp_in_nI (by omega) (by omega)) dL_law_387 ?_
      refine lv_aload_n F.1 F.2.1 dL_law_388 rfl (lv_at hl 0 rfl) ?_
      refine lv_iload F.1 F.2.1 dL_law_389 (lv_at hl 4 rfl) ?_
      refine lv_iconst (v := 2) F.1 F.2.1 dL_law_391 (by decide) ?_
      refine lv_iadd F.1 F.2.1 dL_law_392 ?_
      refine lv_seti (y := nI (5 * j + 2)) (nI_add (5 * j) 2).symm ?_
      refine va_sld F.1 F.2.1 hX hbl hbA hS (vp_in_nI (by omega) (by omega)) dL_law_393 ?_
      refine lw_i (lw_V (As := [.int (xs (nI (5 * j + 1)).toNatClampNeg), .int (xs (nI (5 * j + 2)).toNatClampNeg)]) (rest := []) F (kX11_weaks hE1) (okX Z) G.1.1 hS lkL_56 ⟨Nat.le_of_ble_eq_true rfl, Nat.le_of_ble_eq_true rfl⟩ (rvo0 G.1.1 hPX) hPX rfl hl.1 rfl (lv_room (Nat.le_of_ble_eq_true rfl)) dL_law_394 ⟨by show 216 + j ≤ 601024; omega, by show 11263 + 6 * j ≤ 7293034; omega⟩) hS G.2.1 (fun H1 locs hPX hk hS => ?_)
      have hPM := PM_kept G.1.2.1 hPM hk (fun q h1 h2 => G.2.2.2.2.1 q h2 h1)
      have hPO := PO_kept2 hPO G.1.2.2.2.2.2.2.2.2 hk
      refine lv_aload_n F.1 F.2.1 dL_law_397 rfl (lv_at hl 2 rfl) ?_
      refine lv_aload_n F.1 F.2.1 dL_law_398 rfl (lv_at hl 0 rfl) ?_
      refine lv_iload F.1 F.2.1 dL_law_399 (lv_at hl 4 rfl) ?_
      refine lv_iconst (v := 1) F.1 F.2.1 dL_law_401 (by decide) ?_
      refine lv_iadd F.1 F.2.1 dL_law_402 ?_
      refine lv_seti (y := nI (5 * j + 1)) (nI_add (5 * j) 1).symm ?_
      refine va_sld F.1 F.2.1 hX hbl hbA hS (vp_in_nI (by omega) (by omega)) dL_law_403 ?_
      refine lv_aload_n F.1 F.2.1 dL_law_404 rfl (lv_at hl 0 rfl) ?_
      refine lv_iload F.1 F.2.1 dL_law_405 (lv_at hl 4 rfl) ?_
      refine lv_iconst (v := 2) F.1 F.2.1 dL_law_407 (by decide) ?_
      refine lv_iadd F.1 F.2.1 dL_law_408 ?_
      refine lv_seti (y := nI (5 * j + 2)) (nI_add (5 * j) 2).symm ?_
      refine va_sld F.1 F.2.1 hX hbl hbA hS (vp_in_nI (by omega) (by omega)) dL_law_409 ?_
      refine lw_i (lw_V (As := [.int (xs (nI (5 * j + 1)).toNatClampNeg), .int (xs (nI (5 * j + 2)).toNatClampNeg)]) (rest := [.int r']) F (kX12_weaks hE2) (okM Zm) G.1.2.1 hS lkL_59 ⟨Nat.le_of_ble_eq_true rfl, Nat.le_of_ble_eq_true rfl⟩ (rvM G.1.2.1 hPM) hPM rfl hl.1 rfl (lv_room (Nat.le_of_ble_eq_true rfl)) dL_law_410 ⟨by show 216 + j ≤ 601024; omega, by show 11263 + 6 * j ≤ 7293034; omega⟩) hS G.2.2.1 (fun H1 locs hPM hk hS => ?_)
      have hPX := PX_kept2 G.1.1 hPX hk (fun q h1 h2 => G.2.2.2.2.1 q h1 h2)
      have hPO := PO_kept2 hPO G.2.2.2.2.2 hk
      refine lv_icmp_eq (tgt := 1235) F.1 F.2.1 dL_law_413 (by decide) (fun _ => ?_) (fun hc => absurd rfl hc)
      refine lv_iinc (v := nI (5 * (j + 1))) (lv' := [(4, .int (nI (5 * (j + 1)))), (0, .ref b), (1, .ref (oA Z 0)), (2, .ref (mA Zm 0)), (3, .ref o)]) F.1 F.2.1 dL_law_1235 hl (k := 4) rfl (nI_add (5 * j) 5) (by decide) rfl (fun ls hl => ?_)
      refine lv_goto (tgt := 23) F.1 F.2.1 dL_law_1238 (by decide) ?_
      refine W.widen (k := 216 + (j + 1)) (n := 11263 + 6 * (j + 1)) (by omega) (by omega) ?_
      exact ih (j + 1) (by omega) (by omega) HS' zkb zdr zky zpn' zps' ztz ztn zxz zxa zsg za0' za1' za2' za3' za4' zfr zcd' zgo' ztd' ztv' zcl' zca' zwa' zpt' zpf' mth' mto mrw mta mtp mat mtt mme' mun' mde mco mcn mvi men mfa mac mfi mse mtd mra mkp _ hI _ _ hPX hPM hPO hS ls (lv_sub hl [1, 2, 3, 4, 0] rfl)
    by_cases hc6 : xk = 6
    · refine lv_tableIn (tgt := 418) (off := 379) F.1 F.2.1 dL_law_39 (by rw [hc6]; decide) (by rw [hc6]; decide) (by rw [hc6]; rfl) (by decide) ?_
      obtain ⟨r', zpn', zps', ztz', ztn', za0', za1', za2', za3', za4', zcd', zgo', ztd', ztv', zcl', zca', zwa', zpt', zpf', HS', mth', mto', mrw', mme', mun', mco', mcn', mvi', hE1, hE2, hI⟩ := h_wakes HS zkb zdr zky zpn zps ztz ztn zxz zxa zsg za0 za1 za2 za3 za4 zfr zcd zgo ztd ztv zcl zca zwa zpt zpf mth mto mrw mta mtp mat mtt mme mun mde mco mcn mvi men mfa mac mfi mse mtd mra mkp (xs (nI (5 * j + 1)).toNatClampNeg) (xs (nI (5 * j + 2)).toNatClampNeg) hI
      refine lv_aload_n F.1 F.2.1 dL_law_418 rfl (lv_at hl 1 rfl) ?_
      refine lv_aload_n F.1 F.2.1 dL_law_419 rfl (lv_at hl 0 rfl) ?_
      refine lv_iload F.1 F.2.1 dL_law_420 (lv_at hl 4 rfl) ?_
      refine lv_iconst (v := 1) F.1 F.2.1 dL_law_422 (by decide) ?_
      refine lv_iadd F.1 F.2.1 dL_law_423 ?_
      refine lv_seti (y := nI (5 * j + 1)) (nI_add (5 * j) 1).symm ?_
      refine va_sld F.1 F.2.1 hX hbl hbA hS (vp_in_nI (by omega) (by omega)) dL_law_424 ?_
      refine lv_aload_n F.1 F.2.1 dL_law_425 rfl (lv_at hl 0 rfl) ?_
      refine lv_iload F.1 F.2.1 dL_law_426 (lv_at hl 4 rfl) ?_
      refine lv_iconst (v := 2) F.1 F.2.1 dL_law_428 (by decide) ?_
      refine lv_iadd F.1 F.2.1 dL_law_429 ?_
      refine lv_seti (y := nI (5 * j + 2)) (nI_add (5 * j) 2).symm ?_
      refine va_sld F.1 F.2.1 hX hbl hbA hS (vp_in_nI (by omega) (by omega)) dL_law_430 ?_
      refine lw_i (lw_V (As := [.int (xs (nI (5 * j + 1)).toNatClampNeg), .int (xs (nI (5 * j + 2)).toNatClampNeg)]) (rest := []) F (kX11_wakes hE1) (okX Z) G.1.1 hS lkL_60 ⟨Nat.le_of_ble_eq_true rfl, Nat.le_of_ble_eq_true rfl⟩ (rvo0 G.1.1 hPX) hPX rfl hl.1 rfl (lv_room (Nat.le_of_ble_eq_true rfl)) dL_law_431 ⟨by show 216 + j ≤ 601024; omega, by show 11263 + 6 * j ≤ 7293034; omega⟩) hS G.2.1 (fun H1 locs hPX hk hS => ?_)
      have hPM := PM_kept G.1.2.1 hPM hk (fun q h1 h2 => G.2.2.2.2.1 q h2 h1)
      have hPO := PO_kept2 hPO G.1.2.2.2.2.2.2.2.2 hk
      refine lv_aload_n F.1 F.2.1 dL_law_434 rfl (lv_at hl 2 rfl) ?_
      refine lv_aload_n F.1 F.2.1 dL_law_435 rfl (lv_at hl 0 rfl) ?_
      refine lv_iload F.1 F.2.1 dL_law_436 (lv_at hl 4 rfl) ?_
      refine lv_iconst (v := 1) F.1 F.2.1 dL_law_438 (by decide) ?_
      refine lv_iadd F.1 F.2.1 dL_law_439 ?_
      refine lv_seti (y := nI (5 * j + 1)) (nI_add (5 * j) 1).symm ?_
      refine va_sld F.1 F.2.1 hX hbl hbA hS (vp_in_nI (by omega) (by omega)) dL_law_440 ?_
      refine lv_aload_n F.1 F.2.1 dL_law_441 rfl (lv_at hl 0 rfl) ?_
      refine lv_iload F.1 F.2.1 dL_law_442 (lv_at hl 4 rfl) ?_
      refine lv_iconst (v := 2) F.1 F.2.1 dL_law_444 (by decide) ?_
      refine lv_iadd F.1 F.2.1 dL_law_445 ?_
      refine lv_seti (y := nI (5 * j + 2)) (nI_add (5 * j) 2).symm ?_
      refine va_sld F.1 F.2.1 hX hbl hbA hS (vp_in_nI (by omega) (by omega)) dL_law_446 ?_
      refine lw_i (lw_V (As := [.int (xs (nI (5 * j + 1)).toNatClampNeg), .int (xs (nI (5 * j + 2)).toNatClampNeg)]) (rest := [.int r']) F (kX12_wakes hE2) (okM Zm) G.1.2.1 hS lkL_63 ⟨Nat.le_of_ble_eq_true rfl, Nat.le_of_ble_eq_true rfl⟩ (rvM G.1.2.1 hPM) hPM rfl hl.1 rfl (lv_room (Nat.le_of_ble_eq_true rfl)) dL_law_447 ⟨by show 216 + j ≤ 601024; omega, by show 11263 + 6 * j ≤ 7293034; omega⟩) hS G.2.2.1 (fun H1 locs hPM hk hS => ?_)
      have hPX := PX_kept2 G.1.1 hPX hk (fun q h1 h2 => G.2.2.2.2.1 q h1 h2)
      have hPO := PO_kept2 hPO G.2.2.2.2.2 hk
      refine lv_icmp_eq (tgt := 1235) F.1 F.2.1 dL_law_450 (by decide) (fun _ => ?_) (fun hc => absurd rfl hc)
      refine lv_iinc (v := nI (5 * (j + 1))) (lv' := [(4, .int (nI (5 * (j + 1)))), (0, .ref b), (1, .ref (oA Z 0)), (2, .ref (mA Zm 0)), (3, .ref o)]) F.1 F.2.1 dL_law_1235 hl (k := 4) rfl (nI_add (5 * j) 5) (by decide) rfl (fun ls hl => ?_)
      refine lv_goto (tgt := 23) F.1 F.2.1 dL_law_1238 (by decide) ?_
      refine W.widen (k := 216 + (j + 1)) (n := 11263 + 6 * (j + 1)) (by omega) (by omega) ?_
      exact ih (j + 1) (by omega) (by omega) HS' zkb zdr zky zpn' zps' ztz' ztn' zxz zxa zsg za0' za1' za2' za3' za4' zfr zcd' zgo' ztd' ztv' zcl' zca' zwa' zpt' zpf' mth' mto' mrw' mta mtp mat mtt mme' mun' mde mco' mcn' mvi' men mfa mac mfi mse mtd mra mkp _ hI _ _ hPX hPM hPO hS ls (lv_sub hl [1, 2, 3, 4, 0] rfl)
    by_cases hc7 : xk = 7
    · refine lv_tableIn (tgt := 455) (off := 416) F.1 F.2.1 dL_law_39 (by rw [hc7]; decide) (by rw [hc7]; decide) (by rw [hc7]; rfl) (by decide) ?_
      obtain ⟨r', zpn', zps', ztz', ztn', za0', za1', za2', za3', za4', zcd', zgo', ztd', ztv', zcl', zca', zwa', zpt', zpf', HS', mth', mto', mrw', mme', mun', mco', mcn', mvi', men', hE1, hE2, hI⟩ := h_trial HS zkb zdr zky zpn zps ztz ztn zxz zxa zsg za0 za1 za2 za3 za4 zfr zcd zgo ztd ztv zcl zca zwa zpt zpf mth mto mrw mta mtp mat mtt mme mun mde mco mcn mvi men mfa mac mfi mse mtd mra mkp  hI
      refine lv_aload_n F.1 F.2.1 dL_law_455 rfl (lv_at hl 1 rfl) ?_
      refine lw_i (lw_V (As := []) (rest := []) F (kX11_trial hE1) (okX Z) G.1.1 hS lkL_64 ⟨Nat.le_of_ble_eq_true rfl, Nat.le_of_ble_eq_true rfl⟩ (rvo0 G.1.1 hPX) hPX rfl hl.1 rfl (lv_room (Nat.le_of_ble_eq_true rfl)) dL_law_456 ⟨by show 216 + j ≤ 601024; omega, by show 11263 + 6 * j ≤ 7293034; omega⟩) hS G.2.1 (fun H1 locs hPX hk hS => ?_)
      have hPM := PM_kept G.1.2.1 hPM hk (fun q h1 h2 => G.2.2.2.2.1 q h2 h1)
      have hPO := PO_kept2 hPO G.1.2.2.2.2.2.2.2.2 hk
      refine lv_aload_n F.1 F.2.1 dL_law_459 rfl (lv_at hl 2 rfl) ?_
      refine lw_i (lw_V (As := []) (rest := [.int r']) F (kX12_trial hE2) (okM Zm) G.1.2.1 hS lkL_68 ⟨Nat.le_of_ble_eq_true rfl, Nat.le_of_ble_eq_true rfl⟩ (rvM G.1.2.1 hPM) hPM rfl hl.1 rfl (lv_room (Nat.le_of_ble_eq_true rfl)) dL_law_460 ⟨by show 216 + j ≤ 601024; omega, by show 11263 + 6 * j ≤ 7293034; omega⟩) hS G.2.2.1 (fun H1 locs hPM hk hS => ?_)
      have hPX := PX_kept2 G.1.1 hPX hk (fun q h1 h2 => G.2.2.2.2.1 q h1 h2)
      have hPO := PO_kept2 hPO G.2.2.2.2.2 hk
      refine lv_icmp_eq (tgt := 1235) F.1 F.2.1 dL_law_463 (by decide) (fun _ => ?_) (fun hc => absurd rfl hc)
      refine lv_iinc (v := nI (5 * (j + 1))) (lv' := [(4, .int (nI (5 * (j + 1)))), (0, .ref b), (1, .ref (oA Z 0)), (2, .ref (mA Zm 0)), (3, .ref o)]) F.1 F.2.1 dL_law_1235 hl (k := 4) rfl (nI_add (5 * j) 5) (by decide) rfl (fun ls hl => ?_)
      refine lv_goto (tgt := 23) F.1 F.2.1 dL_law_1238 (by decide) ?_
      refine W.widen (k := 216 + (j + 1)) (n := 11263 + 6 * (j + 1)) (by omega) (by omega) ?_
      exact ih (j + 1) (by omega) (by omega) HS' zkb zdr zky zpn' zps' ztz' ztn' zxz zxa zsg za0' za1' za2' za3' za4' zfr zcd' zgo' ztd' ztv' zcl' zca' zwa' zpt' zpf' mth' mto' mrw' mta mtp mat mtt mme' mun' mde mco' mcn' mvi' men' mfa mac mfi mse mtd mra mkp _ hI _ _ hPX hPM hPO hS ls (lv_sub hl [1, 2, 3, 4, 0] rfl)
    by_cases hc8 : xk = 8
    · refine lv_tableIn (tgt := 468) (off := 429) F.1 F.2.1 dL_law_39 (by rw [hc8]; decide) (by rw [hc8]; decide) (by rw [hc8]; rfl) (by decide) ?_
      obtain ⟨r', zpn', zps', HS', mth', mme', mun', hE1, hE2, hI⟩ := h_limit HS zkb zdr zky zpn zps ztz ztn zxz zxa zsg za0 za1 za2 za3 za4 zfr zcd zgo ztd ztv zcl zca zwa zpt zpf mth mto mrw mta mtp mat mtt mme mun mde mco mcn mvi men mfa mac mfi mse mtd mra mkp (xs (nI (5 * j + 1)).toNatClampNeg) hI
      refine lv_aload_n F.1 F.2.1 dL_law_468 rfl (lv_at hl 1 rfl) ?_
      refine lv_aload_n F.1 F.2.1 dL_law_469 rfl (lv_at hl 0 rfl) ?_
      refine lv_iload F.1 F.2.1 dL_law_470 (lv_at hl 4 rfl) ?_
      refine lv_iconst (v := 1) F.1 F.2.1 dL_law_472 (by decide) ?_
      refine lv_iadd F.1 F.2.1 dL_law_473 ?_
      refine lv_seti (y := nI (5 * j + 1)) (nI_add (5 * j) 1).symm ?_
      refine va_sld F.1 F.2.1 hX hbl hbA hS (vp_in_nI (by omega) (by omega)) dL_law_474 ?_
      refine lw_i (lw_V (As := [.int (xs (nI (5 * j + 1)).toNatClampNeg)]) (rest := []) F (kX11_limit hE1) (okX Z) G.1.1 hS lkL_69 ⟨Nat.le_of_ble_eq_true rfl, Nat.le_of_ble_eq_true rfl⟩ (rvo0 G.1.1 hPX) hPX rfl hl.1 rfl (lv_room (Nat.le_of_ble_eq_true rfl)) dL_law_475 ⟨by show 216 + j ≤ 601024; omega, by show 11263 + 6 * j ≤ 7293034; omega⟩) hS G.2.1 (fun H1 locs hPX hk hS => ?_)
      have hPM := PM_kept G.1.2.1 hPM hk (fun q h1 h2 => G.2.2.2.2.1 q h2 h1)
      have hPO := PO_kept2 hPO G.1.2.2.2.2.2.2.2.2 hk
      refine lv_aload_n F.1 F.2.1 dL_law_478 rfl (lv_at hl 2 rfl) ?_
      refine lv_aload_n F.1 F.2.1 dL_law_479 rfl (lv_at hl 0 rfl) ?_
      refine lv_iload F.1 F.2.1 dL_law_480 (lv_at hl 4 rfl) ?_
      refine lv_iconst (v := 1) F.1 F.2.1 dL_law_482 (by decide) ?_
      refine lv_iadd F.1 F.2.1 dL_law_483 ?_
      refine lv_seti (y := nI (5 * j + 1)) (nI_add (5 * j) 1).symm ?_
      refine va_sld F.1 F.2.1 hX hbl hbA hS (vp_in_nI (by omega) (by omega)) dL_law_484 ?_
      refine lw_i (lw_V (As := [.int (xs (nI (5 * j + 1)).toNatClampNeg)]) (rest := [.int r']) F (kX12_limit hE2) (okM Zm) G.1.2.1 hS lkL_72 ⟨Nat.le_of_ble_eq_true rfl, Nat.le_of_ble_eq_true rfl⟩ (rvM G.1.2.1 hPM) hPM rfl hl.1 rfl (lv_room (Nat.le_of_ble_eq_true rfl)) dL_law_485 ⟨by show 216 + j ≤ 601024; omega, by show 11263 + 6 * j ≤ 7293034; omega⟩) hS G.2.2.1 (fun H1 locs hPM hk hS => ?_)
      have hPX := PX_kept2 G.1.1 hPX hk (fun q h1 h2 => G.2.2.2.2.1 q h1 h2)
      have hPO := PO_kept2 hPO G.2.2.2.2.2 hk
      refine lv_icmp_eq (tgt := 1235) F.1 F.2.1 dL_law_488 (by decide) (fun _ => ?_) (fun hc => absurd rfl hc)
      refine lv_iinc (v := nI (5 * (j + 1))) (lv' := [(4, .int (nI (5 * (j + 1)))), (0, .ref b), (1, .ref (oA Z 0)), (2, .ref (mA Zm 0)), (3, .ref o)]) F.1 F.2.1 dL_law_1235 hl (k := 4) rfl (nI_add (5 * j) 5) (by decide) rfl (fun ls hl => ?_)
      refine lv_goto (tgt := 23) F.1 F.2.1 dL_law_1238 (by decide) ?_
      refine W.widen (k := 216 + (j + 1)) (n := 11263 + 6 * (j + 1)) (by omega) (by omega) ?_
      exact ih (j + 1) (by omega) (by omega) HS' zkb zdr zky zpn' zps' ztz ztn zxz zxa zsg za0 za1 za2 za3 za4 zfr zcd zgo ztd ztv zcl zca zwa zpt zpf mth' mto mrw mta mtp mat mtt mme' mun' mde mco mcn mvi men mfa mac mfi mse mtd mra mkp _ hI _ _ hPX hPM hPO hS ls (lv_sub hl [1, 2, 3, 4, 0] rfl)
    by_cases hc9 : xk = 9
    · refine lv_tableIn (tgt := 493) (off := 454) F.1 F.2.1 dL_law_39 (by rw [hc9]; decide) (by rw [hc9]; decide) (by rw [hc9]; rfl) (by decide) ?_
      obtain ⟨r', b', mth', hE1, hE2, hTh, hI⟩ := h_object HS zkb zdr zky zpn zps ztz ztn zxz zxa zsg za0 za1 za2 za3 za4 zfr zcd zgo ztd ztv zcl zca zwa zpt zpf mth mto mrw mta mtp mat mtt mme mun mde mco mcn mvi men mfa mac mfi mse mtd mra mkp (xs (nI (5 * j + 1)).toNatClampNeg) (xs (nI (5 * j + 2)).toNatClampNeg) hI
      refine lv_aload_n F.1 F.2.1 dL_law_493 rfl (lv_at hl 1 rfl) ?_
      refine lv_aload_n F.1 F.2.1 dL_law_494 rfl (lv_at hl 0 rfl) ?_
      refine lv_iload F.1 F.2.1 dL_law_495 (lv_at hl 4 rfl) ?_
      refine lv_iconst (v := 1) F.1 F.2.1 dL_law_497 (by decide) ?_
      refine lv_iadd F.1 F.2.1 dL_law_498 ?_
      refine lv_seti (y := nI (5 * j + 1)) (nI_add (5 * j) 1).symm ?_
      refine va_sld F.1 F.2.1 hX hbl hbA hS (vp_in_nI (by omega) (by omega)) dL_law_499 ?_
      refine lv_aload_n F.1 F.2.1 dL_law_500 rfl (lv_at hl 0 rfl) ?_
      refine lv_iload F.1 F.2.1 dL_law_501 (lv_at hl 4 rfl) ?_
      refine lv_iconst (v := 2) F.1 F.2.1 dL_law_503 (by decide) ?_
      refine lv_iadd F.1 F.2.1 dL_law_504 ?_
      refine lv_seti (y := nI (5 * j + 2)) (nI_add (5 * j) 2).symm ?_
      refine va_sld F.1 F.2.1 hX hbl hbA hS (vp_in_nI (by omega) (by omega)) dL_law_505 ?_
      refine lv_aload_n F.1 F.2.1 dL_law_506 rfl (lv_at hl 3 rfl) ?_
      refine va_calli (lw_X (n := 4) (y := yL_object) (P0 := fun H => PX Z HS zkb zdr zky zpn zps ztz ztn zxz zxa zsg za0 za1 za2 za3 za4 zfr zcd zgo ztd ztv zcl zca zwa zpt zpf H ∧ PO Z o f H) (K := KXO Z o) (As := [.ref (oA Z 0), .int (xs (nI (5 * j + 1)).toNatClampNeg), .int (xs (nI (5 * j + 2)).toNatClampNeg), .ref o]) (rest := []) F (kL_object (N := N) hlt hE1) (okXO Z o) G.1.2.2.2 hS (bw_t 850 (by decide +kernel) rfl) (bw_t 851 (by decide +kernel) rfl) (bw_t 0 (by decide +kernel) rfl) (bw_t 852 (by decide +kernel) rfl) ⟨by decide, by decide, by decide +kernel⟩ ⟨Nat.le_of_ble_eq_true rfl, Nat.le_of_ble_eq_true rfl⟩ ⟨hPX, hPO⟩ rfl hl.1 rfl (lv_room (Nat.le_of_ble_eq_true rfl)) dL_law_507 ⟨by show 216 + j + 1 ≤ 601024; omega, by show 11263 + 6 * j + 6 ≤ 7293034; omega⟩) hS (fun q _ h => hAO q h) (fun q h => hAO q h) (fun rk fk t H1 locs ht _ hw hB _ hk hS => ?_)
      subst ht
      have hPM := PM_kept G.1.2.1 hPM hk (fun q h1 h2 => h2.elim (fun h3 => G.2.2.2.2.1 q h3 h1) (fun h3 => G.2.2.2.2.2 (h3 ▸ h1)))
      clear hPX hPO
      obtain ⟨hPX, hPO⟩ := hB
      rcases hTh with ⟨hT1, hT2⟩ | ⟨hT1, hT2⟩
      · have hw : rk = 1 ∧ fk = f := by
          rcases hw with ⟨w1, w2, w3⟩ | ⟨v, w1, w2, w3⟩
          · exact ⟨w2, w3⟩
          · rw [hT1] at w1; cases w1
        obtain ⟨rfl, rfl⟩ := hw
        refine lv_istore (lv' := [(5, .int 1), (0, .ref b), (1, .ref (oA Z 0)), (2, .ref (mA Zm 0)), (3, .ref o), (4, .int (nI (5 * j)))]) F.1 F.2.1 dL_law_510 hl (by decide) rfl (fun ls hl => ?_)
        refine lv_aload_n F.1 F.2.1 dL_law_512 rfl (lv_at hl 3 rfl) ?_
        refine lv_aload_n F.1 F.2.1 dL_law_513 rfl (lv_at hl 1 rfl) ?_
        refine lv_iload F.1 F.2.1 dL_law_514 (lv_at hl 5 rfl) ?_
        refine lv_iconst (v := 1) F.1 F.2.1 dL_law_516 (by decide) ?_
        refine lv_iadd F.1 F.2.1 dL_law_517 ?_
        refine lv_seti (y := nI (5 * j + 1)) (nI_add (5 * j) 1).symm ?_
        refine va_sld F.1 F.2.1 hX hbl hbA hS (vp_in_nI (by omega) (by omega)) dL_law_518 ?_
        refine lv_aload_n F.1 F.2.1 dL_law_519 rfl (lv_at hl 1 rfl) ?_
        refine lv_iload F.1 F.2.1 dL_law_520 (lv_at hl 5 rfl) ?_
        refine lv_iconst (v := 2) F.1 F.2.1 dL_law_522 (by decide) ?_
        refine lv_iadd F.1 F.2.1 dL_law_523 ?_
        refine lv_seti (y := nI (5 * j + 2)) (nI_add (5 * j) 2).symm ?_
        refine va_sld F.1 F.2.1 hX hbl hbA hS (vp_in_nI (by omega) (by omega)) dL_law_524 ?_
        refine lw_i (lw_V (As := [.int (xs (nI (5 * j + 1)).toNatClampNeg), .int (xs (nI (5 * j + 2)).toNatClampNeg)]) (rest := []) F (kX12_object hE2) (okM Zm) G.1.2.1 hS lkL_78 ⟨Nat.le_of_ble_eq_true rfl, Nat.le_of_ble_eq_true rfl⟩ (rvM G.1.2.1 hPM) hPM rfl hl.1 rfl (lv_room (Nat.le_of_ble_eq_true rfl)) dL_law_525 ⟨by show 216 + j + 1 ≤ 601024; omega, by show 11263 + 6 * j + 6 ≤ 7293034; omega⟩) hS G.2.2.1 (fun H1 locs hPM hk hS => ?_)
        have hPX := PX_kept2 G.1.1 hPX hk (fun q h1 h2 => G.2.2.2.2.1 q h1 h2)
        have hPO := PO_kept2 hPO G.2.2.2.2.2 hk
        refine lv_istore (lv' := [(6, .int b'), (5, .int 1), (0, .ref b), (1, .ref (oA Z 0)), (2, .ref (mA Zm 0)), (3, .ref o), (4, .int (nI (5 * j)))]) F.1 F.2.1 dL_law_528 hl (by decide) rfl (fun ls hl => ?_)
        refine lv_aload_n F.1 F.2.1 dL_law_530 rfl (lv_at hl 4 rfl) ?_
        have hE3 : fX12_thrown mth' = some mth' := rfl
        refine lw_i (lw_V (As := []) (rest := []) F (kX12_thrown hE3) (okM Zm) G.1.2.1 hS lkL_79 ⟨Nat.le_of_ble_eq_true rfl, Nat.le_of_ble_eq_true rfl⟩ (rvM G.1.2.1 hPM) hPM rfl hl.1 rfl (lv_room (Nat.le_of_ble_eq_true rfl)) dL_law_531 ⟨by show 216 + j + 1 ≤ 601024; omega, by show 11263 + 6 * j + 6 ≤ 7293034; omega⟩) hS G.2.2.1 (fun H1 locs hPM hk hS => ?_)
        have hPX := PX_kept2 G.1.1 hPX hk (fun q h1 h2 => G.2.2.2.2.1 q h1 h2)
        have hPO := PO_kept2 hPO G.2.2.2.2.2 hk
        refine lv_iload F.1 F.2.1 dL_law_534 (lv_at hl 1 rfl) ?_
        refine lv_icmp_eq (tgt := 541) F.1 F.2.1 dL_law_536 (by decide) (fun _ => ?_) (fun hc => absurd hT2 hc)
        refine lv_iload F.1 F.2.1 dL_law_541 (lv_at hl 1 rfl) ?_
        refine lv_if_ne (tgt := 558) F.1 F.2.1 dL_law_543 (by decide) (fun _ => ?_) (fun hc => absurd hc (by decide))
        refine lv_goto (tgt := 1235) F.1 F.2.1 dL_law_558 (by decide) ?_
        refine lv_iinc (v := nI (5 * (j + 1))) (lv' := [(4, .int (nI (5 * (j + 1)))), (6, .int b'), (5, .int 1), (0, .ref b), (1, .ref (oA Z 0)), (2, .ref (mA Zm 0)), (3, .ref o)]) F.1 F.2.1 dL_law_1235 hl (k := 6) rfl (nI_add (5 * j) 5) (by decide) rfl (fun ls hl => ?_)
        refine lv_goto (tgt := 23) F.1 F.2.1 dL_law_1238 (by decide) ?_
        refine W.widen (k := 216 + (j + 1)) (n := 11263 + 6 * (j + 1)) (by omega) (by omega) ?_
        exact ih (j + 1) (by omega) (by omega) HS zkb zdr zky zpn zps ztz ztn zxz zxa zsg za0 za1 za2 za3 za4 zfr zcd zgo ztd ztv zcl zca zwa zpt zpf mth' mto mrw mta mtp mat mtt mme mun mde mco mcn mvi men mfa mac mfi mse mtd mra mkp _ hI _ _ hPX hPM hPO hS ls (lv_sub hl [3, 4, 5, 6, 0] rfl)
      · have hw : rk = 0 ∧ fk = vp_updL f 0 b'.toInt64 := by
          rcases hw with ⟨w1, w2, w3⟩ | ⟨v, w1, w2, w3⟩
          · rw [hT1] at w1; cases w1
          · rw [hT1] at w1; cases w1; exact ⟨w2, w3⟩
        obtain ⟨rfl, rfl⟩ := hw
        refine lv_istore (lv' := [(5, .int 0), (0, .ref b), (1, .ref (oA Z 0)), (2, .ref (mA Zm 0)), (3, .ref o), (4, .int (nI (5 * j)))]) F.1 F.2.1 dL_law_510 hl (by decide) rfl (fun ls hl => ?_)
        refine lv_aload_n F.1 F.2.1 dL_law_512 rfl (lv_at hl 3 rfl) ?_
        refine lv_aload_n F.1 F.2.1 dL_law_513 rfl (lv_at hl 1 rfl) ?_
        refine lv_iload F.1 F.2.1 dL_law_514 (lv_at hl 5 rfl) ?_
        refine lv_iconst (v := 1) F.1 F.2.1 dL_law_516 (by decide) ?_
        refine lv_iadd F.1 F.2.1 dL_law_517 ?_
        refine lv_seti (y := nI (5 * j + 1)) (nI_add (5 * j) 1).symm ?_
        refine va_sld F.1 F.2.1 hX hbl hbA hS (vp_in_nI (by omega) (by omega)) dL_law_518 ?_
        refine lv_aload_n F.1 F.2.1 dL_law_519 rfl (lv_at hl 1 rfl) ?_
        refine lv_iload F.1 F.2.1 dL_law_520 (lv_at hl 5 rfl) ?_
        refine lv_iconst (v := 2) F.1 F.2.1 dL_law_522 (by decide) ?_
        refine lv_iadd F.1 F.2.1 dL_law_523 ?_
        refine lv_seti (y := nI (5 * j + 2)) (nI_add (5 * j) 2).symm ?_
        refine va_sld F.1 F.2.1 hX hbl hbA hS (vp_in_nI (by omega) (by omega)) dL_law_524 ?_
        refine lw_i (lw_V (As := [.int (xs (nI (5 * j + 1)).toNatClampNeg), .int (xs (nI (5 * j + 2)).toNatClampNeg)]) (rest := []) F (kX12_object hE2) (okM Zm) G.1.2.1 hS lkL_78 ⟨Nat.le_of_ble_eq_true rfl, Nat.le_of_ble_eq_true rfl⟩ (rvM G.1.2.1 hPM) hPM rfl hl.1 rfl (lv_room (Nat.le_of_ble_eq_true rfl)) dL_law_525 ⟨by show 216 + j + 1 ≤ 601024; omega, by show 11263 + 6 * j + 6 ≤ 7293034; omega⟩) hS G.2.2.1 (fun H1 locs hPM hk hS => ?_)
        have hPX := PX_kept2 G.1.1 hPX hk (fun q h1 h2 => G.2.2.2.2.1 q h1 h2)
        have hPO := PO_kept2 hPO G.2.2.2.2.2 hk
        refine lv_istore (lv' := [(6, .int b'), (5, .int 0), (0, .ref b), (1, .ref (oA Z 0)), (2, .ref (mA Zm 0)), (3, .ref o), (4, .int (nI (5 * j)))]) F.1 F.2.1 dL_law_528 hl (by decide) rfl (fun ls hl => ?_)
        refine lv_aload_n F.1 F.2.1 dL_law_530 rfl (lv_at hl 4 rfl) ?_
        have hE3 : fX12_thrown mth' = some mth' := rfl
        refine lw_i (lw_V (As := []) (rest := []) F (kX12_thrown hE3) (okM Zm) G.1.2.1 hS lkL_79 ⟨Nat.le_of_ble_eq_true rfl, Nat.le_of_ble_eq_true rfl⟩ (rvM G.1.2.1 hPM) hPM rfl hl.1 rfl (lv_room (Nat.le_of_ble_eq_true rfl)) dL_law_531 ⟨by show 216 + j + 1 ≤ 601024; omega, by show 11263 + 6 * j + 6 ≤ 7293034; omega⟩) hS G.2.2.1 (fun H1 locs hPM hk hS => ?_)
        have hPX := PX_kept2 G.1.1 hPX hk (fun q h1 h2 => G.2.2.2.2.1 q h1 h2)
        have hPO := PO_kept2 hPO G.2.2.2.2.2 hk
        refine lv_iload F.1 F.2.1 dL_law_534 (lv_at hl 1 rfl) ?_
        refine lv_icmp_eq (tgt := 541) F.1 F.2.1 dL_law_536 (by decide) (fun _ => ?_) (fun hc => absurd hT2 hc)
        refine lv_iload F.1 F.2.1 dL_law_541 (lv_at hl 1 rfl) ?_
        refine lv_if_ne (tgt := 558) F.1 F.2.1 dL_law_543 (by decide) (fun hc => absurd rfl hc) (fun _ => ?_)
        refine lv_aload_n F.1 F.2.1 dL_law_546 rfl (lv_at hl 5 rfl) ?_
        refine lv_iconst (v := 0) F.1 F.2.1 dL_law_547 (by decide) ?_
        refine va_lald F.1 F.2.1 G.1.1.2.1 hPO 0 1 rfl rfl (inb_in (by decide)) dL_law_548 ?_
        refine lv_iload F.1 F.2.1 dL_law_549 (lv_at hl 0 rfl) ?_
        refine lv_i2l (v := b'.toInt64) F.1 F.2.1 dL_law_551 rfl ?_
        refine W.lcmp F.1 F.2.1 dL_law_552 ?_
        refine lv_if_eq (tgt := 558) F.1 F.2.1 dL_law_553 (by decide) (fun _ => ?_) (fun hc => absurd (lg_same _) hc)
        refine lv_goto (tgt := 1235) F.1 F.2.1 dL_law_558 (by decide) ?_
        refine lv_iinc (v := nI (5 * (j + 1))) (lv' := [(4, .int (nI (5 * (j + 1)))), (6, .int b'), (5, .int 0), (0, .ref b), (1, .ref (oA Z 0)), (2, .ref (mA Zm 0)), (3, .ref o)]) F.1 F.2.1 dL_law_1235 hl (k := 6) rfl (nI_add (5 * j) 5) (by decide) rfl (fun ls hl => ?_)
        refine lv_goto (tgt := 23) F.1 F.2.1 dL_law_1238 (by decide) ?_
        refine W.widen (k := 216 + (j + 1)) (n := 11263 + 6 * (j + 1)) (by omega) (by omega) ?_
        exact ih (j + 1) (by omega) (by omega) HS zkb zdr zky zpn zps ztz ztn zxz zxa zsg za0 za1 za2 za3 za4 zfr zcd zgo ztd ztv zcl zca zwa zpt zpf mth' mto mrw mta mtp mat mtt mme mun mde mco mcn mvi men mfa mac mfi mse mtd mra mkp _ hI _ _ hPX hPM hPO hS ls (lv_sub hl [3, 4, 5, 6, 0] rfl)
    by_cases hc10 : xk = 10
    · refine lv_tableIn (tgt := 561) (off := 522) F.1 F.2.1 dL_law_39 (by rw [hc10]; decide) (by rw [hc10]; decide) (by rw [hc10]; rfl) (by decide) ?_
      obtain ⟨r', b', mth', hE1, hE2, hTh, hI⟩ := h_field HS zkb zdr zky zpn zps ztz ztn zxz zxa zsg za0 za1 za2 za3 za4 zfr zcd zgo ztd ztv zcl zca zwa zpt zpf mth mto mrw mta mtp mat mtt mme mun mde mco mcn mvi men mfa mac mfi mse mtd mra mkp (xs (nI (5 * j + 1)).toNatClampNeg) (xs (nI (5 * j + 2)).toNatClampNeg) hI
      refine lv_aload_n F.1 F.2.1 dL_law_561 rfl (lv_at hl 1 rfl) ?_
      refine lv_aload_n F.1 F.2.1 dL_law_562 rfl (lv_at hl 0 rfl) ?_
      refine lv_iload F.1 F.2.1 dL_law_563 (lv_at hl 4 rfl) ?_
      refine lv_iconst (v := 1) F.1 F.2.1 dL_law_565 (by decide) ?_
      refine lv_iadd F.1 F.2.1 dL_law_566 ?_
      refine lv_seti (y := nI (5 * j + 1)) (nI_add (5 * j) 1).symm ?_
      refine va_sld F.1 F.2.1 hX hbl hbA hS (vp_in_nI (by omega) (by omega)) dL_law_567 ?_
      refine lv_aload_n F.1 F.2.1 dL_law_568 rfl (lv_at hl 0 rfl) ?_
      refine lv_iload F.1 F.2.1 dL_law_569 (lv_at hl 4 rfl) ?_
      refine lv_iconst (v := 2) F.1 F.2.1 dL_law_571 (by decide) ?_
      refine lv_iadd F.1 F.2.1 dL_law_572 ?_
      refine lv_seti (y := nI (5 * j + 2)) (nI_add (5 * j) 2).symm ?_
      refine va_sld F.1 F.2.1 hX hbl hbA hS (vp_in_nI (by omega) (by omega)) dL_law_573 ?_
      refine lv_aload_n F.1 F.2.1 dL_law_574 rfl (lv_at hl 3 rfl) ?_
      refine va_calli (lw_X (n := 4) (y := yL_field) (P0 := fun H => PX Z HS zkb zdr zky zpn zps ztz ztn zxz zxa zsg za0 za1 za2 za3 za4 zfr zcd zgo ztd ztv zcl zca zwa zpt zpf H ∧ PO Z o f H) (K := KXO Z o) (As := [.ref (oA Z 0), .int (xs (nI (5 * j + 1)).toNatClampNeg), .int (xs (nI (5 * j + 2)).toNatClampNeg), .ref o]) (rest := []) F (kL_field (N := N) hlt hE1) (okXO Z o) G.1.2.2.2 hS (bw_t 929 (by decide +kernel) rfl) (bw_t 930 (by decide +kernel) rfl) (bw_t 0 (by decide +kernel) rfl) (bw_t 931 (by decide +kernel) rfl) ⟨by decide, by decide, by decide +kernel⟩ ⟨Nat.le_of_ble_eq_true rfl, Nat.le_of_ble_eq_true rfl⟩ ⟨hPX, hPO⟩ rfl hl.1 rfl (lv_room (Nat.le_of_ble_eq_true rfl)) dL_law_575 ⟨by show 216 + j + 1 ≤ 601024; omega, by show 11263 + 6 * j + 6 ≤ 7293034; omega⟩) hS (fun q _ h => hAO q h) (fun q h => hAO q h) (fun rk fk t H1 locs ht _ hw hB _ hk hS => ?_)
      subst ht
      have hPM := PM_kept G.1.2.1 hPM hk (fun q h1 h2 => h2.elim (fun h3 => G.2.2.2.2.1 q h3 h1) (fun h3 => G.2.2.2.2.2 (h3 ▸ h1)))
      clear hPX hPO
      obtain ⟨hPX, hPO⟩ := hB
      rcases hTh with ⟨hT1, hT2⟩ | ⟨hT1, hT2⟩
      · have hw : rk = 1 ∧ fk = f := by
          rcases hw with ⟨w1, w2, w3⟩ | ⟨v, w1, w2, w3⟩
          · exact ⟨w2, w3⟩
          · rw [hT1] at w1; cases w1
        obtain ⟨rfl, rfl⟩ := hw
        refine lv_istore (lv' := [(5, .int 1), (0, .ref b), (1, .ref (oA Z 0)), (2, .ref (mA Zm 0)), (3, .ref o), (4, .int (nI (5 * j)))]) F.1 F.2.1 dL_law_578 hl (by decide) rfl (fun ls hl => ?_)
        refine lv_aload_n F.1 F.2.1 dL_law_580 rfl (lv_at hl 3 rfl) ?_
        refine lv_aload_n F.1 F.2.1 dL_law_581 rfl (lv_at hl 1 rfl) ?_
        refine lv_iload F.1 F.2.1 dL_law_582 (lv_at hl 5 rfl) ?_
        refine lv_iconst (v := 1) F.1 F.2.1 dL_law_584 (by decide) ?_
        refine lv_iadd F.1 F.2.1 dL_law_585 ?_
        refine lv_seti (y := nI (5 * j + 1)) (nI_add (5 * j) 1).symm ?_
        refine va_sld F.1 F.2.1 hX hbl hbA hS (vp_in_nI (by omega) (by omega)) dL_law_586 ?_
        refine lv_aload_n F.1 F.2.1 dL_law_587 rfl (lv_at hl 1 rfl) ?_
        refine lv_iload F.1 F.2.1 dL_law_588 (lv_at hl 5 rfl) ?_
        refine lv_iconst (v := 2) F.1 F.2.1 dL_law_590 (by decide) ?_
        refine lv_iadd F.1 F.2.1 dL_law_591 ?_
        refine lv_seti (y := nI (5 * j + 2)) (nI_add (5 * j) 2).symm ?_
        refine va_sld F.1 F.2.1 hX hbl hbA hS (vp_in_nI (by omega) (by omega)) dL_law_592 ?_
        refine lw_i (lw_V (As := [.int (xs (nI (5 * j + 1)).toNatClampNeg), .int (xs (nI (5 * j + 2)).toNatClampNeg)]) (rest := []) F (kX12_field hE2) (okM Zm) G.1.2.1 hS lkL_84 ⟨Nat.le_of_ble_eq_true rfl, Nat.le_of_ble_eq_true rfl⟩ (rvM G.1.2.1 hPM) hPM rfl hl.1 rfl (lv_room (Nat.le_of_ble_eq_true rfl)) dL_law_593 ⟨by show 216 + j + 1 ≤ 601024; omega, by show 11263 + 6 * j + 6 ≤ 7293034; omega⟩) hS G.2.2.1 (fun H1 locs hPM hk hS => ?_)
        have hPX := PX_kept2 G.1.1 hPX hk (fun q h1 h2 => G.2.2.2.2.1 q h1 h2)
        have hPO := PO_kept2 hPO G.2.2.2.2.2 hk
        refine lv_istore (lv' := [(6, .int b'), (5, .int 1), (0, .ref b), (1, .ref (oA Z 0)), (2, .ref (mA Zm 0)), (3, .ref o), (4, .int (nI (5 * j)))]) F.1 F.2.1 dL_law_596 hl (by decide) rfl (fun ls hl => ?_)
        refine lv_aload_n F.1 F.2.1 dL_law_598 rfl (lv_at hl 4 rfl) ?_
        have hE3 : fX12_thrown mth' = some mth' := rfl
        refine lw_i (lw_V (As := []) (rest := []) F (kX12_thrown hE3) (okM Zm) G.1.2.1 hS lkL_79 ⟨Nat.le_of_ble_eq_true rfl, Nat.le_of_ble_eq_true rfl⟩ (rvM G.1.2.1 hPM) hPM rfl hl.1 rfl (lv_room (Nat.le_of_ble_eq_true rfl)) dL_law_599 ⟨by show 216 + j + 1 ≤ 601024; omega, by show 11263 + 6 * j + 6 ≤ 7293034; omega⟩) hS G.2.2.1 (fun H1 locs hPM hk hS => ?_)
        have hPX := PX_kept2 G.1.1 hPX hk (fun q h1 h2 => G.2.2.2.2.1 q h1 h2)
        have hPO := PO_kept2 hPO G.2.2.2.2.2 hk
        refine lv_iload F.1 F.2.1 dL_law_602 (lv_at hl 1 rfl) ?_
        refine lv_icmp_eq (tgt := 609) F.1 F.2.1 dL_law_604 (by decide) (fun _ => ?_) (fun hc => absurd hT2 hc)
        refine lv_iload F.1 F.2.1 dL_law_609 (lv_at hl 1 rfl) ?_
        refine lv_if_ne (tgt := 626) F.1 F.2.1 dL_law_611 (by decide) (fun _ => ?_) (fun hc => absurd hc (by decide))
        refine lv_goto (tgt := 1235) F.1 F.2.1 dL_law_626 (by decide) ?_
        refine lv_iinc (v := nI (5 * (j + 1))) (lv' := [(4, .int (nI (5 * (j + 1)))), (6, .int b'), (5, .int 1), (0, .ref b), (1, .ref (oA Z 0)), (2, .ref (mA Zm 0)), (3, .ref o)]) F.1 F.2.1 dL_law_1235 hl (k := 6) rfl (nI_add (5 * j) 5) (by decide) rfl (fun ls hl => ?_)
        refine lv_goto (tgt := 23) F.1 F.2.1 dL_law_1238 (by decide) ?_
        refine W.widen (k := 216 + (j + 1)) (n := 11263 + 6 * (j + 1)) (by omega) (by omega) ?_
        exact ih (j + 1) (by omega) (by omega) HS zkb zdr zky zpn zps ztz ztn zxz zxa zsg za0 za1 za2 za3 za4 zfr zcd zgo ztd ztv zcl zca zwa zpt zpf mth' mto mrw mta mtp mat mtt mme mun mde mco mcn mvi men mfa mac mfi mse mtd mra mkp _ hI _ _ hPX hPM hPO hS ls (lv_sub hl [3, 4, 5, 6, 0] rfl)
      · have hw : rk = 0 ∧ fk = vp_updL f 0 b'.toInt64 := by
          rcases hw with ⟨w1, w2, w3⟩ | ⟨v, w1, w2, w3⟩
          · rw [hT1] at w1; cases w1
          · rw [hT1] at w1; cases w1; exact ⟨w2, w3⟩
        obtain ⟨rfl, rfl⟩ := hw
        refine lv_istore (lv' := [(5, .int 0), (0, .ref b), (1, .ref (oA Z 0)), (2, .ref (mA Zm 0)), (3, .ref o), (4, .int (nI (5 * j)))]) F.1 F.2.1 dL_law_578 hl (by decide) rfl (fun ls hl => ?_)
        refine lv_aload_n F.1 F.2.1 dL_law_580 rfl (lv_at hl 3 rfl) ?_
        refine lv_aload_n F.1 F.2.1 dL_law_581 rfl (lv_at hl 1 rfl) ?_
        refine lv_iload F.1 F.2.1 dL_law_582 (lv_at hl 5 rfl) ?_
        refine lv_iconst (v := 1) F.1 F.2.1 dL_law_584 (by decide) ?_
        refine lv_iadd F.1 F.2.1 dL_law_585 ?_
        refine lv_seti (y := nI (5 * j + 1)) (nI_add (5 * j) 1).symm ?_
        refine va_sld F.1 F.2.1 hX hbl hbA hS (vp_in_nI (by omega) (by omega)) dL_law_586 ?_
        refine lv_aload_n F.1 F.2.1 dL_law_587 rfl (lv_at hl 1 rfl) ?_
        refine lv_iload F.1 F.2.1 dL_law_588 (lv_at hl 5 rfl) ?_
        refine lv_iconst (v := 2) F.1 F.2.1 dL_law_590 (by decide) ?_
        refine lv_iadd F.1 F.2.1 dL_law_591 ?_
        refine lv_seti (y := nI (5 * j + 2)) (nI_add (5 * j) 2).symm ?_
        refine va_sld F.1 F.2.1 hX hbl hbA hS (vp_in_nI (by omega) (by omega)) dL_law_592 ?_
        refine lw_i (lw_V (As := [.int (xs (nI (5 * j + 1)).toNatClampNeg), .int (xs (nI (5 * j + 2)).toNatClampNeg)]) (rest := []) F (kX12_field hE2) (okM Zm) G.1.2.1 hS lkL_84 ⟨Nat.le_of_ble_eq_true rfl, Nat.le_of_ble_eq_true rfl⟩ (rvM G.1.2.1 hPM) hPM rfl hl.1 rfl (lv_room (Nat.le_of_ble_eq_true rfl)) dL_law_593 ⟨by show 216 + j + 1 ≤ 601024; omega, by show 11263 + 6 * j + 6 ≤ 7293034; omega⟩) hS G.2.2.1 (fun H1 locs hPM hk hS => ?_)
        have hPX := PX_kept2 G.1.1 hPX hk (fun q h1 h2 => G.2.2.2.2.1 q h1 h2)
        have hPO := PO_kept2 hPO G.2.2.2.2.2 hk
        refine lv_istore (lv' := [(6, .int b'), (5, .int 0), (0, .ref b), (1, .ref (oA Z 0)), (2, .ref (mA Zm 0)), (3, .ref o), (4, .int (nI (5 * j)))]) F.1 F.2.1 dL_law_596 hl (by decide) rfl (fun ls hl => ?_)
        refine lv_aload_n F.1 F.2.1 dL_law_598 rfl (lv_at hl 4 rfl) ?_
        have hE3 : fX12_thrown mth' = some mth' := rfl
        refine lw_i (lw_V (As := []) (rest := []) F (kX12_thrown hE3) (okM Zm) G.1.2.1 hS lkL_79 ⟨Nat.le_of_ble_eq_true rfl, Nat.le_of_ble_eq_true rfl⟩ (rvM G.1.2.1 hPM) hPM rfl hl.1 rfl (lv_room (Nat.le_of_ble_eq_true rfl)) dL_law_599 ⟨by show 216 + j + 1 ≤ 601024; omega, by show 11263 + 6 * j + 6 ≤ 7293034; omega⟩) hS G.2.2.1 (fun H1 locs hPM hk hS => ?_)
        have hPX := PX_kept2 G.1.1 hPX hk (fun q h1 h2 => G.2.2.2.2.1 q h1 h2)
        have hPO := PO_kept2 hPO G.2.2.2.2.2 hk
        refine lv_iload F.1 F.2.1 dL_law_602 (lv_at hl 1 rfl) ?_
        refine lv_icmp_eq (tgt := 609) F.1 F.2.1 dL_law_604 (by decide) (fun _ => ?_) (fun hc => absurd hT2 hc)
        refine lv_iload F.1 F.2.1 dL_law_609 (lv_at hl 1 rfl) ?_
        refine lv_if_ne (tgt := 626) F.1 F.2.1 dL_law_611 (by decide) (fun hc => absurd rfl hc) (fun _ => ?_)
        refine lv_aload_n F.1 F.2.1 dL_law_614 rfl (lv_at hl 5 rfl) ?_
        refine lv_iconst (v := 0) F.1 F.2.1 dL_law_615 (by decide) ?_
        refine va_lald F.1 F.2.1 G.1.1.2.1 hPO 0 1 rfl rfl (inb_in (by decide)) dL_law_616 ?_
        refine lv_iload F.1 F.2.1 dL_law_617 (lv_at hl 0 rfl) ?_
        refine lv_i2l (v := b'.toInt64) F.1 F.2.1 dL_law_619 rfl ?_
        refine W.lcmp F.1 F.2.1 dL_law_620 ?_
        refine lv_if_eq (tgt := 626) F.1 F.2.1 dL_law_621 (by decide) (fun _ => ?_) (fun hc => absurd (lg_same _) hc)
        refine lv_goto (tgt := 1235) F.1 F.2.1 dL_law_626 (by decide) ?_
        refine lv_iinc (v := nI (5 * (j + 1))) (lv' := [(4, .int (nI (5 * (j + 1)))), (6, .int b'), (5, .int 0), (0, .ref b), (1, .ref (oA Z 0)), (2, .ref (mA Zm 0)), (3, .ref o)]) F.1 F.2.1 dL_law_1235 hl (k := 6) rfl (nI_add (5 * j) 5) (by decide) rfl (fun ls hl => ?_)
        refine lv_goto (tgt := 23) F.1 F.2.1 dL_law_1238 (by decide) ?_
        refine W.widen (k := 216 + (j + 1)) (n := 11263 + 6 * (j + 1)) (by omega) (by omega) ?_
        exact ih (j + 1) (by omega) (by omega) HS zkb zdr zky zpn zps ztz ztn zxz zxa zsg za0 za1 za2 za3 za4 zfr zcd zgo ztd ztv zcl zca zwa zpt zpf mth' mto mrw mta mtp mat mtt mme mun mde mco mcn mvi men mfa mac mfi mse mtd mra mkp _ hI _ _ hPX hPM hPO hS ls (lv_sub hl [3, 4, 5, 6, 0] rfl)
    by_cases hc11 : xk = 11
    · refine lv_tableIn (tgt := 629) (off := 590) F.1 F.2.1 dL_law_39 (by rw [hc11]; decide) (by rw [hc11]; decide) (by rw [hc11]; rfl) (by decide) ?_
      obtain ⟨r', b', mth', hE1, hE2, hTh, hI⟩ := h_root HS zkb zdr zky zpn zps ztz ztn zxz zxa zsg za0 za1 za2 za3 za4 zfr zcd zgo ztd ztv zcl zca zwa zpt zpf mth mto mrw mta mtp mat mtt mme mun mde mco mcn mvi men mfa mac mfi mse mtd mra mkp (xs (nI (5 * j + 1)).toNatClampNeg) hI
      refine lv_aload_n F.1 F.2.1 dL_law_629 rfl (lv_at hl 1 rfl) ?_
      refine lv_aload_n F.1 F.2.1 dL_law_630 rfl (lv_at hl 0 rfl) ?_
      refine lv_iload F.1 F.2.1 dL_law_631 (lv_at hl 4 rfl) ?_
      refine lv_iconst (v := 1) F.1 F.2.1 dL_law_633 (by decide) ?_
      refine lv_iadd F.1 F.2.1 dL_law_634 ?_
      refine lv_seti (y := nI (5 * j + 1)) (nI_add (5 * j) 1).symm ?_
      refine va_sld F.1 F.2.1 hX hbl hbA hS (vp_in_nI (by omega) (by omega)) dL_law_635 ?_
      refine lv_aload_n F.1 F.2.1 dL_law_636 rfl (lv_at hl 3 rfl) ?_
      refine va_calli (lw_X (n := 3) (y := yL_root) (P0 := fun H => PX Z HS zkb zdr zky zpn zps ztz ztn zxz zxa zsg za0 za1 za2 za3 za4 zfr zcd zgo ztd ztv zcl zca zwa zpt zpf H ∧ PO Z o f H) (K := KXO Z o) (As := [.ref (oA Z 0), .int (xs (nI (5 * j + 1)).toNatClampNeg), .ref o]) (rest := []) F (kL_root (N := N) hlt hE1) (okXO Z o) G.1.2.2.2 hS (bw_t 937 (by decide +kernel) rfl) (bw_t 938 (by decide +kernel) rfl) (bw_t 0 (by decide +kernel) rfl) (bw_t 939 (by decide +kernel) rfl) ⟨by decide, by decide, by decide +kernel⟩ ⟨Nat.le_of_ble_eq_true rfl, Nat.le_of_ble_eq_true rfl⟩ ⟨hPX, hPO⟩ rfl hl.1 rfl (lv_room (Nat.le_of_ble_eq_true rfl)) dL_law_637 ⟨by show 216 + j + 1 ≤ 601024; omega, by show 11263 + 6 * j + 6 ≤ 7293034; omega⟩) hS (fun q _ h => hAO q h) (fun q h => hAO q h) (fun rk fk t H1 locs ht _ hw hB _ hk hS => ?_)
      subst ht
      have hPM := PM_kept G.1.2.1 hPM hk (fun q h1 h2 => h2.elim (fun h3 => G.2.2.2.2.1 q h3 h1) (fun h3 => G.2.2.2.2.2 (h3 ▸ h1)))
      clear hPX hPO
      obtain ⟨hPX, hPO⟩ := hB
      rcases hTh with ⟨hT1, hT2⟩ | ⟨hT1, hT2⟩
      · have hw : rk = 1 ∧ fk = f := by
          rcases hw with ⟨w1, w2, w3⟩ | ⟨v, w1, w2, w3⟩
          · exact ⟨w2, w3⟩
          · rw [hT1] at w1; cases w1
        obtain ⟨rfl, rfl⟩ := hw
        refine lv_istore (lv' := [(5, .int 1), (0, .ref b), (1, .ref (oA Z 0)), (2, .ref (mA Zm 0)), (3, .ref o), (4, .int (nI (5 * j)))]) F.1 F.2.1 dL_law_640 hl (by decide) rfl (fun ls hl => ?_)
        refine lv_aload_n F.1 F.2.1 dL_law_642 rfl (lv_at hl 3 rfl) ?_
        refine lv_aload_n F.1 F.2.1 dL_law_643 rfl (lv_at hl 1 rfl) ?_
        refine lv_iload F.1 F.2.1 dL_law_644 (lv_at hl 5 rfl) ?_
        refine lv_iconst (v := 1) F.1 F.2.1 dL_law_646 (by decide) ?_
        refine lv_iadd F.1 F.2.1 dL_law_647 ?_
        refine lv_seti (y := nI (5 * j + 1)) (nI_add (5 * j) 1).symm ?_
        refine va_sld F.1 F.2.1 hX hbl hbA hS (vp_in_nI (by omega) (by omega)) dL_law_648 ?_
        refine lw_i (lw_V (As := [.int (xs (nI (5 * j + 1)).toNatClampNeg)]) (rest := []) F (kX12_root hE2) (okM Zm) G.1.2.1 hS lkL_88 ⟨Nat.le_of_ble_eq_true rfl, Nat.le_of_ble_eq_true rfl⟩ (rvM G.1.2.1 hPM) hPM rfl hl.1 rfl (lv_room (Nat.le_of_ble_eq_true rfl)) dL_law_649 ⟨by show 216 + j + 1 ≤ 601024; omega, by show 11263 + 6 * j + 6 ≤ 7293034; omega⟩) hS G.2.2.1 (fun H1 locs hPM hk hS => ?_)
        have hPX := PX_kept2 G.1.1 hPX hk (fun q h1 h2 => G.2.2.2.2.1 q h1 h2)
        have hPO := PO_kept2 hPO G.2.2.2.2.2 hk
        refine lv_istore (lv' := [(6, .int b'), (5, .int 1), (0, .ref b), (1, .ref (oA Z 0)), (2, .ref (mA Zm 0)), (3, .ref o), (4, .int (nI (5 * j)))]) F.1 F.2.1 dL_law_652 hl (by decide) rfl (fun ls hl => ?_)
        refine lv_aload_n F.1 F.2.1 dL_law_654 rfl (lv_at hl 4 rfl) ?_
        have hE3 : fX12_thrown mth' = some mth' := rfl
        refine lw_i (lw_V (As := []) (rest := []) F (kX12_thrown hE3) (okM Zm) G.1.2.1 hS lkL_79 ⟨Nat.le_of_ble_eq_true rfl, Nat.le_of_ble_eq_true rfl⟩ (rvM G.1.2.1 hPM) hPM rfl hl.1 rfl (lv_room (Nat.le_of_ble_eq_true rfl)) dL_law_655 ⟨by show 216 + j + 1 ≤ 601024; omega, by show 11263 + 6 * j + 6 ≤ 7293034; omega⟩) hS G.2.2.1 (fun H1 locs hPM hk hS => ?_)
        have hPX := PX_kept2 G.1.1 hPX hk (fun q h1 h2 => G.2.2.2.2.1 q h1 h2)
        have hPO := PO_kept2 hPO G.2.2.2.2.2 hk
        refine lv_iload F.1 F.2.1 dL_law_658 (lv_at hl 1 rfl) ?_
        refine lv_icmp_eq (tgt := 665) F.1 F.2.1 dL_law_660 (by decide) (fun _ => ?_) (fun hc => absurd hT2 hc)
        refine lv_iload F.1 F.2.1 dL_law_665 (lv_at hl 1 rfl) ?_
        refine lv_if_ne (tgt := 682) F.1 F.2.1 dL_law_667 (by decide) (fun _ => ?_) (fun hc => absurd hc (by decide))
        refine lv_goto (tgt := 1235) F.1 F.2.1 dL_law_682 (by decide) ?_
        refine lv_iinc (v := nI (5 * (j + 1))) (lv' := [(4, .int (nI (5 * (j + 1)))), (6, .int b'), (5, .int 1), (0, .ref b), (1, .ref (oA Z 0)), (2, .ref (mA Zm 0)), (3, .ref o)]) F.1 F.2.1 dL_law_1235 hl (k := 6) rfl (nI_add (5 * j) 5) (by decide) rfl (fun ls hl => ?_)
        refine lv_goto (tgt := 23) F.1 F.2.1 dL_law_1238 (by decide) ?_
        refine W.widen (k := 216 + (j + 1)) (n := 11263 + 6 * (j + 1)) (by omega) (by omega) ?_
        exact ih (j + 1) (by omega) (by omega) HS zkb zdr zky zpn zps ztz ztn zxz zxa zsg za0 za1 za2 za3 za4 zfr zcd zgo ztd ztv zcl zca zwa zpt zpf mth' mto mrw mta mtp mat mtt mme mun mde mco mcn mvi men mfa mac mfi mse mtd mra mkp _ hI _ _ hPX hPM hPO hS ls (lv_sub hl [3, 4, 5, 6, 0] rfl)
      · have hw : rk = 0 ∧ fk = vp_updL f 0 b'.toInt64 := by
          rcases hw with ⟨w1, w2, w3⟩ | ⟨v, w1, w2, w3⟩
          · rw [hT1] at w1; cases w1
          · rw [hT1] at w1; cases w1; exact ⟨w2, w3⟩
        obtain ⟨rfl, rfl⟩ := hw
        refine lv_istore (lv' := [(5, .int 0), (0, .ref b), (1, .ref (oA Z 0)), (2, .ref (mA Zm 0)), (3, .ref o), (4, .int (nI (5 * j)))]) F.1 F.2.1 dL_law_640 hl (by decide) rfl (fun ls hl => ?_)
        refine lv_aload_n F.1 F.2.1 dL_law_642 rfl (lv_at hl 3 rfl) ?_
        refine lv_aload_n F.1 F.2.1 dL_law_643 rfl (lv_at hl 1 rfl) ?_
        refine lv_iload F.1 F.2.1 dL_law_644 (lv_at hl 5 rfl) ?_
        refine lv_iconst (v := 1) F.1 F.2.1 dL_law_646 (by decide) ?_
        refine lv_iadd F.1 F.2.1 dL_law_647 ?_
        refine lv_seti (y := nI (5 * j + 1)) (nI_add (5 * j) 1).symm ?_
        refine va_sld F.1 F.2.1 hX hbl hbA hS (vp_in_nI (by omega) (by omega)) dL_law_648 ?_
        refine lw_i (lw_V (As := [.int (xs (nI (5 * j + 1)).toNatClampNeg)]) (rest := []) F (kX12_root hE2) (okM Zm) G.1.2.1 hS lkL_88 ⟨Nat.le_of_ble_eq_true rfl, Nat.le_of_ble_eq_true rfl⟩ (rvM G.1.2.1 hPM) hPM rfl hl.1 rfl (lv_room (Nat.le_of_ble_eq_true rfl)) dL_law_649 ⟨by show 216 + j + 1 ≤ 601024; omega, by show 11263 + 6 * j + 6 ≤ 7293034; omega⟩) hS G.2.2.1 (fun H1 locs hPM hk hS => ?_)
        have hPX := PX_kept2 G.1.1 hPX hk (fun q h1 h2 => G.2.2.2.2.1 q h1 h2)
        have hPO := PO_kept2 hPO G.2.2.2.2.2 hk
        refine lv_istore (lv' := [(6, .int b'), (5, .int 0), (0, .ref b), (1, .ref (oA Z 0)), (2, .ref (mA Zm 0)), (3, .ref o), (4, .int (nI (5 * j)))]) F.1 F.2.1 dL_law_652 hl (by decide) rfl (fun ls hl => ?_)
        refine lv_aload_n F.1 F.2.1 dL_law_654 rfl (lv_at hl 4 rfl) ?_
        have hE3 : fX12_thrown mth' = some mth' := rfl
        refine lw_i (lw_V (As := []) (rest := []) F (kX12_thrown hE3) (okM Zm) G.1.2.1 hS lkL_79 ⟨Nat.le_of_ble_eq_true rfl, Nat.le_of_ble_eq_true rfl⟩ (rvM G.1.2.1 hPM) hPM rfl hl.1 rfl (lv_room (Nat.le_of_ble_eq_true rfl)) dL_law_655 ⟨by show 216 + j + 1 ≤ 601024; omega, by show 11263 + 6 * j + 6 ≤ 7293034; omega⟩) hS G.2.2.1 (fun H1 locs hPM hk hS => ?_)
        have hPX := PX_kept2 G.1.1 hPX hk (fun q h1 h2 => G.2.2.2.2.1 q h1 h2)
        have hPO := PO_kept2 hPO G.2.2.2.2.2 hk
        refine lv_iload F.1 F.2.1 dL_law_658 (lv_at hl 1 rfl) ?_
        refine lv_icmp_eq (tgt := 665) F.1 F.2.1 dL_law_660 (by decide) (fun _ => ?_) (fun hc => absurd hT2 hc)
        refine lv_iload F.1 F.2.1 dL_law_665 (lv_at hl 1 rfl) ?_
        refine lv_if_ne (tgt := 682) F.1 F.2.1 dL_law_667 (by decide) (fun hc => absurd rfl hc) (fun _ => ?_)
        refine lv_aload_n F.1 F.2.1 dL_law_670 rfl (lv_at hl 5 rfl) ?_
        refine lv_iconst (v := 0) F.1 F.2.1 dL_law_671 (by decide) ?_
        refine va_lald F.1 F.2.1 G.1.1.2.1 hPO 0 1 rfl rfl (inb_in (by decide)) dL_law_672 ?_
        refine lv_iload F.1 F.2.1 dL_law_673 (lv_at hl 0 rfl) ?_
        refine lv_i2l (v := b'.toInt64) F.1 F.2.1 dL_law_675 rfl ?_
        refine W.lcmp F.1 F.2.1 dL_law_676 ?_
        refine lv_if_eq (tgt := 682) F.1 F.2.1 dL_law_677 (by decide) (fun _ => ?_) (fun hc => absurd (lg_same _) hc)
        refine lv_goto (tgt := 1235) F.1 F.2.1 dL_law_682 (by decide) ?_
        refine lv_iinc (v := nI (5 * (j + 1))) (lv' := [(4, .int (nI (5 * (j + 1)))), (6, .int b'), (5, .int 0), (0, .ref b), (1, .ref (oA Z 0)), (2, .ref (mA Zm 0)), (3, .ref o)]) F.1 F.2.1 dL_law_1235 hl (k := 6) rfl (nI_add (5 * j) 5) (by decide) rfl (fun ls hl => ?_)
        refine lv_goto (tgt := 23) F.1 F.2.1 dL_law_1238 (by decide) ?_
        refine W.widen (k := 216 + (j + 1)) (n := 11263 + 6 * (j + 1)) (by omega) (by omega) ?_
        exact ih (j + 1) (by omega) (by omega) HS zkb zdr zky zpn zps ztz ztn zxz zxa zsg za0 za1 za2 za3 za4 zfr zcd zgo ztd ztv zcl zca zwa zpt zpf mth' mto mrw mta mtp mat mtt mme mun mde mco mcn mvi men mfa mac mfi mse mtd mra mkp _ hI _ _ hPX hPM hPO hS ls (lv_sub hl [3, 4, 5, 6, 0] rfl)
    by_cases hc12 : xk = 12
    · refine lv_tableIn (tgt := 685) (off := 646) F.1 F.2.1 dL_law_39 (by rw [hc12]; decide) (by rw [hc12]; decide) (by rw [hc12]; rfl) (by decide) ?_
      obtain ⟨r', ztz', ztn', mth', mto', mrw', hE1, hE2, hI⟩ := h_all HS zkb zdr zky zpn zps ztz ztn zxz zxa zsg za0 za1 za2 za3 za4 zfr zcd zgo ztd ztv zcl zca zwa zpt zpf mth mto mrw mta mtp mat mtt mme mun mde mco mcn mvi men mfa mac mfi mse mtd mra mkp (xs (nI (5 * j + 1)).toNatClampNeg) hI
      refine lv_aload_n F.1 F.2.1 dL_law_685 rfl (lv_at hl 1 rfl) ?_
      refine lv_aload_n F.1 F.2.1 dL_law_686 rfl (lv_at hl 0 rfl) ?_
      refine lv_iload F.1 F.2.1 dL_law_687 (lv_at hl 4 rfl) ?_
      refine lv_iconst (v := 1) F.1 F.2.1 dL_law_689 (by decide) ?_
      refine lv_iadd F.1 F.2.1 dL_law_690 ?_
      refine lv_seti (y := nI (5 * j + 1)) (nI_add (5 * j) 1).symm ?_
      refine va_sld F.1 F.2.1 hX hbl hbA hS (vp_in_nI (by omega) (by omega)) dL_law_691 ?_
      refine lw_i (lw_V (As := [.int (xs (nI (5 * j + 1)).toNatClampNeg)]) (rest := []) F (kX11_all hE1) (okX Z) G.1.1 hS lkL_89 ⟨Nat.le_of_ble_eq_true rfl, Nat.le_of_ble_eq_true rfl⟩ (rvo0 G.1.1 hPX) hPX rfl hl.1 rfl (lv_room (Nat.le_of_ble_eq_true rfl)) dL_law_692 ⟨by show 216 + j ≤ 601024; omega, by show 11263 + 6 * j ≤ 7293034; omega⟩) hS G.2.1 (fun H1 locs hPX hk hS => ?_)
      have hPM := PM_kept G.1.2.1 hPM hk (fun q h1 h2 => G.2.2.2.2.1 q h2 h1)
      have hPO := PO_kept2 hPO G.1.2.2.2.2.2.2.2.2 hk
      refine lv_aload_n F.1 F.2.1 dL_law_695 rfl (lv_at hl 2 rfl) ?_
      refine lv_aload_n F.1 F.2.1 dL_law_696 rfl (lv_at hl 0 rfl) ?_
      refine lv_iload F.1 F.2.1 dL_law_697 (lv_at hl 4 rfl) ?_
      refine lv_iconst (v := 1) F.1 F.2.1 dL_law_699 (by decide) ?_
      refine lv_iadd F.1 F.2.1 dL_law_700 ?_
      refine lv_seti (y := nI (5 * j + 1)) (nI_add (5 * j) 1).symm ?_
      refine va_sld F.1 F.2.1 hX hbl hbA hS (vp_in_nI (by omega) (by omega)) dL_law_701 ?_
      refine lw_i (lw_V (As := [.int (xs (nI (5 * j + 1)).toNatClampNeg)]) (rest := [.int r']) F (kX12_all hE2) (okM Zm) G.1.2.1 hS lkL_92 ⟨Nat.le_of_ble_eq_true rfl, Nat.le_of_ble_eq_true rfl⟩ (rvM G.1.2.1 hPM) hPM rfl hl.1 rfl (lv_room (Nat.le_of_ble_eq_true rfl)) dL_law_702 ⟨by show 216 + j ≤ 601024; omega, by show 11263 + 6 * j ≤ 7293034; omega⟩) hS G.2.2.1 (fun H1 locs hPM hk hS => ?_)
      have hPX := PX_kept2 G.1.1 hPX hk (fun q h1 h2 => G.2.2.2.2.1 q h1 h2)
      have hPO := PO_kept2 hPO G.2.2.2.2.2 hk
      refine lv_icmp_eq (tgt := 1235) F.1 F.2.1 dL_law_705 (by decide) (fun _ => ?_) (fun hc => absurd rfl hc)
      refine lv_iinc (v := nI (5 * (j + 1))) (lv' := [(4, .int (nI (5 * (j + 1)))), (0, .ref b), (1, .ref (oA Z 0)), (2, .ref (mA Zm 0)), (3, .ref o)]) F.1 F.2.1 dL_law_1235 hl (k := 4) rfl (nI_add (5 * j) 5) (by decide) rfl (fun ls hl => ?_)
      refine lv_goto (tgt := 23) F.1 F.2.1 dL_law_1238 (by decide) ?_
      refine W.widen (k := 216 + (j + 1)) (n := 11263 + 6 * (j + 1)) (by omega) (by omega) ?_
      exact ih (j + 1) (by omega) (by omega) HS zkb zdr zky zpn zps ztz' ztn' zxz zxa zsg za0 za1 za2 za3 za4 zfr zcd zgo ztd ztv zcl zca zwa zpt zpf mth' mto' mrw' mta mtp mat mtt mme mun mde mco mcn mvi men mfa mac mfi mse mtd mra mkp _ hI _ _ hPX hPM hPO hS ls (lv_sub hl [1, 2, 3, 4, 0] rfl)
    by_cases hc13 : xk = 13
    · refine lv_tableIn (tgt := 710) (off := 671) F.1 F.2.1 dL_law_39 (by rw [hc13]; decide) (by rw [hc13]; decide) (by rw [hc13]; rfl) (by decide) ?_
      obtain ⟨r', ztz', ztn', mth', mto', mrw', hE1, hE2, hI⟩ := h_list HS zkb zdr zky zpn zps ztz ztn zxz zxa zsg za0 za1 za2 za3 za4 zfr zcd zgo ztd ztv zcl zca zwa zpt zpf mth mto mrw mta mtp mat mtt mme mun mde mco mcn mvi men mfa mac mfi mse mtd mra mkp  hI
      refine lv_aload_n F.1 F.2.1 dL_law_710 rfl (lv_at hl 1 rfl) ?_
      refine lw_i (lw_V (As := []) (rest := []) F (kX11_list hE1) (okX Z) G.1.1 hS lkL_93 ⟨Nat.le_of_ble_eq_true rfl, Nat.le_of_ble_eq_true rfl⟩ (rvo0 G.1.1 hPX) hPX rfl hl.1 rfl (lv_room (Nat.le_of_ble_eq_true rfl)) dL_law_711 ⟨by show 216 + j ≤ 601024; omega, by show 11263 + 6 * j ≤ 7293034; omega⟩) hS G.2.1 (fun H1 locs hPX hk hS => ?_)
      have hPM := PM_kept G.1.2.1 hPM hk (fun q h1 h2 => G.2.2.2.2.1 q h2 h1)
      have hPO := PO_kept2 hPO G.1.2.2.2.2.2.2.2.2 hk
      refine lv_aload_n F.1 F.2.1 dL_law_714 rfl (lv_at hl 2 rfl) ?_
      refine lw_i (lw_V (As := []) (rest := [.int r']) F (kX12_list hE2) (okM Zm) G.1.2.1 hS lkL_96 ⟨Nat.le_of_ble_eq_true rfl, Nat.le_of_ble_eq_true rfl⟩ (rvM G.1.2.1 hPM) hPM rfl hl.1 rfl (lv_room (Nat.le_of_ble_eq_true rfl)) dL_law_715 ⟨by show 216 + j ≤ 601024; omega, by show 11263 + 6 * j ≤ 7293034; omega⟩) hS G.2.2.1 (fun H1 locs hPM hk hS => ?_)
      have hPX := PX_kept2 G.1.1 hPX hk (fun q h1 h2 => G.2.2.2.2.1 q h1 h2)
      have hPO := PO_kept2 hPO G.2.2.2.2.2 hk
      refine lv_icmp_eq (tgt := 1235) F.1 F.2.1 dL_law_718 (by decide) (fun _ => ?_) (fun hc => absurd rfl hc)
      refine lv_iinc (v := nI (5 * (j + 1))) (lv' := [(4, .int (nI (5 * (j + 1)))), (0, .ref b), (1, .ref (oA Z 0)), (2, .ref (mA Zm 0)), (3, .ref o)]) F.1 F.2.1 dL_law_1235 hl (k := 4) rfl (nI_add (5 * j) 5) (by decide) rfl (fun ls hl => ?_)
      refine lv_goto (tgt := 23) F.1 F.2.1 dL_law_1238 (by decide) ?_
      refine W.widen (k := 216 + (j + 1)) (n := 11263 + 6 * (j + 1)) (by omega) (by omega) ?_
      exact ih (j + 1) (by omega) (by omega) HS zkb zdr zky zpn zps ztz' ztn' zxz zxa zsg za0 za1 za2 za3 za4 zfr zcd zgo ztd ztv zcl zca zwa zpt zpf mth' mto' mrw' mta mtp mat mtt mme mun mde mco mcn mvi men mfa mac mfi mse mtd mra mkp _ hI _ _ hPX hPM hPO hS ls (lv_sub hl [1, 2, 3, 4, 0] rfl)
    by_cases hc14 : xk = 14
    · refine lv_tableIn (tgt := 723) (off := 684) F.1 F.2.1 dL_law_39 (by rw [hc14]; decide) (by rw [hc14]; decide) (by rw [hc14]; rfl) (by decide) ?_
      obtain ⟨r', ztz', ztn', mth', mto', mrw', hE1, hE2, hI⟩ := h_holders HS zkb zdr zky zpn zps ztz ztn zxz zxa zsg za0 za1 za2 za3 za4 zfr zcd zgo ztd ztv zcl zca zwa zpt zpf mth mto mrw mta mtp mat mtt mme mun mde mco mcn mvi men mfa mac mfi mse mtd mra mkp (xs (nI (5 * j + 1)).toNatClampNeg) hI
      refine lv_aload_n F.1 F.2.1 dL_law_723 rfl (lv_at hl 1 rfl) ?_
      refine lv_aload_n F.1 F.2.1 dL_law_724 rfl (lv_at hl 0 rfl) ?_
      refine lv_iload F.1 F.2.1 dL_law_725 (lv_at hl 4 rfl) ?_
      refine lv_iconst (v := 1) F.1 F.2.1 dL_law_727 (by decide) ?_
      refine lv_iadd F.1 F.2.1 dL_law_728 ?_
      refine lv_seti (y := nI (5 * j + 1)) (nI_add (5 * j) 1).symm ?_
      refine va_sld F.1 F.2.1 hX hbl hbA hS (vp_in_nI (by omega) (by omega)) dL_law_729 ?_
      refine lw_i (lw_V (As := [.int (xs (nI (5 * j + 1)).toNatClampNeg)]) (rest := []) F (kX11_holders hE1) (okX Z) G.1.1 hS lkL_97 ⟨Nat.le_of_ble_eq_true rfl, Nat.le_of_ble_eq_true rfl⟩ (rvo0 G.1.1 hPX) hPX rfl hl.1 rfl (lv_room (Nat.le_of_ble_eq_true rfl)) dL_law_730 ⟨by show 216 + j ≤ 601024; omega, by show 11263 + 6 * j ≤ 7293034; omega⟩) hS G.2.1 (fun H1 locs hPX hk hS => ?_)
      have hPM := PM_kept G.1.2.1 hPM hk (fun q h1 h2 => G.2.2.2.2.1 q h2 h1)
      have hPO := PO_kept2 hPO G.1.2.2.2.2.2.2.2.2 hk
      refine lv_aload_n F.1 F.2.1 dL_law_733 rfl (lv_at hl 2 rfl) ?_
      refine lv_aload_n F.1 F.2.1 dL_law_734 rfl (lv_at hl 0 rfl) ?_
      refine lv_iload F.1 F.2.1 dL_law_735 (lv_at hl 4 rfl) ?_
      refine lv_iconst (v := 1) F.1 F.2.1 dL_law_737 (by decide) ?_
      refine lv_iadd F.1 F.2.1 dL_law_738 ?_
      refine lv_seti (y := nI (5 * j + 1)) (nI_add (5 * j) 1).symm ?_
      refine va_sld F.1 F.2.1 hX hbl hbA hS (vp_in_nI (by omega) (by omega)) dL_law_739 ?_
      refine lw_i (lw_V (As := [.int (xs (nI (5 * j + 1)).toNatClampNeg)]) (rest := [.int r']) F (kX12_holders hE2) (okM Zm) G.1.2.1 hS lkL_100 ⟨Nat.le_of_ble_eq_true rfl, Nat.le_of_ble_eq_true rfl⟩ (rvM G.1.2.1 hPM) hPM rfl hl.1 rfl (lv_room (Nat.le_of_ble_eq_true rfl)) dL_law_740 ⟨by show 216 + j ≤ 601024; omega, by show 11263 + 6 * j ≤ 7293034; omega⟩) hS G.2.2.1 (fun H1 locs hPM hk hS => ?_)
      have hPX := PX_kept2 G.1.1 hPX hk (fun q h1 h2 => G.2.2.2.2.1 q h1 h2)
      have hPO := PO_kept2 hPO G.2.2.2.2.2 hk
      refine lv_icmp_eq (tgt := 1235) F.1 F.2.1 dL_law_743 (by decide) (fun _ => ?_) (fun hc => absurd rfl hc)
      refine lv_iinc (v := nI (5 * (j + 1))) (lv' := [(4, .int (nI (5 * (j + 1)))), (0, .ref b), (1, .ref (oA Z 0)), (2, .ref (mA Zm 0)), (3, .ref o)]) F.1 F.2.1 dL_law_1235 hl (k := 4) rfl (nI_add (5 * j) 5) (by decide) rfl (fun ls hl => ?_)
      refine lv_goto (tgt := 23) F.1 F.2.1 dL_law_1238 (by decide) ?_
      refine W.widen (k := 216 + (j + 1)) (n := 11263 + 6 * (j + 1)) (by omega) (by omega) ?_
      exact ih (j + 1) (by omega) (by omega) HS zkb zdr zky zpn zps ztz' ztn' zxz zxa zsg za0 za1 za2 za3 za4 zfr zcd zgo ztd ztv zcl zca zwa zpt zpf mth' mto' mrw' mta mtp mat mtt mme mun mde mco mcn mvi men mfa mac mfi mse mtd mra mkp _ hI _ _ hPX hPM hPO hS ls (lv_sub hl [1, 2, 3, 4, 0] rfl)
    by_cases hc15 : xk = 15
    · refine lv_tableIn (tgt := 748) (off := 709) F.1 F.2.1 dL_law_39 (by rw [hc15]; decide) (by rw [hc15]; decide) (by rw [hc15]; rfl) (by decide) ?_
      obtain ⟨r', ztz', ztn', zfr', mth', mto', mrw', mfa', hE1, hE2, hI⟩ := h_way HS zkb zdr zky zpn zps ztz ztn zxz zxa zsg za0 za1 za2 za3 za4 zfr zcd zgo ztd ztv zcl zca zwa zpt zpf mth mto mrw mta mtp mat mtt mme mun mde mco mcn mvi men mfa mac mfi mse mtd mra mkp (xs (nI (5 * j + 1)).toNatClampNeg) hI
      refine lv_aload_n F.1 F.2.1 dL_law_748 rfl (lv_at hl 1 rfl) ?_
      refine lv_aload_n F.1 F.2.1 dL_law_749 rfl (lv_at hl 0 rfl) ?_
      refine lv_iload F.1 F.2.1 dL_law_750 (lv_at hl 4 rfl) ?_
      refine lv_iconst (v := 1) F.1 F.2.1 dL_law_752 (by decide) ?_
      refine lv_iadd F.1 F.2.1 dL_law_753 ?_
      refine lv_seti (y := nI (5 * j + 1)) (nI_add (5 * j) 1).symm ?_
      refine va_sld F.1 F.2.1 hX hbl hbA hS (vp_in_nI (by omega) (by omega)) dL_law_754 ?_
      refine lw_i (lw_V (As := [.int (xs (nI (5 * j + 1)).toNatClampNeg)]) (rest := []) F (kX11_way hE1) (okX Z) G.1.1 hS lkL_101 ⟨Nat.le_of_ble_eq_true rfl, Nat.le_of_ble_eq_true rfl⟩ (rvo0 G.1.1 hPX) hPX rfl hl.1 rfl (lv_room (Nat.le_of_ble_eq_true rfl)) dL_law_755 ⟨by show 216 + j ≤ 601024; omega, by show 11263 + 6 * j ≤ 7293034; omega⟩) hS G.2.1 (fun H1 locs hPX hk hS => ?_)
      have hPM := PM_kept G.1.2.1 hPM hk (fun q h1 h2 => G.2.2.2.2.1 q h2 h1)
      have hPO := PO_kept2 hPO G.1.2.2.2.2.2.2.2.2 hk
      refine lv_aload_n F.1 F.2.1 dL_law_758 rfl (lv_at hl 2 rfl) ?_
      refine lv_aload_n F.1 F.2.1 dL_law_759 rfl (lv_at hl 0 rfl) ?_
      refine lv_iload F.1 F.2.1 dL_law_760 (lv_at hl 4 rfl) ?_
      refine lv_iconst (v := 1) F.1 F.2.1 dL_law_762 (by decide) ?_
      refine lv_iadd F.1 F.2.1 dL_law_763 ?_
      refine lv_seti (y := nI (5 * j + 1)) (nI_add (5 * j) 1).symm ?_
      refine va_sld F.1 F.2.1 hX hbl hbA hS (vp_in_nI (by omega) (by omega)) dL_law_764 ?_
      refine lw_i (lw_V (As := [.int (xs (nI (5 * j + 1)).toNatClampNeg)]) (rest := [.int r']) F (kX12_way hE2) (okM Zm) G.1.2.1 hS lkL_104 ⟨Nat.le_of_ble_eq_true rfl, Nat.le_of_ble_eq_true rfl⟩ (rvM G.1.2.1 hPM) hPM rfl hl.1 rfl (lv_room (Nat.le_of_ble_eq_true rfl)) dL_law_765 ⟨by show 216 + j ≤ 601024; omega, by show 11263 + 6 * j ≤ 7293034; omega⟩) hS G.2.2.1 (fun H1 locs hPM hk hS => ?_)
      have hPX := PX_kept2 G.1.1 hPX hk (fun q h1 h2 => G.2.2.2.2.1 q h1 h2)
      have hPO := PO_kept2 hPO G.2.2.2.2.2 hk
      refine lv_icmp_eq (tgt := 1235) F.1 F.2.1 dL_law_768 (by decide) (fun _ => ?_) (fun hc => absurd rfl hc)
      refine lv_iinc (v := nI (5 * (j + 1))) (lv' := [(4, .int (nI (5 * (j + 1)))), (0, .ref b), (1, .ref (oA Z 0)), (2, .ref (mA Zm 0)), (3, .ref o)]) F.1 F.2.1 dL_law_1235 hl (k := 4) rfl (nI_add (5 * j) 5) (by decide) rfl (fun ls hl => ?_)
      refine lv_goto (tgt := 23) F.1 F.2.1 dL_law_1238 (by decide) ?_
      refine W.widen (k := 216 + (j + 1)) (n := 11263 + 6 * (j + 1)) (by omega) (by omega) ?_
      exact ih (j + 1) (by omega) (by omega) HS zkb zdr zky zpn zps ztz' ztn' zxz zxa zsg za0 za1 za2 za3 za4 zfr' zcd zgo ztd ztv zcl zca zwa zpt zpf mth' mto' mrw' mta mtp mat mtt mme mun mde mco mcn mvi men mfa' mac mfi mse mtd mra mkp _ hI _ _ hPX hPM hPO hS ls (lv_sub hl [1, 2, 3, 4, 0] rfl)
    by_cases hc16 : xk = 16
    · refine lv_tableIn (tgt := 773) (off := 734) F.1 F.2.1 dL_law_39 (by rw [hc16]; decide) (by rw [hc16]; decide) (by rw [hc16]; rfl) (by decide) ?_
      obtain ⟨r', ztz', ztn', mth', mto', mrw', hE1, hE2, hI⟩ := h_from HS zkb zdr zky zpn zps ztz ztn zxz zxa zsg za0 za1 za2 za3 za4 zfr zcd zgo ztd ztv zcl zca zwa zpt zpf mth mto mrw mta mtp mat mtt mme mun mde mco mcn mvi men mfa mac mfi mse mtd mra mkp (xs (nI (5 * j + 1)).toNatClampNeg) hI
      refine lv_aload_n F.1 F.2.1 dL_law_773 rfl (lv_at hl 1 rfl) ?_
      refine lv_aload_n F.1 F.2.1 dL_law_774 rfl (lv_at hl 0 rfl) ?_
      refine lv_iload F.1 F.2.1 dL_law_775 (lv_at hl 4 rfl) ?_
      refine lv_iconst (v := 1) F.1 F.2.1 dL_law_777 (by decide) ?_
      refine lv_iadd F.1 F.2.1 dL_law_778 ?_
      refine lv_seti (y := nI (5 * j + 1)) (nI_add (5 * j) 1).symm ?_
      refine va_sld F.1 F.2.1 hX hbl hbA hS (vp_in_nI (by omega) (by omega)) dL_law_779 ?_
      refine lw_i (lw_V (As := [.int (xs (nI (5 * j + 1)).toNatClampNeg)]) (rest := []) F (kX11_from hE1) (okX Z) G.1.1 hS lkL_105 ⟨Nat.le_of_ble_eq_true rfl, Nat.le_of_ble_eq_true rfl⟩ (rvo0 G.1.1 hPX) hPX rfl hl.1 rfl (lv_room (Nat.le_of_ble_eq_true rfl)) dL_law_780 ⟨by show 216 + j ≤ 601024; omega, by show 11263 + 6 * j ≤ 7293034; omega⟩) hS G.2.1 (fun H1 locs hPX hk hS => ?_)
      have hPM := PM_kept G.1.2.1 hPM hk (fun q h1 h2 => G.2.2.2.2.1 q h2 h1)
      have hPO := PO_kept2 hPO G.1.2.2.2.2.2.2.2.2 hk
      refine lv_aload_n F.1 F.2.1 dL_law_783 rfl (lv_at hl 2 rfl) ?_
      refine lv_aload_n F.1 F.2.1 dL_law_784 rfl (lv_at hl 0 rfl) ?_
      refine lv_iload F.1 F.2.1 dL_law_785 (lv_at hl 4 rfl) ?_
      refine lv_iconst (v := 1) F.1 F.2.1 dL_law_787 (by decide) ?_
      refine lv_iadd F.1 F.2.1 dL_law_788 ?_
      refine lv_seti (y := nI (5 * j + 1)) (nI_add (5 * j) 1).symm ?_
      refine va_sld F.1 F.2.1 hX hbl hbA hS (vp_in_nI (by omega) (by omega)) dL_law_789 ?_
      refine lw_i (lw_V (As := [.int (xs (nI (5 * j + 1)).toNatClampNeg)]) (rest := [.int r']) F (kX12_from hE2) (okM Zm) G.1.2.1 hS lkL_108 ⟨Nat.le_of_ble_eq_true rfl, Nat.le_of_ble_eq_true rfl⟩ (rvM G.1.2.1 hPM) hPM rfl hl.1 rfl (lv_room (Nat.le_of_ble_eq_true rfl)) dL_law_790 ⟨by show 216 + j ≤ 601024; omega, by show 11263 + 6 * j ≤ 7293034; omega⟩) hS G.2.2.1 (fun H1 locs hPM hk hS => ?_)
      have hPX := PX_kept2 G.1.1 hPX hk (fun q h1 h2 => G.2.2.2.2.1 q h1 h2)
      have hPO := PO_kept2 hPO G.2.2.2.2.2 hk
      refine lv_icmp_eq (tgt := 1235) F.1 F.2.1 dL_law_793 (by decide) (fun _ => ?_) (fun hc => absurd rfl hc)
      refine lv_iinc (v := nI (5 * (j + 1))) (lv' := [(4, .int (nI (5 * (j + 1)))), (0, .ref b), (1, .ref (oA Z 0)), (2, .ref (mA Zm 0)), (3, .ref o)]) F.1 F.2.1 dL_law_1235 hl (k := 4) rfl (nI_add (5 * j) 5) (by decide) rfl (fun ls hl => ?_)
      refine lv_goto (tgt := 23) F.1 F.2.1 dL_law_1238 (by decide) ?_
      refine W.widen (k := 216 + (j + 1)) (n := 11263 + 6 * (j + 1)) (by omega) (by omega) ?_
      exact ih (j + 1) (by omega) (by omega) HS zkb zdr zky zpn zps ztz' ztn' zxz zxa zsg za0 za1 za2 za3 za4 zfr zcd zgo ztd ztv zcl zca zwa zpt zpf mth' mto' mrw' mta mtp mat mtt mme mun mde mco mcn mvi men mfa mac mfi mse mtd mra mkp _ hI _ _ hPX hPM hPO hS ls (lv_sub hl [1, 2, 3, 4, 0] rfl)
    by_cases hc17 : xk = 17
    · refine lv_tableIn (tgt := 798) (off := 759) F.1 F.2.1 dL_law_39 (by rw [hc17]; decide) (by rw [hc17]; decide) (by rw [hc17]; rfl) (by decide) ?_
      obtain ⟨r', zky', ztz', ztn', mth', mto', mrw', hE1, hE2, hI⟩ := h_rings HS zkb zdr zky zpn zps ztz ztn zxz zxa zsg za0 za1 za2 za3 za4 zfr zcd zgo ztd ztv zcl zca zwa zpt zpf mth mto mrw mta mtp mat mtt mme mun mde mco mcn mvi men mfa mac mfi mse mtd mra mkp  hI
      refine lv_aload_n F.1 F.2.1 dL_law_798 rfl (lv_at hl 1 rfl) ?_
      refine lw_i (lw_V (As := []) (rest := []) F (kX11_rings hE1) (okX Z) G.1.1 hS lkL_109 ⟨Nat.le_of_ble_eq_true rfl, Nat.le_of_ble_eq_true rfl⟩ (rvo0 G.1.1 hPX) hPX rfl hl.1 rfl (lv_room (Nat.le_of_ble_eq_true rfl)) dL_law_799 ⟨by show 216 + j ≤ 601024; omega, by show 11263 + 6 * j ≤ 7293034; omega⟩) hS G.2.1 (fun H1 locs hPX hk hS => ?_)
      have hPM := PM_kept G.1.2.1 hPM hk (fun q h1 h2 => G.2.2.2.2.1 q h2 h1)
      have hPO := PO_kept2 hPO G.1.2.2.2.2.2.2.2.2 hk
      refine lv_aload_n F.1 F.2.1 dL_law_802 rfl (lv_at hl 2 rfl) ?_
      refine lw_i (lw_V (As := []) (rest := [.int r']) F (kX12_rings hE2) (okM Zm) G.1.2.1 hS lkL_112 ⟨Nat.le_of_ble_eq_true rfl, Nat.le_of_ble_eq_true rfl⟩ (rvM G.1.2.1 hPM) hPM rfl hl.1 rfl (lv_room (Nat.le_of_ble_eq_true rfl)) dL_law_803 ⟨by show 216 + j ≤ 601024; omega, by show 11263 + 6 * j ≤ 7293034; omega⟩) hS G.2.2.1 (fun H1 locs hPM hk hS => ?_)
      have hPX := PX_kept2 G.1.1 hPX hk (fun q h1 h2 => G.2.2.2.2.1 q h1 h2)
      have hPO := PO_kept2 hPO G.2.2.2.2.2 hk
      refine lv_icmp_eq (tgt := 1235) F.1 F.2.1 dL_law_806 (by decide) (fun _ => ?_) (fun hc => absurd rfl hc)
      refine lv_iinc (v := nI (5 * (j + 1))) (lv' := [(4, .int (nI (5 * (j + 1)))), (0, .ref b), (1, .ref (oA Z 0)), (2, .ref (mA Zm 0)), (3, .ref o)]) F.1 F.2.1 dL_law_1235 hl (k := 4) rfl (nI_add (5 * j) 5) (by decide) rfl (fun ls hl => ?_)
      refine lv_goto (tgt := 23) F.1 F.2.1 dL_law_1238 (by decide) ?_
      refine W.widen (k := 216 + (j + 1)) (n := 11263 + 6 * (j + 1)) (by omega) (by omega) ?_
      exact ih (j + 1) (by omega) (by omega) HS zkb zdr zky' zpn zps ztz' ztn' zxz zxa zsg za0 za1 za2 za3 za4 zfr zcd zgo ztd ztv zcl zca zwa zpt zpf mth' mto' mrw' mta mtp mat mtt mme mun mde mco mcn mvi men mfa mac mfi mse mtd mra mkp _ hI _ _ hPX hPM hPO hS ls (lv_sub hl [1, 2, 3, 4, 0] rfl)
    by_cases hc18 : xk = 18
    · refine lv_tableIn (tgt := 811) (off := 772) F.1 F.2.1 dL_law_39 (by rw [hc18]; decide) (by rw [hc18]; decide) (by rw [hc18]; rfl) (by decide) ?_
      obtain ⟨r', ztz', ztn', mth', mto', mrw', hE1, hE2, hI⟩ := h_alone HS zkb zdr zky zpn zps ztz ztn zxz zxa zsg za0 za1 za2 za3 za4 zfr zcd zgo ztd ztv zcl zca zwa zpt zpf mth mto mrw mta mtp mat mtt mme mun mde mco mcn mvi men mfa mac mfi mse mtd mra mkp (xs (nI (5 * j + 1)).toNatClampNeg) hI
      refine lv_aload_n F.1 F.2.1 dL_law_811 rfl (lv_at hl 1 rfl) ?_
      refine lv_aload_n F.1 F.2.1 dL_law_812 rfl (lv_at hl 0 rfl) ?_
      refine lv_iload F.1 F.2.1 dL_law_813 (lv_at hl 4 rfl) ?_
      refine lv_iconst (v := 1) F.1 F.2.1 dL_law_815 (by decide) ?_
      refine lv_iadd F.1 F.2.1 dL_law_816 ?_
      refine lv_seti (y := nI (5 * j + 1)) (nI_add (5 * j) 1).symm ?_
      refine va_sld F.1 F.2.1 hX hbl hbA hS (vp_in_nI (by omega) (by omega)) dL_law_817 ?_
      refine lw_i (lw_V (As := [.int (xs (nI (5 * j + 1)).toNatClampNeg)]) (rest := []) F (kX11_alone hE1) (okX Z) G.1.1 hS lkL_113 ⟨Nat.le_of_ble_eq_true rfl, Nat.le_of_ble_eq_true rfl⟩ (rvo0 G.1.1 hPX) hPX rfl hl.1 rfl (lv_room (Nat.le_of_ble_eq_true rfl)) dL_law_818 ⟨by show 216 + j ≤ 601024; omega, by show 11263 + 6 * j ≤ 7293034; omega⟩) hS G.2.1 (fun H1 locs hPX hk hS => ?_)
      have hPM := PM_kept G.1.2.1 hPM hk (fun q h1 h2 => G.2.2.2.2.1 q h2 h1)
      have hPO := PO_kept2 hPO G.1.2.2.2.2.2.2.2.2 hk
      refine lv_aload_n F.1 F.2.1 dL_law_821 rfl (lv_at hl 2 rfl) ?_
      refine lv_aload_n F.1 F.2.1 dL_law_822 rfl (lv_at hl 0 rfl) ?_
      refine lv_iload F.1 F.2.1 dL_law_823 (lv_at hl 4 rfl) ?_
      refine lv_iconst (v := 1) F.1 F.2.1 dL_law_825 (by decide) ?_
      refine lv_iadd F.1 F.2.1 dL_law_826 ?_
      refine lv_seti (y := nI (5 * j + 1)) (nI_add (5 * j) 1).symm ?_
      refine va_sld F.1 F.2.1 hX hbl hbA hS (vp_in_nI (by omega) (by omega)) dL_law_827 ?_
      refine lw_i (lw_V (As := [.int (xs (nI (5 * j + 1)).toNatClampNeg)]) (rest := [.int r']) F (kX12_alone hE2) (okM Zm) G.1.2.1 hS lkL_116 ⟨Nat.le_of_ble_eq_true rfl, Nat.le_of_ble_eq_true rfl⟩ (rvM G.1.2.1 hPM) hPM rfl hl.1 rfl (lv_room (Nat.le_of_ble_eq_true rfl)) dL_law_828 ⟨by show 216 + j ≤ 601024; omega, by show 11263 + 6 * j ≤ 7293034; omega⟩) hS G.2.2.1 (fun H1 locs hPM hk hS => ?_)
      have hPX := PX_kept2 G.1.1 hPX hk (fun q h1 h2 => G.2.2.2.2.1 q h1 h2)
      have hPO := PO_kept2 hPO G.2.2.2.2.2 hk
      refine lv_icmp_eq (tgt := 1235) F.1 F.2.1 dL_law_831 (by decide) (fun _ => ?_) (fun hc => absurd rfl hc)
      refine lv_iinc (v := nI (5 * (j + 1))) (lv' := [(4, .int (nI (5 * (j + 1)))), (0, .ref b), (1, .ref (oA Z 0)), (2, .ref (mA Zm 0)), (3, .ref o)]) F.1 F.2.1 dL_law_1235 hl (k := 4) rfl (nI_add (5 * j) 5) (by decide) rfl (fun ls hl => ?_)
      refine lv_goto (tgt := 23) F.1 F.2.1 dL_law_1238 (by decide) ?_
      refine W.widen (k := 216 + (j + 1)) (n := 11263 + 6 * (j + 1)) (by omega) (by omega) ?_
      exact ih (j + 1) (by omega) (by omega) HS zkb zdr zky zpn zps ztz' ztn' zxz zxa zsg za0 za1 za2 za3 za4 zfr zcd zgo ztd ztv zcl zca zwa zpt zpf mth' mto' mrw' mta mtp mat mtt mme mun mde mco mcn mvi men mfa mac mfi mse mtd mra mkp _ hI _ _ hPX hPM hPO hS ls (lv_sub hl [1, 2, 3, 4, 0] rfl)
    by_cases hc19 : xk = 19
    · refine lv_tableIn (tgt := 836) (off := 797) F.1 F.2.1 dL_law_39 (by rw [hc19]; decide) (by rw [hc19]; decide) (by rw [hc19]; rfl) (by decide) ?_
      obtain ⟨r', ztz', ztn', mth', mto', mrw', hE1, hE2, hI⟩ := h_keepers HS zkb zdr zky zpn zps ztz ztn zxz zxa zsg za0 za1 za2 za3 za4 zfr zcd zgo ztd ztv zcl zca zwa zpt zpf mth mto mrw mta mtp mat mtt mme mun mde mco mcn mvi men mfa mac mfi mse mtd mra mkp (xs (nI (5 * j + 1)).toNatClampNeg) hI
      refine lv_aload_n F.1 F.2.1 dL_law_836 rfl (lv_at hl 1 rfl) ?_
      refine lv_aload_n F.1 F.2.1 dL_law_837 rfl (lv_at hl 0 rfl) ?_
      refine lv_iload F.1 F.2.1 dL_law_838 (lv_at hl 4 rfl) ?_
      refine lv_iconst (v := 1) F.1 F.2.1 dL_law_840 (by decide) ?_
      refine lv_iadd F.1 F.2.1 dL_law_841 ?_
      refine lv_seti (y := nI (5 * j + 1)) (nI_add (5 * j) 1).symm ?_
      refine va_sld F.1 F.2.1 hX hbl hbA hS (vp_in_nI (by omega) (by omega)) dL_law_842 ?_
      refine lw_i (lw_V (As := [.int (xs (nI (5 * j + 1)).toNatClampNeg)]) (rest := []) F (kX11_keepers hE1) (okX Z) G.1.1 hS lkL_117 ⟨Nat.le_of_ble_eq_true rfl, Nat.le_of_ble_eq_true rfl⟩ (rvo0 G.1.1 hPX) hPX rfl hl.1 rfl (lv_room (Nat.le_of_ble_eq_true rfl)) dL_law_843 ⟨by show 216 + j ≤ 601024; omega, by show 11263 + 6 * j ≤ 7293034; omega⟩) hS G.2.1 (fun H1 locs hPX hk hS => ?_)
      have hPM := PM_kept G.1.2.1 hPM hk (fun q h1 h2 => G.2.2.2.2.1 q h2 h1)
      have hPO := PO_kept2 hPO G.1.2.2.2.2.2.2.2.2 hk
      refine lv_aload_n F.1 F.2.1 dL_law_846 rfl (lv_at hl 2 rfl) ?_
      refine lv_aload_n F.1 F.2.1 dL_law_847 rfl (lv_at hl 0 rfl) ?_
      refine lv_iload F.1 F.2.1 dL_law_848 (lv_at hl 4 rfl) ?_
      refine lv_iconst (v := 1) F.1 F.2.1 dL_law_850 (by decide) ?_
      refine lv_iadd F.1 F.2.1 dL_law_851 ?_
      refine lv_seti (y := nI (5 * j + 1)) (nI_add (5 * j) 1).symm ?_
      refine va_sld F.1 F.2.1 hX hbl hbA hS (vp_in_nI (by omega) (by omega)) dL_law_852 ?_
      refine lw_i (lw_V (As := [.int (xs (nI (5 * j + 1)).toNatClampNeg)]) (rest := [.int r']) F (kX12_keepers hE2) (okM Zm) G.1.2.1 hS lkL_120 ⟨Nat.le_of_ble_eq_true rfl, Nat.le_of_ble_eq_true rfl⟩ (rvM G.1.2.1 hPM) hPM rfl hl.1 rfl (lv_room (Nat.le_of_ble_eq_true rfl)) dL_law_853 ⟨by show 216 + j ≤ 601024; omega, by show 11263 + 6 * j ≤ 7293034; omega⟩) hS G.2.2.1 (fun H1 locs hPM hk hS => ?_)
      have hPX := PX_kept2 G.1.1 hPX hk (fun q h1 h2 => G.2.2.2.2.1 q h1 h2)
      have hPO := PO_kept2 hPO G.2.2.2.2.2 hk
      refine lv_icmp_eq (tgt := 1235) F.1 F.2.1 dL_law_856 (by decide) (fun _ => ?_) (fun hc => absurd rfl hc)
      refine lv_iinc (v := nI (5 * (j + 1))) (lv' := [(4, .int (nI (5 * (j + 1)))), (0, .ref b), (1, .ref (oA Z 0)), (2, .ref (mA Zm 0)), (3, .ref o)]) F.1 F.2.1 dL_law_1235 hl (k := 4) rfl (nI_add (5 * j) 5) (by decide) rfl (fun ls hl => ?_)
      refine lv_goto (tgt := 23) F.1 F.2.1 dL_law_1238 (by decide) ?_
      refine W.widen (k := 216 + (j + 1)) (n := 11263 + 6 * (j + 1)) (by omega) (by omega) ?_
      exact ih (j + 1) (by omega) (by omega) HS zkb zdr zky zpn zps ztz' ztn' zxz zxa zsg za0 za1 za2 za3 za4 zfr zcd zgo ztd ztv zcl zca zwa zpt zpf mth' mto' mrw' mta mtp mat mtt mme mun mde mco mcn mvi men mfa mac mfi mse mtd mra mkp _ hI _ _ hPX hPM hPO hS ls (lv_sub hl [1, 2, 3, 4, 0] rfl)
    by_cases hc20 : xk = 20
    · refine lv_tableIn (tgt := 861) (off := 822) F.1 F.2.1 dL_law_39 (by rw [hc20]; decide) (by rw [hc20]; decide) (by rw [hc20]; rfl) (by decide) ?_
      obtain ⟨r', ztz', ztn', zcd', zgo', HS', mth', mto', mrw', mme', mde', hE1, hE2, hI⟩ := h_cut HS zkb zdr zky zpn zps ztz ztn zxz zxa zsg za0 za1 za2 za3 za4 zfr zcd zgo ztd ztv zcl zca zwa zpt zpf mth mto mrw mta mtp mat mtt mme mun mde mco mcn mvi men mfa mac mfi mse mtd mra mkp (xs (nI (5 * j + 1)).toNatClampNeg) (xs (nI (5 * j + 2)).toNatClampNeg) hI
      refine lv_aload_n F.1 F.2.1 dL_law_861 rfl (lv_at hl 1 rfl) ?_
      refine lv_aload_n F.1 F.2.1 dL_law_862 rfl (lv_at hl 0 rfl) ?_
      refine lv_iload F.1 F.2.1 dL_law_863 (lv_at hl 4 rfl) ?_
      refine lv_iconst (v := 1) F.1 F.2.1 dL_law_865 (by decide) ?_
      refine lv_iadd F.1 F.2.1 dL_law_866 ?_
      refine lv_seti (y := nI (5 * j + 1)) (nI_add (5 * j) 1).symm ?_
      refine va_sld F.1 F.2.1 hX hbl hbA hS (vp_in_nI (by omega) (by omega)) dL_law_867 ?_
      refine lv_aload_n F.1 F.2.1 dL_law_868 rfl (lv_at hl 0 rfl) ?_
      refine lv_iload F.1 F.2.1 dL_law_869 (lv_at hl 4 rfl) ?_
      refine lv_iconst (v := 2) F.1 F.2.1 dL_law_871 (by decide) ?_
      refine lv_iadd F.1 F.2.1 dL_law_872 ?_
      refine lv_seti (y := nI (5 * j + 2)) (nI_add (5 * j) 2).symm ?_
      refine va_sld F.1 F.2.1 hX hbl hbA hS (vp_in_nI (by omega) (by omega)) dL_law_873 ?_
      refine lw_i (lw_V (As := [.int (xs (nI (5 * j + 1)).toNatClampNeg), .int (xs (nI (5 * j + 2)).toNatClampNeg)]) (rest := []) F (kX11_cut hE1) (okX Z) G.1.1 hS lkL_121 ⟨Nat.le_of_ble_eq_true rfl, Nat.le_of_ble_eq_true rfl⟩ (rvo0 G.1.1 hPX) hPX rfl hl.1 rfl (lv_room (Nat.le_of_ble_eq_true rfl)) dL_law_874 ⟨by show 216 + j ≤ 601024; omega, by show 11263 + 6 * j ≤ 7293034; omega⟩) hS G.2.1 (fun H1 locs hPX hk hS => ?_)
      have hPM := PM_kept G.1.2.1 hPM hk (fun q h1 h2 => G.2.2.2.2.1 q h2 h1)
      have hPO := PO_kept2 hPO G.1.2.2.2.2.2.2.2.2 hk
      refine lv_aload_n F.1 F.2.1 dL_law_877 rfl (lv_at hl 2 rfl) ?_
      refine lv_aload_n F.1 F.2.1 dL_law_878 rfl (lv_at hl 0 rfl) ?_
      refine lv_iload F.1 F.2.1 dL_law_879 (lv_at hl 4 rfl) ?_
      refine lv_iconst (v := 1) F.1 F.2.1 dL_law_881 (by decide) ?_
      refine lv_iadd F.1 F.2.1 dL_law_882 ?_
      refine lv_seti (y := nI (5 * j + 1)) (nI_add (5 * j) 1).symm ?_
      refine va_sld F.1 F.2.1 hX hbl hbA hS (vp_in_nI (by omega) (by omega)) dL_law_883 ?_
      refine lv_aload_n F.1 F.2.1 dL_law_884 rfl (lv_at hl 0 rfl) ?_
      refine lv_iload F.1 F.2.1 dL_law_885 (lv_at hl 4 rfl) ?_
      refine lv_iconst (v := 2) F.1 F.2.1 dL_law_887 (by decide) ?_
      refine lv_iadd F.1 F.2.1 dL_law_888 ?_
      refine lv_seti (y := nI (5 * j + 2)) (nI_add (5 * j) 2).symm ?_
      refine va_sld F.1 F.2.1 hX hbl hbA hS (vp_in_nI (by omega) (by omega)) dL_law_889 ?_
      refine lw_i (lw_V (As := [.int (xs (nI (5 * j + 1)).toNatClampNeg), .int (xs (nI (5 * j + 2)).toNatClampNeg)]) (rest := [.int r']) F (kX12_cut hE2) (okM Zm) G.1.2.1 hS lkL_124 ⟨Nat.le_of_ble_eq_true rfl, Nat.le_of_ble_eq_true rfl⟩ (rvM G.1.2.1 hPM) hPM rfl hl.1 rfl (lv_room (Nat.le_of_ble_eq_true rfl)) dL_law_890 ⟨by show 216 + j ≤ 601024; omega, by show 11263 + 6 * j ≤ 7293034; omega⟩) hS G.2.2.1 (fun H1 locs hPM hk hS => ?_)
      have hPX := PX_kept2 G.1.1 hPX hk (fun q h1 h2 => G.2.2.2.2.1 q h1 h2)
      have hPO := PO_kept2 hPO G.2.2.2.2.2 hk
      refine lv_icmp_eq (tgt := 1235) F.1 F.2.1 dL_law_893 (by decide) (fun _ => ?_) (fun hc => absurd rfl hc)
      refine lv_iinc (v := nI (5 * (j + 1))) (lv' := [(4, .int (nI (5 * (j + 1)))), (0, .ref b), (1, .ref (oA Z 0)), (2, .ref (mA Zm 0)), (3, .ref o)]) F.1 F.2.1 dL_law_1235 hl (k := 4) rfl (nI_add (5 * j) 5) (by decide) rfl (fun ls hl => ?_)
      refine lv_goto (tgt := 23) F.1 F.2.1 dL_law_1238 (by decide) ?_
      refine W.widen (k := 216 + (j + 1)) (n := 11263 + 6 * (j + 1)) (by omega) (by omega) ?_
      exact ih (j + 1) (by omega) (by omega) HS' zkb zdr zky zpn zps ztz' ztn' zxz zxa zsg za0 za1 za2 za3 za4 zfr zcd' zgo' ztd ztv zcl zca zwa zpt zpf mth' mto' mrw' mta mtp mat mtt mme' mun mde' mco mcn mvi men mfa mac mfi mse mtd mra mkp _ hI _ _ hPX hPM hPO hS ls (lv_sub hl [1, 2, 3, 4, 0] rfl)
    by_cases hc21 : xk = 21
    · refine lv_tableIn (tgt := 898) (off := 859) F.1 F.2.1 dL_law_39 (by rw [hc21]; decide) (by rw [hc21]; decide) (by rw [hc21]; rfl) (by decide) ?_
      obtain ⟨r', ztz', ztn', zcd', zgo', ztd', ztv', zcl', zca', zwa', zpt', zpf', HS', mth', mto', mrw', mme', mde', mco', mcn', mvi', men', hE1, hE2, hI⟩ := h_would HS zkb zdr zky zpn zps ztz ztn zxz zxa zsg za0 za1 za2 za3 za4 zfr zcd zgo ztd ztv zcl zca zwa zpt zpf mth mto mrw mta mtp mat mtt mme mun mde mco mcn mvi men mfa mac mfi mse mtd mra mkp  hI
      refine lv_aload_n F.1 F.2.1 dL_law_898 rfl (lv_at hl 1 rfl) ?_
      refine lw_i (lw_V (As := []) (rest := []) F (kX11_would hE1) (okX Z) G.1.1 hS lkL_125 ⟨Nat.le_of_ble_eq_true rfl, Nat.le_of_ble_eq_true rfl⟩ (rvo0 G.1.1 hPX) hPX rfl hl.1 rfl (lv_room (Nat.le_of_ble_eq_true rfl)) dL_law_899 ⟨by show 216 + j ≤ 601024; omega, by show 11263 + 6 * j ≤ 7293034; omega⟩) hS G.2.1 (fun H1 locs hPX hk hS => ?_)
      have hPM := PM_kept G.1.2.1 hPM hk (fun q h1 h2 => G.2.2.2.2.1 q h2 h1)
      have hPO := PO_kept2 hPO G.1.2.2.2.2.2.2.2.2 hk
      refine lv_aload_n F.1 F.2.1 dL_law_902 rfl (lv_at hl 2 rfl) ?_
      refine lw_i (lw_V (As := []) (rest := [.int r']) F (kX12_would hE2) (okM Zm) G.1.2.1 hS lkL_128 ⟨Nat.le_of_ble_eq_true rfl, Nat.le_of_ble_eq_true rfl⟩ (rvM G.1.2.1 hPM) hPM rfl hl.1 rfl (lv_room (Nat.le_of_ble_eq_true rfl)) dL_law_903 ⟨by show 216 + j ≤ 601024; omega, by show 11263 + 6 * j ≤ 7293034; omega⟩) hS G.2.2.1 (fun H1 locs hPM hk hS => ?_)
      have hPX := PX_kept2 G.1.1 hPX hk (fun q h1 h2 => G.2.2.2.2.1 q h1 h2)
      have hPO := PO_kept2 hPO G.2.2.2.2.2 hk
      refine lv_icmp_eq (tgt := 1235) F.1 F.2.1 dL_law_906 (by decide) (fun _ => ?_) (fun hc => absurd rfl hc)
      refine lv_iinc (v := nI (5 * (j + 1))) (lv' := [(4, .int (nI (5 * (j + 1)))), (0, .ref b), (1, .ref (oA Z 0)), (2, .ref (mA Zm 0)), (3, .ref o)]) F.1 F.2.1 dL_law_1235 hl (k := 4) rfl (nI_add (5 * j) 5) (by decide) rfl (fun ls hl => ?_)
      refine lv_goto (tgt := 23) F.1 F.2.1 dL_law_1238 (by decide) ?_
      refine W.widen (k := 216 + (j + 1)) (n := 11263 + 6 * (j + 1)) (by omega) (by omega) ?_
      exact ih (j + 1) (by omega) (by omega) HS' zkb zdr zky zpn zps ztz' ztn' zxz zxa zsg za0 za1 za2 za3 za4 zfr zcd' zgo' ztd' ztv' zcl' zca' zwa' zpt' zpf' mth' mto' mrw' mta mtp mat mtt mme' mun mde' mco' mcn' mvi' men' mfa mac mfi mse mtd mra mkp _ hI _ _ hPX hPM hPO hS ls (lv_sub hl [1, 2, 3, 4, 0] rfl)
    by_cases hc22 : xk = 22
    · refine lv_tableIn (tgt := 911) (off := 872) F.1 F.2.1 dL_law_39 (by rw [hc22]; decide) (by rw [hc22]; decide) (by rw [hc22]; rfl) (by decide) ?_
      obtain ⟨r', ztz', ztn', zcd', zgo', ztd', ztv', zcl', zca', zwa', zpt', zpf', HS', mth', mto', mrw', mme', mde', mco', mcn', mvi', hE1, hE2, hI⟩ := h_settles HS zkb zdr zky zpn zps ztz ztn zxz zxa zsg za0 za1 za2 za3 za4 zfr zcd zgo ztd ztv zcl zca zwa zpt zpf mth mto mrw mta mtp mat mtt mme mun mde mco mcn mvi men mfa mac mfi mse mtd mra mkp  hI
      refine lv_aload_n F.1 F.2.1 dL_law_911 rfl (lv_at hl 1 rfl) ?_
      refine lw_i (lw_V (As := []) (rest := []) F (kX11_settles hE1) (okX Z) G.1.1 hS lkL_129 ⟨Nat.le_of_ble_eq_true rfl, Nat.le_of_ble_eq_true rfl⟩ (rvo0 G.1.1 hPX) hPX rfl hl.1 rfl (lv_room (Nat.le_of_ble_eq_true rfl)) dL_law_912 ⟨by show 216 + j ≤ 601024; omega, by show 11263 + 6 * j ≤ 7293034; omega⟩) hS G.2.1 (fun H1 locs hPX hk hS => ?_)
      have hPM := PM_kept G.1.2.1 hPM hk (fun q h1 h2 => G.2.2.2.2.1 q h2 h1)
      have hPO := PO_kept2 hPO G.1.2.2.2.2.2.2.2.2 hk
      refine lv_aload_n F.1 F.2.1 dL_law_915 rfl (lv_at hl 2 rfl) ?_
      refine lw_i (lw_V (As := []) (rest := [.int r']) F (kX12_settles hE2) (okM Zm) G.1.2.1 hS lkL_132 ⟨Nat.le_of_ble_eq_true rfl, Nat.le_of_ble_eq_true rfl⟩ (rvM G.1.2.1 hPM) hPM rfl hl.1 rfl (lv_room (Nat.le_of_ble_eq_true rfl)) dL_law_916 ⟨by show 216 + j ≤ 601024; omega, by show 11263 + 6 * j ≤ 7293034; omega⟩) hS G.2.2.1 (fun H1 locs hPM hk hS => ?_)
      have hPX := PX_kept2 G.1.1 hPX hk (fun q h1 h2 => G.2.2.2.2.1 q h1 h2)
      have hPO := PO_kept2 hPO G.2.2.2.2.2 hk
      refine lv_icmp_eq (tgt := 1235) F.1 F.2.1 dL_law_919 (by decide) (fun _ => ?_) (fun hc => absurd rfl hc)
      refine lv_iinc (v := nI (5 * (j + 1))) (lv' := [(4, .int (nI (5 * (j + 1)))), (0, .ref b), (1, .ref (oA Z 0)), (2, .ref (mA Zm 0)), (3, .ref o)]) F.1 F.2.1 dL_law_1235 hl (k := 4) rfl (nI_add (5 * j) 5) (by decide) rfl (fun ls hl => ?_)
      refine lv_goto (tgt := 23) F.1 F.2.1 dL_law_1238 (by decide) ?_
      refine W.widen (k := 216 + (j + 1)) (n := 11263 + 6 * (j + 1)) (by omega) (by omega) ?_
      exact ih (j + 1) (by omega) (by omega) HS' zkb zdr zky zpn zps ztz' ztn' zxz zxa zsg za0 za1 za2 za3 za4 zfr zcd' zgo' ztd' ztv' zcl' zca' zwa' zpt' zpf' mth' mto' mrw' mta mtp mat mtt mme' mun mde' mco' mcn' mvi' men mfa mac mfi mse mtd mra mkp _ hI _ _ hPX hPM hPO hS ls (lv_sub hl [1, 2, 3, 4, 0] rfl)
    by_cases hc23 : xk = 23
    · refine lv_tableIn (tgt := 924) (off := 885) F.1 F.2.1 dL_law_39 (by rw [hc23]; decide) (by rw [hc23]; decide) (by rw [hc23]; rfl) (by decide) ?_
      obtain ⟨r', zky', ztz', ztn', mth', mto', mrw', hE1, hE2, hI⟩ := h_ranks HS zkb zdr zky zpn zps ztz ztn zxz zxa zsg za0 za1 za2 za3 za4 zfr zcd zgo ztd ztv zcl zca zwa zpt zpf mth mto mrw mta mtp mat mtt mme mun mde mco mcn mvi men mfa mac mfi mse mtd mra mkp (xs (nI (5 * j + 1)).toNatClampNeg) hI
      refine lv_aload_n F.1 F.2.1 dL_law_924 rfl (lv_at hl 1 rfl) ?_
      refine lv_aload_n F.1 F.2.1 dL_law_925 rfl (lv_at hl 0 rfl) ?_
      refine lv_iload F.1 F.2.1 dL_law_926 (lv_at hl 4 rfl) ?_
      refine lv_iconst (v := 1) F.1 F.2.1 dL_law_928 (by decide) ?_
      refine lv_iadd F.1 F.2.1 dL_law_929 ?_
      refine lv_seti (y := nI (5 * j + 1)) (nI_add (5 * j) 1).symm ?_
      refine va_sld F.1 F.2.1 hX hbl hbA hS (vp_in_nI (by omega) (by omega)) dL_law_930 ?_
      refine lw_i (lw_V (As := [.int (xs (nI (5 * j + 1)).toNatClampNeg)]) (rest := []) F (kX11_ranks hE1) (okX Z) G.1.1 hS lkL_133 ⟨Nat.le_of_ble_eq_true rfl, Nat.le_of_ble_eq_true rfl⟩ (rvo0 G.1.1 hPX) hPX rfl hl.1 rfl (lv_room (Nat.le_of_ble_eq_true rfl)) dL_law_931 ⟨by show 216 + j ≤ 601024; omega, by show 11263 + 6 * j ≤ 7293034; omega⟩) hS G.2.1 (fun H1 locs hPX hk hS => ?_)
      have hPM := PM_kept G.1.2.1 hPM hk (fun q h1 h2 => G.2.2.2.2.1 q h2 h1)
      have hPO := PO_kept2 hPO G.1.2.2.2.2.2.2.2.2 hk
      refine lv_aload_n F.1 F.2.1 dL_law_934 rfl (lv_at hl 2 rfl) ?_
      refine lv_aload_n F.1 F.2.1 dL_law_935 rfl (lv_at hl 0 rfl) ?_
      refine lv_iload F.1 F.2.1 dL_law_936 (lv_at hl 4 rfl) ?_
      refine lv_iconst (v := 1) F.1 F.2.1 dL_law_938 (by decide) ?_
      refine lv_iadd F.1 F.2.1 dL_law_939 ?_
      refine lv_seti (y := nI (5 * j + 1)) (nI_add (5 * j) 1).symm ?_
      refine va_sld F.1 F.2.1 hX hbl hbA hS (vp_in_nI (by omega) (by omega)) dL_law_940 ?_
      refine lw_i (lw_V (As := [.int (xs (nI (5 * j + 1)).toNatClampNeg)]) (rest := [.int r']) F (kX12_ranks hE2) (okM Zm) G.1.2.1 hS lkL_136 ⟨Nat.le_of_ble_eq_true rfl, Nat.le_of_ble_eq_true rfl⟩ (rvM G.1.2.1 hPM) hPM rfl hl.1 rfl (lv_room (Nat.le_of_ble_eq_true rfl)) dL_law_941 ⟨by show 216 + j ≤ 601024; omega, by show 11263 + 6 * j ≤ 7293034; omega⟩) hS G.2.2.1 (fun H1 locs hPM hk hS => ?_)
      have hPX := PX_kept2 G.1.1 hPX hk (fun q h1 h2 => G.2.2.2.2.1 q h1 h2)
      have hPO := PO_kept2 hPO G.2.2.2.2.2 hk
      refine lv_icmp_eq (tgt := 1235) F.1 F.2.1 dL_law_944 (by decide) (fun _ => ?_) (fun hc => absurd rfl hc)
      refine lv_iinc (v := nI (5 * (j + 1))) (lv' := [(4, .int (nI (5 * (j + 1)))), (0, .ref b), (1, .ref (oA Z 0)), (2, .ref (mA Zm 0)), (3, .ref o)]) F.1 F.2.1 dL_law_1235 hl (k := 4) rfl (nI_add (5 * j) 5) (by decide) rfl (fun ls hl => ?_)
      refine lv_goto (tgt := 23) F.1 F.2.1 dL_law_1238 (by decide) ?_
      refine W.widen (k := 216 + (j + 1)) (n := 11263 + 6 * (j + 1)) (by omega) (by omega) ?_
      exact ih (j + 1) (by omega) (by omega) HS zkb zdr zky' zpn zps ztz' ztn' zxz zxa zsg za0 za1 za2 za3 za4 zfr zcd zgo ztd ztv zcl zca zwa zpt zpf mth' mto' mrw' mta mtp mat mtt mme mun mde mco mcn mvi men mfa mac mfi mse mtd mra mkp _ hI _ _ hPX hPM hPO hS ls (lv_sub hl [1, 2, 3, 4, 0] rfl)
    by_cases hc24 : xk = 24
    · refine lv_tableIn (tgt := 949) (off := 910) F.1 F.2.1 dL_law_39 (by rw [hc24]; decide) (by rw [hc24]; decide) (by rw [hc24]; rfl) (by decide) ?_
      obtain ⟨r', b', mth', hE1, hE2, hTh, hI⟩ := h_log HS zkb zdr zky zpn zps ztz ztn zxz zxa zsg za0 za1 za2 za3 za4 zfr zcd zgo ztd ztv zcl zca zwa zpt zpf mth mto mrw mta mtp mat mtt mme mun mde mco mcn mvi men mfa mac mfi mse mtd mra mkp (xs (nI (5 * j + 1)).toNatClampNeg) (xs (nI (5 * j + 2)).toNatClampNeg) hI
      refine lv_aload_n F.1 F.2.1 dL_law_949 rfl (lv_at hl 1 rfl) ?_
      refine lv_aload_n F.1 F.2.1 dL_law_950 rfl (lv_at hl 0 rfl) ?_
      refine lv_iload F.1 F.2.1 dL_law_951 (lv_at hl 4 rfl) ?_
      refine lv_iconst (v := 1) F.1 F.2.1 dL_law_953 (by decide) ?_
      refine lv_iadd F.1 F.2.1 dL_law_954 ?_
      refine lv_seti (y := nI (5 * j + 1)) (nI_add (5 * j) 1).symm ?_
      refine va_sld F.1 F.2.1 hX hbl hbA hS (vp_in_nI (by omega) (by omega)) dL_law_955 ?_
      refine lv_aload_n F.1 F.2.1 dL_law_956 rfl (lv_at hl 0 rfl) ?_
      refine lv_iload F.1 F.2.1 dL_law_957 (lv_at hl 4 rfl) ?_
      refine lv_iconst (v := 2) F.1 F.2.1 dL_law_959 (by decide) ?_
      refine lv_iadd F.1 F.2.1 dL_law_960 ?_
      refine lv_seti (y := nI (5 * j + 2)) (nI_add (5 * j) 2).symm ?_
      refine va_sld F.1 F.2.1 hX hbl hbA hS (vp_in_nI (by omega) (by omega)) dL_law_961 ?_
      refine lv_aload_n F.1 F.2.1 dL_law_962 rfl (lv_at hl 3 rfl) ?_
      refine va_calli (lw_X (n := 4) (y := yL_log) (P0 := fun H => PX Z HS zkb zdr zky zpn zps ztz ztn zxz zxa zsg za0 za1 za2 za3 za4 zfr zcd zgo ztd ztv zcl zca zwa zpt zpf H ∧ PO Z o f H) (K := KXO Z o) (As := [.ref (oA Z 0), .int (xs (nI (5 * j + 1)).toNatClampNeg), .int (xs (nI (5 * j + 2)).toNatClampNeg), .ref o]) (rest := []) F (kL_log (N := N) hlt hE1) (okXO Z o) G.1.2.2.2 hS (bw_t 949 (by decide +kernel) rfl) (bw_t 950 (by decide +kernel) rfl) (bw_t 0 (by decide +kernel) rfl) (bw_t 951 (by decide +kernel) rfl) ⟨by decide, by decide, by decide +kernel⟩ ⟨Nat.le_of_ble_eq_true rfl, Nat.le_of_ble_eq_true rfl⟩ ⟨hPX, hPO⟩ rfl hl.1 rfl (lv_room (Nat.le_of_ble_eq_true rfl)) dL_law_963 ⟨by show 216 + j + 1 ≤ 601024; omega, by show 11263 + 6 * j + 6 ≤ 7293034; omega⟩) hS (fun q _ h => hAO q h) (fun q h => hAO q h) (fun rk fk t H1 locs ht _ hw hB _ hk hS => ?_)
      subst ht
      have hPM := PM_kept G.1.2.1 hPM hk (fun q h1 h2 => h2.elim (fun h3 => G.2.2.2.2.1 q h3 h1) (fun h3 => G.2.2.2.2.2 (h3 ▸ h1)))
      clear hPX hPO
      obtain ⟨hPX, hPO⟩ := hB
      rcases hTh with ⟨hT1, hT2⟩ | ⟨hT1, hT2⟩
      · have hw : rk = 1 ∧ fk = f := by
          rcases hw with ⟨w1, w2, w3⟩ | ⟨v, w1, w2, w3⟩
          · exact ⟨w2, w3⟩
          · rw [hT1] at w1; cases w1
        obtain ⟨rfl, rfl⟩ := hw
        refine lv_istore (lv' := [(5, .int 1), (0, .ref b), (1, .ref (oA Z 0)), (2, .ref (mA Zm 0)), (3, .ref o), (4, .int (nI (5 * j)))]) F.1 F.2.1 dL_law_966 hl (by decide) rfl (fun ls hl => ?_)
        refine lv_aload_n F.1 F.2.1 dL_law_968 rfl (lv_at hl 3 rfl) ?_
        refine lv_aload_n F.1 F.2.1 dL_law_969 rfl (lv_at hl 1 rfl) ?_
        refine lv_iload F.1 F.2.1 dL_law_970 (lv_at hl 5 rfl) ?_
        refine lv_iconst (v := 1) F.1 F.2.1 dL_law_972 (by decide) ?_
        refine lv_iadd F.1 F.2.1 dL_law_973 ?_
        refine lv_seti (y := nI (5 * j + 1)) (nI_add (5 * j) 1).symm ?_
        refine va_sld F.1 F.2.1 hX hbl hbA hS (vp_in_nI (by omega) (by omega)) dL_law_974 ?_
        refine lv_aload_n F.1 F.2.1 dL_law_975 rfl (lv_at hl 1 rfl) ?_
        refine lv_iload F.1 F.2.1 dL_law_976 (lv_at hl 5 rfl) ?_
        refine lv_iconst (v := 2) F.1 F.2.1 dL_law_978 (by decide) ?_
        refine lv_iadd F.1 F.2.1 dL_law_979 ?_
        refine lv_seti (y := nI (5 * j + 2)) (nI_add (5 * j) 2).symm ?_
        refine va_sld F.1 F.2.1 hX hbl hbA hS (vp_in_nI (by omega) (by omega)) dL_law_980 ?_
        refine lw_i (lw_V (As := [.int (xs (nI (5 * j + 1)).toNatClampNeg), .int (xs (nI (5 * j + 2)).toNatClampNeg)]) (rest := []) F (kX12_log hE2) (okM Zm) G.1.2.1 hS lkL_139 ⟨Nat.le_of_ble_eq_true rfl, Nat.le_of_ble_eq_true rfl⟩ (rvM G.1.2.1 hPM) hPM rfl hl.1 rfl (lv_room (Nat.le_of_ble_eq_true rfl)) dL_law_981 ⟨by show 216 + j + 1 ≤ 601024; omega, by show 11263 + 6 * j + 6 ≤ 7293034; omega⟩) hS G.2.2.1 (fun H1 locs hPM hk hS => ?_)
        have hPX := PX_kept2 G.1.1 hPX hk (fun q h1 h2 => G.2.2.2.2.1 q h1 h2)
        have hPO := PO_kept2 hPO G.2.2.2.2.2 hk
        refine lv_istore (lv' := [(6, .int b'), (5, .int 1), (0, .ref b), (1, .ref (oA Z 0)), (2, .ref (mA Zm 0)), (3, .ref o), (4, .int (nI (5 * j)))]) F.1 F.2.1 dL_law_984 hl (by decide) rfl (fun ls hl => ?_)
        refine lv_aload_n F.1 F.2.1 dL_law_986 rfl (lv_at hl 4 rfl) ?_
        have hE3 : fX12_thrown mth' = some mth' := rfl
        refine lw_i (lw_V (As := []) (rest := []) F (kX12_thrown hE3) (okM Zm) G.1.2.1 hS lkL_79 ⟨Nat.le_of_ble_eq_true rfl, Nat.le_of_ble_eq_true rfl⟩ (rvM G.1.2.1 hPM) hPM rfl hl.1 rfl (lv_room (Nat.le_of_ble_eq_true rfl)) dL_law_987 ⟨by show 216 + j + 1 ≤ 601024; omega, by show 11263 + 6 * j + 6 ≤ 7293034; omega⟩) hS G.2.2.1 (fun H1 locs hPM hk hS => ?_)
        have hPX := PX_kept2 G.1.1 hPX hk (fun q h1 h2 => G.2.2.2.2.1 q h1 h2)
        have hPO := PO_kept2 hPO G.2.2.2.2.2 hk
        refine lv_iload F.1 F.2.1 dL_law_990 (lv_at hl 1 rfl) ?_
        refine lv_icmp_eq (tgt := 997) F.1 F.2.1 dL_law_992 (by decide) (fun _ => ?_) (fun hc => absurd hT2 hc)
        refine lv_iload F.1 F.2.1 dL_law_997 (lv_at hl 1 rfl) ?_
        refine lv_if_ne (tgt := 1014) F.1 F.2.1 dL_law_999 (by decide) (fun _ => ?_) (fun hc => absurd hc (by decide))
        refine lv_goto (tgt := 1235) F.1 F.2.1 dL_law_1014 (by decide) ?_
        refine lv_iinc (v := nI (5 * (j + 1))) (lv' := [(4, .int (nI (5 * (j + 1)))), (6, .int b'), (5, .int 1), (0, .ref b), (1, .ref (oA Z 0)), (2, .ref (mA Zm 0)), (3, .ref o)]) F.1 F.2.1 dL_law_1235 hl (k := 6) rfl (nI_add (5 * j) 5) (by decide) rfl (fun ls hl => ?_)
        refine lv_goto (tgt := 23) F.1 F.2.1 dL_law_1238 (by decide) ?_
        refine W.widen (k := 216 + (j + 1)) (n := 11263 + 6 * (j + 1)) (by omega) (by omega) ?_
        exact ih (j + 1) (by omega) (by omega) HS zkb zdr zky zpn zps ztz ztn zxz zxa zsg za0 za1 za2 za3 za4 zfr zcd zgo ztd ztv zcl zca zwa zpt zpf mth' mto mrw mta mtp mat mtt mme mun mde mco mcn mvi men mfa mac mfi mse mtd mra mkp _ hI _ _ hPX hPM hPO hS ls (lv_sub hl [3, 4, 5, 6, 0] rfl)
      · have hw : rk = 0 ∧ fk = vp_updL f 0 b'.toInt64 := by
          rcases hw with ⟨w1, w2, w3⟩ | ⟨v, w1, w2, w3⟩
          · rw [hT1] at w1; cases w1
          · rw [hT1] at w1; cases w1; exact ⟨w2, w3⟩
        obtain ⟨rfl, rfl⟩ := hw
        refine lv_istore (lv' := [(5, .int 0), (0, .ref b), (1, .ref (oA Z 0)), (2, .ref (mA Zm 0)), (3, .ref o), (4, .int (nI (5 * j)))]) F.1 F.2.1 dL_law_966 hl (by decide) rfl (fun ls hl => ?_)
        refine lv_aload_n F.1 F.2.1 dL_law_968 rfl (lv_at hl 3 rfl) ?_
        refine lv_aload_n F.1 F.2.1 dL_law_969 rfl (lv_at hl 1 rfl) ?_
        refine lv_iload F.1 F.2.1 dL_law_970 (lv_at hl 5 rfl) ?_
        refine lv_iconst (v := 1) F.1 F.2.1 dL_law_972 (by decide) ?_
        refine lv_iadd F.1 F.2.1 dL_law_973 ?_
        refine lv_seti (y := nI (5 * j + 1)) (nI_add (5 * j) 1).symm ?_
        refine va_sld F.1 F.2.1 hX hbl hbA hS (vp_in_nI (by omega) (by omega)) dL_law_974 ?_
        refine lv_aload_n F.1 F.2.1 dL_law_975 rfl (lv_at hl 1 rfl) ?_
        refine lv_iload F.1 F.2.1 dL_law_976 (lv_at hl 5 rfl) ?_
        refine lv_iconst (v := 2) F.1 F.2.1 dL_law_978 (by decide) ?_
        refine lv_iadd F.1 F.2.1 dL_law_979 ?_
        refine lv_seti (y := nI (5 * j + 2)) (nI_add (5 * j) 2).symm ?_
        refine va_sld F.1 F.2.1 hX hbl hbA hS (vp_in_nI (by omega) (by omega)) dL_law_980 ?_
        refine lw_i (lw_V (As := [.int (xs (nI (5 * j + 1)).toNatClampNeg), .int (xs (nI (5 * j + 2)).toNatClampNeg)]) (rest := []) F (kX12_log hE2) (okM Zm) G.1.2.1 hS lkL_139 ⟨Nat.le_of_ble_eq_true rfl, Nat.le_of_ble_eq_true rfl⟩ (rvM G.1.2.1 hPM) hPM rfl hl.1 rfl (lv_room (Nat.le_of_ble_eq_true rfl)) dL_law_981 ⟨by show 216 + j + 1 ≤ 601024; omega, by show 11263 + 6 * j + 6 ≤ 7293034; omega⟩) hS G.2.2.1 (fun H1 locs hPM hk hS => ?_)
        have hPX := PX_kept2 G.1.1 hPX hk (fun q h1 h2 => G.2.2.2.2.1 q h1 h2)
        have hPO := PO_kept2 hPO G.2.2.2.2.2 hk
        refine lv_istore (lv' := [(6, .int b'), (5, .int 0), (0, .ref b), (1, .ref (oA Z 0)), (2, .ref (mA Zm 0)), (3, .ref o), (4, .int (nI (5 * j)))]) F.1 F.2.1 dL_law_984 hl (by decide) rfl (fun ls hl => ?_)
        refine lv_aload_n F.1 F.2.1 dL_law_986 rfl (lv_at hl 4 rfl) ?_
        have hE3 : fX12_thrown mth' = some mth' := rfl
        refine lw_i (lw_V (As := []) (rest := []) F (kX12_thrown hE3) (okM Zm) G.1.2.1 hS lkL_79 ⟨Nat.le_of_ble_eq_true rfl, Nat.le_of_ble_eq_true rfl⟩ (rvM G.1.2.1 hPM) hPM rfl hl.1 rfl (lv_room (Nat.le_of_ble_eq_true rfl)) dL_law_987 ⟨by show 216 + j + 1 ≤ 601024; omega, by show 11263 + 6 * j + 6 ≤ 7293034; omega⟩) hS G.2.2.1 (fun H1 locs hPM hk hS => ?_)
        have hPX := PX_kept2 G.1.1 hPX hk (fun q h1 h2 => G.2.2.2.2.1 q h1 h2)
        have hPO := PO_kept2 hPO G.2.2.2.2.2 hk
        refine lv_iload F.1 F.2.1 dL_law_990 (lv_at hl 1 rfl) ?_
        refine lv_icmp_eq (tgt := 997) F.1 F.2.1 dL_law_992 (by decide) (fun _ => ?_) (fun hc => absurd hT2 hc)
        refine lv_iload F.1 F.2.1 dL_law_997 (lv_at hl 1 rfl) ?_
        refine lv_if_ne (tgt := 1014) F.1 F.2.1 dL_law_999 (by decide) (fun hc => absurd rfl hc) (fun _ => ?_)
        refine lv_aload_n F.1 F.2.1 dL_law_1002 rfl (lv_at hl 5 rfl) ?_
        refine lv_iconst (v := 0) F.1 F.2.1 dL_law_1003 (by decide) ?_
        refine va_lald F.1 F.2.1 G.1.1.2.1 hPO 0 1 rfl rfl (inb_in (by decide)) dL_law_1004 ?_
        refine lv_iload F.1 F.2.1 dL_law_1005 (lv_at hl 0 rfl) ?_
        refine lv_i2l (v := b'.toInt64) F.1 F.2.1 dL_law_1007 rfl ?_
        refine W.lcmp F.1 F.2.1 dL_law_1008 ?_
        refine lv_if_eq (tgt := 1014) F.1 F.2.1 dL_law_1009 (by decide) (fun _ => ?_) (fun hc => absurd (lg_same _) hc)
        refine lv_goto (tgt := 1235) F.1 F.2.1 dL_law_1014 (by decide) ?_
        refine lv_iinc (v := nI (5 * (j + 1))) (lv' := [(4, .int (nI (5 * (j + 1)))), (6, .int b'), (5, .int 0), (0, .ref b), (1, .ref (oA Z 0)), (2, .ref (mA Zm 0)), (3, .ref o)]) F.1 F.2.1 dL_law_1235 hl (k := 6) rfl (nI_add (5 * j) 5) (by decide) rfl (fun ls hl => ?_)
        refine lv_goto (tgt := 23) F.1 F.2.1 dL_law_1238 (by decide) ?_
        refine W.widen (k := 216 + (j + 1)) (n := 11263 + 6 * (j + 1)) (by omega) (by omega) ?_
        exact ih (j + 1) (by omega) (by omega) HS zkb zdr zky zpn zps ztz ztn zxz zxa zsg za0 za1 za2 za3 za4 zfr zcd zgo ztd ztv zcl zca zwa zpt zpf mth' mto mrw mta mtp mat mtt mme mun mde mco mcn mvi men mfa mac mfi mse mtd mra mkp _ hI _ _ hPX hPM hPO hS ls (lv_sub hl [3, 4, 5, 6, 0] rfl)
    by_cases hc25 : xk = 25
    · refine lv_tableIn (tgt := 1017) (off := 978) F.1 F.2.1 dL_law_39 (by rw [hc25]; decide) (by rw [hc25]; decide) (by rw [hc25]; rfl) (by decide) ?_
      obtain ⟨r', ztz', ztn', mth', mto', mrw', hE1, hE2, hI⟩ := h_logged HS zkb zdr zky zpn zps ztz ztn zxz zxa zsg za0 za1 za2 za3 za4 zfr zcd zgo ztd ztv zcl zca zwa zpt zpf mth mto mrw mta mtp mat mtt mme mun mde mco mcn mvi men mfa mac mfi mse mtd mra mkp (xs (nI (5 * j + 1)).toNatClampNeg) hI
      refine lv_aload_n F.1 F.2.1 dL_law_1017 rfl (lv_at hl 1 rfl) ?_
      refine lv_aload_n F.1 F.2.1 dL_law_1018 rfl (lv_at hl 0 rfl) ?_
      refine lv_iload F.1 F.2.1 dL_law_1019 (lv_at hl 4 rfl) ?_
      refine lv_iconst (v := 1) F.1 F.2.1 dL_law_1021 (by decide) ?_
      refine lv_iadd F.1 F.2.1 dL_law_1022 ?_
      refine lv_seti (y := nI (5 * j + 1)) (nI_add (5 * j) 1).symm ?_
      refine va_sld F.1 F.2.1 hX hbl hbA hS (vp_in_nI (by omega) (by omega)) dL_law_1023 ?_
      refine lw_i (lw_V (As := [.int (xs (nI (5 * j + 1)).toNatClampNeg)]) (rest := []) F (kX11_logged hE1) (okX Z) G.1.1 hS lkL_140 ⟨Nat.le_of_ble_eq_true rfl, Nat.le_of_ble_eq_true rfl⟩ (rvo0 G.1.1 hPX) hPX rfl hl.1 rfl (lv_room (Nat.le_of_ble_eq_true rfl)) dL_law_1024 ⟨by show 216 + j ≤ 601024; omega, by show 11263 + 6 * j ≤ 7293034; omega⟩) hS G.2.1 (fun H1 locs hPX hk hS => ?_)
      have hPM := PM_kept G.1.2.1 hPM hk (fun q h1 h2 => G.2.2.2.2.1 q h2 h1)
      have hPO := PO_kept2 hPO G.1.2.2.2.2.2.2.2.2 hk
      refine lv_aload_n F.1 F.2.1 dL_law_1027 rfl (lv_at hl 2 rfl) ?_
      refine lv_aload_n F.1 F.2.1 dL_law_1028 rfl (lv_at hl 0 rfl) ?_
      refine lv_iload F.1 F.2.1 dL_law_1029 (lv_at hl 4 rfl) ?_
      refine lv_iconst (v := 1) F.1 F.2.1 dL_law_1031 (by decide) ?_
      refine lv_iadd F.1 F.2.1 dL_law_1032 ?_
      refine lv_seti (y := nI (5 * j + 1)) (nI_add (5 * j) 1).symm ?_
      refine va_sld F.1 F.2.1 hX hbl hbA hS (vp_in_nI (by omega) (by omega)) dL_law_1033 ?_
      refine lw_i (lw_V (As := [.int (xs (nI (5 * j + 1)).toNatClampNeg)]) (rest := [.int r']) F (kX12_logged hE2) (okM Zm) G.1.2.1 hS lkL_143 ⟨Nat.le_of_ble_eq_true rfl, Nat.le_of_ble_eq_true rfl⟩ (rvM G.1.2.1 hPM) hPM rfl hl.1 rfl (lv_room (Nat.le_of_ble_eq_true rfl)) dL_law_1034 ⟨by show 216 + j ≤ 601024; omega, by show 11263 + 6 * j ≤ 7293034; omega⟩) hS G.2.2.1 (fun H1 locs hPM hk hS => ?_)
      have hPX := PX_kept2 G.1.1 hPX hk (fun q h1 h2 => G.2.2.2.2.1 q h1 h2)
      have hPO := PO_kept2 hPO G.2.2.2.2.2 hk
      refine lv_icmp_eq (tgt := 1235) F.1 F.2.1 dL_law_1037 (by decide) (fun _ => ?_) (fun hc => absurd rfl hc)
      refine lv_iinc (v := nI (5 * (j + 1))) (lv' := [(4, .int (nI (5 * (j + 1)))), (0, .ref b), (1, .ref (oA Z 0)), (2, .ref (mA Zm 0)), (3, .ref o)]) F.1 F.2.1 dL_law_1235 hl (k := 4) rfl (nI_add (5 * j) 5) (by decide) rfl (fun ls hl => ?_)
      refine lv_goto (tgt := 23) F.1 F.2.1 dL_law_1238 (by decide) ?_
      refine W.widen (k := 216 + (j + 1)) (n := 11263 + 6 * (j + 1)) (by omega) (by omega) ?_
      exact ih (j + 1) (by omega) (by omega) HS zkb zdr zky zpn zps ztz' ztn' zxz zxa zsg za0 za1 za2 za3 za4 zfr zcd zgo ztd ztv zcl zca zwa zpt zpf mth' mto' mrw' mta mtp mat mtt mme mun mde mco mcn mvi men mfa mac mfi mse mtd mra mkp _ hI _ _ hPX hPM hPO hS ls (lv_sub hl [1, 2, 3, 4, 0] rfl)
    by_cases hc26 : xk = 26
    · refine lv_tableIn (tgt := 1042) (off := 1003) F.1 F.2.1 dL_law_39 (by rw [hc26]; decide) (by rw [hc26]; decide) (by rw [hc26]; rfl) (by decide) ?_
      obtain ⟨r', zpn', zps', ztz', ztn', zxz', zxa', za0', za1', za2', za3', za4', zcd', zgo', ztd', ztv', zcl', zca', zwa', zpt', zpf', HS', mth', mto', mrw', mtp', mat', mtt', mme', mun', mco', mcn', mvi', men', mac', mfi', mse', mtd', hE1, hE2, hI⟩ := h_day HS zkb zdr zky zpn zps ztz ztn zxz zxa zsg za0 za1 za2 za3 za4 zfr zcd zgo ztd ztv zcl zca zwa zpt zpf mth mto mrw mta mtp mat mtt mme mun mde mco mcn mvi men mfa mac mfi mse mtd mra mkp  hI
      refine lv_aload_n F.1 F.2.1 dL_law_1042 rfl (lv_at hl 1 rfl) ?_
      refine lw_i (lw_V (As := []) (rest := []) F (kX11_day hE1) (okX Z) G.1.1 hS lkL_144 ⟨Nat.le_of_ble_eq_true rfl, Nat.le_of_ble_eq_true rfl⟩ (rvo0 G.1.1 hPX) hPX rfl hl.1 rfl (lv_room (Nat.le_of_ble_eq_true rfl)) dL_law_1043 ⟨by show 216 + j ≤ 601024; omega, by show 11263 + 6 * j ≤ 7293034; omega⟩) hS G.2.1 (fun H1 locs hPX hk hS => ?_)
      have hPM := PM_kept G.1.2.1 hPM hk (fun q h1 h2 => G.2.2.2.2.1 q h2 h1)
      have hPO := PO_kept2 hPO G.1.2.2.2.2.2.2.2.2 hk
      refine lv_aload_n F.1 F.2.1 dL_law_1046 rfl (lv_at hl 2 rfl) ?_
      refine lw_i (lw_V (As := []) (rest := [.int r']) F (kX12_day hE2) (okMS Zm Y) G.1.2.2.1 hS lkL_147 ⟨Nat.le_of_ble_eq_true rfl, Nat.le_of_ble_eq_true rfl⟩ (rvM G.1.2.1 hPM) hPM rfl hl.1 rfl (lv_room (Nat.le_of_ble_eq_true rfl)) dL_law_1047 ⟨by show 216 + j ≤ 601024; omega, by show 11263 + 6 * j ≤ 7293034; omega⟩) hS G.2.2.1 (fun H1 locs hPM hk hS => ?_)
      have hPX := PX_kept2 G.1.1 hPX hk (fun q h1 h2 => G.2.2.2.2.1 q h1 h2)
      have hPO := PO_kept2 hPO G.2.2.2.2.2 hk
      refine lv_icmp_eq (tgt := 1235) F.1 F.2.1 dL_law_1050 (by decide) (fun _ => ?_) (fun hc => absurd rfl hc)
      refine lv_iinc (v := nI (5 * (j + 1))) (lv' := [(4, .int (nI (5 * (j + 1)))), (0, .ref b), (1, .ref (oA Z 0)), (2, .ref (mA Zm 0)), (3, .ref o)]) F.1 F.2.1 dL_law_1235 hl (k := 4) rfl (nI_add (5 * j) 5) (by decide) rfl (fun ls hl => ?_)
      refine lv_goto (tgt := 23) F.1 F.2.1 dL_law_1238 (by decide) ?_
      refine W.widen (k := 216 + (j + 1)) (n := 11263 + 6 * (j + 1)) (by omega) (by omega) ?_
      exact ih (j + 1) (by omega) (by omega) HS' zkb zdr zky zpn' zps' ztz' ztn' zxz' zxa' zsg za0' za1' za2' za3' za4' zfr zcd' zgo' ztd' ztv' zcl' zca' zwa' zpt' zpf' mth' mto' mrw' mta mtp' mat' mtt' mme' mun' mde mco' mcn' mvi' men' mfa mac' mfi' mse' mtd' mra mkp _ hI _ _ hPX hPM hPO hS ls (lv_sub hl [1, 2, 3, 4, 0] rfl)
    by_cases hc27 : xk = 27
    · refine lv_tableIn (tgt := 1055) (off := 1016) F.1 F.2.1 dL_law_39 (by rw [hc27]; decide) (by rw [hc27]; decide) (by rw [hc27]; rfl) (by decide) ?_
      obtain ⟨r', zpn', zps', HS', mth', mme', mun', hE1, hE2, hI⟩ := h_undo HS zkb zdr zky zpn zps ztz ztn zxz zxa zsg za0 za1 za2 za3 za4 zfr zcd zgo ztd ztv zcl zca zwa zpt zpf mth mto mrw mta mtp mat mtt mme mun mde mco mcn mvi men mfa mac mfi mse mtd mra mkp  hI
      refine lv_aload_n F.1 F.2.1 dL_law_1055 rfl (lv_at hl 1 rfl) ?_
      refine lw_i (lw_V (As := []) (rest := []) F (kX11_undo hE1) (okX Z) G.1.1 hS lkL_148 ⟨Nat.le_of_ble_eq_true rfl, Nat.le_of_ble_eq_true rfl⟩ (rvo0 G.1.1 hPX) hPX rfl hl.1 rfl (lv_room (Nat.le_of_ble_eq_true rfl)) dL_law_1056 ⟨by show 216 + j ≤ 601024; omega, by show 11263 + 6 * j ≤ 7293034; omega⟩) hS G.2.1 (fun H1 locs hPX hk hS => ?_)
      have hPM := PM_kept G.1.2.1 hPM hk (fun q h1 h2 => G.2.2.2.2.1 q h2 h1)
      have hPO := PO_kept2 hPO G.1.2.2.2.2.2.2.2.2 hk
      refine lv_aload_n F.1 F.2.1 dL_law_1059 rfl (lv_at hl 2 rfl) ?_
      refine lw_i (lw_V (As := []) (rest := [.int r']) F (kX12_undo hE2) (okM Zm) G.1.2.1 hS lkL_151 ⟨Nat.le_of_ble_eq_true rfl, Nat.le_of_ble_eq_true rfl⟩ (rvM G.1.2.1 hPM) hPM rfl hl.1 rfl (lv_room (Nat.le_of_ble_eq_true rfl)) dL_law_1060 ⟨by show 216 + j ≤ 601024; omega, by show 11263 + 6 * j ≤ 7293034; omega⟩) hS G.2.2.1 (fun H1 locs hPM hk hS => ?_)
      have hPX := PX_kept2 G.1.1 hPX hk (fun q h1 h2 => G.2.2.2.2.1 q h1 h2)
      have hPO := PO_kept2 hPO G.2.2.2.2.2 hk
      refine lv_icmp_eq (tgt := 1235) F.1 F.2.1 dL_law_1063 (by decide) (fun _ => ?_) (fun hc => absurd rfl hc)
      refine lv_iinc (v := nI (5 * (j + 1))) (lv' := [(4, .int (nI (5 * (j + 1)))), (0, .ref b), (1, .ref (oA Z 0)), (2, .ref (mA Zm 0)), (3, .ref o)]) F.1 F.2.1 dL_law_1235 hl (k := 4) rfl (nI_add (5 * j) 5) (by decide) rfl (fun ls hl => ?_)
      refine lv_goto (tgt := 23) F.1 F.2.1 dL_law_1238 (by decide) ?_
      refine W.widen (k := 216 + (j + 1)) (n := 11263 + 6 * (j + 1)) (by omega) (by omega) ?_
      exact ih (j + 1) (by omega) (by omega) HS' zkb zdr zky zpn' zps' ztz ztn zxz zxa zsg za0 za1 za2 za3 za4 zfr zcd zgo ztd ztv zcl zca zwa zpt zpf mth' mto mrw mta mtp mat mtt mme' mun' mde mco mcn mvi men mfa mac mfi mse mtd mra mkp _ hI _ _ hPX hPM hPO hS ls (lv_sub hl [1, 2, 3, 4, 0] rfl)
    by_cases hc28 : xk = 28
    · refine lv_tableIn (tgt := 1068) (off := 1029) F.1 F.2.1 dL_law_39 (by rw [hc28]; decide) (by rw [hc28]; decide) (by rw [hc28]; rfl) (by decide) ?_
      obtain ⟨r', zdr', ztz', ztn', za0', za1', za2', za3', za4', zcd', zgo', ztd', ztv', zcl', zca', zwa', zpt', zpf', HS', mth', mto', mrw', mme', mde', mco', mcn', mvi', mra', hE1, hE2, hI⟩ := h_years HS zkb zdr zky zpn zps ztz ztn zxz zxa zsg za0 za1 za2 za3 za4 zfr zcd zgo ztd ztv zcl zca zwa zpt zpf mth mto mrw mta mtp mat mtt mme mun mde mco mcn mvi men mfa mac mfi mse mtd mra mkp (xs (nI (5 * j + 1)).toNatClampNeg) (xs (nI (5 * j + 2)).toNatClampNeg) hI
      refine lv_aload_n F.1 F.2.1 dL_law_1068 rfl (lv_at hl 1 rfl) ?_
      refine lv_aload_n F.1 F.2.1 dL_law_1069 rfl (lv_at hl 0 rfl) ?_
      refine lv_iload F.1 F.2.1 dL_law_1070 (lv_at hl 4 rfl) ?_
      refine lv_iconst (v := 1) F.1 F.2.1 dL_law_1072 (by decide) ?_
      refine lv_iadd F.1 F.2.1 dL_law_1073 ?_
      refine lv_seti (y := nI (5 * j + 1)) (nI_add (5 * j) 1).symm ?_
      refine va_sld F.1 F.2.1 hX hbl hbA hS (vp_in_nI (by omega) (by omega)) dL_law_1074 ?_
      refine lv_aload_n F.1 F.2.1 dL_law_1075 rfl (lv_at hl 0 rfl) ?_
      refine lv_iload F.1 F.2.1 dL_law_1076 (lv_at hl 4 rfl) ?_
      refine lv_iconst (v := 2) F.1 F.2.1 dL_law_1078 (by decide) ?_
      refine lv_iadd F.1 F.2.1 dL_law_1079 ?_
      refine lv_seti (y := nI (5 * j + 2)) (nI_add (5 * j) 2).symm ?_
      refine va_sld F.1 F.2.1 hX hbl hbA hS (vp_in_nI (by omega) (by omega)) dL_law_1080 ?_
      refine lw_i (lw_V (As := [.int (xs (nI (5 * j + 1)).toNatClampNeg), .int (xs (nI (5 * j + 2)).toNatClampNeg)]) (rest := []) F (kX11_years hE1) (okX Z) G.1.1 hS lkL_152 ⟨Nat.le_of_ble_eq_true rfl, Nat.le_of_ble_eq_true rfl⟩ (rvo0 G.1.1 hPX) hPX rfl hl.1 rfl (lv_room (Nat.le_of_ble_eq_true rfl)) dL_law_1081 ⟨by show 216 + j ≤ 601024; omega, by show 11263 + 6 * j ≤ 7293034; omega⟩) hS G.2.1 (fun H1 locs hPX hk hS => ?_)
      have hPM := PM_kept G.1.2.1 hPM hk (fun q h1 h2 => G.2.2.2.2.1 q h2 h1)
      have hPO := PO_kept2 hPO G.1.2.2.2.2.2.2.2.2 hk
      refine lv_aload_n F.1 F.2.1 dL_law_1084 rfl (lv_at hl 2 rfl) ?_
      refine lv_aload_n F.1 F.2.1 dL_law_1085 rfl (lv_at hl 0 rfl) ?_
      refine lv_iload F.1 F.2.1 dL_law_1086 (lv_at hl 4 rfl) ?_
      refine lv_iconst (v := 1) F.1 F.2.1 dL_law_1088 (by decide) ?_
      refine lv_iadd F.1 F.2.1 dL_law_1089 ?_
      refine lv_seti (y := nI (5 * j + 1)) (nI_add (5 * j) 1).symm ?_
      refine va_sld F.1 F.2.1 hX hbl hbA hS (vp_in_nI (by omega) (by omega)) dL_law_1090 ?_
      refine lv_aload_n F.1 F.2.1 dL_law_1091 rfl (lv_at hl 0 rfl) ?_
      refine lv_iload F.1 F.2.1 dL_law_1092 (lv_at hl 4 rfl) ?_
      refine lv_iconst (v := 2) F.1 F.2.1 dL_law_1094 (by decide) ?_
      refine lv_iadd F.1 F.2.1 dL_law_1095 ?_
      refine lv_seti (y := nI (5 * j + 2)) (nI_add (5 * j) 2).symm ?_
      refine va_sld F.1 F.2.1 hX hbl hbA hS (vp_in_nI (by omega) (by omega)) dL_law_1096 ?_
      refine lw_i (lw_V (As := [.int (xs (nI (5 * j + 1)).toNatClampNeg), .int (xs (nI (5 * j + 2)).toNatClampNeg)]) (rest := [.int r']) F (kX12_years hE2) (okM Zm) G.1.2.1 hS lkL_155 ⟨Nat.le_of_ble_eq_true rfl, Nat.le_of_ble_eq_true rfl⟩ (rvM G.1.2.1 hPM) hPM rfl hl.1 rfl (lv_room (Nat.le_of_ble_eq_true rfl)) dL_law_1097 ⟨by show 216 + j ≤ 601024; omega, by show 11263 + 6 * j ≤ 7293034; omega⟩) hS G.2.2.1 (fun H1 locs hPM hk hS => ?_)
      have hPX := PX_kept2 G.1.1 hPX hk (fun q h1 h2 => G.2.2.2.2.1 q h1 h2)
      have hPO := PO_kept2 hPO G.2.2.2.2.2 hk
      refine lv_icmp_eq (tgt := 1235) F.1 F.2.1 dL_law_1100 (by decide) (fun _ => ?_) (fun hc => absurd rfl hc)
      refine lv_iinc (v := nI (5 * (j + 1))) (lv' := [(4, .int (nI (5 * (j + 1)))), (0, .ref b), (1, .ref (oA Z 0)), (2, .ref (mA Zm 0)), (3, .ref o)]) F.1 F.2.1 dL_law_1235 hl (k := 4) rfl (nI_add (5 * j) 5) (by decide) rfl (fun ls hl => ?_)
      refine lv_goto (tgt := 23) F.1 F.2.1 dL_law_1238 (by decide) ?_
      refine W.widen (k := 216 + (j + 1)) (n := 11263 + 6 * (j + 1)) (by omega) (by omega) ?_
      exact ih (j + 1) (by omega) (by omega) HS' zkb zdr' zky zpn zps ztz' ztn' zxz zxa zsg za0' za1' za2' za3' za4' zfr zcd' zgo' ztd' ztv' zcl' zca' zwa' zpt' zpf' mth' mto' mrw' mta mtp mat mtt mme' mun mde' mco' mcn' mvi' men mfa mac mfi mse mtd mra' mkp _ hI _ _ hPX hPM hPO hS ls (lv_sub hl [1, 2, 3, 4, 0] rfl)
    by_cases hc29 : xk = 29
    · refine lv_tableIn (tgt := 1105) (off := 1066) F.1 F.2.1 dL_law_39 (by rw [hc29]; decide) (by rw [hc29]; decide) (by rw [hc29]; rfl) (by decide) ?_
      obtain ⟨r', zkb', HS', mth', mme', mkp', hE1, hE2, hI⟩ := h_keep HS zkb zdr zky zpn zps ztz ztn zxz zxa zsg za0 za1 za2 za3 za4 zfr zcd zgo ztd ztv zcl zca zwa zpt zpf mth mto mrw mta mtp mat mtt mme mun mde mco mcn mvi men mfa mac mfi mse mtd mra mkp (xs (nI (5 * j + 1)).toNatClampNeg) hI
      refine lv_aload_n F.1 F.2.1 dL_law_1105 rfl (lv_at hl 1 rfl) ?_
      refine lv_aload_n F.1 F.2.1 dL_law_1106 rfl (lv_at hl 0 rfl) ?_
      refine lv_iload F.1 F.2.1 dL_law_1107 (lv_at hl 4 rfl) ?_
      refine lv_iconst (v := 1) F.1 F.2.1 dL_law_1109 (by decide) ?_
      refine lv_iadd F.1 F.2.1 dL_law_1110 ?_
      refine lv_seti (y := nI (5 * j + 1)) (nI_add (5 * j) 1).symm ?_
      refine va_sld F.1 F.2.1 hX hbl hbA hS (vp_in_nI (by omega) (by omega)) dL_law_1111 ?_
      refine lw_i (lw_V (As := [.int (xs (nI (5 * j + 1)).toNatClampNeg)]) (rest := []) F (kX11_keep hE1) (okX Z) G.1.1 hS lkL_156 ⟨Nat.le_of_ble_eq_true rfl, Nat.le_of_ble_eq_true rfl⟩ (rvo0 G.1.1 hPX) hPX rfl hl.1 rfl (lv_room (Nat.le_of_ble_eq_true rfl)) dL_law_1112 ⟨by show 216 + j ≤ 601024; omega, by show 11263 + 6 * j ≤ 7293034; omega⟩) hS G.2.1 (fun H1 locs hPX hk hS => ?_)
      have hPM := PM_kept G.1.2.1 hPM hk (fun q h1 h2 => G.2.2.2.2.1 q h2 h1)
      have hPO := PO_kept2 hPO G.1.2.2.2.2.2.2.2.2 hk
      refine lv_aload_n F.1 F.2.1 dL_law_1115 rfl (lv_at hl 2 rfl) ?_
      refine lv_aload_n F.1 F.2.1 dL_law_1116 rfl (lv_at hl 0 rfl) ?_
      refine lv_iload F.1 F.2.1 dL_law_1117 (lv_at hl 4 rfl) ?_
      refine lv_iconst (v := 1) F.1 F.2.1 dL_law_1119 (by decide) ?_
      refine lv_iadd F.1 F.2.1 dL_law_1120 ?_
      refine lv_seti (y := nI (5 * j + 1)) (nI_add (5 * j) 1).symm ?_
      refine va_sld F.1 F.2.1 hX hbl hbA hS (vp_in_nI (by omega) (by omega)) dL_law_1121 ?_
      refine lw_i (lw_V (As := [.int (xs (nI (5 * j + 1)).toNatClampNeg)]) (rest := [.int r']) F (kX12_keep hE2) (okM Zm) G.1.2.1 hS lkL_159 ⟨Nat.le_of_ble_eq_true rfl, Nat.le_of_ble_eq_true rfl⟩ (rvM G.1.2.1 hPM) hPM rfl hl.1 rfl (lv_room (Nat.le_of_ble_eq_true rfl)) dL_law_1122 ⟨by show 216 + j ≤ 601024; omega, by show 11263 + 6 * j ≤ 7293034; omega⟩) hS G.2.2.1 (fun H1 locs hPM hk hS => ?_)
      have hPX := PX_kept2 G.1.1 hPX hk (fun q h1 h2 => G.2.2.2.2.1 q h1 h2)
      have hPO := PO_kept2 hPO G.2.2.2.2.2 hk
      refine lv_icmp_eq (tgt := 1235) F.1 F.2.1 dL_law_1125 (by decide) (fun _ => ?_) (fun hc => absurd rfl hc)
      refine lv_iinc (v := nI (5 * (j + 1))) (lv' := [(4, .int (nI (5 * (j + 1)))), (0, .ref b), (1, .ref (oA Z 0)), (2, .ref (mA Zm 0)), (3, .ref o)]) F.1 F.2.1 dL_law_1235 hl (k := 4) rfl (nI_add (5 * j) 5) (by decide) rfl (fun ls hl => ?_)
      refine lv_goto (tgt := 23) F.1 F.2.1 dL_law_1238 (by decide) ?_
      refine W.widen (k := 216 + (j + 1)) (n := 11263 + 6 * (j + 1)) (by omega) (by omega) ?_
      exact ih (j + 1) (by omega) (by omega) HS' zkb' zdr zky zpn zps ztz ztn zxz zxa zsg za0 za1 za2 za3 za4 zfr zcd zgo ztd ztv zcl zca zwa zpt zpf mth' mto mrw mta mtp mat mtt mme' mun mde mco mcn mvi men mfa mac mfi mse mtd mra mkp' _ hI _ _ hPX hPM hPO hS ls (lv_sub hl [1, 2, 3, 4, 0] rfl)
    by_cases hc30 : xk = 30
    · refine lv_tableIn (tgt := 1130) (off := 1091) F.1 F.2.1 dL_law_39 (by rw [hc30]; decide) (by rw [hc30]; decide) (by rw [hc30]; rfl) (by decide) ?_
      obtain ⟨r', zps', HS', mth', mme', mun', hE1, hE2, hI⟩ := h_again HS zkb zdr zky zpn zps ztz ztn zxz zxa zsg za0 za1 za2 za3 za4 zfr zcd zgo ztd ztv zcl zca zwa zpt zpf mth mto mrw mta mtp mat mtt mme mun mde mco mcn mvi men mfa mac mfi mse mtd mra mkp (xs (nI (5 * j + 1)).toNatClampNeg) hI
      refine lv_aload_n F.1 F.2.1 dL_law_1130 rfl (lv_at hl 1 rfl) ?_
      refine lv_aload_n F.1 F.2.1 dL_law_1131 rfl (lv_at hl 0 rfl) ?_
      refine lv_iload F.1 F.2.1 dL_law_1132 (lv_at hl 4 rfl) ?_
      refine lv_iconst (v := 1) F.1 F.2.1 dL_law_1134 (by decide) ?_
      refine lv_iadd F.1 F.2.1 dL_law_1135 ?_
      refine lv_seti (y := nI (5 * j + 1)) (nI_add (5 * j) 1).symm ?_
      refine va_sld F.1 F.2.1 hX hbl hbA hS (vp_in_nI (by omega) (by omega)) dL_law_1136 ?_
      refine lw_i (lw_V (As := [.int (xs (nI (5 * j + 1)).toNatClampNeg)]) (rest := []) F (kX11_again hE1) (okX Z) G.1.1 hS lkL_160 ⟨Nat.le_of_ble_eq_true rfl, Nat.le_of_ble_eq_true rfl⟩ (rvo0 G.1.1 hPX) hPX rfl hl.1 rfl (lv_room (Nat.le_of_ble_eq_true rfl)) dL_law_1137 ⟨by show 216 + j ≤ 601024; omega, by show 11263 + 6 * j ≤ 7293034; omega⟩) hS G.2.1 (fun H1 locs hPX hk hS => ?_)
      have hPM := PM_kept G.1.2.1 hPM hk (fun q h1 h2 => G.2.2.2.2.1 q h2 h1)
      have hPO := PO_kept2 hPO G.1.2.2.2.2.2.2.2.2 hk
      refine lv_aload_n F.1 F.2.1 dL_law_1140 rfl (lv_at hl 2 rfl) ?_
      refine lv_aload_n F.1 F.2.1 dL_law_1141 rfl (lv_at hl 0 rfl) ?_
      refine lv_iload F.1 F.2.1 dL_law_1142 (lv_at hl 4 rfl) ?_
      refine lv_iconst (v := 1) F.1 F.2.1 dL_law_1144 (by decide) ?_
      refine lv_iadd F.1 F.2.1 dL_law_1145 ?_
      refine lv_seti (y := nI (5 * j + 1)) (nI_add (5 * j) 1).symm ?_
      refine va_sld F.1 F.2.1 hX hbl hbA hS (vp_in_nI (by omega) (by omega)) dL_law_1146 ?_
      refine lw_i (lw_V (As := [.int (xs (nI (5 * j + 1)).toNatClampNeg)]) (rest := [.int r']) F (kX12_again hE2) (okM Zm) G.1.2.1 hS lkL_163 ⟨Nat.le_of_ble_eq_true rfl, Nat.le_of_ble_eq_true rfl⟩ (rvM G.1.2.1 hPM) hPM rfl hl.1 rfl (lv_room (Nat.le_of_ble_eq_true rfl)) dL_law_1147 ⟨by show 216 + j ≤ 601024; omega, by show 11263 + 6 * j ≤ 7293034; omega⟩) hS G.2.2.1 (fun H1 locs hPM hk hS => ?_)
      have hPX := PX_kept2 G.1.1 hPX hk (fun q h1 h2 => G.2.2.2.2.1 q h1 h2)
      have hPO := PO_kept2 hPO G.2.2.2.2.2 hk
      refine lv_icmp_eq (tgt := 1235) F.1 F.2.1 dL_law_1150 (by decide) (fun _ => ?_) (fun hc => absurd rfl hc)
      refine lv_iinc (v := nI (5 * (j + 1))) (lv' := [(4, .int (nI (5 * (j + 1)))), (0, .ref b), (1, .ref (oA Z 0)), (2, .ref (mA Zm 0)), (3, .ref o)]) F.1 F.2.1 dL_law_1235 hl (k := 4) rfl (nI_add (5 * j) 5) (by decide) rfl (fun ls hl => ?_)
      refine lv_goto (tgt := 23) F.1 F.2.1 dL_law_1238 (by decide) ?_
      refine W.widen (k := 216 + (j + 1)) (n := 11263 + 6 * (j + 1)) (by omega) (by omega) ?_
      exact ih (j + 1) (by omega) (by omega) HS' zkb zdr zky zpn zps' ztz ztn zxz zxa zsg za0 za1 za2 za3 za4 zfr zcd zgo ztd ztv zcl zca zwa zpt zpf mth' mto mrw mta mtp mat mtt mme' mun' mde mco mcn mvi men mfa mac mfi mse mtd mra mkp _ hI _ _ hPX hPM hPO hS ls (lv_sub hl [1, 2, 3, 4, 0] rfl)
    by_cases hc31 : xk = 31
    · refine lv_tableIn (tgt := 1155) (off := 1116) F.1 F.2.1 dL_law_39 (by rw [hc31]; decide) (by rw [hc31]; decide) (by rw [hc31]; rfl) (by decide) ?_
      obtain ⟨r', mth', hE1, hE2, hI⟩ := h_count HS zkb zdr zky zpn zps ztz ztn zxz zxa zsg za0 za1 za2 za3 za4 zfr zcd zgo ztd ztv zcl zca zwa zpt zpf mth mto mrw mta mtp mat mtt mme mun mde mco mcn mvi men mfa mac mfi mse mtd mra mkp (xs (nI (5 * j + 1)).toNatClampNeg) hI
      refine lv_aload_n F.1 F.2.1 dL_law_1155 rfl (lv_at hl 1 rfl) ?_
      refine lv_aload_n F.1 F.2.1 dL_law_1156 rfl (lv_at hl 0 rfl) ?_
      refine lv_iload F.1 F.2.1 dL_law_1157 (lv_at hl 4 rfl) ?_
      refine lv_iconst (v := 1) F.1 F.2.1 dL_law_1159 (by decide) ?_
      refine lv_iadd F.1 F.2.1 dL_law_1160 ?_
      refine lv_seti (y := nI (5 * j + 1)) (nI_add (5 * j) 1).symm ?_
      refine va_sld F.1 F.2.1 hX hbl hbA hS (vp_in_nI (by omega) (by omega)) dL_law_1161 ?_
      refine lw_i (lw_V (As := [.int (xs (nI (5 * j + 1)).toNatClampNeg)]) (rest := []) F (kX11_count hE1) (okX Z) G.1.1 hS lkL_164 ⟨Nat.le_of_ble_eq_true rfl, Nat.le_of_ble_eq_true rfl⟩ (rvo0 G.1.1 hPX) hPX rfl hl.1 rfl (lv_room (Nat.le_of_ble_eq_true rfl)) dL_law_1162 ⟨by show 216 + j ≤ 601024; omega, by show 11263 + 6 * j ≤ 7293034; omega⟩) hS G.2.1 (fun H1 locs hPX hk hS => ?_)
      have hPM := PM_kept G.1.2.1 hPM hk (fun q h1 h2 => G.2.2.2.2.1 q h2 h1)
      have hPO := PO_kept2 hPO G.1.2.2.2.2.2.2.2.2 hk
      refine lv_aload_n F.1 F.2.1 dL_law_1165 rfl (lv_at hl 2 rfl) ?_
      refine lv_aload_n F.1 F.2.1 dL_law_1166 rfl (lv_at hl 0 rfl) ?_
      refine lv_iload F.1 F.2.1 dL_law_1167 (lv_at hl 4 rfl) ?_
      refine lv_iconst (v := 1) F.1 F.2.1 dL_law_1169 (by decide) ?_
      refine lv_iadd F.1 F.2.1 dL_law_1170 ?_
      refine lv_seti (y := nI (5 * j + 1)) (nI_add (5 * j) 1).symm ?_
      refine va_sld F.1 F.2.1 hX hbl hbA hS (vp_in_nI (by omega) (by omega)) dL_law_1171 ?_
      refine lw_i (lw_V (As := [.int (xs (nI (5 * j + 1)).toNatClampNeg)]) (rest := [.int r']) F (kX12_count hE2) (okM Zm) G.1.2.1 hS lkL_167 ⟨Nat.le_of_ble_eq_true rfl, Nat.le_of_ble_eq_true rfl⟩ (rvM G.1.2.1 hPM) hPM rfl hl.1 rfl (lv_room (Nat.le_of_ble_eq_true rfl)) dL_law_1172 ⟨by show 216 + j ≤ 601024; omega, by show 11263 + 6 * j ≤ 7293034; omega⟩) hS G.2.2.1 (fun H1 locs hPM hk hS => ?_)
      have hPX := PX_kept2 G.1.1 hPX hk (fun q h1 h2 => G.2.2.2.2.1 q h1 h2)
      have hPO := PO_kept2 hPO G.2.2.2.2.2 hk
      refine lv_icmp_eq (tgt := 1235) F.1 F.2.1 dL_law_1175 (by decide) (fun _ => ?_) (fun hc => absurd rfl hc)
      refine lv_iinc (v := nI (5 * (j + 1))) (lv' := [(4, .int (nI (5 * (j + 1)))), (0, .ref b), (1, .ref (oA Z 0)), (2, .ref (mA Zm 0)), (3, .ref o)]) F.1 F.2.1 dL_law_1235 hl (k := 4) rfl (nI_add (5 * j) 5) (by decide) rfl (fun ls hl => ?_)
      refine lv_goto (tgt := 23) F.1 F.2.1 dL_law_1238 (by decide) ?_
      refine W.widen (k := 216 + (j + 1)) (n := 11263 + 6 * (j + 1)) (by omega) (by omega) ?_
      exact ih (j + 1) (by omega) (by omega) HS zkb zdr zky zpn zps ztz ztn zxz zxa zsg za0 za1 za2 za3 za4 zfr zcd zgo ztd ztv zcl zca zwa zpt zpf mth' mto mrw mta mtp mat mtt mme mun mde mco mcn mvi men mfa mac mfi mse mtd mra mkp _ hI _ _ hPX hPM hPO hS ls (lv_sub hl [1, 2, 3, 4, 0] rfl)
    by_cases hc32 : xk = 32
    · refine lv_tableIn (tgt := 1180) (off := 1141) F.1 F.2.1 dL_law_39 (by rw [hc32]; decide) (by rw [hc32]; decide) (by rw [hc32]; rfl) (by decide) ?_
      obtain ⟨r', b', mth', hE1, hE2, hTh, hI⟩ := h_row HS zkb zdr zky zpn zps ztz ztn zxz zxa zsg za0 za1 za2 za3 za4 zfr zcd zgo ztd ztv zcl zca zwa zpt zpf mth mto mrw mta mtp mat mtt mme mun mde mco mcn mvi men mfa mac mfi mse mtd mra mkp (xs (nI (5 * j + 1)).toNatClampNeg) hI
      refine lv_aload_n F.1 F.2.1 dL_law_1180 rfl (lv_at hl 1 rfl) ?_
      refine lv_aload_n F.1 F.2.1 dL_law_1181 rfl (lv_at hl 0 rfl) ?_
      refine lv_iload F.1 F.2.1 dL_law_1182 (lv_at hl 4 rfl) ?_
      refine lv_iconst (v := 1) F.1 F.2.1 dL_law_1184 (by decide) ?_
      refine lv_iadd F.1 F.2.1 dL_law_1185 ?_
      refine lv_seti (y := nI (5 * j + 1)) (nI_add (5 * j) 1).symm ?_
      refine va_sld F.1 F.2.1 hX hbl hbA hS (vp_in_nI (by omega) (by omega)) dL_law_1186 ?_
      refine lv_aload_n F.1 F.2.1 dL_law_1187 rfl (lv_at hl 3 rfl) ?_
      refine va_calli (lw_X (n := 3) (y := yL_row) (P0 := fun H => PX Z HS zkb zdr zky zpn zps ztz ztn zxz zxa zsg za0 za1 za2 za3 za4 zfr zcd zgo ztd ztv zcl zca zwa zpt zpf H ∧ PO Z o f H) (K := KXO Z o) (As := [.ref (oA Z 0), .int (xs (nI (5 * j + 1)).toNatClampNeg), .ref o]) (rest := []) F (kL_row (N := N) hlt hE1) (okXO Z o) G.1.2.2.2 hS (bw_t 970 (by decide +kernel) rfl) (bw_t 971 (by decide +kernel) rfl) (bw_t 0 (by decide +kernel) rfl) (bw_t 972 (by decide +kernel) rfl) ⟨by decide, by decide, by decide +kernel⟩ ⟨Nat.le_of_ble_eq_true rfl, Nat.le_of_ble_eq_true rfl⟩ ⟨hPX, hPO⟩ rfl hl.1 rfl (lv_room (Nat.le_of_ble_eq_true rfl)) dL_law_1188 ⟨by show 216 + j + 1 ≤ 601024; omega, by show 11263 + 6 * j + 6 ≤ 7293034; omega⟩) hS (fun q _ h => hAO q h) (fun q h => hAO q h) (fun rk fk t H1 locs ht _ hw hB _ hk hS => ?_)
      subst ht
      have hPM := PM_kept G.1.2.1 hPM hk (fun q h1 h2 => h2.elim (fun h3 => G.2.2.2.2.1 q h3 h1) (fun h3 => G.2.2.2.2.2 (h3 ▸ h1)))
      clear hPX hPO
      obtain ⟨hPX, hPO⟩ := hB
      rcases hTh with ⟨hT1, hT2⟩ | ⟨hT1, hT2⟩
      · have hw : rk = 1 ∧ fk = f := by
          rcases hw with ⟨w1, w2, w3⟩ | ⟨v, w1, w2, w3⟩
          · exact ⟨w2, w3⟩
          · rw [hT1] at w1; cases w1
        obtain ⟨rfl, rfl⟩ := hw
        refine lv_istore (lv' := [(5, .int 1), (0, .ref b), (1, .ref (oA Z 0)), (2, .ref (mA Zm 0)), (3, .ref o), (4, .int (nI (5 * j)))]) F.1 F.2.1 dL_law_1191 hl (by decide) rfl (fun ls hl => ?_)
        refine lv_aload_n F.1 F.2.1 dL_law_1193 rfl (lv_at hl 3 rfl) ?_
        refine lv_aload_n F.1 F.2.1 dL_law_1194 rfl (lv_at hl 1 rfl) ?_
        refine lv_iload F.1 F.2.1 dL_law_1195 (lv_at hl 5 rfl) ?_
        refine lv_iconst (v := 1) F.1 F.2.1 dL_law_1197 (by decide) ?_
        refine lv_iadd F.1 F.2.1 dL_law_1198 ?_
        refine lv_seti (y := nI (5 * j + 1)) (nI_add (5 * j) 1).symm ?_
        refine va_sld F.1 F.2.1 hX hbl hbA hS (vp_in_nI (by omega) (by omega)) dL_law_1199 ?_
        refine lw_l (lw_V (As := [.int (xs (nI (5 * j + 1)).toNatClampNeg)]) (rest := []) F (kX12_row hE2) (okM Zm) G.1.2.1 hS lkL_170 ⟨Nat.le_of_ble_eq_true rfl, Nat.le_of_ble_eq_true rfl⟩ (rvM G.1.2.1 hPM) hPM rfl hl.1 rfl (lv_room (Nat.le_of_ble_eq_true rfl)) dL_law_1200 ⟨by show 216 + j + 1 ≤ 601024; omega, by show 11263 + 6 * j + 6 ≤ 7293034; omega⟩) hS G.2.2.1 (fun H1 locs hPM hk hS => ?_)
        have hPX := PX_kept2 G.1.1 hPX hk (fun q h1 h2 => G.2.2.2.2.1 q h1 h2)
        have hPO := PO_kept2 hPO G.2.2.2.2.2 hk
        refine lv_lstore (lv' := [(6, .long b'), (5, .int 1), (0, .ref b), (1, .ref (oA Z 0)), (2, .ref (mA Zm 0)), (3, .ref o), (4, .int (nI (5 * j)))]) F.1 F.2.1 dL_law_1203 hl (by decide) rfl (fun ls hl => ?_)
        refine lv_aload_n F.1 F.2.1 dL_law_1205 rfl (lv_at hl 4 rfl) ?_
        have hE3 : fX12_thrown mth' = some mth' := rfl
        refine lw_i (lw_V (As := []) (rest := []) F (kX12_thrown hE3) (okM Zm) G.1.2.1 hS lkL_79 ⟨Nat.le_of_ble_eq_true rfl, Nat.le_of_ble_eq_true rfl⟩ (rvM G.1.2.1 hPM) hPM rfl hl.1 rfl (lv_room (Nat.le_of_ble_eq_true rfl)) dL_law_1206 ⟨by show 216 + j + 1 ≤ 601024; omega, by show 11263 + 6 * j + 6 ≤ 7293034; omega⟩) hS G.2.2.1 (fun H1 locs hPM hk hS => ?_)
        have hPX := PX_kept2 G.1.1 hPX hk (fun q h1 h2 => G.2.2.2.2.1 q h1 h2)
        have hPO := PO_kept2 hPO G.2.2.2.2.2 hk
        refine lv_iload F.1 F.2.1 dL_law_1209 (lv_at hl 1 rfl) ?_
        refine lv_icmp_eq (tgt := 1216) F.1 F.2.1 dL_law_1211 (by decide) (fun _ => ?_) (fun hc => absurd hT2 hc)
        refine lv_iload F.1 F.2.1 dL_law_1216 (lv_at hl 1 rfl) ?_
        refine lv_if_ne (tgt := 1232) F.1 F.2.1 dL_law_1218 (by decide) (fun _ => ?_) (fun hc => absurd hc (by decide))
        refine lv_goto (tgt := 1235) F.1 F.2.1 dL_law_1232 (by decide) ?_
        refine lv_iinc (v := nI (5 * (j + 1))) (lv' := [(4, .int (nI (5 * (j + 1)))), (6, .long b'), (5, .int 1), (0, .ref b), (1, .ref (oA Z 0)), (2, .ref (mA Zm 0)), (3, .ref o)]) F.1 F.2.1 dL_law_1235 hl (k := 6) rfl (nI_add (5 * j) 5) (by decide) rfl (fun ls hl => ?_)
        refine lv_goto (tgt := 23) F.1 F.2.1 dL_law_1238 (by decide) ?_
        refine W.widen (k := 216 + (j + 1)) (n := 11263 + 6 * (j + 1)) (by omega) (by omega) ?_
        exact ih (j + 1) (by omega) (by omega) HS zkb zdr zky zpn zps ztz ztn zxz zxa zsg za0 za1 za2 za3 za4 zfr zcd zgo ztd ztv zcl zca zwa zpt zpf mth' mto mrw mta mtp mat mtt mme mun mde mco mcn mvi men mfa mac mfi mse mtd mra mkp _ hI _ _ hPX hPM hPO hS ls (lv_sub hl [3, 4, 5, 6, 0] rfl)
      · have hw : rk = 0 ∧ fk = vp_updL f 0 b' := by
          rcases hw with ⟨w1, w2, w3⟩ | ⟨v, w1, w2, w3⟩
          · rw [hT1] at w1; cases w1
          · rw [hT1] at w1; cases w1; exact ⟨w2, w3⟩
        obtain ⟨rfl, rfl⟩ := hw
        refine lv_istore (lv' := [(5, .int 0), (0, .ref b), (1, .ref (oA Z 0)), (2, .ref (mA Zm 0)), (3, .ref o), (4, .int (nI (5 * j)))]) F.1 F.2.1 dL_law_1191 hl (by decide) rfl (fun ls hl => ?_)
        refine lv_aload_n F.1 F.2.1 dL_law_1193 rfl (lv_at hl 3 rfl) ?_
        refine lv_aload_n F.1 F.2.1 dL_law_1194 rfl (lv_at hl 1 rfl) ?_
        refine lv_iload F.1 F.2.1 dL_law_1195 (lv_at hl 5 rfl) ?_
        refine lv_iconst (v := 1) F.1 F.2.1 dL_law_1197 (by decide) ?_
        refine lv_iadd F.1 F.2.1 dL_law_1198 ?_
        refine lv_seti (y := nI (5 * j + 1)) (nI_add (5 * j) 1).symm ?_
        refine va_sld F.1 F.2.1 hX hbl hbA hS (vp_in_nI (by omega) (by omega)) dL_law_1199 ?_
        refine lw_l (lw_V (As := [.int (xs (nI (5 * j + 1)).toNatClampNeg)]) (rest := []) F (kX12_row hE2) (okM Zm) G.1.2.1 hS lkL_170 ⟨Nat.le_of_ble_eq_true rfl, Nat.le_of_ble_eq_true rfl⟩ (rvM G.1.2.1 hPM) hPM rfl hl.1 rfl (lv_room (Nat.le_of_ble_eq_true rfl)) dL_law_1200 ⟨by show 216 + j + 1 ≤ 601024; omega, by show 11263 + 6 * j + 6 ≤ 7293034; omega⟩) hS G.2.2.1 (fun H1 locs hPM hk hS => ?_)
        have hPX := PX_kept2 G.1.1 hPX hk (fun q h1 h2 => G.2.2.2.2.1 q h1 h2)
        have hPO := PO_kept2 hPO G.2.2.2.2.2 hk
        refine lv_lstore (lv' := [(6, .long b'), (5, .int 0), (0, .ref b), (1, .ref (oA Z 0)), (2, .ref (mA Zm 0)), (3, .ref o), (4, .int (nI (5 * j)))]) F.1 F.2.1 dL_law_1203 hl (by decide) rfl (fun ls hl => ?_)
        refine lv_aload_n F.1 F.2.1 dL_law_1205 rfl (lv_at hl 4 rfl) ?_
        have hE3 : fX12_thrown mth' = some mth' := rfl
        refine lw_i (lw_V (As := []) (rest := []) F (kX12_thrown hE3) (okM Zm) G.1.2.1 hS lkL_79 ⟨Nat.le_of_ble_eq_true rfl, Nat.le_of_ble_eq_true rfl⟩ (rvM G.1.2.1 hPM) hPM rfl hl.1 rfl (lv_room (Nat.le_of_ble_eq_true rfl)) dL_law_1206 ⟨by show 216 + j + 1 ≤ 601024; omega, by show 11263 + 6 * j + 6 ≤ 7293034; omega⟩) hS G.2.2.1 (fun H1 locs hPM hk hS => ?_)
        have hPX := PX_kept2 G.1.1 hPX hk (fun q h1 h2 => G.2.2.2.2.1 q h1 h2)
        have hPO := PO_kept2 hPO G.2.2.2.2.2 hk
        refine lv_iload F.1 F.2.1 dL_law_1209 (lv_at hl 1 rfl) ?_
        refine lv_icmp_eq (tgt := 1216) F.1 F.2.1 dL_law_1211 (by decide) (fun _ => ?_) (fun hc => absurd hT2 hc)
        refine lv_iload F.1 F.2.1 dL_law_1216 (lv_at hl 1 rfl) ?_
        refine lv_if_ne (tgt := 1232) F.1 F.2.1 dL_law_1218 (by decide) (fun hc => absurd rfl hc) (fun _ => ?_)
        refine lv_aload_n F.1 F.2.1 dL_law_1221 rfl (lv_at hl 5 rfl) ?_
        refine lv_iconst (v := 0) F.1 F.2.1 dL_law_1222 (by decide) ?_
        refine va_lald F.1 F.2.1 G.1.1.2.1 hPO 0 1 rfl rfl (inb_in (by decide)) dL_law_1223 ?_
        refine lv_lload F.1 F.2.1 dL_law_1224 (lv_at hl 0 rfl) ?_
        refine W.lcmp F.1 F.2.1 dL_law_1226 ?_
        refine lv_if_eq (tgt := 1232) F.1 F.2.1 dL_law_1227 (by decide) (fun _ => ?_) (fun hc => absurd (lg_same _) hc)
        refine lv_goto (tgt := 1235) F.1 F.2.1 dL_law_1232 (by decide) ?_
        refine lv_iinc (v := nI (5 * (j + 1))) (lv' := [(4, .int (nI (5 * (j + 1)))), (6, .long b'), (5, .int 0), (0, .ref b), (1, .ref (oA Z 0)), (2, .ref (mA Zm 0)), (3, .ref o)]) F.1 F.2.1 dL_law_1235 hl (k := 6) rfl (nI_add (5 * j) 5) (by decide) rfl (fun ls hl => ?_)
        refine lv_goto (tgt := 23) F.1 F.2.1 dL_law_1238 (by decide) ?_
        refine W.widen (k := 216 + (j + 1)) (n := 11263 + 6 * (j + 1)) (by omega) (by omega) ?_
        exact ih (j + 1) (by omega) (by omega) HS zkb zdr zky zpn zps ztz ztn zxz zxa zsg za0 za1 za2 za3 za4 zfr zcd zgo ztd ztv zcl zca zwa zpt zpf mth' mto mrw mta mtp mat mtt mme mun mde mco mcn mvi men mfa mac mfi mse mtd mra mkp _ hI _ _ hPX hPM hPO hS ls (lv_sub hl [3, 4, 5, 6, 0] rfl)
    refine lv_tableOut (tgt := 1235) F.1 F.2.1 dL_law_39 (by have g0 : ¬ xk.toInt = 0 := sw_ne hc0; have g1 : ¬ xk.toInt = 1 := sw_ne hc1; have g2 : ¬ xk.toInt = 2 := sw_ne hc2; have g3 : ¬ xk.toInt = 3 := sw_ne hc3; have g4 : ¬ xk.toInt = 4 := sw_ne hc4; have g5 : ¬ xk.toInt = 5 := sw_ne hc5; have g6 : ¬ xk.toInt = 6 := sw_ne hc6; have g7 : ¬ xk.toInt = 7 := sw_ne hc7; have g8 : ¬ xk.toInt = 8 := sw_ne hc8; have g9 : ¬ xk.toInt = 9 := sw_ne hc9; have g10 : ¬ xk.toInt = 10 := sw_ne hc10; have g11 : ¬ xk.toInt = 11 := sw_ne hc11; have g12 : ¬ xk.toInt = 12 := sw_ne hc12; have g13 : ¬ xk.toInt = 13 := sw_ne hc13; have g14 : ¬ xk.toInt = 14 := sw_ne hc14; have g15 : ¬ xk.toInt = 15 := sw_ne hc15; have g16 : ¬ xk.toInt = 16 := sw_ne hc16; have g17 : ¬ xk.toInt = 17 := sw_ne hc17; have g18 : ¬ xk.toInt = 18 := sw_ne hc18; have g19 : ¬ xk.toInt = 19 := sw_ne hc19; have g20 : ¬ xk.toInt = 20 := sw_ne hc20; have g21 : ¬ xk.toInt = 21 := sw_ne hc21; have g22 : ¬ xk.toInt = 22 := sw_ne hc22; have g23 : ¬ xk.toInt = 23 := sw_ne hc23; have g24 : ¬ xk.toInt = 24 := sw_ne hc24; have g25 : ¬ xk.toInt = 25 := sw_ne hc25; have g26 : ¬ xk.toInt = 26 := sw_ne hc26; have g27 : ¬ xk.toInt = 27 := sw_ne hc27; have g28 : ¬ xk.toInt = 28 := sw_ne hc28; have g29 : ¬ xk.toInt = 29 := sw_ne hc29; have g30 : ¬ xk.toInt = 30 := sw_ne hc30; have g31 : ¬ xk.toInt = 31 := sw_ne hc31; have g32 : ¬ xk.toInt = 32 := sw_ne hc32; omega) (by decide) ?_
    refine lv_iinc (v := nI (5 * (j + 1))) (lv' := [(4, .int (nI (5 * (j + 1)))), (0, .ref b), (1, .ref (oA Z 0)), (2, .ref (mA Zm 0)), (3, .ref o)]) F.1 F.2.1 dL_law_1235 hl (k := 4) rfl (nI_add (5 * j) 5) (by decide) rfl (fun ls hl => ?_)
    refine lv_goto (tgt := 23) F.1 F.2.1 dL_law_1238 (by decide) ?_
    refine W.widen (k := 216 + (j + 1)) (n := 11263 + 6 * (j + 1)) (by omega) (by omega) ?_
    exact ih (j + 1) (by omega) (by omega) HS zkb zdr zky zpn zps ztz ztn zxz zxa zsg za0 za1 za2 za3 za4 zfr zcd zgo ztd ztv zcl zca zwa zpt zpf mth mto mrw mta mtp mat mtt mme mun mde mco mcn mvi men mfa mac mfi mse mtd mra mkp _ (hmono _ _ _ hI) _ _ hPX hPM hPO hS ls (lv_sub hl [1, 2, 3, 4, 0] rfl)
