/-! the walk to the loop -/
section CU
variable {p : Program} {l : Launch} {e : Env} {R : Room} {s : State} {m : MethodId} {args : Array Value} {below : List Frame} {meth : Method} {c : Code} {H : Heap} {locs : List Loc} {cells slots : Nat} {Q : State → Prop} {cc cy : ByteArray} {nL ny a b n pc index mc ms : Nat} {own host : String} {y : MethodName} {A : Nat → Prop} {ls : Array Slot} {rest st As : List Value} {Y : YC} {ws f1 f2 : va_W} {B : Heap → Prop}
theorem ct_pub {b0 : Nat} {e0 : va_E} (F : CallFix p m c cc nL s args bigW own) (C : KC Y s) (hM : Mc l y cy ny a b Y (.ref b0 :: As) [(b0, e0)] H.size B mc ms) (hl : Cond.methodLink own index y ∈ bigW) (h1 : Cond.instanceMethod y ∈ bigW) (h2 : Cond.initialized y.cls ∈ bigW) (h3 : Cond.code y cy ny none ∈ bigW) (hi : y.name = "<init>") (hd : y.cls ≠ "java/lang/invoke/MethodHandle" ∧ y.cls ≠ "java/lang/invoke/VarHandle" ∧ (parseMethodDescriptor y.desc).map (fun d => d.parameters.length) = some n)
    (hR : a + 1 ≤ R.frames ∧ 8 + (ny + 11) + b ≤ R.locals) (hP : va_P Y.1 vwCl (f1 ++ (b0, e0) :: f2) H) (hD : va_D A (f1 ++ (b0, e0) :: f2)) (hS : va_S A s.heap H locs) (hA : ∀ q : Nat, s.heap.size ≤ q → A q)
    (hn : As.length = n) (hsz : ls.size = nL) (hst : st = As.reverse ++ .ref b0 :: rest) (hW : 2 * (F0 m pc ls st).monitorRoom + (rest.map fun v => v.category).sum ≤ 8) (hdg : decode cc pc = .ok (.invokespecial index, 3)) (hf : cells + mc ≤ R.cells ∧ slots + ms ≤ R.slots)
    (kk : ∀ (H1 : Heap) (locs : List Loc), (∀ w1 : va_W, va_P Y.1 vwCl w1 H1 → va_D (va_A [(b0, e0)] H.size) w1 → va_P Y.1 vwCl (f1 ++ (w1 ++ f2)) H1 ∧ va_D A (f1 ++ (w1 ++ f2))) → B H1 → va_S A s.heap H1 locs → W p l e R s m args below meth c H1 locs (cells + mc) (slots + ms) Q (F0 m (pc + 3) ls rest)) : W p l e R s m args below meth c H locs cells slots Q (F0 m pc ls st) := by
  have hPc : va_P Y.1 vwCl [(b0, e0)] H := vP_iff.mpr fun q hq => vP_iff.mp hP q (by rw [List.mem_singleton] at hq; subst hq; exact List.mem_append_right _ List.mem_cons_self)
  have hFc := ct_free hD hS hA
  refine va_callv (va_runI F hM ⟨callB_of n F.2.2.2.2 (bw_code h3) rfl rfl rfl (F.2.2.2.2 _ h2) (F.2.2.2.2 _ hl) hd hR, hi, F.2.2.2.2 _ h1⟩ ⟨fun a U g mk q => ⟨q.1, q.2.1, q.2.2.1, q.2.2.2.1.call, q.2.2.2.2⟩, fun U hU hw => ⟨rfl, by rw [hU], by rw [hU]; exact hPc, C.warm hw, vD_iff.mpr ⟨by simp, fun _ _ => trivial⟩⟩⟩ rfl hn hsz hst hW hdg hf) hS (fun q _ h => hFc q h) hFc (fun u t H1 locs1 ht _ _ hB _ hk1 hS1 => ?_)
  subst ht
  exact kk _ _ (fun w1 hP1 hD1 => ct_join hP hD hk1 hFc hP1 hD1) hB hS1
end CU
theorem KX_of {Z : ZC} {Y : YC} {s : State} (C : KC Y s) (z1 : Z.1 = Y.1) (z2 : Z.2.2.1 = Y.2.1) (z3 : Z.2.2.2.1 = Y.2.2.1) (z4 : Z.2.2.2.2 = Y.2.2.2.1) (z6 : ∀ i k : Nat, i < 203 → k < 203 → Z.2.1 i = Z.2.1 k → i = k) : KX Z s := by
  refine ⟨z6, ⟨by rw [z1]; exact C.1.1, fun k q hk => ?_⟩, C.2.1⟩
  have e : tysX Z = [(Y.2.1, .int), (Y.2.2.1, .long), (Y.2.2.2.1, .object "CountedHeap$Heap")] := by rw [tysX, z2, z3, z4]
  rw [e] at hk
  match k, hk with
  | 0, hk => exact C.1.2 0 q hk
  | 1, hk => exact C.1.2 1 q hk
  | 2, hk => exact C.1.2 2 q hk
  | k + 3, hk => simp at hk
theorem KM_of {Z : ZC} {Y : YC} {s : State} (C : KC Y s) (z1 : Z.1 = Y.1) (z2 : Z.2.2.1 = Y.2.1) (z3 : Z.2.2.2.1 = Y.2.2.1) (z4 : Z.2.2.2.2 = Y.2.2.2.2) (z6 : ∀ i k : Nat, i < 12 → k < 12 → Z.2.1 i = Z.2.1 k → i = k) : KM Z s := by
  refine ⟨z6, ⟨by rw [z1]; exact C.1.1, fun k q hk => ?_⟩⟩
  have e : tysM Z = [(Y.2.1, .int), (Y.2.2.1, .long), (Y.2.2.2.2, .boolean)] := by rw [tysM, z2, z3, z4]
  rw [e] at hk
  match k, hk with
  | 0, hk => exact C.1.2 0 q hk
  | 1, hk => exact C.1.2 1 q hk
  | 2, hk => exact C.1.2 3 q hk
  | k + 3, hk => simp at hk
theorem D_wide {A B : Nat → Prop} {ws : va_W} (h : va_D A ws) (hAB : ∀ q, A q → B q) : va_D B ws := ⟨h.1, fun k q hk => hAB _ (h.2 k q hk)⟩
theorem lX_cov {Z : ZC} {HS : Nat → Nat → Nat → Int32} {L : List va_E} : ∀ q, AX Z q → ∃ e, (q, e) ∈ lX Z HS L := fun q ⟨i, hi, e⟩ => ⟨_, e ▸ List.mem_of_getElem? (lX_get hi)⟩
theorem lM_cov {Z : ZC} {L : List va_E} : ∀ q, AM Z q → ∃ e, (q, e) ∈ lM Z L := fun q ⟨i, hi, e⟩ => ⟨L.getD i (.inr (0, [])), by rw [e]; exact List.mem_of_getElem? (lM_get hi rfl)⟩
theorem D_apart {A : Nat → Prop} {w1 w2 : va_W} {q : Nat} {e1 e2 : va_E} (h : va_D A (w1 ++ w2)) (h1 : (q, e1) ∈ w1) (h2 : (q, e2) ∈ w2) : False := by
  have hn := (vD_iff.mp h).1
  rw [List.map_append, List.nodup_append] at hn
  exact hn.2.2 q (List.mem_map_of_mem h1) q (List.mem_map_of_mem h2) rfl
set_option maxHeartbeats 4000000 in
theorem law_open {p : Program} {l : Launch} {e : Env} {s : State} {m : MethodId} {below : List Frame} {meth : Method} {c : Code} {b L : Nat} {xs : Nat → Int32} {N : Nat} {INV : Nat → CSt → MSt → Prop} (hmono : ∀ (j : Nat) (x : CSt) (y : MSt), INV j x y → INV (j + 1) x y) (hlt : l.stackTraces = false) (hL : L ≤ 2560) (C9 : lw_At p s m meth c b L xs) (hST : ∀ j : Nat, j < 512 → STall N (INV j) (INV (j + 1))) (hI : INV 0 ((fun _ => X0), 0, 0, (fun _ => 0), 0, 0, 0, (fun _ => 0), 0, 0, (fun _ => 0), 0, 0, 0, 0, 0, (fun _ => 0), 0, (fun _ => 0), 0, 0, (fun _ => 0), (fun _ => 0), (fun _ => 0), (fun _ => 0), (fun _ => 0)) (0, 0, (fun _ => 0), (fun _ => 0), 0, 0, 0, mem0, 0, 0, (fun _ => 0), (fun _ => 0), 0, 0, (fun _ => 0), (fun _ => 0), (fun _ => 0), (fun _ => 0), (fun _ => 0), 0, (fun _ => 0))) :
    ∀ ls : Array Slot, lv_has ls 8 [(0, .ref b)] → W p l e room_1 s m #[Value.ref b] below meth c s.heap [] 0 0 (lw_Z below #[Value.ref b] s) (F0 m 0 ls []) := by
  have C8 := C9
  obtain ⟨hx, hb, hr, hml, hown, hts, hX, hbl, hlocks, hgv⟩ := C8
  have hw : stW #[Value.ref b] s := ⟨hts, flat_of_before _ hgv⟩
  have F : CallFix p m c cL_law 8 s #[Value.ref b] bigW RL := ⟨hx, hb, hml, hown, fun w h => hts w (List.mem_filter.mp h).1⟩
  obtain ⟨Yc, C⟩ := st_KC hts
  obtain ⟨Y, hY⟩ := st_KMS hw
  have hAq : ∀ q : Nat, s.heap.size ≤ q → (fun q : Nat => s.heap.size ≤ q) q := fun _ h => h
  intro ls hl
  have hP0 : va_P Yc.1 vwCl [] s.heap := vP_iff.mpr (fun _ h => nomatch h)
  have hD0 : va_D (fun q : Nat => s.heap.size ≤ q) [] := vD_iff.mpr ⟨List.nodup_nil, fun _ h => nomatch h⟩
  have hS0 : va_S (fun q : Nat => s.heap.size ≤ q) s.heap s.heap [] := ⟨Nat.le_refl _, fun _ _ _ => rfl, fun _ h => nomatch h⟩
  refine va_new (ci := 11) (fs := [.null, .null, .null, .int 0, .null, .null, .null, .null, .null, .null, .null, .null, .null, .int 0]) (C := RX11) (T := TX11) (N := 14) F.1 F.2.1 F.2.2.2.2 inX11 tyX11 tyX11_ok F.2.2.2.1 (F.2.2.2.2 _ (bw_t 26 (by decide +kernel) rfl)) (F.2.2.2.2 _ (bw_t 27 (by decide +kernel) rfl)) (F.2.2.2.2 _ (bw_t 1 (by decide +kernel) rfl)) C.1 hP0 hD0 hS0 hAq rfl (by decide +kernel) (Nat.le_of_ble_eq_true rfl) (Nat.le_of_ble_eq_true rfl) dL_law_0 (fun q1 H1 hP1 hD1 hS1 => ?_)
  have hP1 : va_P Yc.1 vwCl ([] ++ (q1, .inr (11, [.null, .null, .null, .int 0, .null, .null, .null, .null, .null, .null, .null, .null, .null, .int 0])) :: []) H1 := hP1
  have hD1 : va_D (fun q : Nat => s.heap.size ≤ q) ([] ++ (q1, .inr (11, [.null, .null, .null, .int 0, .null, .null, .null, .null, .null, .null, .null, .null, .null, .int 0])) :: []) := hD1
  refine lv_dup F.1 F.2.1 dL_law_3 rfl ?_
  refine ct_pub (n := 0) (b0 := q1) (e0 := .inr (11, [.null, .null, .null, .int 0, .null, .null, .null, .null, .null, .null, .null, .null, .null, .int 0])) (f1 := []) (f2 := []) (As := []) (rest := [.ref q1]) F C c_X11 (bw_t 28 (by decide +kernel) rfl) (bw_t 29 (by decide +kernel) rfl) (bw_t 1 (by decide +kernel) rfl) (bw_t 30 (by decide +kernel) rfl) rfl ⟨by decide, by decide, by decide +kernel⟩ ⟨Nat.le_of_ble_eq_true rfl, Nat.le_of_ble_eq_true rfl⟩ hP1 hD1 hS1 hAq rfl hl.1 rfl (lv_room (Nat.le_of_ble_eq_true rfl)) dL_law_4 ⟨Nat.le_of_ble_eq_true rfl, Nat.le_of_ble_eq_true rfl⟩ (fun H2 locs2 hJ hB hS2 => ?_)
  obtain ⟨Z, z1, z2, z3, z4, z5, z6, z7, hPX⟩ := hB
  have hKX : KX Z s := KX_of C z1 z2 z3 z4 z6
  obtain ⟨wx, hwx, hwd, hwc, hbk⟩ : ∃ wx : va_W, va_P Z.1 vwCl wx H2 ∧ va_D (AX Z) wx ∧ (∀ q, AX Z q → ∃ e, (q, e) ∈ wx) ∧ ∀ H : Heap, va_P Z.1 vwCl wx H → PX Z (fun _ => X0) 0 0 (fun _ => 0) 0 0 0 (fun _ => 0) 0 0 (fun _ => 0) 0 0 0 0 0 (fun _ => 0) 0 (fun _ => 0) 0 0 (fun _ => 0) (fun _ => 0) (fun _ => 0) (fun _ => 0) (fun _ => 0) H := ⟨_, hPX, lX_D hKX, lX_cov, fun _ h => h⟩
  obtain ⟨hP2, hD2⟩ := hJ wx (by rw [← z1]; exact hwx) (D_wide hwd (fun q h => by obtain ⟨i, hi, e⟩ := h; rw [e]; exact z7 i hi))
  have hP2 : va_P Yc.1 vwCl wx H2 := by simpa using hP2
  have hD2 : va_D (fun q : Nat => s.heap.size ≤ q) wx := by simpa using hD2
  clear hJ hP1 hD1 hPX
  refine lv_astore_n (lv' := [(1, .ref q1), (0, .ref b)]) F.1 F.2.1 dL_law_7 rfl hl (by decide) rfl (fun ls hl => ?_)
  refine va_new (ci := 12) (fs := [.int 0, .int 0, .null, .null, .int 0, .int 0, .int 0, .null, .int 0, .int 0, .null, .null, .int 0, .int 0, .null, .null, .null, .null, .null, .int 0, .null]) (C := RX12) (T := TX12) (N := 21) F.1 F.2.1 F.2.2.2.2 inX12 tyX12 tyX12_ok F.2.2.2.1 (F.2.2.2.2 _ (bw_t 993 (by decide +kernel) rfl)) (F.2.2.2.2 _ (bw_t 994 (by decide +kernel) rfl)) (F.2.2.2.2 _ (bw_t 14 (by decide +kernel) rfl)) C.1 hP2 hD2 hS2 hAq rfl (by decide +kernel) (Nat.le_of_ble_eq_true rfl) (Nat.le_of_ble_eq_true rfl) dL_law_8 (fun q2 H3 hP3 hD3 hS3 => ?_)
  refine lv_dup F.1 F.2.1 dL_law_11 rfl ?_
  refine ct_pub (n := 0) (b0 := q2) (e0 := .inr (12, [.int 0, .int 0, .null, .null, .int 0, .int 0, .int 0, .null, .int 0, .int 0, .null, .null, .int 0, .int 0, .null, .null, .null, .null, .null, .int 0, .null])) (f1 := wx) (f2 := []) (As := []) (rest := [.ref q2]) F C c_X12 (bw_t 995 (by decide +kernel) rfl) (bw_t 996 (by decide +kernel) rfl) (bw_t 14 (by decide +kernel) rfl) (bw_t 997 (by decide +kernel) rfl) rfl ⟨by decide, by decide, by decide +kernel⟩ ⟨Nat.le_of_ble_eq_true rfl, Nat.le_of_ble_eq_true rfl⟩ hP3 hD3 hS3 hAq rfl hl.1 rfl (lv_room (Nat.le_of_ble_eq_true rfl)) dL_law_12 ⟨Nat.le_of_ble_eq_true rfl, Nat.le_of_ble_eq_true rfl⟩ (fun H4 locs4 hJ hB hS4 => ?_)
  obtain ⟨Zm, y1, y2, y3, y4, y5, y6, y7, hPM⟩ := hB
  have hKM : KM Zm s := KM_of C y1 y2 y3 y4 y6
  obtain ⟨wm, hwm, hmd, hmc, hbm⟩ : ∃ wm : va_W, va_P Zm.1 vwCl wm H4 ∧ va_D (AM Zm) wm ∧ (∀ q, AM Zm q → ∃ e, (q, e) ∈ wm) ∧ ∀ H : Heap, va_P Zm.1 vwCl wm H → PM Zm 0 0 (fun _ => 0) (fun _ => 0) 0 0 0 mem0 0 0 (fun _ => 0) (fun _ => 0) 0 0 (fun _ => 0) (fun _ => 0) (fun _ => 0) (fun _ => 0) (fun _ => 0) 0 (fun _ => 0) H := ⟨_, hPM, lM_D hKM, lM_cov, fun _ h => h⟩
  obtain ⟨hP4, hD4⟩ := hJ wm (by rw [← y1]; exact hwm) (D_wide hmd (fun q h => by obtain ⟨i, hi, e⟩ := h; rw [e]; exact y7 i hi))
  have hP4 : va_P Yc.1 vwCl (wx ++ wm) H4 := by simpa using hP4
  have hD4 : va_D (fun q : Nat => s.heap.size ≤ q) (wx ++ wm) := by simpa using hD4
  clear hJ hP3 hD3 hPM
  refine lv_astore_n (lv' := [(2, .ref q2), (1, .ref q1), (0, .ref b)]) F.1 F.2.1 dL_law_15 rfl hl (by decide) rfl (fun ls hl => ?_)
  refine lv_iconst (v := 1) F.1 F.2.1 dL_law_16 (by decide) ?_
  refine ct_newl (N := 1) F C hP4 hD4 hS4 hAq (by decide) rfl (by decide) (Nat.le_of_ble_eq_true rfl) (Nat.le_of_ble_eq_true rfl) dL_law_17 (fun q H5 hP5 hD5 hS5 => ?_)
  refine lv_astore_n (lv' := [(3, .ref q), (2, .ref q2), (1, .ref q1), (0, .ref b)]) F.1 F.2.1 dL_law_19 rfl hl (by decide) rfl (fun ls hl => ?_)
  refine lv_iconst (v := 0) F.1 F.2.1 dL_law_20 (by decide) ?_
  refine lv_istore (lv' := [(4, .int 0), (3, .ref q), (2, .ref q2), (1, .ref q1), (0, .ref b)]) F.1 F.2.1 dL_law_21 hl (by decide) rfl (fun ls hl => ?_)
  have hAX : ∀ q, AX Z q → s.heap.size ≤ q := fun q h => by obtain ⟨e, he⟩ := hwc q h; exact (vD_iff.mp hD2).2 _ he
  have hAM : ∀ q, AM Zm q → s.heap.size ≤ q := fun q h => by obtain ⟨e, he⟩ := hmc q h; exact (vD_iff.mp hD4).2 _ (List.mem_append_right _ he)
  have hq : s.heap.size ≤ q := (vD_iff.mp hD5).2 (q, _) (List.mem_append_right _ (List.mem_singleton.mpr rfl))
  have hqX : ¬ AX Z q := fun h => by obtain ⟨e, he⟩ := hwc q h; exact D_apart hD5 (List.mem_append_left _ he) (List.mem_singleton.mpr rfl)
  have hqM : ¬ AM Zm q := fun h => by obtain ⟨e, he⟩ := hmc q h; exact D_apart hD5 (List.mem_append_right _ he) (List.mem_singleton.mpr rfl)
  have hXM : ∀ q, AX Z q → ¬ AM Zm q := fun q h h2 => by
    obtain ⟨e, he⟩ := hwc q h
    obtain ⟨e2, he2⟩ := hmc q h2
    exact D_apart hD4 he he2
  have G : LW s Z Zm Y q := ⟨⟨hKX, hKM, hY Zm hKM hAM, st_KXO hw hKX hAX hq hqX⟩, hAX, hAM, hq, hXM, hqM⟩
  have hPX := hbk H5 (by rw [z1]; exact vP_iff.mpr fun x hx => vP_iff.mp hP5 x (List.mem_append_left _ (List.mem_append_left _ hx)))
  have hPM := hbm H5 (by rw [y1]; exact vP_iff.mpr fun x hx => vP_iff.mp hP5 x (List.mem_append_left _ (List.mem_append_right _ hx)))
  have hPO : PO Z q (fun _ => 0) H5 := by
    rw [PO, z1, z3]
    exact vP_iff.mpr fun x hx => vP_iff.mp hP5 x (List.mem_append_right _ hx)
  have hl2 : lv_has ls 8 [(0, .ref b), (1, .ref (oA Z 0)), (2, .ref (mA Zm 0)), (3, .ref q), (4, .int (nI (5 * 0)))] := by
    rw [z5, y5]
    refine ⟨hl.1, hl.2.1, fun x hx => hl.2.2 x ?_⟩
    simp only [List.mem_cons, List.not_mem_nil, or_false] at hx ⊢
    rcases hx with h | h | h | h | h
    · exact Or.inr (Or.inr (Or.inr (Or.inr h)))
    · exact Or.inr (Or.inr (Or.inr (Or.inl h)))
    · exact Or.inr (Or.inr (Or.inl h))
    · exact Or.inr (Or.inl h)
    · exact Or.inl h
  exact law_loop hmono hlt hL C9 hST G L 0 (Nat.zero_le _) (by omega) _ _ _ _ _ _ _ _ _ _ _ _ _ _ _ _ _ _ _ _ _ _ _ _ _ _ _ _ _ _ _ _ _ _ _ _ _ _ _ _ _ _ _ _ _ _ _ _ hI H5 _ hPX hPM hPO hS5 ls hl2
