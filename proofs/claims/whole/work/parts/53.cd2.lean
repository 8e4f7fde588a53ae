/-! the count down, whole; laying a reference -/
theorem RLT_same {A A' : AS} (h1 : a_fd A' = a_fd A) (h2 : a_my A' = a_my A) (h3 : a_en A' = a_en A) (h4 : a_wt A' = a_wt A) (h5 : a_li A' = a_li A) (h6 : a_th A' = a_th A) (h7 : ∀ o, a_rn A o = true → a_rn A' o = true) (h8 : LGR (a_lg A) (a_lg A')) : RLT A A' := ⟨fun _ _ => Or.inl (by rw [h1]), h2, h3, h4, h5, fun _ h => by rw [← h6]; exact h, h7, h8⟩
theorem e3_lgr (A : AS) (o : Nat) : LGR (a_lg A) (a_lg (e3A A o)) := LGR_a (u_rn A (fs (a_rn A) o true)) 3 o
theorem e4_lgr (A : AS) (o : Nat) : LGR (a_lg A) (a_lg (e4A A o)) := LGR_t (e3_lgr A o) (LGR_a (e3A A o) 4 o)
theorem rn_set {A : AS} {o : Nat} (x : Nat) (h : a_rn A x = true) : fs (a_rn A) o true x = true := by
  by_cases q : x = o
  · rw [q, fs_s]
  · rw [fs_n q]; exact h
theorem cd {N B : Nat} (hN : 1000 ≤ N) (hB : B ≤ 2147400000) : ∀ d, CDI N B d := by
  intro d
  induction d with
  | zero => intro A st o _ h; omega
  | succ d IH =>
    intro A st o hJ hm
    have w := hJ.1
    obtain ⟨ht, hst⟩ := hJ.2.2.2.2.1 o rfl
    have ho := W_th w ht
    have hct := hJ.2.1 o ht
    rw [if_pos rfl] at hct
    have hrfb := rf_bound A o
    have hsl : st.length < 24 := nd_len1 hJ.2.2.1 (fun x hx => W_th w (hJ.2.2.2.1 x hx).1) ho hst
    have hlg := J_lg hJ (by omega) hB
    have hen := W_en w o
    have hJd := J_dc hJ
    by_cases q : rf A o = 0
    · have hc1 : a_ct A o = 1 := by omega
      have hJD := J_dr hJd o
      have htD : a_th (drA (dcA A o) o) o = true := ht
      have hrD : rf (drA (dcA A o) o) o = 0 := q
      have hnl : o ∉ a_ls (drA (dcA A o) o) := mem_dr
      have hunD : un (drA (dcA A o) o) = un A := rfl
      have hWD : Wp (drA (dcA A o) o) = Wp A := rfl
      have hRD : RLT A (drA (dcA A o) o) := RLT_same rfl rfl rfl rfl rfl rfl (fun _ h => h) (LGR_r _)
      have hlgD : (a_lg (drA (dcA A o) o)).1 < 2147470000 := hlg
      cases he : hE A o with
      | false =>
        obtain ⟨A', n, g1, g2, g3, g4, g5⟩ := fr2 hN hB IH hJD htD hst hrD hnl (by omega)
        refine ⟨A', 1 + n, g1, RLT_t hRD g2, by omega, fun m0 b mm hb hR => ?_, CDS_t ?_ g5⟩
        · obtain ⟨m1, e1, r1⟩ := M_cd_zero hR hb w ht hc1 (N := N) (by omega) (fX12_countsDown_d N d)
          obtain ⟨m2, e2, r2⟩ := g4 m0 b m1 hb r1
          refine ⟨m2, ?_, r2⟩
          show fX12_countsDown_o (fX12_countsDown_d N d) N mm (nI b) (nI o) = _
          rw [e1]
          unfold fX12_countsDown_o_53 fX12_countsDown_o_80
          have e3 : fX12_of m1 (nI b) (nI o) 3 = some (nI (a_en A o)) := M_of3 r1 hb ho htD
          have e4 : fX12_of m1 (nI b) (nI o) 4 = some (bI (a_rn A o)) := M_of4 r1 hb ho htD
          rw [e3, b1_s, e4, b1_s, e2, b1_s]
          by_cases q2 : a_en A o = 0
          · rw [if_pos (by rw [le_f0 (by omega)]; exact q2)]
          · rw [if_neg (by rw [le_f0 (by omega)]; exact q2)]
            have : a_rn A o = true := by
              unfold hE at he
              rw [ht, decide_eq_true q2] at he
              simpa using he
            rw [this, if_neg (by decide)]
        · intro X zgo p2 k x hX hS hx
          obtain ⟨Y, c1, c2⟩ := (C_one_zero hX w ht hc1 hlg (N := N) (by omega) hsl zgo).1 he
          refine ⟨Y, upd zgo st.length (nI o), ?_, c2, SK_push hS o⟩
          rw [oI_s, CD_one ho (by omega), c1, b4_s, List.length_append]
          rfl
      | true =>
        have he2 := he
        unfold hE at he2
        rw [Bool.and_eq_true, Bool.and_eq_true, decide_eq_true_eq, Bool.not_eq_true'] at he2
        have hrn : a_rn A o = false := he2.2
        have hen0 : a_en A o ≠ 0 := he2.1.2
        by_cases q2 : a_en A o < 2
        · have hen1 : a_en A o = 1 := by omega
          obtain ⟨hJ3, _⟩ := J_e3 hJD htD hrn
          have hun3 : un (e3A (drA (dcA A o) o) o) + 1 = un A := un_ran (A := drA (dcA A o) o) ho ht hrn
          have hW3 : Wp (e3A (drA (dcA A o) o) o) + 2 = Wp A := by
            have e1 : fc (e3A (drA (dcA A o) o) o) = fc A := rfl
            have e2 : nt (e3A (drA (dcA A o) o) o) = nt A := rfl
            unfold Wp
            omega
          have hR3 : RLT A (e3A (drA (dcA A o) o) o) := RLT_same rfl rfl rfl rfl rfl rfl (fun x h => rn_set x h) (e3_lgr (drA (dcA A o) o) o)
          obtain ⟨A', n, g1, g2, g3, g4, g5⟩ := fr2 hN hB IH hJ3 ht hst q hnl (by omega)
          refine ⟨A', 1 + n, g1, RLT_t hR3 g2, by omega, fun m0 b mm hb hR => ?_, CDS_t ?_ g5⟩
          · obtain ⟨m1, e1, r1⟩ := M_cd_zero hR hb w ht hc1 (N := N) (by omega) (fX12_countsDown_d N d)
            obtain ⟨m3, e5, r3⟩ := M_end1 r1 hb ho htD hen1 (by omega) (fX12_countsDown_d N d)
            obtain ⟨m2, e2, r2⟩ := g4 m0 b m3 hb r3
            refine ⟨m2, ?_, r2⟩
            show fX12_countsDown_o (fX12_countsDown_d N d) N mm (nI b) (nI o) = _
            rw [e1]
            unfold fX12_countsDown_o_53 fX12_countsDown_o_80
            have e3 : fX12_of m1 (nI b) (nI o) 3 = some (nI (a_en A o)) := M_of3 r1 hb ho htD
            have e4 : fX12_of m1 (nI b) (nI o) 4 = some (bI (a_rn A o)) := M_of4 r1 hb ho htD
            rw [e3, b1_s, e4, b1_s, if_neg (by rw [le_f0 (by omega)]; exact hen0), hrn, if_pos (show bI false = 0 from rfl), e5, b2_s, if_pos rfl, e2, b1_s]
          · intro X zgo p2 k x hX hS hx
            obtain ⟨Y, c1, c2⟩ := (C_one_zero hX w ht hc1 hlg (N := N) (by omega) hsl zgo).2.1 he q2
            refine ⟨Y, upd zgo st.length (nI o), ?_, c2, SK_push hS o⟩
            rw [oI_s, CD_one ho (by omega), c1, b4_s, List.length_append]
            rfl
        · have hen2 : 2 ≤ a_en A o := by omega
          have hJ4 : J B (e4A (drA (dcA A o) o) o) st (a_rt A (a_en A o - 2)) := J_e4 hJD htD hrn hst hrD hen2
          have hun4 : un (e4A (drA (dcA A o) o) o) + 1 = un A := un_ran (A := drA (dcA A o) o) ho ht hrn
          have hW4 : Wp (e4A (drA (dcA A o) o) o) + 2 = Wp A := by
            have e1 : fc (e4A (drA (dcA A o) o) o) = fc A := rfl
            have e2 : nt (e4A (drA (dcA A o) o) o) = nt A := rfl
            unfold Wp
            omega
          have hR4 : RLT A (e4A (drA (dcA A o) o) o) := RLT_same rfl rfl rfl rfl rfl rfl (fun x h => rn_set x h) (e4_lgr (drA (dcA A o) o) o)
          have mstep : ∀ (m0 : Nat → Int32) (b : Nat) (mm : Nat → Int32), b ≤ 5124 → RM m0 b mm A → ∃ m4, RM m0 b m4 (e4A (drA (dcA A o) o) o) ∧ fX12_countsDown_d N (d + 1) mm (nI b) (nI o) = bnd1 (fX12_laysRoot_o_30 (fX12_countsDown_d N d) (nI b) (nI (a_en A o - 2)) (nI o) m4 (oI (a_rt A (a_en A o - 2)))) fun m => some m := by
            intro m0 b mm hb hR
            obtain ⟨m1, e1, r1⟩ := M_cd_zero hR hb w ht hc1 (N := N) (by omega) (fX12_countsDown_d N d)
            obtain ⟨m3, e5, r3⟩ := M_end4 r1 hb ho htD hen2 hen (by omega) (fX12_countsDown_d N d)
            refine ⟨m3, r3, ?_⟩
            show fX12_countsDown_o (fX12_countsDown_d N d) N mm (nI b) (nI o) = _
            rw [e1]
            unfold fX12_countsDown_o_53
            have e3 : fX12_of m1 (nI b) (nI o) 3 = some (nI (a_en A o)) := M_of3 r1 hb ho htD
            have e4 : fX12_of m1 (nI b) (nI o) 4 = some (bI (a_rn A o)) := M_of4 r1 hb ho htD
            have e5' : fX12_runsEnd_o (fX12_countsDown_d N d) m1 (nI b) (nI o) = (bnd1 (fX12_laysRoot_o_30 (fX12_countsDown_d N d) (nI b) (nI (a_en A o - 2)) (nI o) m3 (oI (a_rt A (a_en A o - 2)))) fun m => some (1, m)) := e5
            rw [e3, b1_s, e4, b1_s, if_neg (by rw [le_f0 (by omega)]; exact hen0), hrn, if_pos (show bI false = 0 from rfl), e5']
            cases fX12_laysRoot_o_30 (fX12_countsDown_d N d) (nI b) (nI (a_en A o - 2)) (nI o) m3 (oI (a_rt A (a_en A o - 2))) with
            | none => rfl
            | some z => rfl
          have cstep : CDS N 1 A st (some o) (e4A (drA (dcA A o) o) o) st (a_rt A (a_en A o - 2)) := by
            intro X zgo p2 k x hX hS hx
            obtain ⟨Y, c1, c2⟩ := (C_one_zero hX w ht hc1 hlg (N := N) (by omega) hsl zgo).2.2 he hen2
            refine ⟨Y, zgo, ?_, c2, hS⟩
            rw [oI_s, CD_one ho (by omega), c1, b4_s]
          cases eo : a_rt A (a_en A o - 2) with
          | none =>
            rw [eo] at hJ4 cstep
            refine ⟨_, 1, hJ4, hR4, by omega, fun m0 b mm hb hR => ?_, cstep⟩
            obtain ⟨m4, r4, e4⟩ := mstep m0 b mm hb hR
            refine ⟨m4, ?_, r4⟩
            rw [e4, eo]
            show bnd1 (if (-1 : Int32) < 0 then some m4 else _) _ = _
            rw [if_pos neg1_lt, b1_s]
          | some t =>
            rw [eo] at hJ4 cstep
            obtain ⟨A', n, g1, g2, g3, g4, g5⟩ := IH _ st t hJ4 (by omega)
            refine ⟨A', 1 + n, g1, RLT_t hR4 g2, by omega, fun m0 b mm hb hR => ?_, CDS_t cstep g5⟩
            obtain ⟨m4, r4, e4⟩ := mstep m0 b mm hb hR
            obtain ⟨m5, e5, r5⟩ := g4 m0 b m4 hb r4
            refine ⟨m5, ?_, r5⟩
            have ht24 := W_sr w _ t eo
            rw [e4, eo]
            show bnd1 (if nI t < 0 then some m4 else bnd1 (fX12_countsDown_d N d m4 (nI b) (nI t)) fun m => some m) _ = _
            rw [if_neg (nI_nlt0 (by omega)), e5, b1_s, b1_s]
    · have hc1 : 1 < a_ct A o := by omega
      have hR : RLT A (if a_my A o = 0 then dcA A o else mnA (dcA A o) o) := by
        split
        · exact RLT_same rfl rfl rfl rfl rfl rfl (fun _ h => h) (LGR_r _)
        · exact RLT_same rfl rfl rfl rfl rfl rfl (fun _ h => h) (LGR_r _)
      have hJ2 : J B (if a_my A o = 0 then dcA A o else mnA (dcA A o) o) st none := by
        split
        · exact hJd
        · exact J_mn hJd ht hst
      have hW : Wp (if a_my A o = 0 then dcA A o else mnA (dcA A o) o) = Wp A := by
        split <;> rfl
      refine ⟨_, 1, hJ2, hR, by omega, fun m0 b mm hb hR => ?_, ?_⟩
      · exact M_cd_pos hR hb w ht hc1 (by omega) (N := N) (by omega) (fX12_countsDown_d N d)
      · intro X zgo p2 k x hX hS hx
        obtain ⟨Y, c1, c2⟩ := C_one_pos hX w ho hc1 (by omega) N (nI st.length) zgo
        refine ⟨Y, zgo, ?_, c2, hS⟩
        rw [oI_s, CD_one ho (by omega), c1, b4_s]
        rfl
/-- a count down by itself, on both sides -/
theorem T_cd {N B : Nat} (hN : 100000 < N) (hB : B ≤ 2147400000) {A : AS} {v : Option Nat} (hJ : J B A [] v) : ∃ A', J B A' [] none ∧ RLT A A' ∧
    (∀ (m0 : Nat → Int32) (b : Nat) (mm : Nat → Int32), b ≤ 5124 → RM m0 b mm A → ∃ mm', (if oI v < 0 then some mm else bnd1 (fX12_countsDown_d N 64 mm (nI b) (oI v)) fun m => some m) = some mm' ∧ RM m0 b mm' A') ∧
    (∀ (X : Nat → Nat → Int32) (zcd : Int32) (zgo : Nat → Int32), RC X A → ∃ zcd' zgo' X', fX2_countsDown N zcd zgo X (oI v) = some (zcd', zgo', X') ∧ RC X' A') := by
  cases v with
  | none =>
    refine ⟨A, hJ, RLT_r A, fun m0 b mm hb hR => ⟨mm, by rw [oI_n, if_pos neg1_lt], hR⟩, fun X zcd zgo hX => ⟨0, zgo, X, ?_, hX⟩⟩
    obtain ⟨f, rfl⟩ : ∃ f, N = f + 1 := ⟨N - 1, by omega⟩
    unfold fX2_countsDown
    show fX2_countsDown_10b (f + 1) (-1) (fX2_countsDown_10 (f + 1) (-1) f) 0 zgo X (-1) 0 = _
    unfold fX2_countsDown_10b
    rw [if_neg (by decide), if_pos rfl, if_pos (by decide)]
  | some o =>
    have h1 := un_le A
    obtain ⟨A', n, g1, g2, g3, g4, g5⟩ := cd (N := N) (by omega) hB 64 A [] o hJ (by show 24 - 0 + un A < 64; omega)
    have ho := W_th hJ.1 (hJ.2.2.2.2.1 o rfl).1
    refine ⟨A', g1, g2, fun m0 b mm hb hR => ?_, fun X zcd zgo hX => ?_⟩
    · obtain ⟨m1, e1, r1⟩ := g4 m0 b mm hb hR
      exact ⟨m1, by rw [oI_s, if_neg (nI_nlt0 (by omega)), e1, b1_s], r1⟩
    · have hn : n ≤ 1000 := by
        have := nt_le A
        have := fc_le A
        unfold Wp at g3
        omega
      obtain ⟨X', z', e1, r1, _⟩ := g5 X zgo (nI o) (N - n) 0 hX (fun i hi => absurd hi (Nat.not_lt_zero i)) (by omega)
      refine ⟨0, z', X', ?_, r1⟩
      rw [show N - n + n = N by omega] at e1
      obtain ⟨f, hf⟩ : ∃ f, N - n = f + 1 := ⟨N - n - 1, by omega⟩
      unfold fX2_countsDown
      have e2 : fX2_countsDown_10 N (nI o) N 0 zgo X (nI o) 0 = fX2_countsDown_10 N (nI o) (N - n) (nI 0) z' X' (-1) (nI (0 + n)) := e1
      rw [oI_s, e2, hf]
      show fX2_countsDown_10b N (nI o) (fX2_countsDown_10 N (nI o) f) 0 z' X' (-1) (nI (0 + n)) = _
      unfold fX2_countsDown_10b
      rw [if_neg (by rw [le_100k (by omega)]; omega), if_pos rfl, if_pos (by decide)]
