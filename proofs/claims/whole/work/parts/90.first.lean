/-! the first state; all calls -/
def A0 : AS := (fun _ => false, fun _ => false, 24, fun _ => 0, fun _ => 0, fun _ => 0, fun _ => 0, fun _ _ => none, fun _ => none, fun _ => none, [], fun _ => false, (0, fun _ => 0, fun _ => 0, fun _ => 0))
theorem J_A0 : J 0 A0 [] none := by
  refine ⟨⟨(fun o h => nomatch h), fun o => Nat.zero_le _, (fun o k t h => nomatch h), (fun r t h => nomatch h), (fun r t h => nomatch h), List.nodup_nil, (fun x h => absurd h List.not_mem_nil), (fun o h => nomatch h), fun o => Nat.zero_le _, by decide, by decide⟩, (fun t h => nomatch h), List.nodup_nil, (fun x h => absurd h List.not_mem_nil), (fun o h => nomatch h), ?_⟩
  show 0 + 5 * nt A0 + 2 * un A0 ≤ 0 + 0
  have h1 : nt A0 = 0 := fb_ct_zero.mpr (fun k _ => rfl)
  have h2 : un A0 = 0 := fb_ct_zero.mpr (fun k _ => rfl)
  omega
theorem RC_A0 : RC X0 A0 := by
  refine ⟨?_, ?_, rfl, fun o _ => rfl, fun o _ => rfl, fun o _ => rfl, fun o _ => rfl, fun o k _ _ => rfl, fun r _ => rfl, fun r _ => rfl, rfl, ?_, ?_, fun i _ => ?_, rfl, fun p _ => rfl, fun p _ => rfl, fun k _ => rfl⟩
  · exact bs_zero.symm
  · exact bs_zero.symm
  · exact bs_zero.symm
  · exact bs_zero.symm
  · rfl
theorem mem_0 {k : Nat} (h : k ≠ 0) (h2 : k < 33 ∨ 43 ≤ k) : mem0 k = 0 := by
  unfold mem0; rw [if_neg h, if_neg (by omega)]
theorem mem_1 {k : Nat} (h : 33 ≤ k) (h2 : k < 43) : mem0 k = -1 := by
  unfold mem0; rw [if_neg (by omega), if_pos ⟨h, h2⟩]
theorem RM_A0 : RM mem0 0 mem0 A0 := by
  refine ⟨fun _ _ => rfl, rfl, mem_0 (by omega) (by omega), mem_0 (by omega) (by omega), fun k hk => mem_0 (by omega) (by omega), fun i hi => absurd hi (Nat.not_lt_zero i), fun r hr => mem_1 (by omega) (by omega), fun r hr => mem_1 (by omega) (by omega), fun p hp => mem_0 (by omega) (by omega), fun p hp => mem_0 (by omega) (by omega), fun o ho => mem_0 (by omega) (by omega), (fun o _ h => nomatch h), (fun o _ h => nomatch h), (fun o _ h => nomatch h), (fun o _ h => nomatch h), (fun o _ h => nomatch h), (fun o _ h => nomatch h), (fun o k _ _ h => nomatch h), Nat.zero_le _⟩
theorem INV_0 : INV 0 cst0 mst0 := by
  refine ⟨A0, fun _ => A0, fun _ => A0, fun _ => false, 0, 0, ⟨⟨J_A0, RC_A0, RM_A0⟩, ⟨bs_zero.symm, fun i _ => ⟨rfl, (fun h => nomatch h)⟩⟩, rfl, rfl, by omega, rfl, by omega, fun q hq => absurd hq (Nat.not_lt_zero q)⟩, ⟨rfl, rfl, by decide, by decide⟩, TL_0 _ _, rfl⟩
theorem ST_all_ {N : Nat} (hN : 200000 ≤ N) (j : Nat) (hj : j < 512) : STall N (INV j) (INV (j + 1)) :=
  ⟨S_sign hN j hj, S_end hN j hj, S_makes hN j hj, S_sets hN j hj, S_roots hN j hj, S_weaks hN j hj, S_wakes hN j hj, S_trial hN j hj, S_limit hN j hj, S_object hN j hj, S_field hN j hj, S_root hN j hj, S_all hN j hj, S_list hN j hj, S_holders hN j hj, S_way hN j hj, S_from hN j hj, S_rings hN j hj, S_alone hN j hj, S_keepers hN j hj, S_cut hN j hj, S_would hN j hj, S_settles hN j hj, S_ranks hN j hj, S_log hN j hj, S_logged hN j hj, S_day hN j hj, S_undo hN j hj, S_years hN j hj, S_keep hN j hj, S_again hN j hj, S_count hN j hj, S_row hN j hj⟩
