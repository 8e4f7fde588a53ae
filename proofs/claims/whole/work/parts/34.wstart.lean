/-! whole_start, over any kept relation -/
def cst0 : CSt := ((fun _ => X0), 0, 0, (fun _ => 0), 0, 0, 0, (fun _ => 0), 0, 0, (fun _ => 0), 0, 0, 0, 0, 0, (fun _ => 0), 0, (fun _ => 0), 0, 0, (fun _ => 0), (fun _ => 0), (fun _ => 0), (fun _ => 0), (fun _ => 0))
def mst0 : MSt := (0, 0, (fun _ => 0), (fun _ => 0), 0, 0, 0, mem0, 0, 0, (fun _ => 0), (fun _ => 0), 0, 0, (fun _ => 0), (fun _ => 0), (fun _ => 0), (fun _ => 0), (fun _ => 0), 0, (fun _ => 0))
theorem whole_of {p : Program} {e : Env} {s : State} {m : MethodId} {below : List Frame} {meth : Method} {c : Code} {N : Nat} {INV : Nat → CSt → MSt → Prop} (hmono : ∀ (j : Nat) (x : CSt) (y : MSt), INV j x y → INV (j + 1) x y) (hST : ∀ j : Nat, j < 512 → STall N (INV j) (INV (j + 1))) (hI : INV 0 cst0 mst0) (l : Launch) (hflags : l.flags = flags0) {b L : Nat} {xs : Nat → Int32} (hL : L ≤ 2560) (C0 : lw_At p s m meth c b L xs) : W p l e room_1 s m #[Value.ref b] below meth c s.heap [] 0 0 (lw_Z below #[Value.ref b] s) (entryFrame m ([Value.ref b] : List Value).toArray 8) := by
  have hlt : l.stackTraces = false := by
    rw [Launch.stackTraces, hflags]
    decide +kernel
  refine W.eq (g2 := F0 m 0 ((lg_sl [Value.ref b] ++ List.replicate (8 - (lg_sl [Value.ref b]).length) Slot.unset).toArray) []) rfl ?_
  exact law_open hmono hlt hL C0 hST hI _ (lv_entry [Value.ref b] (Nat.le_of_ble_eq_true rfl))
