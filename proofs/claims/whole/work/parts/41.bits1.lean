/-! options, numbers, bits -/
theorem grd_t {α : Type} (o : Option α) : grd true o = o := rfl
theorem lt_e {α β : Type} (a : α) (k : α → Option β) : lt a k = k a := rfl
theorem b1_s {α β : Type} (a : α) (k : α → Option β) : bnd1 (some a) k = k a := rfl
theorem b2_s {α β γ : Type} (a : α) (b : β) (k : α → β → Option γ) : bnd2 (some (a, b)) k = k a b := rfl
theorem b3_s {α β γ δ : Type} (a : α) (b : β) (c : γ) (k : α → β → γ → Option δ) : bnd3 (some (a, b, c)) k = k a b c := rfl
theorem b4_s {α β γ δ ε : Type} (a : α) (b : β) (c : γ) (d : δ) (k : α → β → γ → δ → Option ε) : bnd4 (some (a, b, c, d)) k = k a b c d := rfl
theorem inb_n {i n : Nat} (h : i < n) (hn : n < 2147483648) : inb (nI i) n = true := by
  have e := nI_toInt (n := i) (by omega)
  exact inb_t (by omega) (by omega)
theorem cl_n {i : Nat} (h : i < 2147483648) : (nI i).toNatClampNeg = i := nI_clamp (by omega)
theorem neg1_lt : ((-1 : Int32) < 0) := by decide
theorem nI_ne1 {i : Nat} (h : i < 2147483648) : ¬ nI i = (-1) := by
  intro q
  have e := nI_toInt (n := i) (by omega)
  rw [q, show (-1 : Int32).toInt = -1 from by decide] at e
  omega
theorem nI_nlt0 {i : Nat} (h : i < 2147483648) : ¬ nI i < 0 := nI_pos (by omega)
theorem le_4 {i : Nat} (h : i < 2147483648) : (4 : Int32) ≤ nI i ↔ 4 ≤ i := nI_leI (a := 4) (by decide) (by omega)
theorem le_6 {i : Nat} (h : i < 2147483648) : (6 : Int32) ≤ nI i ↔ 6 ≤ i := nI_leI (a := 6) (by decide) (by omega)
theorem le_24 {i : Nat} (h : i < 2147483648) : (24 : Int32) ≤ nI i ↔ 24 ≤ i := nI_leI (a := 24) (by decide) (by omega)
theorem le_f0 {i : Nat} (h : i < 2147483648) : nI i ≤ 0 ↔ i = 0 := (nI_leI (b := 0) (by omega) (by decide)).trans (by omega)
theorem eq_0 {i : Nat} (h : i < 2147483648) : nI i = 0 ↔ i = 0 := nI_eq (b := 0) (by omega) (by decide)
theorem eq_n {i j : Nat} (h : i < 2147483648) (h2 : j < 2147483648) : nI i = nI j ↔ i = j := nI_eq (by omega) (by omega)
theorem le_n {i j : Nat} (h : i < 2147483648) (h2 : j < 2147483648) : nI i ≤ nI j ↔ i ≤ j := nI_leI (by omega) (by omega)
theorem ltn {i j : Nat} (h : i < 2147483648) (h2 : j < 2147483648) : nI i < nI j ↔ i < j := nI_ltI (by omega) (by omega)
theorem ad4 (o k : Nat) : nI o * 4 + nI k = nI (o * 4 + k) := by
  rw [show (4 : Int32) = nI 4 from rfl, pk_mul, nI_add]
def oI : Option Nat → Int32
  | none => -1
  | some o => nI o
def cI (c : Int) : Int32 := Int32.ofInt c
theorem cI_sub (c : Int) : cI c - 1 = cI (c - 1) := by
  unfold cI
  rw [Int32.ofInt_sub]
  rfl
theorem cI_add (c : Int) : cI c + 1 = cI (c + 1) := by
  unfold cI
  rw [Int32.ofInt_add]
  rfl
theorem cI_addm (c : Int) : cI c + (-1) = cI (c - 1) := by
  rw [← cI_sub, Int32.sub_eq_add_neg]
theorem cI_0 : cI 0 = 0 := rfl
theorem cI_toInt {c : Int} (h : -2147483648 ≤ c) (h2 : c < 2147483648) : (cI c).toInt = c := by
  unfold cI
  rw [Int32.toInt_ofInt]
  show Int.bmod c 4294967296 = c
  exact Int.bmod_eq_of_le (by omega) (by omega)
theorem cI_le0 {c : Int} (h : -2147483648 ≤ c) (h2 : c < 2147483648) : cI c ≤ 0 ↔ c ≤ 0 := by
  rw [le_i, cI_toInt h h2, i0]
def bI (b : Bool) : Int32 := if b then 1 else 0
theorem bI_t : bI true = 1 := rfl
theorem bI_f : bI false = 0 := rfl
theorem bI_0 (b : Bool) : bI b = 0 ↔ b = false := by cases b <;> decide
theorem bI_1 (b : Bool) : bI b = 1 ↔ b = true := by cases b <;> decide
def bsn (p : Nat → Bool) : Nat → Int32
  | 0 => 0
  | n + 1 => bsn p n ||| jshl (bI (p n)) (nI n)
def bs (p : Nat → Bool) : Int32 := bsn p 24
theorem bt_1 (i : Nat) : bt 1 i = decide (i = 0) := by
  rcases Nat.lt_or_ge i 32 with h | h
  · exact (by decide +kernel : ∀ i, i < 32 → bt 1 i = decide (i = 0)) i h
  · rw [b_big h, decide_eq_false (by omega)]
theorem bt_bI (b : Bool) (i : Nat) : bt (bI b) i = (b && decide (i = 0)) := by
  cases b
  · rw [bI_f, b_0]; rfl
  · rw [bI_t, bt_1]; rfl
theorem bt_shl {n : Nat} (hn : n < 32) (x : Int32) {i : Nat} (hi : i < 32) : bt (jshl x (nI n)) i = (decide (n ≤ i) && bt x (i - n)) := b_shl n hn x hi
theorem bt_ushr {n : Nat} (hn : n < 32) (x : Int32) (i : Nat) : bt (jushr x (nI n)) i = bt x (n + i) := b_ushr n hn x i
theorem bt_shr {n : Nat} (hn : n < 32) (x : Int32) {i : Nat} (hi : i < 32) : bt (jshr x (nI n)) i = if n + i < 32 then bt x (n + i) else bt x 31 := b_sshr n hn x hi
theorem bt_bsn (p : Nat → Bool) : ∀ n, n ≤ 32 → ∀ i, i < 32 → bt (bsn p n) i = (decide (i < n) && p i) := by
  intro n
  induction n with
  | zero => intro _ i _; show bt 0 i = _; rw [b_0]; simp
  | succ n ih =>
    intro hn i hi
    show bt (bsn p n ||| jshl (bI (p n)) (nI n)) i = _
    rw [b_or, ih (by omega) i hi, bt_shl (by omega) _ hi, bt_bI]
    rcases Nat.lt_trichotomy i n with h | h | h
    · rw [decide_eq_true h, decide_eq_true (by omega : i < n + 1), decide_eq_false (by omega : ¬ n ≤ i)]; simp
    · subst h; simp
    · rw [decide_eq_false (by omega : ¬ i < n), decide_eq_false (by omega : ¬ i < n + 1), decide_eq_true (by omega : n ≤ i), decide_eq_false (by omega : ¬ i - n = 0)]; simp
theorem bt_bs (p : Nat → Bool) {i : Nat} (hi : i < 32) : bt (bs p) i = (decide (i < 24) && p i) := bt_bsn p 24 (by omega) i hi
theorem bs_of {x : Int32} {p : Nat → Bool} (h : ∀ i, i < 32 → bt x i = (decide (i < 24) && p i)) : x = bs p := b_ext (fun i hi => by rw [h i hi, bt_bs p hi])
theorem bs_ext {p q : Nat → Bool} (h : ∀ i, i < 24 → p i = q i) : bs p = bs q := bs_of (fun i hi => by
  rw [bt_bs p hi]
  by_cases q : i < 24
  · rw [h i q]
  · rw [decide_eq_false q]; simp)
theorem bs_inj {p q : Nat → Bool} (h : bs p = bs q) {i : Nat} (hi : i < 24) : p i = q i := by
  have e1 := bt_bs p (i := i) (by omega)
  rw [h, bt_bs q (by omega), decide_eq_true hi] at e1
  simpa using e1.symm
theorem bs_bit (p : Nat → Bool) {i : Nat} (hi : i < 24) : jushr (bs p) (nI i) &&& 1 = bI (p i) := b_ext (fun j hj => by
  rw [b_and, bt_ushr (by omega), bt_1, bt_bI]
  by_cases q : j = 0
  · subst q; rw [bt_bs p (by omega), Nat.add_zero, decide_eq_true hi]; simp
  · rw [decide_eq_false q]; simp)
theorem bs_bitm (p : Nat → Bool) {i : Nat} (hi : i < 24) : jshr (bs p) (nI i) &&& 1 = bI (p i) := b_ext (fun j hj => by
  rw [b_and, bt_shr (by omega) _ hj, bt_1, bt_bI]
  by_cases q : j = 0
  · subst q; rw [if_pos (by omega), bt_bs p (by omega), Nat.add_zero, decide_eq_true hi]; simp
  · rw [decide_eq_false q]; simp)
theorem bs_or (p q : Nat → Bool) : bs p ||| bs q = bs (fun i => p i || q i) := bs_of (fun i hi => by
  rw [b_or, bt_bs p hi, bt_bs q hi]; cases decide (i < 24) <;> simp)
theorem bs_and (p q : Nat → Bool) : bs p &&& bs q = bs (fun i => p i && q i) := bs_of (fun i hi => by
  rw [b_and, bt_bs p hi, bt_bs q hi]; cases decide (i < 24) <;> simp)
theorem bs_andn (p q : Nat → Bool) : bs p &&& (bs q ^^^ (-1)) = bs (fun i => p i && !q i) := bs_of (fun i hi => by
  rw [b_and, b_xor, b_m1 i hi, bt_bs p hi, bt_bs q hi]; cases decide (i < 24) <;> simp)
theorem bs_one {i : Nat} (hi : i < 24) : jshl 1 (nI i) = bs (fun j => decide (j = i)) := bs_of (fun j hj => by
  rw [bt_shl (by omega) _ hj, bt_1]
  by_cases q : j = i
  · subst q; rw [decide_eq_true hi]; simp
  · rw [decide_eq_false q]
    by_cases q2 : i ≤ j
    · rw [decide_eq_false (by omega : ¬ j - i = 0)]; simp
    · rw [decide_eq_false q2]; simp)
theorem bs_zero : bs (fun _ => false) = 0 := by decide +kernel
theorem bs_eq0 {p : Nat → Bool} : bs p = 0 ↔ ∀ i, i < 24 → p i = false := by
  constructor
  · intro h i hi
    rw [← bs_zero] at h
    exact bs_inj h hi
  · intro h
    rw [← bs_zero]
    exact bs_ext h
def fs {α : Type} (f : Nat → α) (i : Nat) (v : α) : Nat → α := fun j => if j = i then v else f j
theorem fs_s {α : Type} {f : Nat → α} {i : Nat} {v : α} : fs f i v i = v := if_pos rfl
theorem fs_n {α : Type} {f : Nat → α} {i j : Nat} {v : α} (h : j ≠ i) : fs f i v j = f j := if_neg h
theorem bs_set (p : Nat → Bool) {i : Nat} (hi : i < 24) : bs p ||| jshl 1 (nI i) = bs (fs p i true) := by
  rw [bs_one hi, bs_or]
  exact bs_ext (fun j _ => by unfold fs; by_cases q : j = i <;> simp [q])
theorem bs_clr (p : Nat → Bool) {i : Nat} (hi : i < 24) : bs p &&& (jshl 1 (nI i) ^^^ (-1)) = bs (fs p i false) := by
  rw [bs_one hi, bs_andn]
  exact bs_ext (fun j _ => by unfold fs; by_cases q : j = i <;> simp [q])
