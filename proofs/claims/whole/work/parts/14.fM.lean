def fX12_thrown (mth : Int32) : Option (Int32) :=
  some mth
def fX12_in (p0 : Int64) (p2 : Int64) (p4 : Int64) : Option (Int32) :=
  if lg_cmp p0 p2 < 0 then
    some 0
  else
    if 0 < lg_cmp p0 p4 then
      some 0
    else
      some 1
def fX12_flag (p0 : Int32) : Option (Int32) :=
  if p0 = 0 then
    some 0
  else
    some 1
def fX12_has (p0 : Int32) (p1 : Int32) : Option (Int32) :=
  if (jshr p0 p1) &&& 1 = 1 then
    some 1
  else
    some 0
def fX12_sizeOf_4b (N : Nat) (p0 : Int32) (k4 : Int32 → Int32 → Option (Int32)) (x1 : Int32) (x2 : Int32) : Option (Int32) :=
  if x2 = 0 then
    some x1
  else
    k4 (x1 + 1) (x2 &&& (x2 - 1))
def fX12_sizeOf_4 (N : Nat) (p0 : Int32) : Nat → Int32 → Int32 → Option (Int32)
  | 0 => fun _ _ => none
  | n + 1 => fun x1 x2 => fX12_sizeOf_4b N p0  (fX12_sizeOf_4 N p0  n) x1 x2
def fX12_sizeOf (N : Nat) (p0 : Int32) : Option (Int32) :=
  fX12_sizeOf_4 N p0 N 0 p0
def fX12_enters (mto : Int32) (mrw : Nat → Int64) (p1 : Int64) : Option (Int32 × (Nat → Int64)) :=
  grd (inb mto 32) <|
  lt (vp_updL mrw mto.toNatClampNeg p1) fun mrw_3 =>
  lt (mto + 1) fun mto_4 =>
  some (mto_4, mrw_3)
def fX12_sign_53 (N : Nat) (p1 : Int32) (mth : Int32) (mta : Nat → Int32) (mtp : Int32) : Option (Int32 × Int32 × (Nat → Int32) × Int32) :=
  lt (mtp + 4) fun mtp_8 =>
  some (mtp_8, mth, mta, mtp_8)
def fX12_sign_18b (N : Nat) (p1 : Int32) (k18 : Int32 → (Nat → Int32) → Int32 → Int32 → Option (Int32 × Int32 × (Nat → Int32) × Int32)) (mth : Int32) (mta : Nat → Int32) (mtp : Int32) (x2 : Int32) : Option (Int32 × Int32 × (Nat → Int32) × Int32) :=
  if 4 ≤ x2 then
    fX12_sign_53 N p1 mth mta mtp
  else
    grd (inb (mtp + x2) 80) <|
    lt (upd mta (mtp + x2).toNatClampNeg ((jshr p1 (24 - (8 * x2))) &&& 255)) fun mta_7 =>
    k18 mth mta_7 mtp (x2 + 1)
def fX12_sign_18 (N : Nat) (p1 : Int32) : Nat → Int32 → (Nat → Int32) → Int32 → Int32 → Option (Int32 × Int32 × (Nat → Int32) × Int32)
  | 0 => fun _ _ _ _ => none
  | n + 1 => fun mth mta mtp x2 => fX12_sign_18b N p1  (fX12_sign_18 N p1  n) mth mta mtp x2
def fX12_sign (N : Nat) (mth : Int32) (mta : Nat → Int32) (mtp : Int32) (p1 : Int32) : Option (Int32 × Int32 × (Nat → Int32) × Int32) :=
  if mtp ≤ 76 then
    fX12_sign_18 N p1 N 0 mta mtp 0
  else
    some ((-1), 0, mta, mtp)
def fX12_end (mth : Int32) (mtp : Int32) (p1 : Int32) : Option (Int32 × Int32 × Int32) :=
  bnd1 (fX12_in p1.toInt64 0 mtp.toInt64) fun r10 =>
  if r10 = 0 then
    some (0, 0, mtp)
  else
    some (1, 0, p1)
def fX12_copies_2b (N : Nat) (p1 : Int32) (p2 : Int32) (k2 : (Nat → Int32) → Int32 → Option ((Nat → Int32))) (mme : Nat → Int32) (x3 : Int32) : Option ((Nat → Int32)) :=
  if 427 ≤ x3 then
    some mme
  else
    grd (inb ((p1 * 427) + x3) 5551) <|
    grd (inb ((p2 * 427) + x3) 5551) <|
    lt (upd mme ((p2 * 427) + x3).toNatClampNeg (mme ((p1 * 427) + x3).toNatClampNeg)) fun mme_12 =>
    k2 mme_12 (x3 + 1)
def fX12_copies_2 (N : Nat) (p1 : Int32) (p2 : Int32) : Nat → (Nat → Int32) → Int32 → Option ((Nat → Int32))
  | 0 => fun _ _ => none
  | n + 1 => fun mme x3 => fX12_copies_2b N p1 p2  (fX12_copies_2 N p1 p2  n) mme x3
def fX12_copies (N : Nat) (mme : Nat → Int32) (p1 : Int32) (p2 : Int32) : Option ((Nat → Int32)) :=
  fX12_copies_2 N p1 p2 N mme 0
def fX12_tries (N : Nat) (mme : Nat → Int32) (mde : Int32) : Option ((Nat → Int32) × Int32) :=
  bnd1 (fX12_copies N mme 0 4) fun mme_14 =>
  some (mme_14, 1708)
def fX12_isBack (mde : Int32) : Option (Int32) :=
  some 0
def fX12_lays_47 (N : Nat) (mme : Nat → Int32) (mun : Int32) : Option ((Nat → Int32) × Int32) :=
  bnd1 (fX12_copies N mme 3 (5 + mun)) fun mme_19 =>
  lt (mun + 1) fun mun_20 =>
  some (mme_19, mun_20)
def fX12_lays_37 (N : Nat) (mme : Nat → Int32) (mun : Int32) : Option ((Nat → Int32) × Int32) :=
  lt (mun - 1) fun mun_22 =>
  fX12_lays_47 N mme mun_22
def fX12_lays_11b (N : Nat) (k11 : (Nat → Int32) → Int32 → Int32 → Option ((Nat → Int32) × Int32)) (mme : Nat → Int32) (mun : Int32) (x1 : Int32) : Option ((Nat → Int32) × Int32) :=
  if 8 ≤ x1 + 1 then
    fX12_lays_37 N mme mun
  else
    bnd1 (fX12_copies N mme ((5 + x1) + 1) (5 + x1)) fun mme_21 =>
    k11 mme_21 mun (x1 + 1)
def fX12_lays_11 (N : Nat) : Nat → (Nat → Int32) → Int32 → Int32 → Option ((Nat → Int32) × Int32)
  | 0 => fun _ _ _ => none
  | n + 1 => fun mme mun x1 => fX12_lays_11b N  (fX12_lays_11 N  n) mme mun x1
def fX12_lays (N : Nat) (mme : Nat → Int32) (mun : Int32) : Option ((Nat → Int32) × Int32) :=
  if mun = 8 then
    fX12_lays_11 N N mme mun 0
  else
    fX12_lays_47 N mme mun
def fX12_undo (N : Nat) (mth : Int32) (mme : Nat → Int32) (mun : Int32) : Option (Int32 × Int32 × (Nat → Int32) × Int32) :=
  if mun = 0 then
    some ((-1), 0, mme, mun)
  else
    lt (mun - 1) fun mun_25 =>
    bnd1 (fX12_copies N mme (5 + mun_25) 0) fun mme_26 =>
    some (mun_25, 0, mme_26, mun_25)
def fX12_of (mme : Nat → Int32) (mde : Int32) (p1 : Int32) (p2 : Int32) : Option (Int32) :=
  grd (inb (((mde + 163) + (11 * p1)) + p2) 5551) <|
  some (mme (((mde + 163) + (11 * p1)) + p2).toNatClampNeg)
def fX12_puts (mme : Nat → Int32) (mde : Int32) (p1 : Int32) (p2 : Int32) (p3 : Int32) : Option ((Nat → Int32)) :=
  grd (inb (((mde + 163) + (11 * p1)) + p2) 5551) <|
  lt (upd mme (((mde + 163) + (11 * p1)) + p2).toNatClampNeg p3) fun mme_28 =>
  some mme_28
def fX12_fieldOf (mme : Nat → Int32) (mde : Int32) (p1 : Int32) (p2 : Int32) : Option (Int32) :=
  bnd1 (fX12_of mme mde p1 (7 + p2)) fun r30 =>
  some r30
def fX12_isThere (mme : Nat → Int32) (mde : Int32) (p1 : Int32) : Option (Int32) :=
  bnd1 (fX12_in p1.toInt64 0 23) fun r33 =>
  if r33 = 0 then
    some 0
  else
    bnd1 (fX12_of mme mde p1 0) fun r34 =>
    if r34 = 1 then
      some 1
    else
      some 0
def fX12_rootOf (mme : Nat → Int32) (mde : Int32) (p1 : Int32) : Option (Int32) :=
  grd (inb ((mde + 33) + p1) 5551) <|
  some (mme ((mde + 33) + p1).toNatClampNeg)
def fX12_weakOf (mme : Nat → Int32) (mde : Int32) (p1 : Int32) : Option (Int32) :=
  grd (inb ((mde + 39) + p1) 5551) <|
  some (mme ((mde + 39) + p1).toNatClampNeg)
def fX12_logs (mme : Nat → Int32) (mde : Int32) (p1 : Int32) (p2 : Int32) : Option ((Nat → Int32)) :=
  grd (inb (mde + 2) 5551) <|
  grd (nzb 60) <|
  lt ((mde + 43) + (2 * (jrem (mme (mde + 2).toNatClampNeg) 60))) fun v_40 =>
  grd (inb v_40 5551) <|
  lt (upd mme v_40.toNatClampNeg p1) fun mme_41 =>
  grd (inb (v_40 + 1) 5551) <|
  lt (upd mme_41 (v_40 + 1).toNatClampNeg p2) fun mme_42 =>
  grd (inb (mde + 2) 5551) <|
  grd (inb (mde + 2) 5551) <|
  lt (upd mme_42 (mde + 2).toNatClampNeg ((mme_42 (mde + 2).toNatClampNeg) + 1)) fun mme_43 =>
  grd (inb ((mde + 3) + p1) 5551) <|
  grd (inb ((mde + 3) + p1) 5551) <|
  lt (upd mme_43 ((mde + 3) + p1).toNatClampNeg ((mme_43 ((mde + 3) + p1).toNatClampNeg) + 1)) fun mme_44 =>
  some mme_44
def fX12_listed (mme : Nat → Int32) (mde : Int32) : Option (Int32) :=
  grd (inb (mde + 1) 5551) <|
  some (mme (mde + 1).toNatClampNeg)
def fX12_onList (mme : Nat → Int32) (mde : Int32) (p1 : Int32) : Option (Int32) :=
  grd (inb ((mde + 9) + p1) 5551) <|
  some (mme ((mde + 9) + p1).toNatClampNeg)
def fX12_placeOnList_2b (N : Nat) (mme : Nat → Int32) (mde : Int32) (p1 : Int32) (k2 : Int32 → Option (Int32)) (x2 : Int32) : Option (Int32) :=
  bnd1 (fX12_listed mme mde) fun r47 =>
  if r47 ≤ x2 then
    some (-1)
  else
    bnd1 (fX12_onList mme mde x2) fun r48 =>
    if r48 = p1 then
      some x2
    else
      k2 (x2 + 1)
def fX12_placeOnList_2 (N : Nat) (mme : Nat → Int32) (mde : Int32) (p1 : Int32) : Nat → Int32 → Option (Int32)
  | 0 => fun _ => none
  | n + 1 => fun x2 => fX12_placeOnList_2b N mme mde p1  (fX12_placeOnList_2 N mme mde p1  n) x2
def fX12_placeOnList (N : Nat) (mme : Nat → Int32) (mde : Int32) (p1 : Int32) : Option (Int32) :=
  fX12_placeOnList_2 N mme mde p1 N 0
def fX12_goesOffList_29b (N : Nat) (mde : Int32) (p1 : Int32) (k29 : (Nat → Int32) → Int32 → Option ((Nat → Int32))) (mme : Nat → Int32) (x2 : Int32) : Option ((Nat → Int32)) :=
  bnd1 (fX12_listed mme mde) fun r57 =>
  if r57 ≤ x2 then
    some mme
  else
    grd (inb (((mde + 9) + x2) + 1) 5551) <|
    grd (inb ((mde + 9) + x2) 5551) <|
    lt (upd mme ((mde + 9) + x2).toNatClampNeg (mme (((mde + 9) + x2) + 1).toNatClampNeg)) fun mme_58 =>
    k29 mme_58 (x2 + 1)
def fX12_goesOffList_29 (N : Nat) (mde : Int32) (p1 : Int32) : Nat → (Nat → Int32) → Int32 → Option ((Nat → Int32))
  | 0 => fun _ _ => none
  | n + 1 => fun mme x2 => fX12_goesOffList_29b N mde p1  (fX12_goesOffList_29 N mde p1  n) mme x2
def fX12_goesOffList (N : Nat) (mme : Nat → Int32) (mde : Int32) (p1 : Int32) : Option ((Nat → Int32)) :=
  bnd1 (fX12_onList mme mde p1) fun r54 =>
  bnd1 (fX12_puts mme mde r54 6 0) fun mme_55 =>
  grd (inb (mde + 1) 5551) <|
  grd (inb (mde + 1) 5551) <|
  lt (upd mme_55 (mde + 1).toNatClampNeg ((mme_55 (mde + 1).toNatClampNeg) - 1)) fun mme_56 =>
  fX12_goesOffList_29 N mde p1 N mme_56 p1
def fX12_isSuspect (N : Nat) (mme : Nat → Int32) (mde : Int32) (p1 : Int32) : Option ((Nat → Int32)) :=
  bnd1 (fX12_puts mme mde p1 6 1) fun mme_64 =>
  bnd1 (fX12_placeOnList N mme_64 mde p1) fun r65 =>
  if 0 ≤ r65 then
    some mme_64
  else
    bnd1 (fX12_listed mme_64 mde) fun r66 =>
    grd (inb ((mde + 9) + r66) 5551) <|
    lt (upd mme_64 ((mde + 9) + r66).toNatClampNeg p1) fun mme_67 =>
    grd (inb (mde + 1) 5551) <|
    grd (inb (mde + 1) 5551) <|
    lt (upd mme_67 (mde + 1).toNatClampNeg ((mme_67 (mde + 1).toNatClampNeg) + 1)) fun mme_68 =>
    some mme_68
def fX12_countsUp (mme : Nat → Int32) (mde : Int32) (p1 : Int32) : Option ((Nat → Int32)) :=
  bnd1 (fX12_of mme mde p1 5) fun r72 =>
  bnd1 (fX12_puts mme mde p1 5 (r72 + 1)) fun mme_73 =>
  bnd1 (fX12_puts mme_73 mde p1 6 0) fun mme_74 =>
  some mme_74
def fX12_clearsWeak_2b (N : Nat) (mde : Int32) (p1 : Int32) (k2 : (Nat → Int32) → Int32 → Option ((Nat → Int32))) (mme : Nat → Int32) (x2 : Int32) : Option ((Nat → Int32)) :=
  if 4 ≤ x2 then
    some mme
  else
    bnd1 (fX12_weakOf mme mde x2) fun r78 =>
    if r78 = p1 then
      grd (inb ((mde + 39) + x2) 5551) <|
      lt (upd mme ((mde + 39) + x2).toNatClampNeg (-1)) fun mme_79 =>
      bnd1 (fX12_logs mme_79 mde 5 p1) fun mme_80 =>
      k2 mme_80 (x2 + 1)
    else
      k2 mme (x2 + 1)
def fX12_clearsWeak_2 (N : Nat) (mde : Int32) (p1 : Int32) : Nat → (Nat → Int32) → Int32 → Option ((Nat → Int32))
  | 0 => fun _ _ => none
  | n + 1 => fun mme x2 => fX12_clearsWeak_2b N mde p1  (fX12_clearsWeak_2 N mde p1  n) mme x2
def fX12_clearsWeak (N : Nat) (mme : Nat → Int32) (mde : Int32) (p1 : Int32) : Option ((Nat → Int32)) :=
  fX12_clearsWeak_2 N mde p1 N mme 0
def fX12_laysRoot_o_30 (rc : (Nat → Int32) → Int32 → Int32 → Option ((Nat → Int32))) (mde : Int32) (p1 : Int32) (p2 : Int32) (mme : Nat → Int32) (x3 : Int32) : Option ((Nat → Int32)) :=
  if x3 < 0 then
    some mme
  else
    bnd1 (rc mme mde x3) fun mme_88 =>
    some mme_88
def fX12_laysRoot_o (rc : (Nat → Int32) → Int32 → Int32 → Option ((Nat → Int32))) (mme : Nat → Int32) (mde : Int32) (p1 : Int32) (p2 : Int32) : Option ((Nat → Int32)) :=
  bnd1 (fX12_rootOf mme mde p1) fun r85 =>
  grd (inb ((mde + 33) + p1) 5551) <|
  lt (upd mme ((mde + 33) + p1).toNatClampNeg p2) fun mme_86 =>
  if p2 < 0 then
    fX12_laysRoot_o_30 rc mde p1 p2 mme_86 r85
  else
    bnd1 (fX12_countsUp mme_86 mde p2) fun mme_87 =>
    fX12_laysRoot_o_30 rc mde p1 p2 mme_87 r85
def fX12_laysField_o_27 (rc : (Nat → Int32) → Int32 → Int32 → Option ((Nat → Int32))) (mde : Int32) (p1 : Int32) (p2 : Int32) (p3 : Int32) (mme : Nat → Int32) (x4 : Int32) : Option ((Nat → Int32)) :=
  if x4 < 0 then
    some mme
  else
    bnd1 (rc mme mde x4) fun mme_96 =>
    some mme_96
def fX12_laysField_o (rc : (Nat → Int32) → Int32 → Int32 → Option ((Nat → Int32))) (mme : Nat → Int32) (mde : Int32) (p1 : Int32) (p2 : Int32) (p3 : Int32) : Option ((Nat → Int32)) :=
  bnd1 (fX12_fieldOf mme mde p1 p2) fun r93 =>
  bnd1 (fX12_puts mme mde p1 (7 + p2) p3) fun mme_94 =>
  if p3 < 0 then
    fX12_laysField_o_27 rc mde p1 p2 p3 mme_94 r93
  else
    bnd1 (fX12_countsUp mme_94 mde p3) fun mme_95 =>
    fX12_laysField_o_27 rc mde p1 p2 p3 mme_95 r93
def fX12_runsEnd_o (rc : (Nat → Int32) → Int32 → Int32 → Option ((Nat → Int32))) (mme : Nat → Int32) (mde : Int32) (p1 : Int32) : Option (Int32 × (Nat → Int32)) :=
  bnd1 (fX12_puts mme mde p1 4 1) fun mme_103 =>
  bnd1 (fX12_logs mme_103 mde 3 p1) fun mme_104 =>
  bnd1 (fX12_of mme_104 mde p1 3) fun r105 =>
  if r105 = 1 then
    some (0, mme_104)
  else
    bnd1 (fX12_logs mme_104 mde 4 p1) fun mme_106 =>
    bnd1 (fX12_of mme_106 mde p1 3) fun r107 =>
    bnd1 (fX12_laysRoot_o rc mme_106 mde (r107 - 2) p1) fun mme_108 =>
    some (1, mme_108)
def fX12_isFreed_o_31 (rc : (Nat → Int32) → Int32 → Int32 → Option ((Nat → Int32))) (N : Nat) (mde : Int32) (p1 : Int32) (mme : Nat → Int32) : Option ((Nat → Int32)) :=
  bnd1 (fX12_clearsWeak N mme mde p1) fun mme_117 =>
  bnd1 (fX12_puts mme_117 mde p1 0 0) fun mme_118 =>
  some mme_118
def fX12_isFreed_o_8b (rc : (Nat → Int32) → Int32 → Int32 → Option ((Nat → Int32))) (N : Nat) (mde : Int32) (p1 : Int32) (k8 : (Nat → Int32) → Int32 → Option ((Nat → Int32))) (mme : Nat → Int32) (x2 : Int32) : Option ((Nat → Int32)) :=
  bnd1 (fX12_of mme mde p1 1) fun r115 =>
  if r115 ≤ x2 then
    fX12_isFreed_o_31 rc N mde p1 mme
  else
    bnd1 (fX12_laysField_o rc mme mde p1 x2 (-1)) fun mme_116 =>
    k8 mme_116 (x2 + 1)
def fX12_isFreed_o_8 (rc : (Nat → Int32) → Int32 → Int32 → Option ((Nat → Int32))) (N : Nat) (mde : Int32) (p1 : Int32) : Nat → (Nat → Int32) → Int32 → Option ((Nat → Int32))
  | 0 => fun _ _ => none
  | n + 1 => fun mme x2 => fX12_isFreed_o_8b rc N mde p1  (fX12_isFreed_o_8 rc N mde p1  n) mme x2
def fX12_isFreed_o (rc : (Nat → Int32) → Int32 → Int32 → Option ((Nat → Int32))) (N : Nat) (mme : Nat → Int32) (mde : Int32) (p1 : Int32) : Option ((Nat → Int32)) :=
  bnd1 (fX12_logs mme mde 1 p1) fun mme_114 =>
  fX12_isFreed_o_8 rc N mde p1 N mme_114 0
def fX12_countsDown_o_80 (rc : (Nat → Int32) → Int32 → Int32 → Option ((Nat → Int32))) (N : Nat) (mde : Int32) (p1 : Int32) (mme : Nat → Int32) : Option ((Nat → Int32)) :=
  bnd1 (fX12_isFreed_o rc N mme mde p1) fun mme_140 =>
  some mme_140
def fX12_countsDown_o_53 (rc : (Nat → Int32) → Int32 → Int32 → Option ((Nat → Int32))) (N : Nat) (mde : Int32) (p1 : Int32) (mme : Nat → Int32) : Option ((Nat → Int32)) :=
  bnd1 (fX12_of mme mde p1 3) fun r137 =>
  if r137 ≤ 0 then
    fX12_countsDown_o_80 rc N mde p1 mme
  else
    bnd1 (fX12_of mme mde p1 4) fun r138 =>
    if r138 = 0 then
      bnd2 (fX12_runsEnd_o rc mme mde p1) fun r139 mme_139 =>
      if r139 = 0 then
        fX12_countsDown_o_80 rc N mde p1 mme_139
      else
        some mme_139
    else
      fX12_countsDown_o_80 rc N mde p1 mme
def fX12_countsDown_o (rc : (Nat → Int32) → Int32 → Int32 → Option ((Nat → Int32))) (N : Nat) (mme : Nat → Int32) (mde : Int32) (p1 : Int32) : Option ((Nat → Int32)) :=
  bnd1 (fX12_of mme mde p1 5) fun r130 =>
  bnd1 (fX12_puts mme mde p1 5 (r130 - 1)) fun mme_131 =>
  bnd1 (fX12_of mme_131 mde p1 5) fun r132 =>
  if r132 ≤ 0 then
    bnd1 (fX12_placeOnList N mme_131 mde p1) fun r133 =>
    if r133 < 0 then
      fX12_countsDown_o_53 rc N mde p1 mme_131
    else
      bnd1 (fX12_goesOffList N mme_131 mde r133) fun mme_134 =>
      fX12_countsDown_o_53 rc N mde p1 mme_134
  else
    bnd1 (fX12_of mme_131 mde p1 1) fun r135 =>
    if r135 ≤ 0 then
      some mme_131
    else
      bnd1 (fX12_isSuspect N mme_131 mde p1) fun mme_136 =>
      some mme_136
def fX12_countsDown_d (N : Nat) : Nat → (Nat → Int32) → Int32 → Int32 → Option ((Nat → Int32))
  | 0 => fun _ _ _ => none
  | d + 1 => fun mme mde o0 => fX12_countsDown_o (fX12_countsDown_d N d) N mme mde o0
def fX12_laysRoot (N : Nat) (mme : Nat → Int32) (mde : Int32) (p1 : Int32) (p2 : Int32) : Option ((Nat → Int32)) := fX12_laysRoot_o (fX12_countsDown_d N 64) mme mde p1 p2
def fX12_laysField (N : Nat) (mme : Nat → Int32) (mde : Int32) (p1 : Int32) (p2 : Int32) (p3 : Int32) : Option ((Nat → Int32)) := fX12_laysField_o (fX12_countsDown_d N 64) mme mde p1 p2 p3
def fX12_runsEnd (N : Nat) (mme : Nat → Int32) (mde : Int32) (p1 : Int32) : Option (Int32 × (Nat → Int32)) := fX12_runsEnd_o (fX12_countsDown_d N 64) mme mde p1
def fX12_isFreed (N : Nat) (mme : Nat → Int32) (mde : Int32) (p1 : Int32) : Option ((Nat → Int32)) := fX12_isFreed_o (fX12_countsDown_d N 64) N mme mde p1
def fX12_countsDown (N : Nat) (mme : Nat → Int32) (mde : Int32) (p1 : Int32) : Option ((Nat → Int32)) := fX12_countsDown_d N 64 mme mde p1
def fX12_becomes (mco : Nat → Int32) (mvi : Int32) (p1 : Int32) (p2 : Int32) : Option ((Nat → Int32) × Int32) :=
  grd (inb p1 24) <|
  lt (upd mco p1.toNatClampNeg p2) fun mco_143 =>
  lt (mvi + 1) fun mvi_144 =>
  some (mco_143, mvi_144)
def fX12_grays_o_19b (rc : (Nat → Int32) → Int32 → (Nat → Int32) → Int32 → Int32 → Option ((Nat → Int32) × (Nat → Int32) × Int32)) (N : Nat) (mde : Int32) (p1 : Int32) (k19 : (Nat → Int32) → (Nat → Int32) → Int32 → Int32 → Option ((Nat → Int32) × (Nat → Int32) × Int32)) (mme : Nat → Int32) (mco : Nat → Int32) (mvi : Int32) (x2 : Int32) : Option ((Nat → Int32) × (Nat → Int32) × Int32) :=
  bnd1 (fX12_of mme mde p1 1) fun r152 =>
  if r152 ≤ x2 then
    some (mme, mco, mvi)
  else
    bnd1 (fX12_fieldOf mme mde p1 x2) fun r153 =>
    if r153 < 0 then
      k19 mme mco mvi (x2 + 1)
    else
      bnd1 (fX12_of mme mde r153 5) fun r154 =>
      bnd1 (fX12_puts mme mde r153 5 (r154 - 1)) fun mme_155 =>
      bnd3 (rc mme_155 mde mco mvi r153) fun mme_156 mco_156 mvi_156 =>
      k19 mme_156 mco_156 mvi_156 (x2 + 1)
def fX12_grays_o_19 (rc : (Nat → Int32) → Int32 → (Nat → Int32) → Int32 → Int32 → Option ((Nat → Int32) × (Nat → Int32) × Int32)) (N : Nat) (mde : Int32) (p1 : Int32) : Nat → (Nat → Int32) → (Nat → Int32) → Int32 → Int32 → Option ((Nat → Int32) × (Nat → Int32) × Int32)
  | 0 => fun _ _ _ _ => none
  | n + 1 => fun mme mco mvi x2 => fX12_grays_o_19b rc N mde p1  (fX12_grays_o_19 rc N mde p1  n) mme mco mvi x2
def fX12_grays_o (rc : (Nat → Int32) → Int32 → (Nat → Int32) → Int32 → Int32 → Option ((Nat → Int32) × (Nat → Int32) × Int32)) (N : Nat) (mme : Nat → Int32) (mde : Int32) (mco : Nat → Int32) (mvi : Int32) (p1 : Int32) : Option ((Nat → Int32) × (Nat → Int32) × Int32) :=
  grd (inb p1 24) <|
  if mco p1.toNatClampNeg = 1 then
    some (mme, mco, mvi)
  else
    bnd2 (fX12_becomes mco mvi p1 1) fun mco_151 mvi_151 =>
    fX12_grays_o_19 rc N mde p1 N mme mco_151 mvi_151 0
def fX12_grays_d (N : Nat) : Nat → (Nat → Int32) → Int32 → (Nat → Int32) → Int32 → Int32 → Option ((Nat → Int32) × (Nat → Int32) × Int32)
  | 0 => fun _ _ _ _ _ => none
  | d + 1 => fun mme mde mco mvi o0 => fX12_grays_o (fX12_grays_d N d) N mme mde mco mvi o0
def fX12_grays (N : Nat) (mme : Nat → Int32) (mde : Int32) (mco : Nat → Int32) (mvi : Int32) (p1 : Int32) : Option ((Nat → Int32) × (Nat → Int32) × Int32) := fX12_grays_d N 64 mme mde mco mvi p1
def fX12_givesBack_o_8b (rc : (Nat → Int32) → Int32 → (Nat → Int32) → Int32 → Int32 → Option ((Nat → Int32) × (Nat → Int32) × Int32)) (N : Nat) (mde : Int32) (p1 : Int32) (k8 : (Nat → Int32) → (Nat → Int32) → Int32 → Int32 → Option ((Nat → Int32) × (Nat → Int32) × Int32)) (mme : Nat → Int32) (mco : Nat → Int32) (mvi : Int32) (x2 : Int32) : Option ((Nat → Int32) × (Nat → Int32) × Int32) :=
  bnd1 (fX12_of mme mde p1 1) fun r164 =>
  if r164 ≤ x2 then
    some (mme, mco, mvi)
  else
    bnd1 (fX12_fieldOf mme mde p1 x2) fun r165 =>
    if r165 < 0 then
      k8 mme mco mvi (x2 + 1)
    else
      bnd1 (fX12_of mme mde r165 5) fun r166 =>
      bnd1 (fX12_puts mme mde r165 5 (r166 + 1)) fun mme_167 =>
      grd (inb r165 24) <|
      if mco r165.toNatClampNeg = 3 then
        k8 mme_167 mco mvi (x2 + 1)
      else
        bnd3 (rc mme_167 mde mco mvi r165) fun mme_168 mco_168 mvi_168 =>
        k8 mme_168 mco_168 mvi_168 (x2 + 1)
def fX12_givesBack_o_8 (rc : (Nat → Int32) → Int32 → (Nat → Int32) → Int32 → Int32 → Option ((Nat → Int32) × (Nat → Int32) × Int32)) (N : Nat) (mde : Int32) (p1 : Int32) : Nat → (Nat → Int32) → (Nat → Int32) → Int32 → Int32 → Option ((Nat → Int32) × (Nat → Int32) × Int32)
  | 0 => fun _ _ _ _ => none
  | n + 1 => fun mme mco mvi x2 => fX12_givesBack_o_8b rc N mde p1  (fX12_givesBack_o_8 rc N mde p1  n) mme mco mvi x2
def fX12_givesBack_o (rc : (Nat → Int32) → Int32 → (Nat → Int32) → Int32 → Int32 → Option ((Nat → Int32) × (Nat → Int32) × Int32)) (N : Nat) (mme : Nat → Int32) (mde : Int32) (mco : Nat → Int32) (mvi : Int32) (p1 : Int32) : Option ((Nat → Int32) × (Nat → Int32) × Int32) :=
  bnd2 (fX12_becomes mco mvi p1 3) fun mco_163 mvi_163 =>
  fX12_givesBack_o_8 rc N mde p1 N mme mco_163 mvi_163 0
def fX12_givesBack_d (N : Nat) : Nat → (Nat → Int32) → Int32 → (Nat → Int32) → Int32 → Int32 → Option ((Nat → Int32) × (Nat → Int32) × Int32)
  | 0 => fun _ _ _ _ _ => none
  | d + 1 => fun mme mde mco mvi o0 => fX12_givesBack_o (fX12_givesBack_d N d) N mme mde mco mvi o0
def fX12_givesBack (N : Nat) (mme : Nat → Int32) (mde : Int32) (mco : Nat → Int32) (mvi : Int32) (p1 : Int32) : Option ((Nat → Int32) × (Nat → Int32) × Int32) := fX12_givesBack_d N 64 mme mde mco mvi p1
def fX12_looksThrough_o_34b (rc : (Nat → Int32) → Int32 → (Nat → Int32) → Int32 → Int32 → Option ((Nat → Int32) × (Nat → Int32) × Int32)) (N : Nat) (mde : Int32) (p1 : Int32) (k34 : (Nat → Int32) → (Nat → Int32) → Int32 → Int32 → Option ((Nat → Int32) × (Nat → Int32) × Int32)) (mme : Nat → Int32) (mco : Nat → Int32) (mvi : Int32) (x2 : Int32) : Option ((Nat → Int32) × (Nat → Int32) × Int32) :=
  bnd1 (fX12_of mme mde p1 1) fun r179 =>
  if r179 ≤ x2 then
    some (mme, mco, mvi)
  else
    bnd1 (fX12_fieldOf mme mde p1 x2) fun r180 =>
    if r180 < 0 then
      k34 mme mco mvi (x2 + 1)
    else
      bnd1 (fX12_fieldOf mme mde p1 x2) fun r181 =>
      bnd3 (rc mme mde mco mvi r181) fun mme_182 mco_182 mvi_182 =>
      k34 mme_182 mco_182 mvi_182 (x2 + 1)
def fX12_looksThrough_o_34 (rc : (Nat → Int32) → Int32 → (Nat → Int32) → Int32 → Int32 → Option ((Nat → Int32) × (Nat → Int32) × Int32)) (N : Nat) (mde : Int32) (p1 : Int32) : Nat → (Nat → Int32) → (Nat → Int32) → Int32 → Int32 → Option ((Nat → Int32) × (Nat → Int32) × Int32)
  | 0 => fun _ _ _ _ => none
  | n + 1 => fun mme mco mvi x2 => fX12_looksThrough_o_34b rc N mde p1  (fX12_looksThrough_o_34 rc N mde p1  n) mme mco mvi x2
def fX12_looksThrough_o (rc : (Nat → Int32) → Int32 → (Nat → Int32) → Int32 → Int32 → Option ((Nat → Int32) × (Nat → Int32) × Int32)) (N : Nat) (mme : Nat → Int32) (mde : Int32) (mco : Nat → Int32) (mvi : Int32) (p1 : Int32) : Option ((Nat → Int32) × (Nat → Int32) × Int32) :=
  grd (inb p1 24) <|
  if mco p1.toNatClampNeg = 1 then
    bnd1 (fX12_of mme mde p1 5) fun r176 =>
    if r176 ≤ 0 then
      bnd2 (fX12_becomes mco mvi p1 2) fun mco_177 mvi_177 =>
      fX12_looksThrough_o_34 rc N mde p1 N mme mco_177 mvi_177 0
    else
      bnd3 (fX12_givesBack N mme mde mco mvi p1) fun mme_178 mco_178 mvi_178 =>
      some (mme_178, mco_178, mvi_178)
  else
    some (mme, mco, mvi)
def fX12_looksThrough_d (N : Nat) : Nat → (Nat → Int32) → Int32 → (Nat → Int32) → Int32 → Int32 → Option ((Nat → Int32) × (Nat → Int32) × Int32)
  | 0 => fun _ _ _ _ _ => none
  | d + 1 => fun mme mde mco mvi o0 => fX12_looksThrough_o (fX12_looksThrough_d N d) N mme mde mco mvi o0
def fX12_looksThrough (N : Nat) (mme : Nat → Int32) (mde : Int32) (mco : Nat → Int32) (mvi : Int32) (p1 : Int32) : Option ((Nat → Int32) × (Nat → Int32) × Int32) := fX12_looksThrough_d N 64 mme mde mco mvi p1
def fX12_whites_26 (N : Nat) (mco : Nat → Int32) (k4 : Int32 → Int32 → Option (Int32)) (x2 : Int32) (y0 : Int32) (y1 : Int32) : Option (Int32) :=
  bnd1 (fX12_flag y0) fun r184 =>
  k4 (y1 ||| (jshl r184 x2)) (x2 + 1)
def fX12_whites_4b (N : Nat) (mco : Nat → Int32) (k4 : Int32 → Int32 → Option (Int32)) (x1 : Int32) (x2 : Int32) : Option (Int32) :=
  if 24 ≤ x2 then
    some x1
  else
    grd (inb x2 24) <|
    if mco x2.toNatClampNeg = 2 then
      fX12_whites_26 N mco k4 x2 1 x1
    else
      fX12_whites_26 N mco k4 x2 0 x1
def fX12_whites_4 (N : Nat) (mco : Nat → Int32) : Nat → Int32 → Int32 → Option (Int32)
  | 0 => fun _ _ => none
  | n + 1 => fun x1 x2 => fX12_whites_4b N mco  (fX12_whites_4 N mco  n) x1 x2
def fX12_whites (N : Nat) (mco : Nat → Int32) : Option (Int32) :=
  fX12_whites_4 N mco N 0 0
def fX12_hasEnd (mme : Nat → Int32) (mde : Int32) (p1 : Int32) : Option (Int32) :=
  bnd1 (fX12_of mme mde p1 3) fun r187 =>
  if r187 ≤ 0 then
    some 0
  else
    bnd1 (fX12_of mme mde p1 4) fun r188 =>
    if r188 = 0 then
      some 1
    else
      some 0
def fX12_withEnds_32 (N : Nat) (mme : Nat → Int32) (mde : Int32) (p1 : Int32) (k4 : Int32 → Int32 → Option (Int32)) (x3 : Int32) (y0 : Int32) (y1 : Int32) : Option (Int32) :=
  bnd1 (fX12_flag y0) fun r194 =>
  k4 (y1 ||| (jshl r194 x3)) (x3 + 1)
def fX12_withEnds_31 (N : Nat) (mme : Nat → Int32) (mde : Int32) (p1 : Int32) (k4 : Int32 → Int32 → Option (Int32)) (x3 : Int32) (y0 : Int32) : Option (Int32) :=
  fX12_withEnds_32 N mme mde p1 k4 x3 0 y0
def fX12_withEnds_4b (N : Nat) (mme : Nat → Int32) (mde : Int32) (p1 : Int32) (k4 : Int32 → Int32 → Option (Int32)) (x2 : Int32) (x3 : Int32) : Option (Int32) :=
  if 24 ≤ x3 then
    some x2
  else
    bnd1 (fX12_has p1 x3) fun r192 =>
    if r192 = 0 then
      fX12_withEnds_31 N mme mde p1 k4 x3 x2
    else
      bnd1 (fX12_hasEnd mme mde x3) fun r193 =>
      if r193 = 0 then
        fX12_withEnds_31 N mme mde p1 k4 x3 x2
      else
        fX12_withEnds_32 N mme mde p1 k4 x3 1 x2
def fX12_withEnds_4 (N : Nat) (mme : Nat → Int32) (mde : Int32) (p1 : Int32) : Nat → Int32 → Int32 → Option (Int32)
  | 0 => fun _ _ => none
  | n + 1 => fun x2 x3 => fX12_withEnds_4b N mme mde p1  (fX12_withEnds_4 N mme mde p1  n) x2 x3
def fX12_withEnds (N : Nat) (mme : Nat → Int32) (mde : Int32) (p1 : Int32) : Option (Int32) :=
  fX12_withEnds_4 N mme mde p1 N 0 0
def fX12_freesAll_2b (N : Nat) (mde : Int32) (p1 : Int32) (k2 : (Nat → Int32) → Int32 → Option ((Nat → Int32))) (mme : Nat → Int32) (x2 : Int32) : Option ((Nat → Int32)) :=
  if 24 ≤ x2 then
    some mme
  else
    bnd1 (fX12_has p1 x2) fun r200 =>
    if r200 = 0 then
      k2 mme (x2 + 1)
    else
      bnd1 (fX12_logs mme mde 2 x2) fun mme_201 =>
      bnd1 (fX12_clearsWeak N mme_201 mde x2) fun mme_202 =>
      bnd1 (fX12_puts mme_202 mde x2 0 0) fun mme_203 =>
      bnd1 (fX12_puts mme_203 mde x2 5 0) fun mme_204 =>
      k2 mme_204 (x2 + 1)
def fX12_freesAll_2 (N : Nat) (mde : Int32) (p1 : Int32) : Nat → (Nat → Int32) → Int32 → Option ((Nat → Int32))
  | 0 => fun _ _ => none
  | n + 1 => fun mme x2 => fX12_freesAll_2b N mde p1  (fX12_freesAll_2 N mde p1  n) mme x2
def fX12_freesAll (N : Nat) (mme : Nat → Int32) (mde : Int32) (p1 : Int32) : Option ((Nat → Int32)) :=
  fX12_freesAll_2 N mde p1 N mme 0
def fX12_runsEnds_74b (N : Nat) (mde : Int32) (mcn : Nat → Int32) (p1 : Int32) (k74 : (Nat → Int32) → Int32 → Option ((Nat → Int32))) (mme : Nat → Int32) (x2 : Int32) : Option ((Nat → Int32)) :=
  if 24 ≤ x2 then
    some mme
  else
    bnd1 (fX12_has p1 x2) fun r220 =>
    if r220 = 0 then
      k74 mme (x2 + 1)
    else
      bnd1 (fX12_of mme mde x2 0) fun r221 =>
      if r221 = 1 then
        bnd1 (fX12_of mme mde x2 1) fun r222 =>
        if r222 ≤ 0 then
          k74 mme (x2 + 1)
        else
          bnd1 (fX12_placeOnList N mme mde x2) fun r223 =>
          if 0 ≤ r223 then
            k74 mme (x2 + 1)
          else
            bnd1 (fX12_isSuspect N mme mde x2) fun mme_224 =>
            k74 mme_224 (x2 + 1)
      else
        k74 mme (x2 + 1)
def fX12_runsEnds_74 (N : Nat) (mde : Int32) (mcn : Nat → Int32) (p1 : Int32) : Nat → (Nat → Int32) → Int32 → Option ((Nat → Int32))
  | 0 => fun _ _ => none
  | n + 1 => fun mme x2 => fX12_runsEnds_74b N mde mcn p1  (fX12_runsEnds_74 N mde mcn p1  n) mme x2
def fX12_runsEnds_28b (N : Nat) (mde : Int32) (mcn : Nat → Int32) (p1 : Int32) (k28 : (Nat → Int32) → Int32 → Option ((Nat → Int32))) (mme : Nat → Int32) (x2 : Int32) : Option ((Nat → Int32)) :=
  if 24 ≤ x2 then
    fX12_runsEnds_74 N mde mcn p1 N mme 0
  else
    bnd1 (fX12_has p1 x2) fun r216 =>
    if r216 = 0 then
      k28 mme (x2 + 1)
    else
      bnd1 (fX12_of mme mde x2 0) fun r217 =>
      if r217 = 1 then
        bnd1 (fX12_hasEnd mme mde x2) fun r218 =>
        if r218 = 0 then
          k28 mme (x2 + 1)
        else
          bnd2 (fX12_runsEnd N mme mde x2) fun r219 mme_219 =>
          k28 mme_219 (x2 + 1)
      else
        k28 mme (x2 + 1)
def fX12_runsEnds_28 (N : Nat) (mde : Int32) (mcn : Nat → Int32) (p1 : Int32) : Nat → (Nat → Int32) → Int32 → Option ((Nat → Int32))
  | 0 => fun _ _ => none
  | n + 1 => fun mme x2 => fX12_runsEnds_28b N mde mcn p1  (fX12_runsEnds_28 N mde mcn p1  n) mme x2
def fX12_runsEnds_2b (N : Nat) (mde : Int32) (mcn : Nat → Int32) (p1 : Int32) (k2 : (Nat → Int32) → Int32 → Option ((Nat → Int32))) (mme : Nat → Int32) (x2 : Int32) : Option ((Nat → Int32)) :=
  if 24 ≤ x2 then
    fX12_runsEnds_28 N mde mcn p1 N mme 0
  else
    grd (inb x2 24) <|
    bnd1 (fX12_puts mme mde x2 5 (mcn x2.toNatClampNeg)) fun mme_215 =>
    k2 mme_215 (x2 + 1)
def fX12_runsEnds_2 (N : Nat) (mde : Int32) (mcn : Nat → Int32) (p1 : Int32) : Nat → (Nat → Int32) → Int32 → Option ((Nat → Int32))
  | 0 => fun _ _ => none
  | n + 1 => fun mme x2 => fX12_runsEnds_2b N mde mcn p1  (fX12_runsEnds_2 N mde mcn p1  n) mme x2
def fX12_runsEnds (N : Nat) (mme : Nat → Int32) (mde : Int32) (mcn : Nat → Int32) (p1 : Int32) : Option ((Nat → Int32)) :=
  fX12_runsEnds_2 N mde mcn p1 N mme 0
def fX12_runsTrial_128 (N : Nat) (mde : Int32) (mme : Nat → Int32) (mco : Nat → Int32) (mcn : Nat → Int32) (mvi : Int32) : Option ((Nat → Int32) × (Nat → Int32) × (Nat → Int32) × Int32) :=
  bnd1 (fX12_whites N mco) fun r257 =>
  bnd1 (fX12_withEnds N mme mde r257) fun r258 =>
  if r258 = 0 then
    bnd1 (fX12_freesAll N mme mde r257) fun mme_260 =>
    some (mme_260, mco, mcn, mvi)
  else
    bnd1 (fX12_runsEnds N mme mde mcn r257) fun mme_259 =>
    some (mme_259, mco, mcn, mvi)
def fX12_runsTrial_108b (N : Nat) (mde : Int32) (k108 : (Nat → Int32) → (Nat → Int32) → (Nat → Int32) → Int32 → Option ((Nat → Int32) × (Nat → Int32) × (Nat → Int32) × Int32)) (mme : Nat → Int32) (mco : Nat → Int32) (mcn : Nat → Int32) (mvi : Int32) : Option ((Nat → Int32) × (Nat → Int32) × (Nat → Int32) × Int32) :=
  bnd1 (fX12_listed mme mde) fun r254 =>
  if r254 ≤ 0 then
    fX12_runsTrial_128 N mde mme mco mcn mvi
  else
    bnd1 (fX12_listed mme mde) fun r255 =>
    bnd1 (fX12_goesOffList N mme mde (r255 - 1)) fun mme_256 =>
    k108 mme_256 mco mcn mvi
def fX12_runsTrial_108 (N : Nat) (mde : Int32) : Nat → (Nat → Int32) → (Nat → Int32) → (Nat → Int32) → Int32 → Option ((Nat → Int32) × (Nat → Int32) × (Nat → Int32) × Int32)
  | 0 => fun _ _ _ _ => none
  | n + 1 => fun mme mco mcn mvi => fX12_runsTrial_108b N mde  (fX12_runsTrial_108 N mde  n) mme mco mcn mvi
def fX12_runsTrial_85b (N : Nat) (mde : Int32) (k85 : (Nat → Int32) → (Nat → Int32) → (Nat → Int32) → Int32 → Int32 → Option ((Nat → Int32) × (Nat → Int32) × (Nat → Int32) × Int32)) (mme : Nat → Int32) (mco : Nat → Int32) (mcn : Nat → Int32) (mvi : Int32) (x2 : Int32) : Option ((Nat → Int32) × (Nat → Int32) × (Nat → Int32) × Int32) :=
  bnd1 (fX12_listed mme mde) fun r251 =>
  if r251 ≤ x2 then
    fX12_runsTrial_108 N mde N mme mco mcn mvi
  else
    bnd1 (fX12_onList mme mde x2) fun r252 =>
    bnd3 (fX12_looksThrough N mme mde mco mvi r252) fun mme_253 mco_253 mvi_253 =>
    k85 mme_253 mco_253 mcn mvi_253 (x2 + 1)
def fX12_runsTrial_85 (N : Nat) (mde : Int32) : Nat → (Nat → Int32) → (Nat → Int32) → (Nat → Int32) → Int32 → Int32 → Option ((Nat → Int32) × (Nat → Int32) × (Nat → Int32) × Int32)
  | 0 => fun _ _ _ _ _ => none
  | n + 1 => fun mme mco mcn mvi x2 => fX12_runsTrial_85b N mde  (fX12_runsTrial_85 N mde  n) mme mco mcn mvi x2
def fX12_runsTrial_40b (N : Nat) (mde : Int32) (k40 : (Nat → Int32) → (Nat → Int32) → (Nat → Int32) → Int32 → Int32 → Option ((Nat → Int32) × (Nat → Int32) × (Nat → Int32) × Int32)) (mme : Nat → Int32) (mco : Nat → Int32) (mcn : Nat → Int32) (mvi : Int32) (x1 : Int32) : Option ((Nat → Int32) × (Nat → Int32) × (Nat → Int32) × Int32) :=
  bnd1 (fX12_listed mme mde) fun r246 =>
  if r246 ≤ x1 then
    fX12_runsTrial_85 N mde N mme mco mcn mvi 0
  else
    bnd1 (fX12_onList mme mde x1) fun r247 =>
    bnd1 (fX12_of mme mde r247 6) fun r248 =>
    if r248 = 0 then
      bnd1 (fX12_goesOffList N mme mde x1) fun mme_250 =>
      k40 mme_250 mco mcn mvi x1
    else
      bnd3 (fX12_grays N mme mde mco mvi r247) fun mme_249 mco_249 mvi_249 =>
      k40 mme_249 mco_249 mcn mvi_249 (x1 + 1)
def fX12_runsTrial_40 (N : Nat) (mde : Int32) : Nat → (Nat → Int32) → (Nat → Int32) → (Nat → Int32) → Int32 → Int32 → Option ((Nat → Int32) × (Nat → Int32) × (Nat → Int32) × Int32)
  | 0 => fun _ _ _ _ _ => none
  | n + 1 => fun mme mco mcn mvi x1 => fX12_runsTrial_40b N mde  (fX12_runsTrial_40 N mde  n) mme mco mcn mvi x1
def fX12_runsTrial_7b (N : Nat) (mde : Int32) (k7 : (Nat → Int32) → (Nat → Int32) → (Nat → Int32) → Int32 → Int32 → Option ((Nat → Int32) × (Nat → Int32) × (Nat → Int32) × Int32)) (mme : Nat → Int32) (mco : Nat → Int32) (mcn : Nat → Int32) (mvi : Int32) (x1 : Int32) : Option ((Nat → Int32) × (Nat → Int32) × (Nat → Int32) × Int32) :=
  if 24 ≤ x1 then
    fX12_runsTrial_40 N mde N mme mco mcn mvi 0
  else
    grd (inb x1 24) <|
    lt (upd mco x1.toNatClampNeg 0) fun mco_243 =>
    bnd1 (fX12_of mme mde x1 5) fun r244 =>
    grd (inb x1 24) <|
    lt (upd mcn x1.toNatClampNeg r244) fun mcn_245 =>
    k7 mme mco_243 mcn_245 mvi (x1 + 1)
def fX12_runsTrial_7 (N : Nat) (mde : Int32) : Nat → (Nat → Int32) → (Nat → Int32) → (Nat → Int32) → Int32 → Int32 → Option ((Nat → Int32) × (Nat → Int32) × (Nat → Int32) × Int32)
  | 0 => fun _ _ _ _ _ => none
  | n + 1 => fun mme mco mcn mvi x1 => fX12_runsTrial_7b N mde  (fX12_runsTrial_7 N mde  n) mme mco mcn mvi x1
def fX12_runsTrial (N : Nat) (mme : Nat → Int32) (mde : Int32) (mco : Nat → Int32) (mcn : Nat → Int32) (mvi : Int32) : Option ((Nat → Int32) × (Nat → Int32) × (Nat → Int32) × Int32) :=
  fX12_runsTrial_7 N mde N mme mco mcn 0 0
def fX12_isActed (N : Nat) (mme : Nat → Int32) (mde : Int32) (mco : Nat → Int32) (mcn : Nat → Int32) (mvi : Int32) : Option ((Nat → Int32) × (Nat → Int32) × (Nat → Int32) × Int32) :=
  bnd1 (fX12_listed mme mde) fun r263 =>
  grd (inb (mde + 0) 5551) <|
  if r263 < mme (mde + 0).toNatClampNeg then
    some (mme, mco, mcn, mvi)
  else
    bnd4 (fX12_runsTrial N mme mde mco mcn mvi) fun mme_264 mco_264 mcn_264 mvi_264 =>
    some (mme_264, mco_264, mcn_264, mvi_264)
def fX12_next_4b (N : Nat) (mme : Nat → Int32) (mde : Int32) (p1 : Int32) (k4 : Int32 → Int32 → Option (Int32)) (x2 : Int32) (x3 : Int32) : Option (Int32) :=
  bnd1 (fX12_of mme mde p1 1) fun r268 =>
  if r268 ≤ x3 then
    some x2
  else
    bnd1 (fX12_fieldOf mme mde p1 x3) fun r269 =>
    if r269 < 0 then
      k4 (x2 ||| 0) (x3 + 1)
    else
      bnd1 (fX12_fieldOf mme mde p1 x3) fun r270 =>
      k4 (x2 ||| (jshl 1 r270)) (x3 + 1)
def fX12_next_4 (N : Nat) (mme : Nat → Int32) (mde : Int32) (p1 : Int32) : Nat → Int32 → Int32 → Option (Int32)
  | 0 => fun _ _ => none
  | n + 1 => fun x2 x3 => fX12_next_4b N mme mde p1  (fX12_next_4 N mme mde p1  n) x2 x3
def fX12_next (N : Nat) (mme : Nat → Int32) (mde : Int32) (p1 : Int32) : Option (Int32) :=
  fX12_next_4 N mme mde p1 N 0 0
def fX12_reach_21b (N : Nat) (mme : Nat → Int32) (mde : Int32) (p1 : Int32) (p2 : Int32) (k9 : Int32 → Int32 → Option (Int32)) (k21 : Int32 → Int32 → Int32 → Option (Int32)) (x3 : Int32) (x4 : Int32) (x5 : Int32) : Option (Int32) :=
  if 24 ≤ x5 then
    k9 x3 x4
  else
    bnd1 (fX12_has x4 x5) fun r274 =>
    if r274 = 0 then
      k21 (x3 ||| 0) x4 (x5 + 1)
    else
      bnd1 (fX12_next N mme mde x5) fun r275 =>
      lt (x3 ||| (r275 &&& (p2 ^^^ (-1)))) fun v_276 =>
      k21 v_276 x4 (x5 + 1)
def fX12_reach_21 (N : Nat) (mme : Nat → Int32) (mde : Int32) (p1 : Int32) (p2 : Int32) (k9 : Int32 → Int32 → Option (Int32)) : Nat → Int32 → Int32 → Int32 → Option (Int32)
  | 0 => fun _ _ _ => none
  | n + 1 => fun x3 x4 x5 => fX12_reach_21b N mme mde p1 p2 k9 (fX12_reach_21 N mme mde p1 p2 k9 n) x3 x4 x5
def fX12_reach_9b (N : Nat) (mme : Nat → Int32) (mde : Int32) (p1 : Int32) (p2 : Int32) (k9 : Int32 → Int32 → Option (Int32)) (x3 : Int32) (x4 : Int32) : Option (Int32) :=
  if x3 = x4 then
    some x3
  else
    fX12_reach_21 N mme mde p1 p2 k9 N x3 x3 0
def fX12_reach_9 (N : Nat) (mme : Nat → Int32) (mde : Int32) (p1 : Int32) (p2 : Int32) : Nat → Int32 → Int32 → Option (Int32)
  | 0 => fun _ _ => none
  | n + 1 => fun x3 x4 => fX12_reach_9b N mme mde p1 p2  (fX12_reach_9 N mme mde p1 p2  n) x3 x4
def fX12_reach (N : Nat) (mme : Nat → Int32) (mde : Int32) (p1 : Int32) (p2 : Int32) : Option (Int32) :=
  fX12_reach_9 N mme mde p1 p2 N (p1 &&& (p2 ^^^ (-1))) (-1)
def fX12_inRoots_37 (N : Nat) (mme : Nat → Int32) (mde : Int32) (p1 : Int32) (k4 : Int32 → Int32 → Option (Int32)) (x3 : Int32) (y0 : Int32) : Option (Int32) :=
  k4 (y0 ||| 0) (x3 + 1)
def fX12_inRoots_4b (N : Nat) (mme : Nat → Int32) (mde : Int32) (p1 : Int32) (k4 : Int32 → Int32 → Option (Int32)) (x2 : Int32) (x3 : Int32) : Option (Int32) :=
  if 6 ≤ x3 then
    some x2
  else
    bnd1 (fX12_has p1 x3) fun r280 =>
    if r280 = 0 then
      bnd1 (fX12_rootOf mme mde x3) fun r281 =>
      if r281 < 0 then
        fX12_inRoots_37 N mme mde p1 k4 x3 x2
      else
        bnd1 (fX12_rootOf mme mde x3) fun r282 =>
        k4 (x2 ||| (jshl 1 r282)) (x3 + 1)
    else
      fX12_inRoots_37 N mme mde p1 k4 x3 x2
def fX12_inRoots_4 (N : Nat) (mme : Nat → Int32) (mde : Int32) (p1 : Int32) : Nat → Int32 → Int32 → Option (Int32)
  | 0 => fun _ _ => none
  | n + 1 => fun x2 x3 => fX12_inRoots_4b N mme mde p1  (fX12_inRoots_4 N mme mde p1  n) x2 x3
def fX12_inRoots (N : Nat) (mme : Nat → Int32) (mde : Int32) (p1 : Int32) : Option (Int32) :=
  fX12_inRoots_4 N mme mde p1 N 0 0
def fX12_reached (N : Nat) (mme : Nat → Int32) (mde : Int32) : Option (Int32) :=
  bnd1 (fX12_inRoots N mme mde 0) fun r285 =>
  bnd1 (fX12_reach N mme mde r285 0) fun r286 =>
  some r286
def fX12_isReached (N : Nat) (mme : Nat → Int32) (mde : Int32) (p1 : Int32) : Option (Int32) :=
  bnd1 (fX12_reached N mme mde) fun r289 =>
  bnd1 (fX12_has r289 p1) fun r290 =>
  grd (isb r290) <|
  some r290
def fX12_thereAll_4b (N : Nat) (mme : Nat → Int32) (mde : Int32) (k4 : Int32 → Int32 → Option (Int32)) (x1 : Int32) (x2 : Int32) : Option (Int32) :=
  if 24 ≤ x2 then
    some x1
  else
    bnd1 (fX12_of mme mde x2 0) fun r292 =>
    k4 (x1 ||| (jshl r292 x2)) (x2 + 1)
def fX12_thereAll_4 (N : Nat) (mme : Nat → Int32) (mde : Int32) : Nat → Int32 → Int32 → Option (Int32)
  | 0 => fun _ _ => none
  | n + 1 => fun x1 x2 => fX12_thereAll_4b N mme mde  (fX12_thereAll_4 N mme mde  n) x1 x2
def fX12_thereAll (N : Nat) (mme : Nat → Int32) (mde : Int32) : Option (Int32) :=
  fX12_thereAll_4 N mme mde N 0 0
def fX12_makesOne_172 (N : Nat) (mde : Int32) (p1 : Int32) (p2 : Int32) (p3 : Int32) (p4 : Int32) (mme : Nat → Int32) (mco : Nat → Int32) (mcn : Nat → Int32) (mvi : Int32) (x5 : Int32) : Option (Int32 × (Nat → Int32) × (Nat → Int32) × (Nat → Int32) × Int32) :=
  bnd1 (fX12_logs mme mde 0 x5) fun mme_322 =>
  bnd1 (fX12_laysRoot N mme_322 mde p4 x5) fun mme_323 =>
  bnd4 (fX12_isActed N mme_323 mde mco mcn mvi) fun mme_324 mco_324 mcn_324 mvi_324 =>
  some (x5, mme_324, mco_324, mcn_324, mvi_324)
def fX12_makesOne_148b (N : Nat) (mde : Int32) (p1 : Int32) (p2 : Int32) (p3 : Int32) (p4 : Int32) (k148 : (Nat → Int32) → (Nat → Int32) → (Nat → Int32) → Int32 → Int32 → Int32 → Option (Int32 × (Nat → Int32) × (Nat → Int32) × (Nat → Int32) × Int32)) (mme : Nat → Int32) (mco : Nat → Int32) (mcn : Nat → Int32) (mvi : Int32) (x5 : Int32) (x6 : Int32) : Option (Int32 × (Nat → Int32) × (Nat → Int32) × (Nat → Int32) × Int32) :=
  if 4 ≤ x6 then
    fX12_makesOne_172 N mde p1 p2 p3 p4 mme mco mcn mvi x5
  else
    bnd1 (fX12_puts mme mde x5 (7 + x6) (-1)) fun mme_321 =>
    k148 mme_321 mco mcn mvi x5 (x6 + 1)
def fX12_makesOne_148 (N : Nat) (mde : Int32) (p1 : Int32) (p2 : Int32) (p3 : Int32) (p4 : Int32) : Nat → (Nat → Int32) → (Nat → Int32) → (Nat → Int32) → Int32 → Int32 → Int32 → Option (Int32 × (Nat → Int32) × (Nat → Int32) × (Nat → Int32) × Int32)
  | 0 => fun _ _ _ _ _ _ => none
  | n + 1 => fun mme mco mcn mvi x5 x6 => fX12_makesOne_148b N mde p1 p2 p3 p4  (fX12_makesOne_148 N mde p1 p2 p3 p4  n) mme mco mcn mvi x5 x6
def fX12_makesOne_78 (N : Nat) (mde : Int32) (p1 : Int32) (p2 : Int32) (p3 : Int32) (p4 : Int32) (mme : Nat → Int32) (mco : Nat → Int32) (mcn : Nat → Int32) (mvi : Int32) (x5 : Int32) : Option (Int32 × (Nat → Int32) × (Nat → Int32) × (Nat → Int32) × Int32) :=
  if x5 = 24 then
    some ((-2), mme, mco, mcn, mvi)
  else
    bnd1 (fX12_puts mme mde x5 0 1) fun mme_314 =>
    bnd1 (fX12_puts mme_314 mde x5 1 p1) fun mme_315 =>
    bnd1 (fX12_puts mme_315 mde x5 2 p2) fun mme_316 =>
    bnd1 (fX12_puts mme_316 mde x5 3 p3) fun mme_317 =>
    bnd1 (fX12_puts mme_317 mde x5 4 0) fun mme_318 =>
    bnd1 (fX12_puts mme_318 mde x5 5 0) fun mme_319 =>
    bnd1 (fX12_puts mme_319 mde x5 6 0) fun mme_320 =>
    fX12_makesOne_148 N mde p1 p2 p3 p4 N mme_320 mco mcn mvi x5 0
def fX12_makesOne_54b (N : Nat) (mde : Int32) (p1 : Int32) (p2 : Int32) (p3 : Int32) (p4 : Int32) (k54 : (Nat → Int32) → (Nat → Int32) → (Nat → Int32) → Int32 → Int32 → Option (Int32 × (Nat → Int32) × (Nat → Int32) × (Nat → Int32) × Int32)) (mme : Nat → Int32) (mco : Nat → Int32) (mcn : Nat → Int32) (mvi : Int32) (x5 : Int32) : Option (Int32 × (Nat → Int32) × (Nat → Int32) × (Nat → Int32) × Int32) :=
  if 24 ≤ x5 then
    fX12_makesOne_78 N mde p1 p2 p3 p4 mme mco mcn mvi x5
  else
    bnd1 (fX12_of mme mde x5 0) fun r313 =>
    if r313 = 1 then
      k54 mme mco mcn mvi (x5 + 1)
    else
      fX12_makesOne_78 N mde p1 p2 p3 p4 mme mco mcn mvi x5
def fX12_makesOne_54 (N : Nat) (mde : Int32) (p1 : Int32) (p2 : Int32) (p3 : Int32) (p4 : Int32) : Nat → (Nat → Int32) → (Nat → Int32) → (Nat → Int32) → Int32 → Int32 → Option (Int32 × (Nat → Int32) × (Nat → Int32) × (Nat → Int32) × Int32)
  | 0 => fun _ _ _ _ _ => none
  | n + 1 => fun mme mco mcn mvi x5 => fX12_makesOne_54b N mde p1 p2 p3 p4  (fX12_makesOne_54 N mde p1 p2 p3 p4  n) mme mco mcn mvi x5
def fX12_makesOne (N : Nat) (mme : Nat → Int32) (mde : Int32) (mco : Nat → Int32) (mcn : Nat → Int32) (mvi : Int32) (p1 : Int32) (p2 : Int32) (p3 : Int32) (p4 : Int32) : Option (Int32 × (Nat → Int32) × (Nat → Int32) × (Nat → Int32) × Int32) :=
  bnd1 (fX12_in p1.toInt64 0 4) fun r309 =>
  if r309 = 0 then
    some ((-1), mme, mco, mcn, mvi)
  else
    bnd1 (fX12_in p2.toInt64 1 9) fun r310 =>
    if r310 = 0 then
      some ((-1), mme, mco, mcn, mvi)
    else
      bnd1 (fX12_in p3.toInt64 0 7) fun r311 =>
      if r311 = 0 then
        some ((-1), mme, mco, mcn, mvi)
      else
        bnd1 (fX12_in p4.toInt64 0 5) fun r312 =>
        if r312 = 0 then
          some ((-1), mme, mco, mcn, mvi)
        else
          fX12_makesOne_54 N mde p1 p2 p3 p4 N mme mco mcn mvi 0
def fX12_isOther (mme : Nat → Int32) (mde : Int32) (p1 : Int32) : Option (Int32) :=
  if p1 = (-1) then
    some 1
  else
    bnd1 (fX12_isThere mme mde p1) fun r326 =>
    if r326 = 0 then
      some 0
    else
      some 1
def fX12_setsOne_72 (N : Nat) (mde : Int32) (p1 : Int32) (p2 : Int32) (p3 : Int32) (mme : Nat → Int32) (mco : Nat → Int32) (mcn : Nat → Int32) (mvi : Int32) : Option (Int32 × (Nat → Int32) × (Nat → Int32) × (Nat → Int32) × Int32) :=
  grd (inb (mde + 2) 5551) <|
  lt (mme (mde + 2).toNatClampNeg) fun v_344 =>
  bnd1 (fX12_laysField N mme mde p1 p2 p3) fun mme_345 =>
  bnd4 (fX12_isActed N mme_345 mde mco mcn mvi) fun mme_346 mco_346 mcn_346 mvi_346 =>
  grd (inb (mde + 2) 5551) <|
  some ((mme_346 (mde + 2).toNatClampNeg) - v_344, mme_346, mco_346, mcn_346, mvi_346)
def fX12_setsOne (N : Nat) (mme : Nat → Int32) (mde : Int32) (mco : Nat → Int32) (mcn : Nat → Int32) (mvi : Int32) (p1 : Int32) (p2 : Int32) (p3 : Int32) : Option (Int32 × (Nat → Int32) × (Nat → Int32) × (Nat → Int32) × Int32) :=
  bnd1 (fX12_isThere mme mde p1) fun r337 =>
  if r337 = 0 then
    some ((-1), mme, mco, mcn, mvi)
  else
    bnd1 (fX12_of mme mde p1 1) fun r338 =>
    bnd1 (fX12_in p2.toInt64 0 ((r338 - 1).toInt64)) fun r339 =>
    if r339 = 0 then
      some ((-1), mme, mco, mcn, mvi)
    else
      bnd1 (fX12_isOther mme mde p3) fun r340 =>
      if r340 = 0 then
        some ((-1), mme, mco, mcn, mvi)
      else
        bnd1 (fX12_fieldOf mme mde p1 p2) fun r341 =>
        if r341 = p3 then
          some ((-2), mme, mco, mcn, mvi)
        else
          bnd1 (fX12_isReached N mme mde p1) fun r342 =>
          if r342 = 0 then
            some ((-3), mme, mco, mcn, mvi)
          else
            if p3 < 0 then
              fX12_setsOne_72 N mde p1 p2 p3 mme mco mcn mvi
            else
              bnd1 (fX12_isReached N mme mde p3) fun r343 =>
              if r343 = 0 then
                some ((-3), mme, mco, mcn, mvi)
              else
                fX12_setsOne_72 N mde p1 p2 p3 mme mco mcn mvi
def fX12_rootsOne_49 (N : Nat) (mde : Int32) (p1 : Int32) (p2 : Int32) (mme : Nat → Int32) (mco : Nat → Int32) (mcn : Nat → Int32) (mvi : Int32) : Option (Int32 × (Nat → Int32) × (Nat → Int32) × (Nat → Int32) × Int32) :=
  grd (inb (mde + 2) 5551) <|
  lt (mme (mde + 2).toNatClampNeg) fun v_358 =>
  bnd1 (fX12_laysRoot N mme mde p1 p2) fun mme_359 =>
  bnd4 (fX12_isActed N mme_359 mde mco mcn mvi) fun mme_360 mco_360 mcn_360 mvi_360 =>
  grd (inb (mde + 2) 5551) <|
  some ((mme_360 (mde + 2).toNatClampNeg) - v_358, mme_360, mco_360, mcn_360, mvi_360)
def fX12_rootsOne (N : Nat) (mme : Nat → Int32) (mde : Int32) (mco : Nat → Int32) (mcn : Nat → Int32) (mvi : Int32) (p1 : Int32) (p2 : Int32) : Option (Int32 × (Nat → Int32) × (Nat → Int32) × (Nat → Int32) × Int32) :=
  bnd1 (fX12_in p1.toInt64 0 5) fun r354 =>
  if r354 = 0 then
    some ((-1), mme, mco, mcn, mvi)
  else
    bnd1 (fX12_isOther mme mde p2) fun r355 =>
    if r355 = 0 then
      some ((-1), mme, mco, mcn, mvi)
    else
      bnd1 (fX12_rootOf mme mde p1) fun r356 =>
      if r356 = p2 then
        some ((-2), mme, mco, mcn, mvi)
      else
        if p2 < 0 then
          fX12_rootsOne_49 N mde p1 p2 mme mco mcn mvi
        else
          bnd1 (fX12_isReached N mme mde p2) fun r357 =>
          if r357 = 0 then
            some ((-3), mme, mco, mcn, mvi)
          else
            fX12_rootsOne_49 N mde p1 p2 mme mco mcn mvi
def fX12_weaksOne_52 (N : Nat) (mde : Int32) (p1 : Int32) (p2 : Int32) (mme : Nat → Int32) (x3 : Int32) : Option (Int32 × (Nat → Int32)) :=
  grd (inb ((mde + 39) + p1) 5551) <|
  lt (upd mme ((mde + 39) + p1).toNatClampNeg p2) fun mme_370 =>
  some (x3, mme_370)
def fX12_weaksOne (N : Nat) (mme : Nat → Int32) (mde : Int32) (p1 : Int32) (p2 : Int32) : Option (Int32 × (Nat → Int32)) :=
  bnd1 (fX12_in p1.toInt64 0 3) fun r366 =>
  if r366 = 0 then
    some ((-4), mme)
  else
    bnd1 (fX12_isOther mme mde p2) fun r367 =>
    if r367 = 0 then
      some ((-4), mme)
    else
      bnd1 (fX12_weakOf mme mde p1) fun r368 =>
      if r368 = p2 then
        some ((-2), mme)
      else
        if p2 < 0 then
          fX12_weaksOne_52 N mde p1 p2 mme r368
        else
          bnd1 (fX12_isReached N mme mde p2) fun r369 =>
          if r369 = 0 then
            some ((-3), mme)
          else
            fX12_weaksOne_52 N mde p1 p2 mme r368
def fX12_wakesOne (N : Nat) (mme : Nat → Int32) (mde : Int32) (mco : Nat → Int32) (mcn : Nat → Int32) (mvi : Int32) (p1 : Int32) (p2 : Int32) : Option (Int32 × (Nat → Int32) × (Nat → Int32) × (Nat → Int32) × Int32) :=
  bnd1 (fX12_in p1.toInt64 0 3) fun r378 =>
  if r378 = 0 then
    some ((-1), mme, mco, mcn, mvi)
  else
    bnd1 (fX12_in p2.toInt64 0 5) fun r379 =>
    if r379 = 0 then
      some ((-1), mme, mco, mcn, mvi)
    else
      bnd1 (fX12_weakOf mme mde p1) fun r380 =>
      if 0 ≤ r380 then
        bnd1 (fX12_rootOf mme mde p2) fun r381 =>
        if r381 = r380 then
          some ((-2), mme, mco, mcn, mvi)
        else
          grd (inb (mde + 2) 5551) <|
          lt (mme (mde + 2).toNatClampNeg) fun v_382 =>
          bnd1 (fX12_laysRoot N mme mde p2 r380) fun mme_383 =>
          bnd4 (fX12_isActed N mme_383 mde mco mcn mvi) fun mme_384 mco_384 mcn_384 mvi_384 =>
          grd (inb (mde + 2) 5551) <|
          some ((mme_384 (mde + 2).toNatClampNeg) - v_382, mme_384, mco_384, mcn_384, mvi_384)
      else
        some ((-3), mme, mco, mcn, mvi)
def fX12_freedMany (mme : Nat → Int32) (mde : Int32) : Option (Int32) :=
  grd (inb ((mde + 3) + 1) 5551) <|
  grd (inb ((mde + 3) + 2) 5551) <|
  some ((mme ((mde + 3) + 1).toNatClampNeg) + (mme ((mde + 3) + 2).toNatClampNeg))
def fX12_trialOne (N : Nat) (mme : Nat → Int32) (mde : Int32) (mco : Nat → Int32) (mcn : Nat → Int32) (mvi : Int32) (men : Int32) : Option (Int32 × (Nat → Int32) × (Nat → Int32) × (Nat → Int32) × Int32 × Int32) :=
  bnd1 (fX12_listed mme mde) fun r391 =>
  if r391 = 0 then
    some ((-2), mme, mco, mcn, mvi, men)
  else
    bnd1 (fX12_freedMany mme mde) fun r392 =>
    grd (inb ((mde + 3) + 3) 5551) <|
    lt (mme ((mde + 3) + 3).toNatClampNeg) fun v_393 =>
    bnd4 (fX12_runsTrial N mme mde mco mcn mvi) fun mme_394 mco_394 mcn_394 mvi_394 =>
    grd (inb ((mde + 3) + 3) 5551) <|
    lt ((mme_394 ((mde + 3) + 3).toNatClampNeg) - v_393) fun men_395 =>
    bnd1 (fX12_freedMany mme_394 mde) fun r396 =>
    some (r396 - r392, mme_394, mco_394, mcn_394, mvi_394, men_395)
def fX12_entersBoth (N : Nat) (mto : Int32) (mrw : Nat → Int64) (mme : Nat → Int32) (mde : Int32) (p1 : Int32) : Option (Int32 × Int32 × (Nat → Int64)) :=
  if p1 < 0 then
    some (p1, mto, mrw)
  else
    bnd1 (fX12_thereAll N mme mde) fun r402 =>
    bnd1 (fX12_sizeOf N r402) fun r403 =>
    bnd2 (fX12_enters 0 mrw r403.toInt64) fun mto_404 mrw_404 =>
    bnd1 (fX12_listed mme mde) fun r405 =>
    bnd2 (fX12_enters mto_404 mrw_404 r405.toInt64) fun mto_406 mrw_406 =>
    some (p1, mto_406, mrw_406)
def fX12_done (N : Nat) (mme : Nat → Int32) (mun : Int32) (p1 : Int32) : Option (Int32 × (Nat → Int32) × Int32) :=
  if p1 < 0 then
    some (p1, mme, mun)
  else
    bnd2 (fX12_lays N mme mun) fun mme_408 mun_408 =>
    some (p1, mme_408, mun_408)
def fX12_makes_54 (N : Nat) (mde : Int32) (p1 : Int32) (p2 : Int32) (p3 : Int32) (p4 : Int32) (mth : Int32) (mto : Int32) (mrw : Nat → Int64) (mme : Nat → Int32) (mun : Int32) (mco : Nat → Int32) (mcn : Nat → Int32) (mvi : Int32) (x6 : Int32) : Option (Int32 × Int32 × Int32 × (Nat → Int64) × (Nat → Int32) × Int32 × (Nat → Int32) × (Nat → Int32) × Int32) :=
  bnd3 (fX12_done N mme mun x6) fun r418 mme_418 mun_418 =>
  some (r418, mth, mto, mrw, mme_418, mun_418, mco, mcn, mvi)
def fX12_makes (N : Nat) (mth : Int32) (mto : Int32) (mrw : Nat → Int64) (mme : Nat → Int32) (mun : Int32) (mde : Int32) (mco : Nat → Int32) (mcn : Nat → Int32) (mvi : Int32) (p1 : Int32) (p2 : Int32) (p3 : Int32) (p4 : Int32) : Option (Int32 × Int32 × Int32 × (Nat → Int64) × (Nat → Int32) × Int32 × (Nat → Int32) × (Nat → Int32) × Int32) :=
  bnd1 (fX12_copies N mme 0 3) fun mme_414 =>
  grd (inb 2 5551) <|
  lt (mme_414 (2 : Int32).toNatClampNeg) fun v_415 =>
  bnd5 (fX12_makesOne N mme_414 mde mco mcn mvi p1 p2 p3 p4) fun r416 mme_416 mco_416 mcn_416 mvi_416 =>
  if r416 < 0 then
    fX12_makes_54 N mde p1 p2 p3 p4 0 mto mrw mme_416 mun mco_416 mcn_416 mvi_416 r416
  else
    grd (inb 2 5551) <|
    bnd2 (fX12_enters 0 mrw (((mme_416 (2 : Int32).toNatClampNeg) - v_415).toInt64)) fun mto_417 mrw_417 =>
    fX12_makes_54 N mde p1 p2 p3 p4 0 mto_417 mrw_417 mme_416 mun mco_416 mcn_416 mvi_416 r416
def fX12_sets (N : Nat) (mth : Int32) (mto : Int32) (mrw : Nat → Int64) (mme : Nat → Int32) (mun : Int32) (mde : Int32) (mco : Nat → Int32) (mcn : Nat → Int32) (mvi : Int32) (p1 : Int32) (p2 : Int32) (p3 : Int32) : Option (Int32 × Int32 × Int32 × (Nat → Int64) × (Nat → Int32) × Int32 × (Nat → Int32) × (Nat → Int32) × Int32) :=
  bnd1 (fX12_copies N mme 0 3) fun mme_423 =>
  bnd5 (fX12_setsOne N mme_423 mde mco mcn mvi p1 p2 p3) fun r424 mme_424 mco_424 mcn_424 mvi_424 =>
  bnd3 (fX12_entersBoth N mto mrw mme_424 mde r424) fun r425 mto_425 mrw_425 =>
  bnd3 (fX12_done N mme_424 mun r425) fun r426 mme_426 mun_426 =>
  some (r426, 0, mto_425, mrw_425, mme_426, mun_426, mco_424, mcn_424, mvi_424)
def fX12_roots (N : Nat) (mth : Int32) (mto : Int32) (mrw : Nat → Int64) (mme : Nat → Int32) (mun : Int32) (mde : Int32) (mco : Nat → Int32) (mcn : Nat → Int32) (mvi : Int32) (p1 : Int32) (p2 : Int32) : Option (Int32 × Int32 × Int32 × (Nat → Int64) × (Nat → Int32) × Int32 × (Nat → Int32) × (Nat → Int32) × Int32) :=
  bnd1 (fX12_copies N mme 0 3) fun mme_431 =>
  bnd5 (fX12_rootsOne N mme_431 mde mco mcn mvi p1 p2) fun r432 mme_432 mco_432 mcn_432 mvi_432 =>
  bnd3 (fX12_entersBoth N mto mrw mme_432 mde r432) fun r433 mto_433 mrw_433 =>
  bnd3 (fX12_done N mme_432 mun r433) fun r434 mme_434 mun_434 =>
  some (r434, 0, mto_433, mrw_433, mme_434, mun_434, mco_432, mcn_432, mvi_432)
def fX12_weaks (N : Nat) (mth : Int32) (mme : Nat → Int32) (mun : Int32) (mde : Int32) (p1 : Int32) (p2 : Int32) : Option (Int32 × Int32 × (Nat → Int32) × Int32) :=
  bnd1 (fX12_copies N mme 0 3) fun mme_438 =>
  bnd2 (fX12_weaksOne N mme_438 mde p1 p2) fun r439 mme_439 =>
  if r439 < (-1) then
    some (r439, 0, mme_439, mun)
  else
    bnd2 (fX12_lays N mme_439 mun) fun mme_440 mun_440 =>
    some (r439, 0, mme_440, mun_440)
def fX12_wakes (N : Nat) (mth : Int32) (mto : Int32) (mrw : Nat → Int64) (mme : Nat → Int32) (mun : Int32) (mde : Int32) (mco : Nat → Int32) (mcn : Nat → Int32) (mvi : Int32) (p1 : Int32) (p2 : Int32) : Option (Int32 × Int32 × Int32 × (Nat → Int64) × (Nat → Int32) × Int32 × (Nat → Int32) × (Nat → Int32) × Int32) :=
  bnd1 (fX12_copies N mme 0 3) fun mme_445 =>
  bnd5 (fX12_wakesOne N mme_445 mde mco mcn mvi p1 p2) fun r446 mme_446 mco_446 mcn_446 mvi_446 =>
  bnd3 (fX12_entersBoth N mto mrw mme_446 mde r446) fun r447 mto_447 mrw_447 =>
  bnd3 (fX12_done N mme_446 mun r447) fun r448 mme_448 mun_448 =>
  some (r448, 0, mto_447, mrw_447, mme_448, mun_448, mco_446, mcn_446, mvi_446)
def fX12_trial_43 (N : Nat) (mde : Int32) (mth : Int32) (mto : Int32) (mrw : Nat → Int64) (mme : Nat → Int32) (mun : Int32) (mco : Nat → Int32) (mcn : Nat → Int32) (mvi : Int32) (men : Int32) (x1 : Int32) : Option (Int32 × Int32 × Int32 × (Nat → Int64) × (Nat → Int32) × Int32 × (Nat → Int32) × (Nat → Int32) × Int32 × Int32) :=
  bnd3 (fX12_done N mme mun x1) fun r458 mme_458 mun_458 =>
  some (r458, mth, mto, mrw, mme_458, mun_458, mco, mcn, mvi, men)
def fX12_trial (N : Nat) (mth : Int32) (mto : Int32) (mrw : Nat → Int64) (mme : Nat → Int32) (mun : Int32) (mde : Int32) (mco : Nat → Int32) (mcn : Nat → Int32) (mvi : Int32) (men : Int32) : Option (Int32 × Int32 × Int32 × (Nat → Int64) × (Nat → Int32) × Int32 × (Nat → Int32) × (Nat → Int32) × Int32 × Int32) :=
  bnd1 (fX12_copies N mme 0 3) fun mme_454 =>
  bnd6 (fX12_trialOne N mme_454 mde mco mcn mvi men) fun r455 mme_455 mco_455 mcn_455 mvi_455 men_455 =>
  if r455 < 0 then
    fX12_trial_43 N mde 0 mto mrw mme_455 mun mco_455 mcn_455 mvi_455 men_455 r455
  else
    bnd2 (fX12_enters 0 mrw men_455.toInt64) fun mto_456 mrw_456 =>
    bnd2 (fX12_enters mto_456 mrw_456 mvi_455.toInt64) fun mto_457 mrw_457 =>
    fX12_trial_43 N mde 0 mto_457 mrw_457 mme_455 mun mco_455 mcn_455 mvi_455 men_455 r455
def fX12_limit (N : Nat) (mth : Int32) (mme : Nat → Int32) (mun : Int32) (p1 : Int32) : Option (Int32 × Int32 × (Nat → Int32) × Int32) :=
  bnd1 (fX12_in p1.toInt64 1 24) fun r464 =>
  if r464 = 0 then
    some ((-1), 0, mme, mun)
  else
    grd (inb 0 5551) <|
    lt (mme (0 : Int32).toNatClampNeg) fun v_465 =>
    if v_465 = p1 then
      some ((-2), 0, mme, mun)
    else
      bnd1 (fX12_copies N mme 0 3) fun mme_466 =>
      grd (inb 0 5551) <|
      lt (upd mme_466 (0 : Int32).toNatClampNeg p1) fun mme_467 =>
      bnd3 (fX12_done N mme_467 mun v_465) fun r468 mme_468 mun_468 =>
      some (r468, 0, mme_468, mun_468)
def fX12_object_26 (N : Nat) (mme : Nat → Int32) (mde : Int32) (p1 : Int32) (p2 : Int32) (mth : Int32) (y0 : Int32) : Option (Int32 × Int32) :=
  bnd1 (fX12_flag y0) fun r483 =>
  if r483 = 1 then
    some (0, r483)
  else
    if p2 = 0 then
      bnd1 (fX12_of mme mde p1 5) fun r484 =>
      some (r484, r483)
    else
    if p2 = 1 then
      bnd1 (fX12_of mme mde p1 1) fun r485 =>
      some (r485, r483)
    else
    if p2 = 2 then
      bnd1 (fX12_of mme mde p1 2) fun r486 =>
      some (r486, r483)
    else
    if p2 = 3 then
      bnd1 (fX12_of mme mde p1 3) fun r487 =>
      some (r487, r483)
    else
    if p2 = 4 then
      bnd1 (fX12_of mme mde p1 4) fun r488 =>
      some (r488, r483)
    else
    if p2 = 5 then
      bnd1 (fX12_placeOnList N mme mde p1) fun r489 =>
      if 0 ≤ r489 then
        bnd1 (fX12_of mme mde p1 6) fun r490 =>
        if r490 = 1 then
          some (1, r483)
        else
          some (2, r483)
      else
        some (0, r483)
    else
      bnd1 (fX12_isReached N mme mde p1) fun r491 =>
      bnd1 (fX12_flag r491) fun r492 =>
      some (r492, r483)
def fX12_object_21 (N : Nat) (mme : Nat → Int32) (mde : Int32) (p1 : Int32) (p2 : Int32) (mth : Int32) : Option (Int32 × Int32) :=
  fX12_object_26 N mme mde p1 p2 mth 1
def fX12_object (N : Nat) (mth : Int32) (mme : Nat → Int32) (mde : Int32) (p1 : Int32) (p2 : Int32) : Option (Int32 × Int32) :=
  bnd1 (fX12_isThere mme mde p1) fun r481 =>
  if r481 = 0 then
    fX12_object_21 N mme mde p1 p2 mth
  else
    bnd1 (fX12_in p2.toInt64 0 6) fun r482 =>
    if r482 = 0 then
      fX12_object_21 N mme mde p1 p2 mth
    else
      fX12_object_26 N mme mde p1 p2 mth 0
def fX12_field_32 (mme : Nat → Int32) (mde : Int32) (p1 : Int32) (p2 : Int32) (mth : Int32) (y0 : Int32) : Option (Int32 × Int32) :=
  bnd1 (fX12_flag y0) fun r501 =>
  if r501 = 1 then
    some (0, r501)
  else
    bnd1 (fX12_fieldOf mme mde p1 p2) fun r502 =>
    some (r502, r501)
def fX12_field_27 (mme : Nat → Int32) (mde : Int32) (p1 : Int32) (p2 : Int32) (mth : Int32) : Option (Int32 × Int32) :=
  fX12_field_32 mme mde p1 p2 mth 1
def fX12_field (mth : Int32) (mme : Nat → Int32) (mde : Int32) (p1 : Int32) (p2 : Int32) : Option (Int32 × Int32) :=
  bnd1 (fX12_isThere mme mde p1) fun r498 =>
  if r498 = 0 then
    fX12_field_27 mme mde p1 p2 mth
  else
    bnd1 (fX12_of mme mde p1 1) fun r499 =>
    bnd1 (fX12_in p2.toInt64 0 ((r499 - 1).toInt64)) fun r500 =>
    if r500 = 0 then
      fX12_field_27 mme mde p1 p2 mth
    else
      fX12_field_32 mme mde p1 p2 mth 0
def fX12_root_18 (mme : Nat → Int32) (p1 : Int32) (mth : Int32) (y0 : Int32) : Option (Int32 × Int32) :=
  bnd1 (fX12_flag y0) fun r506 =>
  if r506 = 1 then
    some (0, r506)
  else
    grd (inb (33 + p1) 5551) <|
    some (mme (33 + p1).toNatClampNeg, r506)
def fX12_root (mth : Int32) (mme : Nat → Int32) (p1 : Int32) : Option (Int32 × Int32) :=
  bnd1 (fX12_in p1.toInt64 0 9) fun r505 =>
  if r505 = 0 then
    fX12_root_18 mme p1 mth 1
  else
    fX12_root_18 mme p1 mth 0
def fX12_weights_4b (N : Nat) (mme : Nat → Int32) (mde : Int32) (p1 : Int32) (k4 : Int32 → Int32 → Option (Int32)) (x2 : Int32) (x3 : Int32) : Option (Int32) :=
  if 24 ≤ x3 then
    some x2
  else
    bnd1 (fX12_has p1 x3) fun r509 =>
    if r509 = 0 then
      k4 (x2 + 0) (x3 + 1)
    else
      bnd1 (fX12_of mme mde x3 2) fun r510 =>
      k4 (x2 + r510) (x3 + 1)
def fX12_weights_4 (N : Nat) (mme : Nat → Int32) (mde : Int32) (p1 : Int32) : Nat → Int32 → Int32 → Option (Int32)
  | 0 => fun _ _ => none
  | n + 1 => fun x2 x3 => fX12_weights_4b N mme mde p1  (fX12_weights_4 N mme mde p1  n) x2 x3
def fX12_weights (N : Nat) (mme : Nat → Int32) (mde : Int32) (p1 : Int32) : Option (Int32) :=
  fX12_weights_4 N mme mde p1 N 0 0
def fX12_suspects_4b (N : Nat) (mme : Nat → Int32) (mde : Int32) (k4 : Int32 → Int32 → Option (Int32)) (x1 : Int32) (x2 : Int32) : Option (Int32) :=
  bnd1 (fX12_listed mme mde) fun r513 =>
  if r513 ≤ x2 then
    some x1
  else
    bnd1 (fX12_onList mme mde x2) fun r514 =>
    k4 (x1 ||| (jshl 1 r514)) (x2 + 1)
def fX12_suspects_4 (N : Nat) (mme : Nat → Int32) (mde : Int32) : Nat → Int32 → Int32 → Option (Int32)
  | 0 => fun _ _ => none
  | n + 1 => fun x1 x2 => fX12_suspects_4b N mme mde  (fX12_suspects_4 N mme mde  n) x1 x2
def fX12_suspects (N : Nat) (mme : Nat → Int32) (mde : Int32) : Option (Int32) :=
  fX12_suspects_4 N mme mde N 0 0
def fX12_all_64 (N : Nat) (mme : Nat → Int32) (mde : Int32) (p1 : Int32) (mth : Int32) (mto : Int32) (mrw : Nat → Int64) (y0 : Int32) : Option (Int32 × Int32 × Int32 × (Nat → Int64)) :=
  bnd1 (fX12_weights N mme mde y0) fun r527 =>
  bnd2 (fX12_enters 0 mrw r527.toInt64) fun mto_528 mrw_528 =>
  some (y0, mth, mto_528, mrw_528)
def fX12_all (N : Nat) (mth : Int32) (mto : Int32) (mrw : Nat → Int64) (mme : Nat → Int32) (mde : Int32) (p1 : Int32) : Option (Int32 × Int32 × Int32 × (Nat → Int64)) :=
  bnd1 (fX12_in p1.toInt64 0 3) fun r522 =>
  if r522 = 0 then
    some ((-1), 0, mto, mrw)
  else
    bnd1 (fX12_thereAll N mme mde) fun r523 =>
    if p1 = 0 then
      fX12_all_64 N mme mde p1 0 mto mrw r523
    else
      if p1 = 1 then
        bnd1 (fX12_reached N mme mde) fun r526 =>
        fX12_all_64 N mme mde p1 0 mto mrw r526
      else
        if p1 = 2 then
          bnd1 (fX12_reached N mme mde) fun r525 =>
          fX12_all_64 N mme mde p1 0 mto mrw (r523 &&& (r525 ^^^ (-1)))
        else
          bnd1 (fX12_suspects N mme mde) fun r524 =>
          fX12_all_64 N mme mde p1 0 mto mrw r524
def fX12_list_12b (N : Nat) (mme : Nat → Int32) (mde : Int32) (k12 : Int32 → Int32 → (Nat → Int64) → Int32 → Option (Int32 × Int32 × Int32 × (Nat → Int64))) (mth : Int32) (mto : Int32) (mrw : Nat → Int64) (x1 : Int32) : Option (Int32 × Int32 × Int32 × (Nat → Int64)) :=
  bnd1 (fX12_listed mme mde) fun r532 =>
  if r532 ≤ x1 then
    some (mto, mth, mto, mrw)
  else
    bnd1 (fX12_onList mme mde x1) fun r533 =>
    bnd2 (fX12_enters mto mrw r533.toInt64) fun mto_534 mrw_534 =>
    k12 mth mto_534 mrw_534 (x1 + 1)
def fX12_list_12 (N : Nat) (mme : Nat → Int32) (mde : Int32) : Nat → Int32 → Int32 → (Nat → Int64) → Int32 → Option (Int32 × Int32 × Int32 × (Nat → Int64))
  | 0 => fun _ _ _ _ => none
  | n + 1 => fun mth mto mrw x1 => fX12_list_12b N mme mde  (fX12_list_12 N mme mde  n) mth mto mrw x1
def fX12_list (N : Nat) (mth : Int32) (mto : Int32) (mrw : Nat → Int64) (mme : Nat → Int32) (mde : Int32) : Option (Int32 × Int32 × Int32 × (Nat → Int64)) :=
  fX12_list_12 N mme mde N 0 0 mrw 0
def fX12_holders_155 (N : Nat) (mme : Nat → Int32) (mde : Int32) (p1 : Int32) (mth : Int32) (mto : Int32) (mrw : Nat → Int64) (x2 : Int32) (x3 : Int32) (x4 : Int32) : Option (Int32 × Int32 × Int32 × (Nat → Int64)) :=
  bnd2 (fX12_enters 0 mrw x3.toInt64) fun mto_554 mrw_554 =>
  bnd2 (fX12_enters mto_554 mrw_554 x4.toInt64) fun mto_555 mrw_555 =>
  some (x2, mth, mto_555, mrw_555)
def fX12_holders_140 (N : Nat) (mme : Nat → Int32) (mde : Int32) (p1 : Int32) (k117 : Int32 → Int32 → (Nat → Int64) → Int32 → Int32 → Int32 → Int32 → Option (Int32 × Int32 × Int32 × (Nat → Int64))) (mth : Int32) (mto : Int32) (mrw : Nat → Int64) (x2 : Int32) (x3 : Int32) (x5 : Int32) (y0 : Int32) (y1 : Int32) : Option (Int32 × Int32 × Int32 × (Nat → Int64)) :=
  bnd1 (fX12_flag y0) fun r556 =>
  k117 mth mto mrw x2 x3 (y1 ||| (jshl r556 x5)) (x5 + 1)
def fX12_holders_117b (N : Nat) (mme : Nat → Int32) (mde : Int32) (p1 : Int32) (k117 : Int32 → Int32 → (Nat → Int64) → Int32 → Int32 → Int32 → Int32 → Option (Int32 × Int32 × Int32 × (Nat → Int64))) (mth : Int32) (mto : Int32) (mrw : Nat → Int64) (x2 : Int32) (x3 : Int32) (x4 : Int32) (x5 : Int32) : Option (Int32 × Int32 × Int32 × (Nat → Int64)) :=
  if 4 ≤ x5 then
    fX12_holders_155 N mme mde p1 mth mto mrw x2 x3 x4
  else
    bnd1 (fX12_weakOf mme mde x5) fun r552 =>
    if r552 = p1 then
      fX12_holders_140 N mme mde p1 k117 mth mto mrw x2 x3 x5 1 x4
    else
      fX12_holders_140 N mme mde p1 k117 mth mto mrw x2 x3 x5 0 x4
def fX12_holders_117 (N : Nat) (mme : Nat → Int32) (mde : Int32) (p1 : Int32) : Nat → Int32 → Int32 → (Nat → Int64) → Int32 → Int32 → Int32 → Int32 → Option (Int32 × Int32 × Int32 × (Nat → Int64))
  | 0 => fun _ _ _ _ _ _ _ => none
  | n + 1 => fun mth mto mrw x2 x3 x4 x5 => fX12_holders_117b N mme mde p1  (fX12_holders_117 N mme mde p1  n) mth mto mrw x2 x3 x4 x5
def fX12_holders_100 (N : Nat) (mme : Nat → Int32) (mde : Int32) (p1 : Int32) (k77 : Int32 → Int32 → (Nat → Int64) → Int32 → Int32 → Int32 → Int32 → Option (Int32 × Int32 × Int32 × (Nat → Int64))) (mth : Int32) (mto : Int32) (mrw : Nat → Int64) (x2 : Int32) (x4 : Int32) (x5 : Int32) (y0 : Int32) (y1 : Int32) : Option (Int32 × Int32 × Int32 × (Nat → Int64)) :=
  bnd1 (fX12_flag y0) fun r553 =>
  k77 mth mto mrw x2 (y1 ||| (jshl r553 x5)) x4 (x5 + 1)
def fX12_holders_77b (N : Nat) (mme : Nat → Int32) (mde : Int32) (p1 : Int32) (k77 : Int32 → Int32 → (Nat → Int64) → Int32 → Int32 → Int32 → Int32 → Option (Int32 × Int32 × Int32 × (Nat → Int64))) (mth : Int32) (mto : Int32) (mrw : Nat → Int64) (x2 : Int32) (x3 : Int32) (x4 : Int32) (x5 : Int32) : Option (Int32 × Int32 × Int32 × (Nat → Int64)) :=
  if 6 ≤ x5 then
    fX12_holders_117 N mme mde p1 N mth mto mrw x2 x3 x4 0
  else
    bnd1 (fX12_rootOf mme mde x5) fun r550 =>
    if r550 = p1 then
      fX12_holders_100 N mme mde p1 k77 mth mto mrw x2 x4 x5 1 x3
    else
      fX12_holders_100 N mme mde p1 k77 mth mto mrw x2 x4 x5 0 x3
def fX12_holders_77 (N : Nat) (mme : Nat → Int32) (mde : Int32) (p1 : Int32) : Nat → Int32 → Int32 → (Nat → Int64) → Int32 → Int32 → Int32 → Int32 → Option (Int32 × Int32 × Int32 × (Nat → Int64))
  | 0 => fun _ _ _ _ _ _ _ => none
  | n + 1 => fun mth mto mrw x2 x3 x4 x5 => fX12_holders_77b N mme mde p1  (fX12_holders_77 N mme mde p1  n) mth mto mrw x2 x3 x4 x5
def fX12_holders_60 (N : Nat) (mme : Nat → Int32) (mde : Int32) (p1 : Int32) (k25 : Int32 → Int32 → (Nat → Int64) → Int32 → Int32 → Int32 → Int32 → Option (Int32 × Int32 × Int32 × (Nat → Int64))) (mth : Int32) (mto : Int32) (mrw : Nat → Int64) (x3 : Int32) (x4 : Int32) (x5 : Int32) (y0 : Int32) (y1 : Int32) : Option (Int32 × Int32 × Int32 × (Nat → Int64)) :=
  bnd1 (fX12_flag y0) fun r551 =>
  k25 mth mto mrw (y1 ||| (jshl r551 x5)) x3 x4 (x5 + 1)
def fX12_holders_59 (N : Nat) (mme : Nat → Int32) (mde : Int32) (p1 : Int32) (k25 : Int32 → Int32 → (Nat → Int64) → Int32 → Int32 → Int32 → Int32 → Option (Int32 × Int32 × Int32 × (Nat → Int64))) (mth : Int32) (mto : Int32) (mrw : Nat → Int64) (x3 : Int32) (x4 : Int32) (x5 : Int32) (y0 : Int32) : Option (Int32 × Int32 × Int32 × (Nat → Int64)) :=
  fX12_holders_60 N mme mde p1 k25 mth mto mrw x3 x4 x5 0 y0
def fX12_holders_25b (N : Nat) (mme : Nat → Int32) (mde : Int32) (p1 : Int32) (k25 : Int32 → Int32 → (Nat → Int64) → Int32 → Int32 → Int32 → Int32 → Option (Int32 × Int32 × Int32 × (Nat → Int64))) (mth : Int32) (mto : Int32) (mrw : Nat → Int64) (x2 : Int32) (x3 : Int32) (x4 : Int32) (x5 : Int32) : Option (Int32 × Int32 × Int32 × (Nat → Int64)) :=
  if 24 ≤ x5 then
    fX12_holders_77 N mme mde p1 N mth mto mrw x2 x3 x4 0
  else
    bnd1 (fX12_isThere mme mde x5) fun r547 =>
    if r547 = 0 then
      fX12_holders_59 N mme mde p1 k25 mth mto mrw x3 x4 x5 x2
    else
      bnd1 (fX12_next N mme mde x5) fun r548 =>
      bnd1 (fX12_has r548 p1) fun r549 =>
      if r549 = 0 then
        fX12_holders_59 N mme mde p1 k25 mth mto mrw x3 x4 x5 x2
      else
        fX12_holders_60 N mme mde p1 k25 mth mto mrw x3 x4 x5 1 x2
def fX12_holders_25 (N : Nat) (mme : Nat → Int32) (mde : Int32) (p1 : Int32) : Nat → Int32 → Int32 → (Nat → Int64) → Int32 → Int32 → Int32 → Int32 → Option (Int32 × Int32 × Int32 × (Nat → Int64))
  | 0 => fun _ _ _ _ _ _ _ => none
  | n + 1 => fun mth mto mrw x2 x3 x4 x5 => fX12_holders_25b N mme mde p1  (fX12_holders_25 N mme mde p1  n) mth mto mrw x2 x3 x4 x5
def fX12_holders (N : Nat) (mth : Int32) (mto : Int32) (mrw : Nat → Int64) (mme : Nat → Int32) (mde : Int32) (p1 : Int32) : Option (Int32 × Int32 × Int32 × (Nat → Int64)) :=
  bnd1 (fX12_isThere mme mde p1) fun r546 =>
  if r546 = 0 then
    some ((-1), 0, mto, mrw)
  else
    fX12_holders_25 N mme mde p1 N 0 mto mrw 0 0 0 0
def fX12_measures_50b (N : Nat) (mme : Nat → Int32) (mde : Int32) (p1 : Int32) (k33 : (Nat → Int32) → Int32 → Option ((Nat → Int32))) (k41 : (Nat → Int32) → Int32 → Int32 → Option ((Nat → Int32))) (k50 : (Nat → Int32) → Int32 → Int32 → Int32 → Option ((Nat → Int32))) (mfa : Nat → Int32) (x2 : Int32) (x3 : Int32) (x4 : Int32) : Option ((Nat → Int32)) :=
  bnd1 (fX12_of mme mde x3 1) fun r565 =>
  if r565 ≤ x4 then
    k41 mfa x2 (x3 + 1)
  else
    bnd1 (fX12_isThere mme mde x3) fun r566 =>
    if r566 = 0 then
      k41 mfa x2 (x3 + 1)
    else
      bnd1 (fX12_fieldOf mme mde x3 x4) fun r567 =>
      if r567 < 0 then
        k50 mfa x2 x3 (x4 + 1)
      else
        grd (inb r567 24) <|
        grd (inb x3 24) <|
        if mfa x3.toNatClampNeg ≤ (mfa r567.toNatClampNeg) + 1 then
          k50 mfa x2 x3 (x4 + 1)
        else
          grd (inb r567 24) <|
          grd (inb x3 24) <|
          lt (upd mfa x3.toNatClampNeg ((mfa r567.toNatClampNeg) + 1)) fun mfa_568 =>
          k50 mfa_568 1 x3 (x4 + 1)
def fX12_measures_50 (N : Nat) (mme : Nat → Int32) (mde : Int32) (p1 : Int32) (k33 : (Nat → Int32) → Int32 → Option ((Nat → Int32))) (k41 : (Nat → Int32) → Int32 → Int32 → Option ((Nat → Int32))) : Nat → (Nat → Int32) → Int32 → Int32 → Int32 → Option ((Nat → Int32))
  | 0 => fun _ _ _ _ => none
  | n + 1 => fun mfa x2 x3 x4 => fX12_measures_50b N mme mde p1 k33 k41 (fX12_measures_50 N mme mde p1 k33 k41 n) mfa x2 x3 x4
def fX12_measures_41b (N : Nat) (mme : Nat → Int32) (mde : Int32) (p1 : Int32) (k33 : (Nat → Int32) → Int32 → Option ((Nat → Int32))) (k41 : (Nat → Int32) → Int32 → Int32 → Option ((Nat → Int32))) (mfa : Nat → Int32) (x2 : Int32) (x3 : Int32) : Option ((Nat → Int32)) :=
  if 24 ≤ x3 then
    k33 mfa x2
  else
    fX12_measures_50 N mme mde p1 k33 k41 N mfa x2 x3 0
def fX12_measures_41 (N : Nat) (mme : Nat → Int32) (mde : Int32) (p1 : Int32) (k33 : (Nat → Int32) → Int32 → Option ((Nat → Int32))) : Nat → (Nat → Int32) → Int32 → Int32 → Option ((Nat → Int32))
  | 0 => fun _ _ _ => none
  | n + 1 => fun mfa x2 x3 => fX12_measures_41b N mme mde p1 k33 (fX12_measures_41 N mme mde p1 k33 n) mfa x2 x3
def fX12_measures_33b (N : Nat) (mme : Nat → Int32) (mde : Int32) (p1 : Int32) (k33 : (Nat → Int32) → Int32 → Option ((Nat → Int32))) (mfa : Nat → Int32) (x2 : Int32) : Option ((Nat → Int32)) :=
  if x2 = 0 then
    some mfa
  else
    fX12_measures_41 N mme mde p1 k33 N mfa 0 0
def fX12_measures_33 (N : Nat) (mme : Nat → Int32) (mde : Int32) (p1 : Int32) : Nat → (Nat → Int32) → Int32 → Option ((Nat → Int32))
  | 0 => fun _ _ => none
  | n + 1 => fun mfa x2 => fX12_measures_33b N mme mde p1  (fX12_measures_33 N mme mde p1  n) mfa x2
def fX12_measures_2b (N : Nat) (mme : Nat → Int32) (mde : Int32) (p1 : Int32) (k2 : (Nat → Int32) → Int32 → Option ((Nat → Int32))) (mfa : Nat → Int32) (x2 : Int32) : Option ((Nat → Int32)) :=
  if 24 ≤ x2 then
    fX12_measures_33 N mme mde p1 N mfa 1
  else
    if x2 = p1 then
      grd (inb x2 24) <|
      lt (upd mfa x2.toNatClampNeg 1) fun mfa_564 =>
      k2 mfa_564 (x2 + 1)
    else
      grd (inb x2 24) <|
      lt (upd mfa x2.toNatClampNeg 100) fun mfa_563 =>
      k2 mfa_563 (x2 + 1)
def fX12_measures_2 (N : Nat) (mme : Nat → Int32) (mde : Int32) (p1 : Int32) : Nat → (Nat → Int32) → Int32 → Option ((Nat → Int32))
  | 0 => fun _ _ => none
  | n + 1 => fun mfa x2 => fX12_measures_2b N mme mde p1  (fX12_measures_2 N mme mde p1  n) mfa x2
def fX12_measures (N : Nat) (mme : Nat → Int32) (mde : Int32) (mfa : Nat → Int32) (p1 : Int32) : Option ((Nat → Int32)) :=
  fX12_measures_2 N mme mde p1 N mfa 0
def fX12_nearest_4b (N : Nat) (mfa : Nat → Int32) (p1 : Int32) (k4 : Int32 → Int32 → Option (Int32)) (x2 : Int32) (x3 : Int32) : Option (Int32) :=
  if 24 ≤ x3 then
    some x2
  else
    bnd1 (fX12_has p1 x3) fun r570 =>
    if r570 = 0 then
      k4 x2 (x3 + 1)
    else
      if x2 < 0 then
        k4 x3 (x3 + 1)
      else
        grd (inb x3 24) <|
        grd (inb x2 24) <|
        if mfa x2.toNatClampNeg ≤ mfa x3.toNatClampNeg then
          k4 x2 (x3 + 1)
        else
          k4 x3 (x3 + 1)
def fX12_nearest_4 (N : Nat) (mfa : Nat → Int32) (p1 : Int32) : Nat → Int32 → Int32 → Option (Int32)
  | 0 => fun _ _ => none
  | n + 1 => fun x2 x3 => fX12_nearest_4b N mfa p1  (fX12_nearest_4 N mfa p1  n) x2 x3
def fX12_nearest (N : Nat) (mfa : Nat → Int32) (p1 : Int32) : Option (Int32) :=
  fX12_nearest_4 N mfa p1 N (-1) 0
def fX12_way_52b (N : Nat) (mme : Nat → Int32) (mde : Int32) (p1 : Int32) (k52 : Int32 → Int32 → (Nat → Int64) → (Nat → Int32) → Int32 → Option (Int32 × Int32 × Int32 × (Nat → Int64) × (Nat → Int32))) (mth : Int32) (mto : Int32) (mrw : Nat → Int64) (mfa : Nat → Int32) (x2 : Int32) : Option (Int32 × Int32 × Int32 × (Nat → Int64) × (Nat → Int32)) :=
  if x2 = p1 then
    some (mto, mth, mto, mrw, mfa)
  else
    bnd1 (fX12_next N mme mde x2) fun r586 =>
    bnd1 (fX12_nearest N mfa r586) fun r587 =>
    bnd2 (fX12_enters mto mrw r587.toInt64) fun mto_588 mrw_588 =>
    k52 mth mto_588 mrw_588 mfa r587
def fX12_way_52 (N : Nat) (mme : Nat → Int32) (mde : Int32) (p1 : Int32) : Nat → Int32 → Int32 → (Nat → Int64) → (Nat → Int32) → Int32 → Option (Int32 × Int32 × Int32 × (Nat → Int64) × (Nat → Int32))
  | 0 => fun _ _ _ _ _ => none
  | n + 1 => fun mth mto mrw mfa x2 => fX12_way_52b N mme mde p1  (fX12_way_52 N mme mde p1  n) mth mto mrw mfa x2
def fX12_way (N : Nat) (mth : Int32) (mto : Int32) (mrw : Nat → Int64) (mme : Nat → Int32) (mde : Int32) (mfa : Nat → Int32) (p1 : Int32) : Option (Int32 × Int32 × Int32 × (Nat → Int64) × (Nat → Int32)) :=
  bnd1 (fX12_isThere mme mde p1) fun r580 =>
  if r580 = 0 then
    some ((-1), 0, mto, mrw, mfa)
  else
    bnd1 (fX12_isReached N mme mde p1) fun r581 =>
    if r581 = 0 then
      some ((-2), 0, mto, mrw, mfa)
    else
      bnd1 (fX12_measures N mme mde mfa p1) fun mfa_582 =>
      bnd1 (fX12_inRoots N mme mde 0) fun r583 =>
      bnd1 (fX12_nearest N mfa_582 r583) fun r584 =>
      bnd2 (fX12_enters 0 mrw r584.toInt64) fun mto_585 mrw_585 =>
      fX12_way_52 N mme mde p1 N 0 mto_585 mrw_585 mfa_582 r584
def fX12_from (N : Nat) (mth : Int32) (mto : Int32) (mrw : Nat → Int64) (mme : Nat → Int32) (mde : Int32) (p1 : Int32) : Option (Int32 × Int32 × Int32 × (Nat → Int64)) :=
  bnd1 (fX12_isThere mme mde p1) fun r596 =>
  if r596 = 0 then
    some ((-1), 0, mto, mrw)
  else
    bnd1 (fX12_next N mme mde p1) fun r597 =>
    bnd1 (fX12_reach N mme mde r597 0) fun r598 =>
    bnd1 (fX12_has r598 p1) fun r599 =>
    bnd1 (fX12_flag r599) fun r600 =>
    bnd2 (fX12_enters 0 mrw r600.toInt64) fun mto_601 mrw_601 =>
    bnd1 (fX12_reach N mme mde (jshl 1 p1) 0) fun r602 =>
    some (r602, 0, mto_601, mrw_601)
def fX12_rings_124 (N : Nat) (mme : Nat → Int32) (mde : Int32) (k14 : Int32 → Int32 → (Nat → Int64) → Int32 → Int32 → Option (Int32 × Int32 × Int32 × (Nat → Int64))) (mth : Int32) (mto : Int32) (mrw : Nat → Int64) (x1 : Int32) (x2 : Int32) (x3 : Int32) : Option (Int32 × Int32 × Int32 × (Nat → Int64)) :=
  bnd2 (fX12_enters mto mrw x3.toInt64) fun mto_623 mrw_623 =>
  k14 mth mto_623 mrw_623 (x1 ||| x3) (x2 + 1)
def fX12_rings_110 (N : Nat) (mme : Nat → Int32) (mde : Int32) (k14 : Int32 → Int32 → (Nat → Int64) → Int32 → Int32 → Option (Int32 × Int32 × Int32 × (Nat → Int64))) (k71 : Int32 → Int32 → (Nat → Int64) → Int32 → Int32 → Int32 → Int32 → Int32 → Option (Int32 × Int32 × Int32 × (Nat → Int64))) (mth : Int32) (mto : Int32) (mrw : Nat → Int64) (x1 : Int32) (x2 : Int32) (x4 : Int32) (x5 : Int32) (y0 : Int32) (y1 : Int32) : Option (Int32 × Int32 × Int32 × (Nat → Int64)) :=
  bnd1 (fX12_flag y0) fun r624 =>
  k71 mth mto mrw x1 x2 (y1 ||| (jshl r624 x5)) x4 (x5 + 1)
def fX12_rings_109 (N : Nat) (mme : Nat → Int32) (mde : Int32) (k14 : Int32 → Int32 → (Nat → Int64) → Int32 → Int32 → Option (Int32 × Int32 × Int32 × (Nat → Int64))) (k71 : Int32 → Int32 → (Nat → Int64) → Int32 → Int32 → Int32 → Int32 → Int32 → Option (Int32 × Int32 × Int32 × (Nat → Int64))) (mth : Int32) (mto : Int32) (mrw : Nat → Int64) (x1 : Int32) (x2 : Int32) (x4 : Int32) (x5 : Int32) (y0 : Int32) : Option (Int32 × Int32 × Int32 × (Nat → Int64)) :=
  fX12_rings_110 N mme mde k14 k71 mth mto mrw x1 x2 x4 x5 0 y0
def fX12_rings_71b (N : Nat) (mme : Nat → Int32) (mde : Int32) (k14 : Int32 → Int32 → (Nat → Int64) → Int32 → Int32 → Option (Int32 × Int32 × Int32 × (Nat → Int64))) (k71 : Int32 → Int32 → (Nat → Int64) → Int32 → Int32 → Int32 → Int32 → Int32 → Option (Int32 × Int32 × Int32 × (Nat → Int64))) (mth : Int32) (mto : Int32) (mrw : Nat → Int64) (x1 : Int32) (x2 : Int32) (x3 : Int32) (x4 : Int32) (x5 : Int32) : Option (Int32 × Int32 × Int32 × (Nat → Int64)) :=
  if 24 ≤ x5 then
    fX12_rings_124 N mme mde k14 mth mto mrw x1 x2 x3
  else
    bnd1 (fX12_has x4 x5) fun r620 =>
    if r620 = 0 then
      fX12_rings_109 N mme mde k14 k71 mth mto mrw x1 x2 x4 x5 x3
    else
      bnd1 (fX12_reach N mme mde (jshl 1 x5) 0) fun r621 =>
      bnd1 (fX12_has r621 x2) fun r622 =>
      if r622 = 0 then
        fX12_rings_109 N mme mde k14 k71 mth mto mrw x1 x2 x4 x5 x3
      else
        fX12_rings_110 N mme mde k14 k71 mth mto mrw x1 x2 x4 x5 1 x3
def fX12_rings_71 (N : Nat) (mme : Nat → Int32) (mde : Int32) (k14 : Int32 → Int32 → (Nat → Int64) → Int32 → Int32 → Option (Int32 × Int32 × Int32 × (Nat → Int64))) : Nat → Int32 → Int32 → (Nat → Int64) → Int32 → Int32 → Int32 → Int32 → Int32 → Option (Int32 × Int32 × Int32 × (Nat → Int64))
  | 0 => fun _ _ _ _ _ _ _ _ => none
  | n + 1 => fun mth mto mrw x1 x2 x3 x4 x5 => fX12_rings_71b N mme mde k14 (fX12_rings_71 N mme mde k14 n) mth mto mrw x1 x2 x3 x4 x5
def fX12_rings_14b (N : Nat) (mme : Nat → Int32) (mde : Int32) (k14 : Int32 → Int32 → (Nat → Int64) → Int32 → Int32 → Option (Int32 × Int32 × Int32 × (Nat → Int64))) (mth : Int32) (mto : Int32) (mrw : Nat → Int64) (x1 : Int32) (x2 : Int32) : Option (Int32 × Int32 × Int32 × (Nat → Int64)) :=
  if 24 ≤ x2 then
    some (mto, mth, mto, mrw)
  else
    bnd1 (fX12_isThere mme mde x2) fun r614 =>
    if r614 = 0 then
      k14 mth mto mrw x1 (x2 + 1)
    else
      bnd1 (fX12_has x1 x2) fun r615 =>
      if r615 = 0 then
        bnd1 (fX12_next N mme mde x2) fun r616 =>
        bnd1 (fX12_reach N mme mde r616 0) fun r617 =>
        bnd1 (fX12_has r617 x2) fun r618 =>
        if r618 = 0 then
          k14 mth mto mrw x1 (x2 + 1)
        else
          bnd1 (fX12_reach N mme mde (jshl 1 x2) 0) fun r619 =>
          fX12_rings_71 N mme mde k14 N mth mto mrw x1 x2 0 r619 0
      else
        k14 mth mto mrw x1 (x2 + 1)
def fX12_rings_14 (N : Nat) (mme : Nat → Int32) (mde : Int32) : Nat → Int32 → Int32 → (Nat → Int64) → Int32 → Int32 → Option (Int32 × Int32 × Int32 × (Nat → Int64))
  | 0 => fun _ _ _ _ _ => none
  | n + 1 => fun mth mto mrw x1 x2 => fX12_rings_14b N mme mde  (fX12_rings_14 N mme mde  n) mth mto mrw x1 x2
def fX12_rings (N : Nat) (mth : Int32) (mto : Int32) (mrw : Nat → Int64) (mme : Nat → Int32) (mde : Int32) : Option (Int32 × Int32 × Int32 × (Nat → Int64)) :=
  fX12_rings_14 N mme mde N 0 0 mrw 0 0
def fX12_aloneWith (N : Nat) (mme : Nat → Int32) (mde : Int32) (p1 : Int32) : Option (Int32) :=
  bnd1 (fX12_reached N mme mde) fun r629 =>
  bnd1 (fX12_has r629 p1) fun r630 =>
  if r630 = 0 then
    some 0
  else
    bnd1 (fX12_inRoots N mme mde 0) fun r631 =>
    bnd1 (fX12_reach N mme mde r631 (jshl 1 p1)) fun r632 =>
    some (r629 &&& (r632 ^^^ (-1)))
def fX12_alone (N : Nat) (mth : Int32) (mto : Int32) (mrw : Nat → Int64) (mme : Nat → Int32) (mde : Int32) (p1 : Int32) : Option (Int32 × Int32 × Int32 × (Nat → Int64)) :=
  bnd1 (fX12_isThere mme mde p1) fun r638 =>
  if r638 = 0 then
    some ((-1), 0, mto, mrw)
  else
    bnd1 (fX12_isReached N mme mde p1) fun r639 =>
    if r639 = 0 then
      some ((-2), 0, mto, mrw)
    else
      bnd1 (fX12_aloneWith N mme mde p1) fun r640 =>
      bnd1 (fX12_weights N mme mde r640) fun r641 =>
      bnd2 (fX12_enters 0 mrw r641.toInt64) fun mto_642 mrw_642 =>
      some (r640, 0, mto_642, mrw_642)
def fX12_keepers_82 (N : Nat) (mme : Nat → Int32) (mde : Int32) (p1 : Int32) (mth : Int32) (mto : Int32) (mrw : Nat → Int64) (x2 : Int32) : Option (Int32 × Int32 × Int32 × (Nat → Int64)) :=
  bnd1 (fX12_reached N mme mde) fun r661 =>
  bnd1 (fX12_inRoots N mme mde x2) fun r662 =>
  bnd1 (fX12_reach N mme mde r662 0) fun r663 =>
  bnd1 (fX12_sizeOf N (r661 &&& (r663 ^^^ (-1)))) fun r664 =>
  bnd2 (fX12_enters 0 mrw r664.toInt64) fun mto_665 mrw_665 =>
  some (x2, mth, mto_665, mrw_665)
def fX12_keepers_69 (N : Nat) (mme : Nat → Int32) (mde : Int32) (p1 : Int32) (k30 : Int32 → Int32 → (Nat → Int64) → Int32 → Int32 → Option (Int32 × Int32 × Int32 × (Nat → Int64))) (mth : Int32) (mto : Int32) (mrw : Nat → Int64) (x3 : Int32) (y0 : Int32) (y1 : Int32) : Option (Int32 × Int32 × Int32 × (Nat → Int64)) :=
  bnd1 (fX12_flag y0) fun r666 =>
  k30 mth mto mrw (y1 ||| (jshl r666 x3)) (x3 + 1)
def fX12_keepers_68 (N : Nat) (mme : Nat → Int32) (mde : Int32) (p1 : Int32) (k30 : Int32 → Int32 → (Nat → Int64) → Int32 → Int32 → Option (Int32 × Int32 × Int32 × (Nat → Int64))) (mth : Int32) (mto : Int32) (mrw : Nat → Int64) (x3 : Int32) (y0 : Int32) : Option (Int32 × Int32 × Int32 × (Nat → Int64)) :=
  fX12_keepers_69 N mme mde p1 k30 mth mto mrw x3 0 y0
def fX12_keepers_30b (N : Nat) (mme : Nat → Int32) (mde : Int32) (p1 : Int32) (k30 : Int32 → Int32 → (Nat → Int64) → Int32 → Int32 → Option (Int32 × Int32 × Int32 × (Nat → Int64))) (mth : Int32) (mto : Int32) (mrw : Nat → Int64) (x2 : Int32) (x3 : Int32) : Option (Int32 × Int32 × Int32 × (Nat → Int64)) :=
  if 6 ≤ x3 then
    fX12_keepers_82 N mme mde p1 mth mto mrw x2
  else
    bnd1 (fX12_rootOf mme mde x3) fun r657 =>
    if r657 < 0 then
      fX12_keepers_68 N mme mde p1 k30 mth mto mrw x3 x2
    else
      bnd1 (fX12_rootOf mme mde x3) fun r658 =>
      bnd1 (fX12_reach N mme mde (jshl 1 r658) 0) fun r659 =>
      bnd1 (fX12_has r659 p1) fun r660 =>
      if r660 = 0 then
        fX12_keepers_68 N mme mde p1 k30 mth mto mrw x3 x2
      else
        fX12_keepers_69 N mme mde p1 k30 mth mto mrw x3 1 x2
def fX12_keepers_30 (N : Nat) (mme : Nat → Int32) (mde : Int32) (p1 : Int32) : Nat → Int32 → Int32 → (Nat → Int64) → Int32 → Int32 → Option (Int32 × Int32 × Int32 × (Nat → Int64))
  | 0 => fun _ _ _ _ _ => none
  | n + 1 => fun mth mto mrw x2 x3 => fX12_keepers_30b N mme mde p1  (fX12_keepers_30 N mme mde p1  n) mth mto mrw x2 x3
def fX12_keepers (N : Nat) (mth : Int32) (mto : Int32) (mrw : Nat → Int64) (mme : Nat → Int32) (mde : Int32) (p1 : Int32) : Option (Int32 × Int32 × Int32 × (Nat → Int64)) :=
  bnd1 (fX12_isThere mme mde p1) fun r655 =>
  if r655 = 0 then
    some ((-1), 0, mto, mrw)
  else
    bnd1 (fX12_isReached N mme mde p1) fun r656 =>
    if r656 = 0 then
      some ((-2), 0, mto, mrw)
    else
      fX12_keepers_30 N mme mde p1 N 0 mto mrw 0 0
def fX12_cut (N : Nat) (mth : Int32) (mto : Int32) (mrw : Nat → Int64) (mme : Nat → Int32) (mde : Int32) (p1 : Int32) (p2 : Int32) : Option (Int32 × Int32 × Int32 × (Nat → Int64) × (Nat → Int32) × Int32) :=
  bnd1 (fX12_isThere mme mde p1) fun r678 =>
  if r678 = 0 then
    some ((-1), 0, mto, mrw, mme, mde)
  else
    bnd1 (fX12_of mme mde p1 1) fun r679 =>
    bnd1 (fX12_in p2.toInt64 0 ((r679 - 1).toInt64)) fun r680 =>
    if r680 = 0 then
      some ((-1), 0, mto, mrw, mme, mde)
    else
      bnd1 (fX12_fieldOf mme mde p1 p2) fun r681 =>
      if 0 ≤ r681 then
        bnd1 (fX12_thereAll N mme mde) fun r682 =>
        bnd2 (fX12_tries N mme mde) fun mme_683 mde_683 =>
        bnd1 (fX12_laysField N mme_683 mde_683 p1 p2 (-1)) fun mme_684 =>
        bnd1 (fX12_thereAll N mme_684 mde_683) fun r685 =>
        bnd1 (fX12_listed mme_684 mde_683) fun r686 =>
        bnd1 (fX12_isBack mde_683) fun mde_687 =>
        bnd2 (fX12_enters 0 mrw r686.toInt64) fun mto_688 mrw_688 =>
        some (r682 &&& (r685 ^^^ (-1)), 0, mto_688, mrw_688, mme_684, mde_687)
      else
        some ((-2), 0, mto, mrw, mme, mde)
def fX12_would (N : Nat) (mth : Int32) (mto : Int32) (mrw : Nat → Int64) (mme : Nat → Int32) (mde : Int32) (mco : Nat → Int32) (mcn : Nat → Int32) (mvi : Int32) (men : Int32) : Option (Int32 × Int32 × Int32 × (Nat → Int64) × (Nat → Int32) × Int32 × (Nat → Int32) × (Nat → Int32) × Int32 × Int32) :=
  bnd1 (fX12_listed mme mde) fun r699 =>
  if r699 = 0 then
    some ((-2), 0, mto, mrw, mme, mde, mco, mcn, mvi, men)
  else
    bnd1 (fX12_thereAll N mme mde) fun r700 =>
    bnd2 (fX12_tries N mme mde) fun mme_701 mde_701 =>
    bnd6 (fX12_trialOne N mme_701 mde_701 mco mcn mvi men) fun r702 mme_702 mco_702 mcn_702 mvi_702 men_702 =>
    bnd1 (fX12_thereAll N mme_702 mde_701) fun r703 =>
    bnd1 (fX12_listed mme_702 mde_701) fun r704 =>
    bnd1 (fX12_isBack mde_701) fun mde_705 =>
    bnd2 (fX12_enters 0 mrw men_702.toInt64) fun mto_706 mrw_706 =>
    bnd2 (fX12_enters mto_706 mrw_706 mvi_702.toInt64) fun mto_707 mrw_707 =>
    bnd2 (fX12_enters mto_707 mrw_707 r704.toInt64) fun mto_708 mrw_708 =>
    some (r700 &&& (r703 ^^^ (-1)), 0, mto_708, mrw_708, mme_702, mde_705, mco_702, mcn_702, mvi_702, men_702)
def fX12_settles_46 (N : Nat) (mth : Int32) (mto : Int32) (mrw : Nat → Int64) (mme : Nat → Int32) (mde : Int32) (mco : Nat → Int32) (mcn : Nat → Int32) (mvi : Int32) (x1 : Int32) (y0 : Int32) : Option (Int32 × Int32 × Int32 × (Nat → Int64) × (Nat → Int32) × Int32 × (Nat → Int32) × (Nat → Int32) × Int32) :=
  bnd1 (fX12_thereAll N mme mde) fun r724 =>
  bnd1 (fX12_reached N mme mde) fun r725 =>
  bnd1 (fX12_isBack mde) fun mde_726 =>
  if y0 = 0 then
    some ((-2), mth, mto, mrw, mme, mde_726, mco, mcn, mvi)
  else
    bnd1 (fX12_sizeOf N r724) fun r727 =>
    bnd2 (fX12_enters 0 mrw r727.toInt64) fun mto_728 mrw_728 =>
    bnd1 (fX12_sizeOf N (r724 &&& (r725 ^^^ (-1)))) fun r729 =>
    bnd2 (fX12_enters mto_728 mrw_728 r729.toInt64) fun mto_730 mrw_730 =>
    some (x1, mth, mto_730, mrw_730, mme, mde_726, mco, mcn, mvi)
def fX12_settles_34 (N : Nat) (mth : Int32) (mto : Int32) (mrw : Nat → Int64) (mme : Nat → Int32) (mde : Int32) (mco : Nat → Int32) (mcn : Nat → Int32) (mvi : Int32) (x1 : Int32) : Option (Int32 × Int32 × Int32 × (Nat → Int64) × (Nat → Int32) × Int32 × (Nat → Int32) × (Nat → Int32) × Int32) :=
  bnd1 (fX12_listed mme mde) fun r723 =>
  if r723 = 0 then
    fX12_settles_46 N mth mto mrw mme mde mco mcn mvi x1 1
  else
    fX12_settles_46 N mth mto mrw mme mde mco mcn mvi x1 0
def fX12_settles_11b (N : Nat) (k11 : Int32 → Int32 → (Nat → Int64) → (Nat → Int32) → Int32 → (Nat → Int32) → (Nat → Int32) → Int32 → Int32 → Option (Int32 × Int32 × Int32 × (Nat → Int64) × (Nat → Int32) × Int32 × (Nat → Int32) × (Nat → Int32) × Int32)) (mth : Int32) (mto : Int32) (mrw : Nat → Int64) (mme : Nat → Int32) (mde : Int32) (mco : Nat → Int32) (mcn : Nat → Int32) (mvi : Int32) (x1 : Int32) : Option (Int32 × Int32 × Int32 × (Nat → Int64) × (Nat → Int32) × Int32 × (Nat → Int32) × (Nat → Int32) × Int32) :=
  if 30 ≤ x1 then
    fX12_settles_34 N mth mto mrw mme mde mco mcn mvi x1
  else
    bnd1 (fX12_listed mme mde) fun r721 =>
    if r721 ≤ 0 then
      fX12_settles_34 N mth mto mrw mme mde mco mcn mvi x1
    else
      bnd4 (fX12_runsTrial N mme mde mco mcn mvi) fun mme_722 mco_722 mcn_722 mvi_722 =>
      k11 mth mto mrw mme_722 mde mco_722 mcn_722 mvi_722 (x1 + 1)
def fX12_settles_11 (N : Nat) : Nat → Int32 → Int32 → (Nat → Int64) → (Nat → Int32) → Int32 → (Nat → Int32) → (Nat → Int32) → Int32 → Int32 → Option (Int32 × Int32 × Int32 × (Nat → Int64) × (Nat → Int32) × Int32 × (Nat → Int32) × (Nat → Int32) × Int32)
  | 0 => fun _ _ _ _ _ _ _ _ _ => none
  | n + 1 => fun mth mto mrw mme mde mco mcn mvi x1 => fX12_settles_11b N  (fX12_settles_11 N  n) mth mto mrw mme mde mco mcn mvi x1
def fX12_settles (N : Nat) (mth : Int32) (mto : Int32) (mrw : Nat → Int64) (mme : Nat → Int32) (mde : Int32) (mco : Nat → Int32) (mcn : Nat → Int32) (mvi : Int32) : Option (Int32 × Int32 × Int32 × (Nat → Int64) × (Nat → Int32) × Int32 × (Nat → Int32) × (Nat → Int32) × Int32) :=
  bnd2 (fX12_tries N mme mde) fun mme_720 mde_720 =>
  fX12_settles_11 N N 0 mto mrw mme_720 mde_720 mco mcn mvi 0
def fX12_worth (N : Nat) (mme : Nat → Int32) (mde : Int32) (p1 : Int32) (p2 : Int32) : Option (Int32) :=
  if p2 = 0 then
    bnd1 (fX12_of mme mde p1 5) fun r738 =>
    some r738
  else
    if p2 = 1 then
      bnd1 (fX12_of mme mde p1 2) fun r737 =>
      some r737
    else
      bnd1 (fX12_aloneWith N mme mde p1) fun r735 =>
      bnd1 (fX12_weights N mme mde r735) fun r736 =>
      some r736
def fX12_ranks_83 (N : Nat) (mme : Nat → Int32) (mde : Int32) (p1 : Int32) (k29 : Int32 → Int32 → (Nat → Int64) → Int32 → Option (Int32 × Int32 × Int32 × (Nat → Int64))) (mth : Int32) (mto : Int32) (mrw : Nat → Int64) (x2 : Int32) (x3 : Int32) : Option (Int32 × Int32 × Int32 × (Nat → Int64)) :=
  bnd2 (fX12_enters mto mrw x3.toInt64) fun mto_751 mrw_751 =>
  lt (x2 &&& ((jshl 1 x3) ^^^ (-1))) fun v_752 =>
  k29 mth mto_751 mrw_751 v_752
def fX12_ranks_38b (N : Nat) (mme : Nat → Int32) (mde : Int32) (p1 : Int32) (k29 : Int32 → Int32 → (Nat → Int64) → Int32 → Option (Int32 × Int32 × Int32 × (Nat → Int64))) (k38 : Int32 → Int32 → (Nat → Int64) → Int32 → Int32 → Int32 → Option (Int32 × Int32 × Int32 × (Nat → Int64))) (mth : Int32) (mto : Int32) (mrw : Nat → Int64) (x2 : Int32) (x3 : Int32) (x4 : Int32) : Option (Int32 × Int32 × Int32 × (Nat → Int64)) :=
  if 24 ≤ x4 then
    fX12_ranks_83 N mme mde p1 k29 mth mto mrw x2 x3
  else
    bnd1 (fX12_has x2 x4) fun r748 =>
    if r748 = 0 then
      k38 mth mto mrw x2 x3 (x4 + 1)
    else
      if x3 < 0 then
        k38 mth mto mrw x2 x4 (x4 + 1)
      else
        bnd1 (fX12_worth N mme mde x4 p1) fun r749 =>
        bnd1 (fX12_worth N mme mde x3 p1) fun r750 =>
        if r749 ≤ r750 then
          k38 mth mto mrw x2 x3 (x4 + 1)
        else
          k38 mth mto mrw x2 x4 (x4 + 1)
def fX12_ranks_38 (N : Nat) (mme : Nat → Int32) (mde : Int32) (p1 : Int32) (k29 : Int32 → Int32 → (Nat → Int64) → Int32 → Option (Int32 × Int32 × Int32 × (Nat → Int64))) : Nat → Int32 → Int32 → (Nat → Int64) → Int32 → Int32 → Int32 → Option (Int32 × Int32 × Int32 × (Nat → Int64))
  | 0 => fun _ _ _ _ _ _ => none
  | n + 1 => fun mth mto mrw x2 x3 x4 => fX12_ranks_38b N mme mde p1 k29 (fX12_ranks_38 N mme mde p1 k29 n) mth mto mrw x2 x3 x4
def fX12_ranks_29b (N : Nat) (mme : Nat → Int32) (mde : Int32) (p1 : Int32) (k29 : Int32 → Int32 → (Nat → Int64) → Int32 → Option (Int32 × Int32 × Int32 × (Nat → Int64))) (mth : Int32) (mto : Int32) (mrw : Nat → Int64) (x2 : Int32) : Option (Int32 × Int32 × Int32 × (Nat → Int64)) :=
  if x2 = 0 then
    some (mto, mth, mto, mrw)
  else
    fX12_ranks_38 N mme mde p1 k29 N mth mto mrw x2 (-1) 0
def fX12_ranks_29 (N : Nat) (mme : Nat → Int32) (mde : Int32) (p1 : Int32) : Nat → Int32 → Int32 → (Nat → Int64) → Int32 → Option (Int32 × Int32 × Int32 × (Nat → Int64))
  | 0 => fun _ _ _ _ => none
  | n + 1 => fun mth mto mrw x2 => fX12_ranks_29b N mme mde p1  (fX12_ranks_29 N mme mde p1  n) mth mto mrw x2
def fX12_ranks (N : Nat) (mth : Int32) (mto : Int32) (mrw : Nat → Int64) (mme : Nat → Int32) (mde : Int32) (p1 : Int32) : Option (Int32 × Int32 × Int32 × (Nat → Int64)) :=
  bnd1 (fX12_in p1.toInt64 0 2) fun r746 =>
  if r746 = 0 then
    some ((-1), 0, mto, mrw)
  else
    bnd1 (fX12_thereAll N mme mde) fun r747 =>
    fX12_ranks_29 N mme mde p1 N 0 0 mrw r747
def fX12_log_50 (mme : Nat → Int32) (p1 : Int32) (p2 : Int32) (mth : Int32) (y0 : Int32) : Option (Int32 × Int32) :=
  bnd1 (fX12_flag y0) fun r760 =>
  if r760 = 1 then
    some (0, r760)
  else
    grd (nzb 60) <|
    grd (inb ((43 + (2 * (jrem p1 60))) + p2) 5551) <|
    some (mme ((43 + (2 * (jrem p1 60))) + p2).toNatClampNeg, r760)
def fX12_log_45 (mme : Nat → Int32) (p1 : Int32) (p2 : Int32) (mth : Int32) : Option (Int32 × Int32) :=
  fX12_log_50 mme p1 p2 mth 1
def fX12_log_25 (mme : Nat → Int32) (p1 : Int32) (p2 : Int32) (mth : Int32) (x3 : Int32) (y0 : Int64) (y1 : Int64) : Option (Int32 × Int32) :=
  bnd1 (fX12_in y1 y0 ((x3 - 1).toInt64)) fun r758 =>
  if r758 = 0 then
    fX12_log_45 mme p1 p2 mth
  else
    bnd1 (fX12_in p2.toInt64 0 1) fun r759 =>
    if r759 = 0 then
      fX12_log_45 mme p1 p2 mth
    else
      fX12_log_50 mme p1 p2 mth 0
def fX12_log (mth : Int32) (mme : Nat → Int32) (p1 : Int32) (p2 : Int32) : Option (Int32 × Int32) :=
  grd (inb 2 5551) <|
  lt (mme (2 : Int32).toNatClampNeg) fun v_757 =>
  if v_757 ≤ 60 then
    fX12_log_25 mme p1 p2 mth v_757 0 p1.toInt64
  else
    fX12_log_25 mme p1 p2 mth v_757 ((v_757 - 60).toInt64) p1.toInt64
def fX12_logged (mth : Int32) (mto : Int32) (mrw : Nat → Int64) (mme : Nat → Int32) (p1 : Int32) : Option (Int32 × Int32 × Int32 × (Nat → Int64)) :=
  bnd1 (fX12_in p1.toInt64 0 5) fun r763 =>
  if r763 = 0 then
    some ((-1), 0, mto, mrw)
  else
    grd (inb 2 5551) <|
    bnd2 (fX12_enters 0 mrw ((mme (2 : Int32).toNatClampNeg).toInt64)) fun mto_764 mrw_764 =>
    grd (inb (3 + p1) 5551) <|
    some (mme (3 + p1).toNatClampNeg, 0, mto_764, mrw_764)
def fX12_orNone (p1 : Int32) : Option (Int32) :=
  if p1 = 99 then
    some (-1)
  else
    some p1
def fX12_does (N : Nat) (mme : Nat → Int32) (mde : Int32) (mco : Nat → Int32) (mcn : Nat → Int32) (mvi : Int32) (men : Int32) (mac : Nat → Int32) (mfi : Nat → Int32) (mse : Nat → Int32) (mtd : Nat → Int32) (p1 : Int32) : Option (Int32 × (Nat → Int32) × (Nat → Int32) × (Nat → Int32) × Int32 × Int32) :=
  grd (inb p1 80) <|
  grd (inb p1 80) <|
  if mac p1.toNatClampNeg = 0 then
    grd (nzb 1000) <|
    grd (nzb 100) <|
    grd (nzb 10) <|
    grd (nzb 10) <|
    grd (nzb 10) <|
    grd (nzb 10) <|
    bnd5 (fX12_makesOne N mme mde mco mcn mvi ((mfi p1.toNatClampNeg) / 1000) (jrem ((mfi p1.toNatClampNeg) / 100) 10) (jrem ((mfi p1.toNatClampNeg) / 10) 10) (jrem (mfi p1.toNatClampNeg) 10)) fun r774 mme_774 mco_774 mcn_774 mvi_774 =>
    if r774 < 0 then
      some (0, mme_774, mco_774, mcn_774, mvi_774, men)
    else
      some (1, mme_774, mco_774, mcn_774, mvi_774, men)
  else
  if mac p1.toNatClampNeg = 1 then
    grd (inb p1 80) <|
    grd (inb p1 80) <|
    bnd1 (fX12_orNone (mtd p1.toNatClampNeg)) fun r775 =>
    bnd5 (fX12_setsOne N mme mde mco mcn mvi (mfi p1.toNatClampNeg) (mse p1.toNatClampNeg) r775) fun r776 mme_776 mco_776 mcn_776 mvi_776 =>
    if r776 < 0 then
      some (0, mme_776, mco_776, mcn_776, mvi_776, men)
    else
      some (1, mme_776, mco_776, mcn_776, mvi_776, men)
  else
  if mac p1.toNatClampNeg = 2 then
    grd (inb p1 80) <|
    bnd1 (fX12_orNone (mse p1.toNatClampNeg)) fun r777 =>
    bnd5 (fX12_rootsOne N mme mde mco mcn mvi (mfi p1.toNatClampNeg) r777) fun r778 mme_778 mco_778 mcn_778 mvi_778 =>
    if r778 < 0 then
      some (0, mme_778, mco_778, mcn_778, mvi_778, men)
    else
      some (1, mme_778, mco_778, mcn_778, mvi_778, men)
  else
  if mac p1.toNatClampNeg = 3 then
    grd (inb p1 80) <|
    bnd1 (fX12_orNone (mse p1.toNatClampNeg)) fun r779 =>
    bnd2 (fX12_weaksOne N mme mde (mfi p1.toNatClampNeg) r779) fun r780 mme_780 =>
    if r780 < (-1) then
      some (0, mme_780, mco, mcn, mvi, men)
    else
      some (1, mme_780, mco, mcn, mvi, men)
  else
  if mac p1.toNatClampNeg = 4 then
    grd (inb p1 80) <|
    bnd5 (fX12_wakesOne N mme mde mco mcn mvi (mfi p1.toNatClampNeg) (mse p1.toNatClampNeg)) fun r781 mme_781 mco_781 mcn_781 mvi_781 =>
    if r781 < 0 then
      some (0, mme_781, mco_781, mcn_781, mvi_781, men)
    else
      some (1, mme_781, mco_781, mcn_781, mvi_781, men)
  else
    bnd6 (fX12_trialOne N mme mde mco mcn mvi men) fun r782 mme_782 mco_782 mcn_782 mvi_782 men_782 =>
    if r782 < 0 then
      some (0, mme_782, mco_782, mcn_782, mvi_782, men_782)
    else
      some (1, mme_782, mco_782, mcn_782, mvi_782, men_782)
def fX12_draws (mra : Int32) (p1 : Int32) : Option (Int32 × Int32) :=
  lt ((mra * 1103515245) + 12345) fun mra_784 =>
  grd (nzb p1) <|
  some (jrem (jushr mra_784 16) p1, mra_784)
def fX12_drawsOther (mra : Int32) : Option (Int32 × Int32) :=
  bnd2 (fX12_draws mra 25) fun r786 mra_786 =>
  if r786 = 24 then
    some ((-1), mra_786)
  else
    some (r786, mra_786)
def fX12_drawnAct (N : Nat) (mme : Nat → Int32) (mde : Int32) (mco : Nat → Int32) (mcn : Nat → Int32) (mvi : Int32) (mra : Int32) : Option (Int32 × (Nat → Int32) × (Nat → Int32) × (Nat → Int32) × Int32 × Int32) :=
  bnd2 (fX12_draws mra 4) fun r799 mra_799 =>
  if r799 = 0 then
    bnd2 (fX12_draws mra_799 5) fun r807 mra_807 =>
    bnd2 (fX12_draws mra_807 8) fun r808 mra_808 =>
    bnd2 (fX12_draws mra_808 6) fun r809 mra_809 =>
    bnd5 (fX12_makesOne N mme mde mco mcn mvi r807 1 r808 r809) fun r810 mme_810 mco_810 mcn_810 mvi_810 =>
    some (r810, mme_810, mco_810, mcn_810, mvi_810, mra_809)
  else
    if r799 = 3 then
      bnd2 (fX12_draws mra_799 6) fun r804 mra_804 =>
      bnd2 (fX12_drawsOther mra_804) fun r805 mra_805 =>
      bnd5 (fX12_rootsOne N mme mde mco mcn mvi r804 r805) fun r806 mme_806 mco_806 mcn_806 mvi_806 =>
      some (r806, mme_806, mco_806, mcn_806, mvi_806, mra_805)
    else
      bnd2 (fX12_draws mra_799 24) fun r800 mra_800 =>
      bnd2 (fX12_draws mra_800 4) fun r801 mra_801 =>
      bnd2 (fX12_drawsOther mra_801) fun r802 mra_802 =>
      bnd5 (fX12_setsOne N mme mde mco mcn mvi r800 r801 r802) fun r803 mme_803 mco_803 mcn_803 mvi_803 =>
      some (r803, mme_803, mco_803, mcn_803, mvi_803, mra_802)
def fX12_years_60 (N : Nat) (p1 : Int32) (p2 : Int32) (mth : Int32) (mto : Int32) (mrw : Nat → Int64) (mme : Nat → Int32) (mde : Int32) (mco : Nat → Int32) (mcn : Nat → Int32) (mvi : Int32) (mra : Int32) (x3 : Int32) : Option (Int32 × Int32 × Int32 × (Nat → Int64) × (Nat → Int32) × Int32 × (Nat → Int32) × (Nat → Int32) × Int32 × Int32) :=
  bnd1 (fX12_thereAll N mme mde) fun r824 =>
  grd (inb (mde + 2) 5551) <|
  bnd2 (fX12_enters 0 mrw (((mme (mde + 2).toNatClampNeg) - x3).toInt64)) fun mto_825 mrw_825 =>
  bnd1 (fX12_listed mme mde) fun r826 =>
  bnd2 (fX12_enters mto_825 mrw_825 r826.toInt64) fun mto_827 mrw_827 =>
  bnd1 (fX12_isBack mde) fun mde_828 =>
  some (r824, mth, mto_827, mrw_827, mme, mde_828, mco, mcn, mvi, mra)
def fX12_years_43b (N : Nat) (p1 : Int32) (p2 : Int32) (k43 : Int32 → Int32 → (Nat → Int64) → (Nat → Int32) → Int32 → (Nat → Int32) → (Nat → Int32) → Int32 → Int32 → Int32 → Int32 → Option (Int32 × Int32 × Int32 × (Nat → Int64) × (Nat → Int32) × Int32 × (Nat → Int32) × (Nat → Int32) × Int32 × Int32)) (mth : Int32) (mto : Int32) (mrw : Nat → Int64) (mme : Nat → Int32) (mde : Int32) (mco : Nat → Int32) (mcn : Nat → Int32) (mvi : Int32) (mra : Int32) (x3 : Int32) (x4 : Int32) : Option (Int32 × Int32 × Int32 × (Nat → Int64) × (Nat → Int32) × Int32 × (Nat → Int32) × (Nat → Int32) × Int32 × Int32) :=
  if p2 ≤ x4 then
    fX12_years_60 N p1 p2 mth mto mrw mme mde mco mcn mvi mra x3
  else
    bnd6 (fX12_drawnAct N mme mde mco mcn mvi mra) fun r823 mme_823 mco_823 mcn_823 mvi_823 mra_823 =>
    k43 mth mto mrw mme_823 mde mco_823 mcn_823 mvi_823 mra_823 x3 (x4 + 1)
def fX12_years_43 (N : Nat) (p1 : Int32) (p2 : Int32) : Nat → Int32 → Int32 → (Nat → Int64) → (Nat → Int32) → Int32 → (Nat → Int32) → (Nat → Int32) → Int32 → Int32 → Int32 → Int32 → Option (Int32 × Int32 × Int32 × (Nat → Int64) × (Nat → Int32) × Int32 × (Nat → Int32) × (Nat → Int32) × Int32 × Int32)
  | 0 => fun _ _ _ _ _ _ _ _ _ _ _ => none
  | n + 1 => fun mth mto mrw mme mde mco mcn mvi mra x3 x4 => fX12_years_43b N p1 p2  (fX12_years_43 N p1 p2  n) mth mto mrw mme mde mco mcn mvi mra x3 x4
def fX12_years (N : Nat) (mth : Int32) (mto : Int32) (mrw : Nat → Int64) (mme : Nat → Int32) (mde : Int32) (mco : Nat → Int32) (mcn : Nat → Int32) (mvi : Int32) (mra : Int32) (p1 : Int32) (p2 : Int32) : Option (Int32 × Int32 × Int32 × (Nat → Int64) × (Nat → Int32) × Int32 × (Nat → Int32) × (Nat → Int32) × Int32 × Int32) :=
  bnd1 (fX12_in p2.toInt64 1 40) fun r820 =>
  if r820 = 0 then
    some ((-1), 0, mto, mrw, mme, mde, mco, mcn, mvi, mra)
  else
    bnd2 (fX12_tries N mme mde) fun mme_821 mde_821 =>
    grd (inb (mde_821 + 2) 5551) <|
    lt (mme_821 (mde_821 + 2).toNatClampNeg) fun v_822 =>
    fX12_years_43 N p1 p2 N 0 mto mrw mme_821 mde_821 mco mcn mvi p1 v_822 0
def fX12_keep (N : Nat) (mth : Int32) (mme : Nat → Int32) (mkp : Nat → Int32) (p1 : Int32) : Option (Int32 × Int32 × (Nat → Int32) × (Nat → Int32)) :=
  bnd1 (fX12_in p1.toInt64 0 1) fun r832 =>
  if r832 = 0 then
    some (0, 0, mme, mkp)
  else
    grd (inb p1 2) <|
    lt (upd mkp p1.toNatClampNeg (vp_nar .boolean 1)) fun mkp_833 =>
    bnd1 (fX12_copies N mme 0 (1 + p1)) fun mme_834 =>
    some (1, 0, mme_834, mkp_833)
def fX12_again (N : Nat) (mth : Int32) (mme : Nat → Int32) (mun : Int32) (mkp : Nat → Int32) (p1 : Int32) : Option (Int32 × Int32 × (Nat → Int32) × Int32) :=
  bnd1 (fX12_in p1.toInt64 0 1) fun r837 =>
  if r837 = 0 then
    some (0, 0, mme, mun)
  else
    grd (inb p1 2) <|
    if mkp p1.toNatClampNeg = 0 then
      some (0, 0, mme, mun)
    else
      bnd1 (fX12_copies N mme (1 + p1) 0) fun mme_838 =>
      some (1, 0, mme_838, 0)
def fX12_countsOfAll_4b (N : Nat) (mme : Nat → Int32) (mde : Int32) (k4 : Int32 → Int32 → Option (Int32)) (x1 : Int32) (x2 : Int32) : Option (Int32) :=
  if 24 ≤ x2 then
    some x1
  else
    bnd1 (fX12_isThere mme mde x2) fun r841 =>
    if r841 = 0 then
      k4 (x1 + 0) (x2 + 1)
    else
      bnd1 (fX12_of mme mde x2 5) fun r842 =>
      k4 (x1 + r842) (x2 + 1)
def fX12_countsOfAll_4 (N : Nat) (mme : Nat → Int32) (mde : Int32) : Nat → Int32 → Int32 → Option (Int32)
  | 0 => fun _ _ => none
  | n + 1 => fun x1 x2 => fX12_countsOfAll_4b N mme mde  (fX12_countsOfAll_4 N mme mde  n) x1 x2
def fX12_countsOfAll (N : Nat) (mme : Nat → Int32) (mde : Int32) : Option (Int32) :=
  fX12_countsOfAll_4 N mme mde N 0 0
def fX12_count (N : Nat) (mth : Int32) (mto : Int32) (mtp : Int32) (mme : Nat → Int32) (mun : Int32) (mde : Int32) (p1 : Int32) : Option (Int32 × Int32) :=
  if p1 = 0 then
    bnd1 (fX12_thereAll N mme mde) fun r847 =>
    bnd1 (fX12_sizeOf N r847) fun r848 =>
    some (r848, 0)
  else
  if p1 = 1 then
    bnd1 (fX12_listed mme mde) fun r849 =>
    some (r849, 0)
  else
  if p1 = 2 then
    grd (inb 0 5551) <|
    some (mme (0 : Int32).toNatClampNeg, 0)
  else
  if p1 = 3 then
    bnd1 (fX12_countsOfAll N mme mde) fun r850 =>
    some (r850, 0)
  else
  if p1 = 4 then
    grd (inb 2 5551) <|
    some (mme (2 : Int32).toNatClampNeg, 0)
  else
  if p1 = 5 then
    some (mun, 0)
  else
  if p1 = 6 then
    some (mto, 0)
  else
  if p1 = 7 then
    some (mtp, 0)
  else
    some ((-1), 0)
def fX12_row_22 (mto : Int32) (mrw : Nat → Int64) (p1 : Int32) (mth : Int32) (y0 : Int32) : Option (Int64 × Int32) :=
  bnd1 (fX12_flag y0) fun r854 =>
  if r854 = 1 then
    some (0, r854)
  else
    grd (inb p1 32) <|
    some (mrw p1.toNatClampNeg, r854)
def fX12_row (mth : Int32) (mto : Int32) (mrw : Nat → Int64) (p1 : Int32) : Option (Int64 × Int32) :=
  bnd1 (fX12_in p1.toInt64 0 ((mto - 1).toInt64)) fun r853 =>
  if r853 = 0 then
    fX12_row_22 mto mrw p1 mth 1
  else
    fX12_row_22 mto mrw p1 mth 0
