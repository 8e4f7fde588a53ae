def fX12_takesOf_d_2b (N : Nat) (mta : Nat → Int32) (mtt : Int32) (k2 : Int32 → Int32 → Option (Int32 × Int32)) (mat : Int32) (x2 : Int32) : Option (Int32 × Int32) :=
  if 10 ≤ x2 then
    some ((-1), mat)
  else
    if mtt ≤ mat then
      some ((-1), mat)
    else
      grd (inb x2 10) <|
      grd (inb mat 80) <|
      if strCh 0 x2.toNatClampNeg = mta mat.toNatClampNeg then
        lt (mat + 1) fun mat_856 =>
        some (x2, mat_856)
      else
        k2 mat (x2 + 1)
def fX12_takesOf_d_2 (N : Nat) (mta : Nat → Int32) (mtt : Int32) : Nat → Int32 → Int32 → Option (Int32 × Int32)
  | 0 => fun _ _ => none
  | n + 1 => fun mat x2 => fX12_takesOf_d_2b N mta mtt  (fX12_takesOf_d_2 N mta mtt  n) mat x2
def fX12_takesOf_d (N : Nat) (mta : Nat → Int32) (mat : Int32) (mtt : Int32) : Option (Int32 × Int32) :=
  fX12_takesOf_d_2 N mta mtt N mat 0
def fX12_takesOf_a_2b (N : Nat) (mta : Nat → Int32) (mtt : Int32) (k2 : Int32 → Int32 → Option (Int32 × Int32)) (mat : Int32) (x2 : Int32) : Option (Int32 × Int32) :=
  if 6 ≤ x2 then
    some ((-1), mat)
  else
    if mtt ≤ mat then
      some ((-1), mat)
    else
      grd (inb x2 6) <|
      grd (inb mat 80) <|
      if strCh 1 x2.toNatClampNeg = mta mat.toNatClampNeg then
        lt (mat + 1) fun mat_858 =>
        some (x2, mat_858)
      else
        k2 mat (x2 + 1)
def fX12_takesOf_a_2 (N : Nat) (mta : Nat → Int32) (mtt : Int32) : Nat → Int32 → Int32 → Option (Int32 × Int32)
  | 0 => fun _ _ => none
  | n + 1 => fun mat x2 => fX12_takesOf_a_2b N mta mtt  (fX12_takesOf_a_2 N mta mtt  n) mat x2
def fX12_takesOf_a (N : Nat) (mta : Nat → Int32) (mat : Int32) (mtt : Int32) : Option (Int32 × Int32) :=
  fX12_takesOf_a_2 N mta mtt N mat 0
def fX12_digits_4b (N : Nat) (mta : Nat → Int32) (mtt : Int32) (p1 : Int32) (k4 : Int32 → Int32 → Int32 → Option (Int32 × Int32)) (mat : Int32) (x2 : Int32) (x3 : Int32) : Option (Int32 × Int32) :=
  if p1 ≤ x3 then
    some (x2, mat)
  else
    if x2 < 0 then
      some (x2, mat)
    else
      bnd2 (fX12_takesOf_d N mta mat mtt) fun r860 mat_860 =>
      if 0 ≤ r860 then
        k4 mat_860 ((10 * x2) + r860) (x3 + 1)
      else
        k4 mat_860 (-1) (x3 + 1)
def fX12_digits_4 (N : Nat) (mta : Nat → Int32) (mtt : Int32) (p1 : Int32) : Nat → Int32 → Int32 → Int32 → Option (Int32 × Int32)
  | 0 => fun _ _ _ => none
  | n + 1 => fun mat x2 x3 => fX12_digits_4b N mta mtt p1  (fX12_digits_4 N mta mtt p1  n) mat x2 x3
def fX12_digits (N : Nat) (mta : Nat → Int32) (mat : Int32) (mtt : Int32) (p1 : Int32) : Option (Int32 × Int32) :=
  fX12_digits_4 N mta mtt p1 N mat 0 0
def fX12_readsAct_199 (N : Nat) (mta : Nat → Int32) (mtt : Int32) (p1 : Int32) (mat : Int32) (mac : Nat → Int32) (mfi : Nat → Int32) (mse : Nat → Int32) (mtd : Nat → Int32) (y0 : Int32) (y1 : Int32) : Option (Int32 × Int32 × (Nat → Int32) × (Nat → Int32) × (Nat → Int32) × (Nat → Int32)) :=
  grd (inb y1 80) <|
  lt (upd mtd y1.toNatClampNeg y0) fun mtd_882 =>
  grd (inb p1 80) <|
  if mtd_882 p1.toNatClampNeg < 0 then
    some (0, mat, mac, mfi, mse, mtd_882)
  else
    some (1, mat, mac, mfi, mse, mtd_882)
def fX12_readsAct_161 (N : Nat) (mta : Nat → Int32) (mtt : Int32) (p1 : Int32) (mat : Int32) (mac : Nat → Int32) (mfi : Nat → Int32) (mse : Nat → Int32) (mtd : Nat → Int32) (y0 : Int32) (y1 : Int32) : Option (Int32 × Int32 × (Nat → Int32) × (Nat → Int32) × (Nat → Int32) × (Nat → Int32)) :=
  grd (inb y1 80) <|
  lt (upd mse y1.toNatClampNeg y0) fun mse_880 =>
  grd (inb p1 80) <|
  if 0 ≤ mse_880 p1.toNatClampNeg then
    grd (inb p1 80) <|
    if mac p1.toNatClampNeg = 1 then
      bnd2 (fX12_digits N mta mat mtt 2) fun r881 mat_881 =>
      fX12_readsAct_199 N mta mtt p1 mat_881 mac mfi mse_880 mtd r881 p1
    else
      fX12_readsAct_199 N mta mtt p1 mat mac mfi mse_880 mtd 0 p1
  else
    fX12_readsAct_199 N mta mtt p1 mat mac mfi mse_880 mtd (-1) p1
def fX12_readsAct_152 (N : Nat) (mta : Nat → Int32) (mtt : Int32) (p1 : Int32) (mat : Int32) (mac : Nat → Int32) (mfi : Nat → Int32) (mse : Nat → Int32) (mtd : Nat → Int32) (y0 : Int32) : Option (Int32 × Int32 × (Nat → Int32) × (Nat → Int32) × (Nat → Int32) × (Nat → Int32)) :=
  bnd2 (fX12_digits N mta mat mtt 2) fun r879 mat_879 =>
  fX12_readsAct_161 N mta mtt p1 mat_879 mac mfi mse mtd r879 y0
def fX12_readsAct_124 (N : Nat) (mta : Nat → Int32) (mtt : Int32) (p1 : Int32) (mat : Int32) (mac : Nat → Int32) (mfi : Nat → Int32) (mse : Nat → Int32) (mtd : Nat → Int32) (y0 : Int32) : Option (Int32 × Int32 × (Nat → Int32) × (Nat → Int32) × (Nat → Int32) × (Nat → Int32)) :=
  bnd2 (fX12_digits N mta mat mtt 1) fun r878 mat_878 =>
  fX12_readsAct_161 N mta mtt p1 mat_878 mac mfi mse mtd r878 y0
def fX12_readsAct_85 (N : Nat) (mta : Nat → Int32) (mtt : Int32) (p1 : Int32) (mat : Int32) (mac : Nat → Int32) (mfi : Nat → Int32) (mse : Nat → Int32) (mtd : Nat → Int32) (y0 : Int32) (y1 : Int32) : Option (Int32 × Int32 × (Nat → Int32) × (Nat → Int32) × (Nat → Int32) × (Nat → Int32)) :=
  grd (inb y1 80) <|
  lt (upd mfi y1.toNatClampNeg y0) fun mfi_877 =>
  grd (inb p1 80) <|
  if 0 ≤ mfi_877 p1.toNatClampNeg then
    grd (inb p1 80) <|
    if mac p1.toNatClampNeg = 1 then
      fX12_readsAct_124 N mta mtt p1 mat mac mfi_877 mse mtd p1
    else
      grd (inb p1 80) <|
      if mac p1.toNatClampNeg = 4 then
        fX12_readsAct_124 N mta mtt p1 mat mac mfi_877 mse mtd p1
      else
        grd (inb p1 80) <|
        if mac p1.toNatClampNeg = 2 then
          fX12_readsAct_152 N mta mtt p1 mat mac mfi_877 mse mtd p1
        else
          grd (inb p1 80) <|
          if mac p1.toNatClampNeg = 3 then
            fX12_readsAct_152 N mta mtt p1 mat mac mfi_877 mse mtd p1
          else
            fX12_readsAct_161 N mta mtt p1 mat mac mfi_877 mse mtd 0 p1
  else
    fX12_readsAct_161 N mta mtt p1 mat mac mfi_877 mse mtd (-1) p1
def fX12_readsAct (N : Nat) (mta : Nat → Int32) (mat : Int32) (mtt : Int32) (mac : Nat → Int32) (mfi : Nat → Int32) (mse : Nat → Int32) (mtd : Nat → Int32) (p1 : Int32) : Option (Int32 × Int32 × (Nat → Int32) × (Nat → Int32) × (Nat → Int32) × (Nat → Int32)) :=
  bnd2 (fX12_takesOf_a N mta mat mtt) fun r872 mat_872 =>
  grd (inb p1 80) <|
  lt (upd mac p1.toNatClampNeg r872) fun mac_873 =>
  grd (inb p1 80) <|
  if 0 ≤ mac_873 p1.toNatClampNeg then
    grd (inb p1 80) <|
    if mac_873 p1.toNatClampNeg = 0 then
      bnd2 (fX12_digits N mta mat_872 mtt 4) fun r876 mat_876 =>
      fX12_readsAct_85 N mta mtt p1 mat_876 mac_873 mfi mse mtd r876 p1
    else
      grd (inb p1 80) <|
      if mac_873 p1.toNatClampNeg = 1 then
        bnd2 (fX12_digits N mta mat_872 mtt 2) fun r875 mat_875 =>
        fX12_readsAct_85 N mta mtt p1 mat_875 mac_873 mfi mse mtd r875 p1
      else
        grd (inb p1 80) <|
        if mac_873 p1.toNatClampNeg = 5 then
          fX12_readsAct_85 N mta mtt p1 mat_872 mac_873 mfi mse mtd 0 p1
        else
          bnd2 (fX12_digits N mta mat_872 mtt 1) fun r874 mat_874 =>
          fX12_readsAct_85 N mta mtt p1 mat_874 mac_873 mfi mse mtd r874 p1
  else
    fX12_readsAct_85 N mta mtt p1 mat_872 mac_873 mfi mse mtd (-1) p1
def fX12_day_108 (N : Nat) (mta : Nat → Int32) (mde : Int32) (mth : Int32) (mto : Int32) (mrw : Nat → Int64) (mtp : Int32) (mat : Int32) (mtt : Int32) (mme : Nat → Int32) (mun : Int32) (mco : Nat → Int32) (mcn : Nat → Int32) (mvi : Int32) (men : Int32) (mac : Nat → Int32) (mfi : Nat → Int32) (mse : Nat → Int32) (mtd : Nat → Int32) (x2 : Int32) (y0 : Int32) : Option (Int32 × Int32 × Int32 × (Nat → Int64) × Int32 × Int32 × Int32 × (Nat → Int32) × Int32 × (Nat → Int32) × (Nat → Int32) × Int32 × Int32 × (Nat → Int32) × (Nat → Int32) × (Nat → Int32) × (Nat → Int32)) :=
  bnd1 (fX12_flag y0) fun r896 =>
  bnd2 (fX12_enters mto mrw r896.toInt64) fun mto_897 mrw_897 =>
  bnd1 (fX12_thereAll N mme mde) fun r898 =>
  bnd1 (fX12_sizeOf N r898) fun r899 =>
  bnd2 (fX12_enters mto_897 mrw_897 r899.toInt64) fun mto_900 mrw_900 =>
  some (x2, mth, mto_900, mrw_900, mtp, mat, mtt, mme, mun, mco, mcn, mvi, men, mac, mfi, mse, mtd)
def fX12_day_92 (N : Nat) (mta : Nat → Int32) (mde : Int32) (mth : Int32) (mto : Int32) (mrw : Nat → Int64) (mtp : Int32) (mat : Int32) (mtt : Int32) (mme : Nat → Int32) (mun : Int32) (mco : Nat → Int32) (mcn : Nat → Int32) (mvi : Int32) (men : Int32) (mac : Nat → Int32) (mfi : Nat → Int32) (mse : Nat → Int32) (mtd : Nat → Int32) (x1 : Int32) (x2 : Int32) : Option (Int32 × Int32 × Int32 × (Nat → Int64) × Int32 × Int32 × Int32 × (Nat → Int32) × Int32 × (Nat → Int32) × (Nat → Int32) × Int32 × Int32 × (Nat → Int32) × (Nat → Int32) × (Nat → Int32) × (Nat → Int32)) :=
  if x1 ≤ x2 then
    fX12_day_108 N mta mde mth 0 mrw mtp mat mtt mme mun mco mcn mvi men mac mfi mse mtd x2 0
  else
    fX12_day_108 N mta mde mth 0 mrw mtp mat mtt mme mun mco mcn mvi men mac mfi mse mtd x2 1
def fX12_day_84 (N : Nat) (mta : Nat → Int32) (mde : Int32) (mth : Int32) (mto : Int32) (mrw : Nat → Int64) (mtp : Int32) (mat : Int32) (mtt : Int32) (mme : Nat → Int32) (mun : Int32) (mco : Nat → Int32) (mcn : Nat → Int32) (mvi : Int32) (men : Int32) (mac : Nat → Int32) (mfi : Nat → Int32) (mse : Nat → Int32) (mtd : Nat → Int32) (x1 : Int32) (x2 : Int32) : Option (Int32 × Int32 × Int32 × (Nat → Int64) × Int32 × Int32 × Int32 × (Nat → Int32) × Int32 × (Nat → Int32) × (Nat → Int32) × Int32 × Int32 × (Nat → Int32) × (Nat → Int32) × (Nat → Int32) × (Nat → Int32)) :=
  if x2 ≤ 0 then
    fX12_day_92 N mta mde mth mto mrw mtp mat mtt mme mun mco mcn mvi men mac mfi mse mtd x1 x2
  else
    bnd2 (fX12_lays N mme mun) fun mme_895 mun_895 =>
    fX12_day_92 N mta mde mth mto mrw mtp mat mtt mme_895 mun_895 mco mcn mvi men mac mfi mse mtd x1 x2
def fX12_day_65b (N : Nat) (mta : Nat → Int32) (mde : Int32) (k65 : Int32 → Int32 → (Nat → Int64) → Int32 → Int32 → Int32 → (Nat → Int32) → Int32 → (Nat → Int32) → (Nat → Int32) → Int32 → Int32 → (Nat → Int32) → (Nat → Int32) → (Nat → Int32) → (Nat → Int32) → Int32 → Int32 → Option (Int32 × Int32 × Int32 × (Nat → Int64) × Int32 × Int32 × Int32 × (Nat → Int32) × Int32 × (Nat → Int32) × (Nat → Int32) × Int32 × Int32 × (Nat → Int32) × (Nat → Int32) × (Nat → Int32) × (Nat → Int32))) (mth : Int32) (mto : Int32) (mrw : Nat → Int64) (mtp : Int32) (mat : Int32) (mtt : Int32) (mme : Nat → Int32) (mun : Int32) (mco : Nat → Int32) (mcn : Nat → Int32) (mvi : Int32) (men : Int32) (mac : Nat → Int32) (mfi : Nat → Int32) (mse : Nat → Int32) (mtd : Nat → Int32) (x1 : Int32) (x2 : Int32) : Option (Int32 × Int32 × Int32 × (Nat → Int64) × Int32 × Int32 × Int32 × (Nat → Int32) × Int32 × (Nat → Int32) × (Nat → Int32) × Int32 × Int32 × (Nat → Int32) × (Nat → Int32) × (Nat → Int32) × (Nat → Int32)) :=
  if x1 ≤ x2 then
    fX12_day_84 N mta mde mth mto mrw mtp mat mtt mme mun mco mcn mvi men mac mfi mse mtd x1 x2
  else
    bnd6 (fX12_does N mme mde mco mcn mvi men mac mfi mse mtd x2) fun r894 mme_894 mco_894 mcn_894 mvi_894 men_894 =>
    if r894 = 0 then
      fX12_day_84 N mta mde mth mto mrw mtp mat mtt mme_894 mun mco_894 mcn_894 mvi_894 men_894 mac mfi mse mtd x1 x2
    else
      k65 mth mto mrw mtp mat mtt mme_894 mun mco_894 mcn_894 mvi_894 men_894 mac mfi mse mtd x1 (x2 + 1)
def fX12_day_65 (N : Nat) (mta : Nat → Int32) (mde : Int32) : Nat → Int32 → Int32 → (Nat → Int64) → Int32 → Int32 → Int32 → (Nat → Int32) → Int32 → (Nat → Int32) → (Nat → Int32) → Int32 → Int32 → (Nat → Int32) → (Nat → Int32) → (Nat → Int32) → (Nat → Int32) → Int32 → Int32 → Option (Int32 × Int32 × Int32 × (Nat → Int64) × Int32 × Int32 × Int32 × (Nat → Int32) × Int32 × (Nat → Int32) × (Nat → Int32) × Int32 × Int32 × (Nat → Int32) × (Nat → Int32) × (Nat → Int32) × (Nat → Int32))
  | 0 => fun _ _ _ _ _ _ _ _ _ _ _ _ _ _ _ _ _ _ => none
  | n + 1 => fun mth mto mrw mtp mat mtt mme mun mco mcn mvi men mac mfi mse mtd x1 x2 => fX12_day_65b N mta mde  (fX12_day_65 N mta mde  n) mth mto mrw mtp mat mtt mme mun mco mcn mvi men mac mfi mse mtd x1 x2
def fX12_day_57 (N : Nat) (mta : Nat → Int32) (mde : Int32) (mth : Int32) (mto : Int32) (mrw : Nat → Int64) (mtp : Int32) (mat : Int32) (mtt : Int32) (mme : Nat → Int32) (mun : Int32) (mco : Nat → Int32) (mcn : Nat → Int32) (mvi : Int32) (men : Int32) (mac : Nat → Int32) (mfi : Nat → Int32) (mse : Nat → Int32) (mtd : Nat → Int32) (x1 : Int32) : Option (Int32 × Int32 × Int32 × (Nat → Int64) × Int32 × Int32 × Int32 × (Nat → Int32) × Int32 × (Nat → Int32) × (Nat → Int32) × Int32 × Int32 × (Nat → Int32) × (Nat → Int32) × (Nat → Int32) × (Nat → Int32)) :=
  bnd1 (fX12_copies N mme 0 3) fun mme_893 =>
  fX12_day_65 N mta mde N mth mto mrw mtp mat mtt mme_893 mun mco mcn mvi men mac mfi mse mtd x1 0
def fX12_day_25b (N : Nat) (mta : Nat → Int32) (mde : Int32) (k25 : Int32 → Int32 → (Nat → Int64) → Int32 → Int32 → Int32 → (Nat → Int32) → Int32 → (Nat → Int32) → (Nat → Int32) → Int32 → Int32 → (Nat → Int32) → (Nat → Int32) → (Nat → Int32) → (Nat → Int32) → Int32 → Option (Int32 × Int32 × Int32 × (Nat → Int64) × Int32 × Int32 × Int32 × (Nat → Int32) × Int32 × (Nat → Int32) × (Nat → Int32) × Int32 × Int32 × (Nat → Int32) × (Nat → Int32) × (Nat → Int32) × (Nat → Int32))) (mth : Int32) (mto : Int32) (mrw : Nat → Int64) (mtp : Int32) (mat : Int32) (mtt : Int32) (mme : Nat → Int32) (mun : Int32) (mco : Nat → Int32) (mcn : Nat → Int32) (mvi : Int32) (men : Int32) (mac : Nat → Int32) (mfi : Nat → Int32) (mse : Nat → Int32) (mtd : Nat → Int32) (x1 : Int32) : Option (Int32 × Int32 × Int32 × (Nat → Int64) × Int32 × Int32 × Int32 × (Nat → Int32) × Int32 × (Nat → Int32) × (Nat → Int32) × Int32 × Int32 × (Nat → Int32) × (Nat → Int32) × (Nat → Int32) × (Nat → Int32)) :=
  if mtt ≤ mat then
    fX12_day_57 N mta mde mth mto mrw mtp mat mtt mme mun mco mcn mvi men mac mfi mse mtd x1
  else
    bnd6 (fX12_readsAct N mta mat mtt mac mfi mse mtd x1) fun r892 mat_892 mac_892 mfi_892 mse_892 mtd_892 =>
    if r892 = 0 then
      some ((-1) - mat_892, mth, mto, mrw, mtp, mat_892, mtt, mme, mun, mco, mcn, mvi, men, mac_892, mfi_892, mse_892, mtd_892)
    else
      k25 mth mto mrw mtp mat_892 mtt mme mun mco mcn mvi men mac_892 mfi_892 mse_892 mtd_892 (x1 + 1)
def fX12_day_25 (N : Nat) (mta : Nat → Int32) (mde : Int32) : Nat → Int32 → Int32 → (Nat → Int64) → Int32 → Int32 → Int32 → (Nat → Int32) → Int32 → (Nat → Int32) → (Nat → Int32) → Int32 → Int32 → (Nat → Int32) → (Nat → Int32) → (Nat → Int32) → (Nat → Int32) → Int32 → Option (Int32 × Int32 × Int32 × (Nat → Int64) × Int32 × Int32 × Int32 × (Nat → Int32) × Int32 × (Nat → Int32) × (Nat → Int32) × Int32 × Int32 × (Nat → Int32) × (Nat → Int32) × (Nat → Int32) × (Nat → Int32))
  | 0 => fun _ _ _ _ _ _ _ _ _ _ _ _ _ _ _ _ _ => none
  | n + 1 => fun mth mto mrw mtp mat mtt mme mun mco mcn mvi men mac mfi mse mtd x1 => fX12_day_25b N mta mde  (fX12_day_25 N mta mde  n) mth mto mrw mtp mat mtt mme mun mco mcn mvi men mac mfi mse mtd x1
def fX12_day (N : Nat) (mth : Int32) (mto : Int32) (mrw : Nat → Int64) (mta : Nat → Int32) (mtp : Int32) (mat : Int32) (mtt : Int32) (mme : Nat → Int32) (mun : Int32) (mde : Int32) (mco : Nat → Int32) (mcn : Nat → Int32) (mvi : Int32) (men : Int32) (mac : Nat → Int32) (mfi : Nat → Int32) (mse : Nat → Int32) (mtd : Nat → Int32) : Option (Int32 × Int32 × Int32 × (Nat → Int64) × Int32 × Int32 × Int32 × (Nat → Int32) × Int32 × (Nat → Int32) × (Nat → Int32) × Int32 × Int32 × (Nat → Int32) × (Nat → Int32) × (Nat → Int32) × (Nat → Int32)) :=
  fX12_day_25 N mta mde N 0 mto mrw 0 0 mtp mme mun mco mcn mvi men mac mfi mse mtd 0
set_option maxRecDepth 100000 in
set_option maxHeartbeats 4000000 in
theorem qX12_takesOf_d_2 {p : Program} {l : Launch} {e : Env} {s : State} {m : MethodId} {args : Array Value} {below : List Frame} {meth : Method} {c : Code} {Z : ZC} {Y : YS} {mth : Int32} {mto : Int32} {mrw : Nat → Int64} {mta : Nat → Int32} {mtp : Int32} {mtt : Int32} {mme : Nat → Int32} {mun : Int32} {mde : Int32} {mco : Nat → Int32} {mcn : Nat → Int32} {mvi : Int32} {men : Int32} {mfa : Nat → Int32} {mac : Nat → Int32} {mfi : Nat → Int32} {mse : Nat → Int32} {mtd : Nat → Int32} {mra : Int32} {mkp : Nat → Int32} {N : Nat} {r' : Int32} {mat' : Int32} (F : CallFix p m c cX12_takesOf 3 s args bigW RX12) (hr : meth.sig.returnType = (some .int)) (hlk : meth.locks = false) (C0 : KMS Z Y s) : ∀ n : Nat, ∀ (mat : Int32) (x2 : Int32), fX12_takesOf_d_2 N mta mtt n mat x2 = some (r', mat') → ∀ (H : Heap) (locs : List Loc), PM Z mth mto mrw mta mtp mat mtt mme mun mde mco mcn mvi men mfa mac mfi mse mtd mra mkp H → va_S (AM Z) s.heap H locs → ∀ ls : Array Slot, lv_has ls 3 [(0, .ref (mA Z 0)), (1, .ref (Y.1 0)), (2, .int x2)] → W p l e (rmk 4 85) s m args below meth c H locs 0 0 (MQ below (Qi (KMS Z Y) (AM Z) (PM Z mth mto mrw mta mtp mat' mtt mme mun mde mco mcn mvi men mfa mac mfi mse mtd mra mkp) r') args s 0 0 (AM Z)) (F0 m 2 ls []) := by
  intro n
  induction n with
  | zero => intro mat x2 hE; cases hE
  | succ n h2 =>
    intro mat x2 hE H locs hP hS ls hl
    have C := C0.1
    have hE : fX12_takesOf_d_2b N mta mtt (fX12_takesOf_d_2 N mta mtt n) mat x2 = some (r', mat') := hE
    refine lv_iload_n F.1 F.2.1 dX12_takesOf_2 rfl (lv_at hl 2 rfl) ?_
    refine lv_aload_n F.1 F.2.1 dX12_takesOf_3 rfl (lv_at hl 1 rfl) ?_
    refine aft_i (run_V (rest := [.int x2]) F (kS_length (i := 0) (by decide)) (okMS Z Y) C0 hS lkX12_25 ⟨Nat.le_of_ble_eq_true rfl, Nat.le_of_ble_eq_true rfl⟩ (vk_recv C0.2.1.1 (i := 0) (by decide) hS) hP rfl hl.1 rfl (lv_room (Nat.le_of_ble_eq_true rfl)) dX12_takesOf_4 ⟨Nat.zero_le _, Nat.zero_le _⟩) hS (fun H locs hP hS => ?_)
    refine lv_icmp_ge (tgt := 56) F.1 F.2.1 dX12_takesOf_7 (by decide) (fun hc => ?_) (fun hc => ?_)
    · have hE := ifp hE hc
      refine lv_iconst (v := (-1)) F.1 F.2.1 dX12_takesOf_56 (by decide) ?_
      have w0 := Option.some.inj hE
      obtain ⟨g0, w1⟩ := Prod.mk.inj w0
      subst g0 w1
      exact ret_i F hr hlk hP hS dX12_takesOf_57
    · have hE := ifn hE hc
      refine lv_aload_n F.1 F.2.1 dX12_takesOf_10 rfl (lv_at hl 0 rfl) ?_
      refine gX12_31 F C hP dX12_takesOf_11 ?_
      refine lv_aload_n F.1 F.2.1 dX12_takesOf_14 rfl (lv_at hl 0 rfl) ?_
      refine gX12_34 F C hP dX12_takesOf_15 ?_
      refine lv_icmp_ge (tgt := 56) F.1 F.2.1 dX12_takesOf_18 (by decide) (fun hc => ?_) (fun hc => ?_)
      · have hE := ifp hE hc
        refine lv_iconst (v := (-1)) F.1 F.2.1 dX12_takesOf_56 (by decide) ?_
        have w0 := Option.some.inj hE
        obtain ⟨g0, w1⟩ := Prod.mk.inj w0
        subst g0 w1
        exact ret_i F hr hlk hP hS dX12_takesOf_57
      · have hE := ifn hE hc
        refine lv_aload_n F.1 F.2.1 dX12_takesOf_21 rfl (lv_at hl 1 rfl) ?_
        refine lv_iload_n F.1 F.2.1 dX12_takesOf_22 rfl (lv_at hl 2 rfl) ?_
        obtain ⟨hi, hE⟩ := grd_some hE
        refine aft_i (run_V (rest := []) F (kS_charAt (i := 0) (by decide) hi) (okMS Z Y) C0 hS lkX12_37 ⟨Nat.le_of_ble_eq_true rfl, Nat.le_of_ble_eq_true rfl⟩ (vk_recv C0.2.1.1 (i := 0) (by decide) hS) hP rfl hl.1 rfl (lv_room (Nat.le_of_ble_eq_true rfl)) dX12_takesOf_23 ⟨Nat.zero_le _, Nat.zero_le _⟩) hS (fun H locs hP hS => ?_)
        refine lv_aload_n F.1 F.2.1 dX12_takesOf_26 rfl (lv_at hl 0 rfl) ?_
        refine gX12_17 F C hP dX12_takesOf_27 ?_
        refine lv_aload_n F.1 F.2.1 dX12_takesOf_30 rfl (lv_at hl 0 rfl) ?_
        refine gX12_31 F C hP dX12_takesOf_31 ?_
        obtain ⟨hi, hE⟩ := grd_some hE
        refine am2 F C hP hi dX12_takesOf_34 ?_
        refine lv_icmp_ne (tgt := 50) F.1 F.2.1 dX12_takesOf_35 (by decide) (fun hc => ?_) (fun hc => ?_)
        · have hE := ifn hE hc
          refine lv_iinc (v := x2 + 1) (lv' := [(2, .int (x2 + 1)), (0, .ref (mA Z 0)), (1, .ref (Y.1 0))]) F.1 F.2.1 dX12_takesOf_50 hl (k := 2) rfl rfl (by decide) rfl (fun ls hl => ?_)
          refine lv_goto (tgt := 2) F.1 F.2.1 dX12_takesOf_53 (by decide) ?_
          exact h2 mat (x2 + 1) hE _ _ hP hS ls (lv_sub hl [1, 2, 0] rfl)
        · have hE := ifp hE hc
          refine lv_aload_n F.1 F.2.1 dX12_takesOf_38 rfl (lv_at hl 0 rfl) ?_
          refine lv_dup F.1 F.2.1 dX12_takesOf_39 rfl ?_
          refine gX12_31 F C hP dX12_takesOf_40 ?_
          refine lv_iconst (v := 1) F.1 F.2.1 dX12_takesOf_43 (by decide) ?_
          refine lv_iadd F.1 F.2.1 dX12_takesOf_44 ?_
          obtain ⟨mat_856, emat_856, hE⟩ := lt_some hE
          refine pX12_31 F C hP hS emat_856.symm dX12_takesOf_45 (fun H locs hP hS => ?_)
          refine lv_iload_n F.1 F.2.1 dX12_takesOf_48 rfl (lv_at hl 2 rfl) ?_
          have w0 := Option.some.inj hE
          obtain ⟨g0, w1⟩ := Prod.mk.inj w0
          subst g0 w1
          exact ret_i F hr hlk hP hS dX12_takesOf_49
set_option maxRecDepth 100000 in
set_option maxHeartbeats 4000000 in
theorem kX12_takesOf_d {l : Launch} {Z : ZC} {Y : YS} {mth : Int32} {mto : Int32} {mrw : Nat → Int64} {mta : Nat → Int32} {mtp : Int32} {mat : Int32} {mtt : Int32} {mme : Nat → Int32} {mun : Int32} {mde : Int32} {mco : Nat → Int32} {mcn : Nat → Int32} {mvi : Int32} {men : Int32} {mfa : Nat → Int32} {mac : Nat → Int32} {mfi : Nat → Int32} {mse : Nat → Int32} {mtd : Nat → Int32} {mra : Int32} {mkp : Nat → Int32} {N : Nat} {r' : Int32} {mat' : Int32} (hE : fX12_takesOf_d N mta mat mtt = some (r', mat')) : Mg l yX12_takesOf cX12_takesOf 3 (some .int) (rmk 4 85) (KMS Z Y) (AM Z) [.ref (mA Z 0), .ref (Y.1 0)] (PM Z mth mto mrw mta mtp mat mtt mme mun mde mco mcn mvi men mfa mac mfi mse mtd mra mkp) (Qi (KMS Z Y) (AM Z) (PM Z mth mto mrw mta mtp mat' mtt mme mun mde mco mcn mvi men mfa mac mfi mse mtd mra mkp) r') := by
  refine Mg.start (lv := [(0, .ref (mA Z 0)), (1, .ref (Y.1 0))]) (by decide) rfl (Nat.le_of_ble_eq_true rfl) rfl ?_
  intro p e s m below meth c F hr hlk C hP ls hl
  have C0 := C
  have C := C0.1
  have hS : va_S (AM Z) s.heap s.heap [] := va_S.rf
  unfold fX12_takesOf_d at hE
  refine lv_iconst (v := 0) F.1 F.2.1 dX12_takesOf_0 (by decide) ?_
  refine lv_istore_n (lv' := [(2, .int 0), (0, .ref (mA Z 0)), (1, .ref (Y.1 0))]) F.1 F.2.1 dX12_takesOf_1 rfl hl (by decide) rfl (fun ls hl => ?_)
  exact qX12_takesOf_d_2 F hr hlk C0 N mat 0 hE _ _ hP hS ls (lv_sub hl [1, 2, 0] rfl)
set_option maxRecDepth 100000 in
set_option maxHeartbeats 4000000 in
theorem qX12_takesOf_a_2 {p : Program} {l : Launch} {e : Env} {s : State} {m : MethodId} {args : Array Value} {below : List Frame} {meth : Method} {c : Code} {Z : ZC} {Y : YS} {mth : Int32} {mto : Int32} {mrw : Nat → Int64} {mta : Nat → Int32} {mtp : Int32} {mtt : Int32} {mme : Nat → Int32} {mun : Int32} {mde : Int32} {mco : Nat → Int32} {mcn : Nat → Int32} {mvi : Int32} {men : Int32} {mfa : Nat → Int32} {mac : Nat → Int32} {mfi : Nat → Int32} {mse : Nat → Int32} {mtd : Nat → Int32} {mra : Int32} {mkp : Nat → Int32} {N : Nat} {r' : Int32} {mat' : Int32} (F : CallFix p m c cX12_takesOf 3 s args bigW RX12) (hr : meth.sig.returnType = (some .int)) (hlk : meth.locks = false) (C0 : KMS Z Y s) : ∀ n : Nat, ∀ (mat : Int32) (x2 : Int32), fX12_takesOf_a_2 N mta mtt n mat x2 = some (r', mat') → ∀ (H : Heap) (locs : List Loc), PM Z mth mto mrw mta mtp mat mtt mme mun mde mco mcn mvi men mfa mac mfi mse mtd mra mkp H → va_S (AM Z) s.heap H locs → ∀ ls : Array Slot, lv_has ls 3 [(0, .ref (mA Z 0)), (1, .ref (Y.1 1)), (2, .int x2)] → W p l e (rmk 4 85) s m args below meth c H locs 0 0 (MQ below (Qi (KMS Z Y) (AM Z) (PM Z mth mto mrw mta mtp mat' mtt mme mun mde mco mcn mvi men mfa mac mfi mse mtd mra mkp) r') args s 0 0 (AM Z)) (F0 m 2 ls []) := by
  intro n
  induction n with
  | zero => intro mat x2 hE; cases hE
  | succ n h2 =>
    intro mat x2 hE H locs hP hS ls hl
    have C := C0.1
    have hE : fX12_takesOf_a_2b N mta mtt (fX12_takesOf_a_2 N mta mtt n) mat x2 = some (r', mat') := hE
    refine lv_iload_n F.1 F.2.1 dX12_takesOf_2 rfl (lv_at hl 2 rfl) ?_
    refine lv_aload_n F.1 F.2.1 dX12_takesOf_3 rfl (lv_at hl 1 rfl) ?_
    refine aft_i (run_V (rest := [.int x2]) F (kS_length (i := 1) (by decide)) (okMS Z Y) C0 hS lkX12_25 ⟨Nat.le_of_ble_eq_true rfl, Nat.le_of_ble_eq_true rfl⟩ (vk_recv C0.2.1.1 (i := 1) (by decide) hS) hP rfl hl.1 rfl (lv_room (Nat.le_of_ble_eq_true rfl)) dX12_takesOf_4 ⟨Nat.zero_le _, Nat.zero_le _⟩) hS (fun H locs hP hS => ?_)
    refine lv_icmp_ge (tgt := 56) F.1 F.2.1 dX12_takesOf_7 (by decide) (fun hc => ?_) (fun hc => ?_)
    · have hE := ifp hE hc
      refine lv_iconst (v := (-1)) F.1 F.2.1 dX12_takesOf_56 (by decide) ?_
      have w0 := Option.some.inj hE
      obtain ⟨g0, w1⟩ := Prod.mk.inj w0
      subst g0 w1
      exact ret_i F hr hlk hP hS dX12_takesOf_57
    · have hE := ifn hE hc
      refine lv_aload_n F.1 F.2.1 dX12_takesOf_10 rfl (lv_at hl 0 rfl) ?_
      refine gX12_31 F C hP dX12_takesOf_11 ?_
      refine lv_aload_n F.1 F.2.1 dX12_takesOf_14 rfl (lv_at hl 0 rfl) ?_
      refine gX12_34 F C hP dX12_takesOf_15 ?_
      refine lv_icmp_ge (tgt := 56) F.1 F.2.1 dX12_takesOf_18 (by decide) (fun hc => ?_) (fun hc => ?_)
      · have hE := ifp hE hc
        refine lv_iconst (v := (-1)) F.1 F.2.1 dX12_takesOf_56 (by decide) ?_
        have w0 := Option.some.inj hE
        obtain ⟨g0, w1⟩ := Prod.mk.inj w0
        subst g0 w1
        exact ret_i F hr hlk hP hS dX12_takesOf_57
      · have hE := ifn hE hc
        refine lv_aload_n F.1 F.2.1 dX12_takesOf_21 rfl (lv_at hl 1 rfl) ?_
        refine lv_iload_n F.1 F.2.1 dX12_takesOf_22 rfl (lv_at hl 2 rfl) ?_
        obtain ⟨hi, hE⟩ := grd_some hE
        refine aft_i (run_V (rest := []) F (kS_charAt (i := 1) (by decide) hi) (okMS Z Y) C0 hS lkX12_37 ⟨Nat.le_of_ble_eq_true rfl, Nat.le_of_ble_eq_true rfl⟩ (vk_recv C0.2.1.1 (i := 1) (by decide) hS) hP rfl hl.1 rfl (lv_room (Nat.le_of_ble_eq_true rfl)) dX12_takesOf_23 ⟨Nat.zero_le _, Nat.zero_le _⟩) hS (fun H locs hP hS => ?_)
        refine lv_aload_n F.1 F.2.1 dX12_takesOf_26 rfl (lv_at hl 0 rfl) ?_
        refine gX12_17 F C hP dX12_takesOf_27 ?_
        refine lv_aload_n F.1 F.2.1 dX12_takesOf_30 rfl (lv_at hl 0 rfl) ?_
        refine gX12_31 F C hP dX12_takesOf_31 ?_
        obtain ⟨hi, hE⟩ := grd_some hE
        refine am2 F C hP hi dX12_takesOf_34 ?_
        refine lv_icmp_ne (tgt := 50) F.1 F.2.1 dX12_takesOf_35 (by decide) (fun hc => ?_) (fun hc => ?_)
        · have hE := ifn hE hc
          refine lv_iinc (v := x2 + 1) (lv' := [(2, .int (x2 + 1)), (0, .ref (mA Z 0)), (1, .ref (Y.1 1))]) F.1 F.2.1 dX12_takesOf_50 hl (k := 2) rfl rfl (by decide) rfl (fun ls hl => ?_)
          refine lv_goto (tgt := 2) F.1 F.2.1 dX12_takesOf_53 (by decide) ?_
          exact h2 mat (x2 + 1) hE _ _ hP hS ls (lv_sub hl [1, 2, 0] rfl)
        · have hE := ifp hE hc
          refine lv_aload_n F.1 F.2.1 dX12_takesOf_38 rfl (lv_at hl 0 rfl) ?_
          refine lv_dup F.1 F.2.1 dX12_takesOf_39 rfl ?_
          refine gX12_31 F C hP dX12_takesOf_40 ?_
          refine lv_iconst (v := 1) F.1 F.2.1 dX12_takesOf_43 (by decide) ?_
          refine lv_iadd F.1 F.2.1 dX12_takesOf_44 ?_
          obtain ⟨mat_858, emat_858, hE⟩ := lt_some hE
          refine pX12_31 F C hP hS emat_858.symm dX12_takesOf_45 (fun H locs hP hS => ?_)
          refine lv_iload_n F.1 F.2.1 dX12_takesOf_48 rfl (lv_at hl 2 rfl) ?_
          have w0 := Option.some.inj hE
          obtain ⟨g0, w1⟩ := Prod.mk.inj w0
          subst g0 w1
          exact ret_i F hr hlk hP hS dX12_takesOf_49
set_option maxRecDepth 100000 in
set_option maxHeartbeats 4000000 in
theorem kX12_takesOf_a {l : Launch} {Z : ZC} {Y : YS} {mth : Int32} {mto : Int32} {mrw : Nat → Int64} {mta : Nat → Int32} {mtp : Int32} {mat : Int32} {mtt : Int32} {mme : Nat → Int32} {mun : Int32} {mde : Int32} {mco : Nat → Int32} {mcn : Nat → Int32} {mvi : Int32} {men : Int32} {mfa : Nat → Int32} {mac : Nat → Int32} {mfi : Nat → Int32} {mse : Nat → Int32} {mtd : Nat → Int32} {mra : Int32} {mkp : Nat → Int32} {N : Nat} {r' : Int32} {mat' : Int32} (hE : fX12_takesOf_a N mta mat mtt = some (r', mat')) : Mg l yX12_takesOf cX12_takesOf 3 (some .int) (rmk 4 85) (KMS Z Y) (AM Z) [.ref (mA Z 0), .ref (Y.1 1)] (PM Z mth mto mrw mta mtp mat mtt mme mun mde mco mcn mvi men mfa mac mfi mse mtd mra mkp) (Qi (KMS Z Y) (AM Z) (PM Z mth mto mrw mta mtp mat' mtt mme mun mde mco mcn mvi men mfa mac mfi mse mtd mra mkp) r') := by
  refine Mg.start (lv := [(0, .ref (mA Z 0)), (1, .ref (Y.1 1))]) (by decide) rfl (Nat.le_of_ble_eq_true rfl) rfl ?_
  intro p e s m below meth c F hr hlk C hP ls hl
  have C0 := C
  have C := C0.1
  have hS : va_S (AM Z) s.heap s.heap [] := va_S.rf
  unfold fX12_takesOf_a at hE
  refine lv_iconst (v := 0) F.1 F.2.1 dX12_takesOf_0 (by decide) ?_
  refine lv_istore_n (lv' := [(2, .int 0), (0, .ref (mA Z 0)), (1, .ref (Y.1 1))]) F.1 F.2.1 dX12_takesOf_1 rfl hl (by decide) rfl (fun ls hl => ?_)
  exact qX12_takesOf_a_2 F hr hlk C0 N mat 0 hE _ _ hP hS ls (lv_sub hl [1, 2, 0] rfl)
set_option maxRecDepth 100000 in
set_option maxHeartbeats 4000000 in
theorem qX12_digits_4 {p : Program} {l : Launch} {e : Env} {s : State} {m : MethodId} {args : Array Value} {below : List Frame} {meth : Method} {c : Code} {Z : ZC} {Y : YS} {mth : Int32} {mto : Int32} {mrw : Nat → Int64} {mta : Nat → Int32} {mtp : Int32} {mtt : Int32} {mme : Nat → Int32} {mun : Int32} {mde : Int32} {mco : Nat → Int32} {mcn : Nat → Int32} {mvi : Int32} {men : Int32} {mfa : Nat → Int32} {mac : Nat → Int32} {mfi : Nat → Int32} {mse : Nat → Int32} {mtd : Nat → Int32} {mra : Int32} {mkp : Nat → Int32} {N : Nat} {p1 : Int32} {r' : Int32} {mat' : Int32} (F : CallFix p m c cX12_digits 5 s args bigW RX12) (hr : meth.sig.returnType = (some .int)) (hlk : meth.locks = false) (C0 : KMS Z Y s) : ∀ n : Nat, ∀ (mat : Int32) (x2 : Int32) (x3 : Int32), fX12_digits_4 N mta mtt p1 n mat x2 x3 = some (r', mat') → ∀ (H : Heap) (locs : List Loc), PM Z mth mto mrw mta mtp mat mtt mme mun mde mco mcn mvi men mfa mac mfi mse mtd mra mkp H → va_S (AM Z) s.heap H locs → ∀ ls : Array Slot, lv_has ls 5 [(0, .ref (mA Z 0)), (1, .int p1), (2, .int x2), (3, .int x3)] → W p l e (rmk 5 107) s m args below meth c H locs 0 0 (MQ below (Qi (KMS Z Y) (AM Z) (PM Z mth mto mrw mta mtp mat' mtt mme mun mde mco mcn mvi men mfa mac mfi mse mtd mra mkp) r') args s 0 0 (AM Z)) (F0 m 4 ls []) := by
  intro n
  induction n with
  | zero => intro mat x2 x3 hE; cases hE
  | succ n h4 =>
    intro mat x2 x3 hE H locs hP hS ls hl
    have C := C0.1
    have hE : fX12_digits_4b N mta mtt p1 (fX12_digits_4 N mta mtt p1 n) mat x2 x3 = some (r', mat') := hE
    refine lv_iload_n F.1 F.2.1 dX12_digits_4 rfl (lv_at hl 3 rfl) ?_
    refine lv_iload_n F.1 F.2.1 dX12_digits_5 rfl (lv_at hl 1 rfl) ?_
    refine lv_icmp_ge (tgt := 44) F.1 F.2.1 dX12_digits_6 (by decide) (fun hc => ?_) (fun hc => ?_)
    · have hE := ifp hE hc
      refine lv_iload_n F.1 F.2.1 dX12_digits_44 rfl (lv_at hl 2 rfl) ?_
      have w0 := Option.some.inj hE
      obtain ⟨g0, w1⟩ := Prod.mk.inj w0
      subst g0 w1
      exact ret_i F hr hlk hP hS dX12_digits_45
    · have hE := ifn hE hc
      refine lv_iload_n F.1 F.2.1 dX12_digits_9 rfl (lv_at hl 2 rfl) ?_
      refine lv_if_lt (tgt := 44) F.1 F.2.1 dX12_digits_10 (by decide) (fun hc => ?_) (fun hc => ?_)
      · have hE := ifp hE hc
        refine lv_iload_n F.1 F.2.1 dX12_digits_44 rfl (lv_at hl 2 rfl) ?_
        have w0 := Option.some.inj hE
        obtain ⟨g0, w1⟩ := Prod.mk.inj w0
        subst g0 w1
        exact ret_i F hr hlk hP hS dX12_digits_45
      · have hE := ifn hE hc
        refine lv_aload_n F.1 F.2.1 dX12_digits_13 rfl (lv_at hl 0 rfl) ?_
        refine va_ldcS F.1 F.2.1 F.2.2.2.1 C0.2.2.1 dX12_digits_14 ?_
        obtain ⟨r860, mat_860, hc, hE⟩ := bnd2_some hE
        refine aft_i (run_V (rest := []) F (kX12_takesOf_d hc) (okMS Z Y) C0 hS lkX12_43 ⟨Nat.le_of_ble_eq_true rfl, Nat.le_of_ble_eq_true rfl⟩ (rvM C hP) hP rfl hl.1 rfl (lv_room (Nat.le_of_ble_eq_true rfl)) dX12_digits_16 ⟨Nat.zero_le _, Nat.zero_le _⟩) hS (fun H locs hP hS => ?_)
        refine lv_istore (lv' := [(4, .int r860), (0, .ref (mA Z 0)), (1, .int p1), (2, .int x2), (3, .int x3)]) F.1 F.2.1 dX12_digits_19 hl (by decide) rfl (fun ls hl => ?_)
        refine lv_iload F.1 F.2.1 dX12_digits_21 (lv_at hl 0 rfl) ?_
        refine lv_if_ge (tgt := 30) F.1 F.2.1 dX12_digits_23 (by decide) (fun hc => ?_) (fun hc => ?_)
        · have hE := ifp hE hc
          refine lv_bipush (v := 10) F.1 F.2.1 dX12_digits_30 (by decide) ?_
          refine lv_iload_n F.1 F.2.1 dX12_digits_32 rfl (lv_at hl 3 rfl) ?_
          refine lv_imul F.1 F.2.1 dX12_digits_33 ?_
          refine lv_iload F.1 F.2.1 dX12_digits_34 (lv_at hl 0 rfl) ?_
          refine lv_iadd F.1 F.2.1 dX12_digits_36 ?_
          refine lv_istore_n (lv' := [(2, .int ((10 * x2) + r860)), (4, .int r860), (0, .ref (mA Z 0)), (1, .int p1), (3, .int x3)]) F.1 F.2.1 dX12_digits_37 rfl hl (by decide) rfl (fun ls hl => ?_)
          refine lv_iinc (v := x3 + 1) (lv' := [(3, .int (x3 + 1)), (2, .int ((10 * x2) + r860)), (4, .int r860), (0, .ref (mA Z 0)), (1, .int p1)]) F.1 F.2.1 dX12_digits_38 hl (k := 4) rfl rfl (by decide) rfl (fun ls hl => ?_)
          refine lv_goto (tgt := 4) F.1 F.2.1 dX12_digits_41 (by decide) ?_
          exact h4 mat_860 ((10 * x2) + r860) (x3 + 1) hE _ _ hP hS ls (lv_sub hl [3, 4, 1, 0] rfl)
        · have hE := ifn hE hc
          refine lv_iconst (v := (-1)) F.1 F.2.1 dX12_digits_26 (by decide) ?_
          refine lv_goto (tgt := 37) F.1 F.2.1 dX12_digits_27 (by decide) ?_
          refine lv_istore_n (lv' := [(2, .int (-1)), (4, .int r860), (0, .ref (mA Z 0)), (1, .int p1), (3, .int x3)]) F.1 F.2.1 dX12_digits_37 rfl hl (by decide) rfl (fun ls hl => ?_)
          refine lv_iinc (v := x3 + 1) (lv' := [(3, .int (x3 + 1)), (2, .int (-1)), (4, .int r860), (0, .ref (mA Z 0)), (1, .int p1)]) F.1 F.2.1 dX12_digits_38 hl (k := 4) rfl rfl (by decide) rfl (fun ls hl => ?_)
          refine lv_goto (tgt := 4) F.1 F.2.1 dX12_digits_41 (by decide) ?_
          exact h4 mat_860 (-1) (x3 + 1) hE _ _ hP hS ls (lv_sub hl [3, 4, 1, 0] rfl)
set_option maxRecDepth 100000 in
set_option maxHeartbeats 4000000 in
theorem kX12_digits {l : Launch} {Z : ZC} {Y : YS} {mth : Int32} {mto : Int32} {mrw : Nat → Int64} {mta : Nat → Int32} {mtp : Int32} {mat : Int32} {mtt : Int32} {mme : Nat → Int32} {mun : Int32} {mde : Int32} {mco : Nat → Int32} {mcn : Nat → Int32} {mvi : Int32} {men : Int32} {mfa : Nat → Int32} {mac : Nat → Int32} {mfi : Nat → Int32} {mse : Nat → Int32} {mtd : Nat → Int32} {mra : Int32} {mkp : Nat → Int32} {N : Nat} {p1 : Int32} {r' : Int32} {mat' : Int32} (hE : fX12_digits N mta mat mtt p1 = some (r', mat')) : Mg l yX12_digits cX12_digits 5 (some .int) (rmk 5 107) (KMS Z Y) (AM Z) [.ref (mA Z 0), .int p1] (PM Z mth mto mrw mta mtp mat mtt mme mun mde mco mcn mvi men mfa mac mfi mse mtd mra mkp) (Qi (KMS Z Y) (AM Z) (PM Z mth mto mrw mta mtp mat' mtt mme mun mde mco mcn mvi men mfa mac mfi mse mtd mra mkp) r') := by
  refine Mg.start (lv := [(0, .ref (mA Z 0)), (1, .int p1)]) (by decide) rfl (Nat.le_of_ble_eq_true rfl) rfl ?_
  intro p e s m below meth c F hr hlk C hP ls hl
  have C0 := C
  have C := C0.1
  have hS : va_S (AM Z) s.heap s.heap [] := va_S.rf
  unfold fX12_digits at hE
  refine lv_iconst (v := 0) F.1 F.2.1 dX12_digits_0 (by decide) ?_
  refine lv_istore_n (lv' := [(2, .int 0), (0, .ref (mA Z 0)), (1, .int p1)]) F.1 F.2.1 dX12_digits_1 rfl hl (by decide) rfl (fun ls hl => ?_)
  refine lv_iconst (v := 0) F.1 F.2.1 dX12_digits_2 (by decide) ?_
  refine lv_istore_n (lv' := [(3, .int 0), (2, .int 0), (0, .ref (mA Z 0)), (1, .int p1)]) F.1 F.2.1 dX12_digits_3 rfl hl (by decide) rfl (fun ls hl => ?_)
  exact qX12_digits_4 F hr hlk C0 N mat 0 0 hE _ _ hP hS ls (lv_sub hl [2, 3, 1, 0] rfl)
set_option maxRecDepth 100000 in
set_option maxHeartbeats 4000000 in
theorem qX12_readsAct_199 {p : Program} {l : Launch} {e : Env} {s : State} {m : MethodId} {args : Array Value} {below : List Frame} {meth : Method} {c : Code} {Z : ZC} {Y : YS} {mth : Int32} {mto : Int32} {mrw : Nat → Int64} {mta : Nat → Int32} {mtp : Int32} {mtt : Int32} {mme : Nat → Int32} {mun : Int32} {mde : Int32} {mco : Nat → Int32} {mcn : Nat → Int32} {mvi : Int32} {men : Int32} {mfa : Nat → Int32} {mra : Int32} {mkp : Nat → Int32} {N : Nat} {p1 : Int32} {r' : Int32} {mat' : Int32} {mac' : Nat → Int32} {mfi' : Nat → Int32} {mse' : Nat → Int32} {mtd' : Nat → Int32} (F : CallFix p m c cX12_readsAct 2 s args bigW RX12) (hr : meth.sig.returnType = (some .boolean)) (hlk : meth.locks = false) (C0 : KMS Z Y s) : ∀ (mat : Int32) (mac : Nat → Int32) (mfi : Nat → Int32) (mse : Nat → Int32) (mtd : Nat → Int32) (y0 : Int32) (y1 : Int32), fX12_readsAct_199 N mta mtt p1 mat mac mfi mse mtd y0 y1 = some (r', mat', mac', mfi', mse', mtd') → ∀ (H : Heap) (locs : List Loc), PM Z mth mto mrw mta mtp mat mtt mme mun mde mco mcn mvi men mfa mac mfi mse mtd mra mkp H → va_S (AM Z) s.heap H locs → ∀ ls : Array Slot, lv_has ls 2 [(0, .ref (mA Z 0)), (1, .int p1)] → W p l e (rmk 6 131) s m args below meth c H locs 0 0 (MQ below (Qi (KMS Z Y) (AM Z) (PM Z mth mto mrw mta mtp mat' mtt mme mun mde mco mcn mvi men mfa mac' mfi' mse' mtd' mra mkp) r') args s 0 0 (AM Z)) (F0 m 199 ls [.int y0, .int y1, .ref (mA Z 10)]) := by
  intro mat mac mfi mse mtd y0 y1 hE H locs hP hS ls hl
  have C := C0.1
  unfold fX12_readsAct_199 at hE
  obtain ⟨hi, hE⟩ := grd_some hE
  obtain ⟨mtd_882, emtd_882, hE⟩ := lt_some hE
  refine sm10 F C hP hi hS emtd_882.symm dX12_readsAct_199 (fun H locs hP hS => ?_)
  refine lv_aload_n F.1 F.2.1 dX12_readsAct_200 rfl (lv_at hl 0 rfl) ?_
  refine gX12_74 F C hP dX12_readsAct_201 ?_
  refine lv_iload_n F.1 F.2.1 dX12_readsAct_204 rfl (lv_at hl 1 rfl) ?_
  obtain ⟨hi, hE⟩ := grd_some hE
  refine am10 F C hP hi dX12_readsAct_205 ?_
  refine lv_if_lt (tgt := 213) F.1 F.2.1 dX12_readsAct_206 (by decide) (fun hc => ?_) (fun hc => ?_)
  · have hE := ifp hE hc
    refine lv_iconst (v := 0) F.1 F.2.1 dX12_readsAct_213 (by decide) ?_
    have w0 := Option.some.inj hE
    obtain ⟨g0, w1⟩ := Prod.mk.inj w0
    obtain ⟨g1, w2⟩ := Prod.mk.inj w1
    obtain ⟨g2, w3⟩ := Prod.mk.inj w2
    obtain ⟨g3, w4⟩ := Prod.mk.inj w3
    obtain ⟨g4, w5⟩ := Prod.mk.inj w4
    subst g0 g1 g2 g3 g4 w5
    exact ret_z F hr rfl hlk hP hS dX12_readsAct_214
  · have hE := ifn hE hc
    refine lv_iconst (v := 1) F.1 F.2.1 dX12_readsAct_209 (by decide) ?_
    refine lv_goto (tgt := 214) F.1 F.2.1 dX12_readsAct_210 (by decide) ?_
    have w0 := Option.some.inj hE
    obtain ⟨g0, w1⟩ := Prod.mk.inj w0
    obtain ⟨g1, w2⟩ := Prod.mk.inj w1
    obtain ⟨g2, w3⟩ := Prod.mk.inj w2
    obtain ⟨g3, w4⟩ := Prod.mk.inj w3
    obtain ⟨g4, w5⟩ := Prod.mk.inj w4
    subst g0 g1 g2 g3 g4 w5
    exact ret_z F hr rfl hlk hP hS dX12_readsAct_214
set_option maxRecDepth 100000 in
set_option maxHeartbeats 4000000 in
theorem qX12_readsAct_161 {p : Program} {l : Launch} {e : Env} {s : State} {m : MethodId} {args : Array Value} {below : List Frame} {meth : Method} {c : Code} {Z : ZC} {Y : YS} {mth : Int32} {mto : Int32} {mrw : Nat → Int64} {mta : Nat → Int32} {mtp : Int32} {mtt : Int32} {mme : Nat → Int32} {mun : Int32} {mde : Int32} {mco : Nat → Int32} {mcn : Nat → Int32} {mvi : Int32} {men : Int32} {mfa : Nat → Int32} {mra : Int32} {mkp : Nat → Int32} {N : Nat} {p1 : Int32} {r' : Int32} {mat' : Int32} {mac' : Nat → Int32} {mfi' : Nat → Int32} {mse' : Nat → Int32} {mtd' : Nat → Int32} (F : CallFix p m c cX12_readsAct 2 s args bigW RX12) (hr : meth.sig.returnType = (some .boolean)) (hlk : meth.locks = false) (C0 : KMS Z Y s) : ∀ (mat : Int32) (mac : Nat → Int32) (mfi : Nat → Int32) (mse : Nat → Int32) (mtd : Nat → Int32) (y0 : Int32) (y1 : Int32), fX12_readsAct_161 N mta mtt p1 mat mac mfi mse mtd y0 y1 = some (r', mat', mac', mfi', mse', mtd') → ∀ (H : Heap) (locs : List Loc), PM Z mth mto mrw mta mtp mat mtt mme mun mde mco mcn mvi men mfa mac mfi mse mtd mra mkp H → va_S (AM Z) s.heap H locs → ∀ ls : Array Slot, lv_has ls 2 [(0, .ref (mA Z 0)), (1, .int p1)] → W p l e (rmk 6 131) s m args below meth c H locs 0 0 (MQ below (Qi (KMS Z Y) (AM Z) (PM Z mth mto mrw mta mtp mat' mtt mme mun mde mco mcn mvi men mfa mac' mfi' mse' mtd' mra mkp) r') args s 0 0 (AM Z)) (F0 m 161 ls [.int y0, .int y1, .ref (mA Z 9)]) := by
  intro mat mac mfi mse mtd y0 y1 hE H locs hP hS ls hl
  have C := C0.1
  unfold fX12_readsAct_161 at hE
  obtain ⟨hi, hE⟩ := grd_some hE
  obtain ⟨mse_880, emse_880, hE⟩ := lt_some hE
  refine sm9 F C hP hi hS emse_880.symm dX12_readsAct_161 (fun H locs hP hS => ?_)
  refine lv_aload_n F.1 F.2.1 dX12_readsAct_162 rfl (lv_at hl 0 rfl) ?_
  refine gX12_74 F C hP dX12_readsAct_163 ?_
  refine lv_iload_n F.1 F.2.1 dX12_readsAct_166 rfl (lv_at hl 1 rfl) ?_
  refine lv_aload_n F.1 F.2.1 dX12_readsAct_167 rfl (lv_at hl 0 rfl) ?_
  refine gX12_71 F C hP dX12_readsAct_168 ?_
  refine lv_iload_n F.1 F.2.1 dX12_readsAct_171 rfl (lv_at hl 1 rfl) ?_
  obtain ⟨hi, hE⟩ := grd_some hE
  refine am9 F C hP hi dX12_readsAct_172 ?_
  refine lv_if_ge (tgt := 180) F.1 F.2.1 dX12_readsAct_173 (by decide) (fun hc => ?_) (fun hc => ?_)
  · have hE := ifp hE hc
    refine lv_aload_n F.1 F.2.1 dX12_readsAct_180 rfl (lv_at hl 0 rfl) ?_
    refine gX12_65 F C hP dX12_readsAct_181 ?_
    refine lv_iload_n F.1 F.2.1 dX12_readsAct_184 rfl (lv_at hl 1 rfl) ?_
    obtain ⟨hi, hE⟩ := grd_some hE
    refine am7 F C hP hi dX12_readsAct_185 ?_
    refine lv_iconst (v := 1) F.1 F.2.1 dX12_readsAct_186 (by decide) ?_
    refine lv_icmp_ne (tgt := 198) F.1 F.2.1 dX12_readsAct_187 (by decide) (fun hc => ?_) (fun hc => ?_)
    · have hE := ifn hE hc
      refine lv_iconst (v := 0) F.1 F.2.1 dX12_readsAct_198 (by decide) ?_
      exact qX12_readsAct_199 F hr hlk C0 mat mac mfi mse_880 mtd 0 p1 hE _ _ hP hS ls (lv_sub hl [0, 1] rfl)
    · have hE := ifp hE hc
      refine lv_aload_n F.1 F.2.1 dX12_readsAct_190 rfl (lv_at hl 0 rfl) ?_
      refine lv_iconst (v := 2) F.1 F.2.1 dX12_readsAct_191 (by decide) ?_
      obtain ⟨r881, mat_881, hc, hE⟩ := bnd2_some hE
      refine aft_i (run_V (rest := [.int p1, .ref (mA Z 10)]) F (kX12_digits hc) (okMS Z Y) C0 hS lkX12_304 ⟨Nat.le_of_ble_eq_true rfl, Nat.le_of_ble_eq_true rfl⟩ (rvM C hP) hP rfl hl.1 rfl (lv_room (Nat.le_of_ble_eq_true rfl)) dX12_readsAct_192 ⟨Nat.zero_le _, Nat.zero_le _⟩) hS (fun H locs hP hS => ?_)
      refine lv_goto (tgt := 199) F.1 F.2.1 dX12_readsAct_195 (by decide) ?_
      exact qX12_readsAct_199 F hr hlk C0 mat_881 mac mfi mse_880 mtd r881 p1 hE _ _ hP hS ls (lv_sub hl [0, 1] rfl)
  · have hE := ifn hE hc
    refine lv_iconst (v := (-1)) F.1 F.2.1 dX12_readsAct_176 (by decide) ?_
    refine lv_goto (tgt := 199) F.1 F.2.1 dX12_readsAct_177 (by decide) ?_
    exact qX12_readsAct_199 F hr hlk C0 mat mac mfi mse_880 mtd (-1) p1 hE _ _ hP hS ls (lv_sub hl [0, 1] rfl)
set_option maxRecDepth 100000 in
set_option maxHeartbeats 4000000 in
theorem qX12_readsAct_152 {p : Program} {l : Launch} {e : Env} {s : State} {m : MethodId} {args : Array Value} {below : List Frame} {meth : Method} {c : Code} {Z : ZC} {Y : YS} {mth : Int32} {mto : Int32} {mrw : Nat → Int64} {mta : Nat → Int32} {mtp : Int32} {mtt : Int32} {mme : Nat → Int32} {mun : Int32} {mde : Int32} {mco : Nat → Int32} {mcn : Nat → Int32} {mvi : Int32} {men : Int32} {mfa : Nat → Int32} {mra : Int32} {mkp : Nat → Int32} {N : Nat} {p1 : Int32} {r' : Int32} {mat' : Int32} {mac' : Nat → Int32} {mfi' : Nat → Int32} {mse' : Nat → Int32} {mtd' : Nat → Int32} (F : CallFix p m c cX12_readsAct 2 s args bigW RX12) (hr : meth.sig.returnType = (some .boolean)) (hlk : meth.locks = false) (C0 : KMS Z Y s) : ∀ (mat : Int32) (mac : Nat → Int32) (mfi : Nat → Int32) (mse : Nat → Int32) (mtd : Nat → Int32) (y0 : Int32), fX12_readsAct_152 N mta mtt p1 mat mac mfi mse mtd y0 = some (r', mat', mac', mfi', mse', mtd') → ∀ (H : Heap) (locs : List Loc), PM Z mth mto mrw mta mtp mat mtt mme mun mde mco mcn mvi men mfa mac mfi mse mtd mra mkp H → va_S (AM Z) s.heap H locs → ∀ ls : Array Slot, lv_has ls 2 [(0, .ref (mA Z 0)), (1, .int p1)] → W p l e (rmk 6 131) s m args below meth c H locs 0 0 (MQ below (Qi (KMS Z Y) (AM Z) (PM Z mth mto mrw mta mtp mat' mtt mme mun mde mco mcn mvi men mfa mac' mfi' mse' mtd' mra mkp) r') args s 0 0 (AM Z)) (F0 m 152 ls [.int y0, .ref (mA Z 9)]) := by
  intro mat mac mfi mse mtd y0 hE H locs hP hS ls hl
  have C := C0.1
  unfold fX12_readsAct_152 at hE
  refine lv_aload_n F.1 F.2.1 dX12_readsAct_152 rfl (lv_at hl 0 rfl) ?_
  refine lv_iconst (v := 2) F.1 F.2.1 dX12_readsAct_153 (by decide) ?_
  obtain ⟨r879, mat_879, hc, hE⟩ := bnd2_some hE
  refine aft_i (run_V (rest := [.int y0, .ref (mA Z 9)]) F (kX12_digits hc) (okMS Z Y) C0 hS lkX12_304 ⟨Nat.le_of_ble_eq_true rfl, Nat.le_of_ble_eq_true rfl⟩ (rvM C hP) hP rfl hl.1 rfl (lv_room (Nat.le_of_ble_eq_true rfl)) dX12_readsAct_154 ⟨Nat.zero_le _, Nat.zero_le _⟩) hS (fun H locs hP hS => ?_)
  refine lv_goto (tgt := 161) F.1 F.2.1 dX12_readsAct_157 (by decide) ?_
  exact qX12_readsAct_161 F hr hlk C0 mat_879 mac mfi mse mtd r879 y0 hE _ _ hP hS ls (lv_sub hl [0, 1] rfl)
set_option maxRecDepth 100000 in
set_option maxHeartbeats 4000000 in
theorem qX12_readsAct_124 {p : Program} {l : Launch} {e : Env} {s : State} {m : MethodId} {args : Array Value} {below : List Frame} {meth : Method} {c : Code} {Z : ZC} {Y : YS} {mth : Int32} {mto : Int32} {mrw : Nat → Int64} {mta : Nat → Int32} {mtp : Int32} {mtt : Int32} {mme : Nat → Int32} {mun : Int32} {mde : Int32} {mco : Nat → Int32} {mcn : Nat → Int32} {mvi : Int32} {men : Int32} {mfa : Nat → Int32} {mra : Int32} {mkp : Nat → Int32} {N : Nat} {p1 : Int32} {r' : Int32} {mat' : Int32} {mac' : Nat → Int32} {mfi' : Nat → Int32} {mse' : Nat → Int32} {mtd' : Nat → Int32} (F : CallFix p m c cX12_readsAct 2 s args bigW RX12) (hr : meth.sig.returnType = (some .boolean)) (hlk : meth.locks = false) (C0 : KMS Z Y s) : ∀ (mat : Int32) (mac : Nat → Int32) (mfi : Nat → Int32) (mse : Nat → Int32) (mtd : Nat → Int32) (y0 : Int32), fX12_readsAct_124 N mta mtt p1 mat mac mfi mse mtd y0 = some (r', mat', mac', mfi', mse', mtd') → ∀ (H : Heap) (locs : List Loc), PM Z mth mto mrw mta mtp mat mtt mme mun mde mco mcn mvi men mfa mac mfi mse mtd mra mkp H → va_S (AM Z) s.heap H locs → ∀ ls : Array Slot, lv_has ls 2 [(0, .ref (mA Z 0)), (1, .int p1)] → W p l e (rmk 6 131) s m args below meth c H locs 0 0 (MQ below (Qi (KMS Z Y) (AM Z) (PM Z mth mto mrw mta mtp mat' mtt mme mun mde mco mcn mvi men mfa mac' mfi' mse' mtd' mra mkp) r') args s 0 0 (AM Z)) (F0 m 124 ls [.int y0, .ref (mA Z 9)]) := by
  intro mat mac mfi mse mtd y0 hE H locs hP hS ls hl
  have C := C0.1
  unfold fX12_readsAct_124 at hE
  refine lv_aload_n F.1 F.2.1 dX12_readsAct_124 rfl (lv_at hl 0 rfl) ?_
  refine lv_iconst (v := 1) F.1 F.2.1 dX12_readsAct_125 (by decide) ?_
  obtain ⟨r878, mat_878, hc, hE⟩ := bnd2_some hE
  refine aft_i (run_V (rest := [.int y0, .ref (mA Z 9)]) F (kX12_digits hc) (okMS Z Y) C0 hS lkX12_304 ⟨Nat.le_of_ble_eq_true rfl, Nat.le_of_ble_eq_true rfl⟩ (rvM C hP) hP rfl hl.1 rfl (lv_room (Nat.le_of_ble_eq_true rfl)) dX12_readsAct_126 ⟨Nat.zero_le _, Nat.zero_le _⟩) hS (fun H locs hP hS => ?_)
  refine lv_goto (tgt := 161) F.1 F.2.1 dX12_readsAct_129 (by decide) ?_
  exact qX12_readsAct_161 F hr hlk C0 mat_878 mac mfi mse mtd r878 y0 hE _ _ hP hS ls (lv_sub hl [0, 1] rfl)
set_option maxRecDepth 100000 in
set_option maxHeartbeats 4000000 in
theorem qX12_readsAct_85 {p : Program} {l : Launch} {e : Env} {s : State} {m : MethodId} {args : Array Value} {below : List Frame} {meth : Method} {c : Code} {Z : ZC} {Y : YS} {mth : Int32} {mto : Int32} {mrw : Nat → Int64} {mta : Nat → Int32} {mtp : Int32} {mtt : Int32} {mme : Nat → Int32} {mun : Int32} {mde : Int32} {mco : Nat → Int32} {mcn : Nat → Int32} {mvi : Int32} {men : Int32} {mfa : Nat → Int32} {mra : Int32} {mkp : Nat → Int32} {N : Nat} {p1 : Int32} {r' : Int32} {mat' : Int32} {mac' : Nat → Int32} {mfi' : Nat → Int32} {mse' : Nat → Int32} {mtd' : Nat → Int32} (F : CallFix p m c cX12_readsAct 2 s args bigW RX12) (hr : meth.sig.returnType = (some .boolean)) (hlk : meth.locks = false) (C0 : KMS Z Y s) : ∀ (mat : Int32) (mac : Nat → Int32) (mfi : Nat → Int32) (mse : Nat → Int32) (mtd : Nat → Int32) (y0 : Int32) (y1 : Int32), fX12_readsAct_85 N mta mtt p1 mat mac mfi mse mtd y0 y1 = some (r', mat', mac', mfi', mse', mtd') → ∀ (H : Heap) (locs : List Loc), PM Z mth mto mrw mta mtp mat mtt mme mun mde mco mcn mvi men mfa mac mfi mse mtd mra mkp H → va_S (AM Z) s.heap H locs → ∀ ls : Array Slot, lv_has ls 2 [(0, .ref (mA Z 0)), (1, .int p1)] → W p l e (rmk 6 131) s m args below meth c H locs 0 0 (MQ below (Qi (KMS Z Y) (AM Z) (PM Z mth mto mrw mta mtp mat' mtt mme mun mde mco mcn mvi men mfa mac' mfi' mse' mtd' mra mkp) r') args s 0 0 (AM Z)) (F0 m 85 ls [.int y0, .int y1, .ref (mA Z 8)]) := by
  intro mat mac mfi mse mtd y0 y1 hE H locs hP hS ls hl
  have C := C0.1
  unfold fX12_readsAct_85 at hE
  obtain ⟨hi, hE⟩ := grd_some hE
  obtain ⟨mfi_877, emfi_877, hE⟩ := lt_some hE
  refine sm8 F C hP hi hS emfi_877.symm dX12_readsAct_85 (fun H locs hP hS => ?_)
  refine lv_aload_n F.1 F.2.1 dX12_readsAct_86 rfl (lv_at hl 0 rfl) ?_
  refine gX12_71 F C hP dX12_readsAct_87 ?_
  refine lv_iload_n F.1 F.2.1 dX12_readsAct_90 rfl (lv_at hl 1 rfl) ?_
  refine lv_aload_n F.1 F.2.1 dX12_readsAct_91 rfl (lv_at hl 0 rfl) ?_
  refine gX12_68 F C hP dX12_readsAct_92 ?_
  refine lv_iload_n F.1 F.2.1 dX12_readsAct_95 rfl (lv_at hl 1 rfl) ?_
  obtain ⟨hi, hE⟩ := grd_some hE
  refine am8 F C hP hi dX12_readsAct_96 ?_
  refine lv_if_ge (tgt := 104) F.1 F.2.1 dX12_readsAct_97 (by decide) (fun hc => ?_) (fun hc => ?_)
  · have hE := ifp hE hc
    refine lv_aload_n F.1 F.2.1 dX12_readsAct_104 rfl (lv_at hl 0 rfl) ?_
    refine gX12_65 F C hP dX12_readsAct_105 ?_
    refine lv_iload_n F.1 F.2.1 dX12_readsAct_108 rfl (lv_at hl 1 rfl) ?_
    obtain ⟨hi, hE⟩ := grd_some hE
    refine am7 F C hP hi dX12_readsAct_109 ?_
    refine lv_iconst (v := 1) F.1 F.2.1 dX12_readsAct_110 (by decide) ?_
    refine lv_icmp_eq (tgt := 124) F.1 F.2.1 dX12_readsAct_111 (by decide) (fun hc => ?_) (fun hc => ?_)
    · have hE := ifp hE hc
      exact qX12_readsAct_124 F hr hlk C0 mat mac mfi_877 mse mtd p1 hE _ _ hP hS ls (lv_sub hl [0, 1] rfl)
    · have hE := ifn hE hc
      refine lv_aload_n F.1 F.2.1 dX12_readsAct_114 rfl (lv_at hl 0 rfl) ?_
      refine gX12_65 F C hP dX12_readsAct_115 ?_
      refine lv_iload_n F.1 F.2.1 dX12_readsAct_118 rfl (lv_at hl 1 rfl) ?_
      obtain ⟨hi, hE⟩ := grd_some hE
      refine am7 F C hP hi dX12_readsAct_119 ?_
      refine lv_iconst (v := 4) F.1 F.2.1 dX12_readsAct_120 (by decide) ?_
      refine lv_icmp_ne (tgt := 132) F.1 F.2.1 dX12_readsAct_121 (by decide) (fun hc => ?_) (fun hc => ?_)
      · have hE := ifn hE hc
        refine lv_aload_n F.1 F.2.1 dX12_readsAct_132 rfl (lv_at hl 0 rfl) ?_
        refine gX12_65 F C hP dX12_readsAct_133 ?_
        refine lv_iload_n F.1 F.2.1 dX12_readsAct_136 rfl (lv_at hl 1 rfl) ?_
        obtain ⟨hi, hE⟩ := grd_some hE
        refine am7 F C hP hi dX12_readsAct_137 ?_
        refine lv_iconst (v := 2) F.1 F.2.1 dX12_readsAct_138 (by decide) ?_
        refine lv_icmp_eq (tgt := 152) F.1 F.2.1 dX12_readsAct_139 (by decide) (fun hc => ?_) (fun hc => ?_)
        · have hE := ifp hE hc
          exact qX12_readsAct_152 F hr hlk C0 mat mac mfi_877 mse mtd p1 hE _ _ hP hS ls (lv_sub hl [0, 1] rfl)
        · have hE := ifn hE hc
          refine lv_aload_n F.1 F.2.1 dX12_readsAct_142 rfl (lv_at hl 0 rfl) ?_
          refine gX12_65 F C hP dX12_readsAct_143 ?_
          refine lv_iload_n F.1 F.2.1 dX12_readsAct_146 rfl (lv_at hl 1 rfl) ?_
          obtain ⟨hi, hE⟩ := grd_some hE
          refine am7 F C hP hi dX12_readsAct_147 ?_
          refine lv_iconst (v := 3) F.1 F.2.1 dX12_readsAct_148 (by decide) ?_
          refine lv_icmp_ne (tgt := 160) F.1 F.2.1 dX12_readsAct_149 (by decide) (fun hc => ?_) (fun hc => ?_)
          · have hE := ifn hE hc
            refine lv_iconst (v := 0) F.1 F.2.1 dX12_readsAct_160 (by decide) ?_
            exact qX12_readsAct_161 F hr hlk C0 mat mac mfi_877 mse mtd 0 p1 hE _ _ hP hS ls (lv_sub hl [0, 1] rfl)
          · have hE := ifp hE hc
            exact qX12_readsAct_152 F hr hlk C0 mat mac mfi_877 mse mtd p1 hE _ _ hP hS ls (lv_sub hl [0, 1] rfl)
      · have hE := ifp hE hc
        exact qX12_readsAct_124 F hr hlk C0 mat mac mfi_877 mse mtd p1 hE _ _ hP hS ls (lv_sub hl [0, 1] rfl)
  · have hE := ifn hE hc
    refine lv_iconst (v := (-1)) F.1 F.2.1 dX12_readsAct_100 (by decide) ?_
    refine lv_goto (tgt := 161) F.1 F.2.1 dX12_readsAct_101 (by decide) ?_
    exact qX12_readsAct_161 F hr hlk C0 mat mac mfi_877 mse mtd (-1) p1 hE _ _ hP hS ls (lv_sub hl [0, 1] rfl)
set_option maxRecDepth 100000 in
set_option maxHeartbeats 4000000 in
theorem kX12_readsAct {l : Launch} {Z : ZC} {Y : YS} {mth : Int32} {mto : Int32} {mrw : Nat → Int64} {mta : Nat → Int32} {mtp : Int32} {mat : Int32} {mtt : Int32} {mme : Nat → Int32} {mun : Int32} {mde : Int32} {mco : Nat → Int32} {mcn : Nat → Int32} {mvi : Int32} {men : Int32} {mfa : Nat → Int32} {mac : Nat → Int32} {mfi : Nat → Int32} {mse : Nat → Int32} {mtd : Nat → Int32} {mra : Int32} {mkp : Nat → Int32} {N : Nat} {p1 : Int32} {r' : Int32} {mat' : Int32} {mac' : Nat → Int32} {mfi' : Nat → Int32} {mse' : Nat → Int32} {mtd' : Nat → Int32} (hE : fX12_readsAct N mta mat mtt mac mfi mse mtd p1 = some (r', mat', mac', mfi', mse', mtd')) : Mg l yX12_readsAct cX12_readsAct 2 (some .boolean) (rmk 6 131) (KMS Z Y) (AM Z) [.ref (mA Z 0), .int p1] (PM Z mth mto mrw mta mtp mat mtt mme mun mde mco mcn mvi men mfa mac mfi mse mtd mra mkp) (Qi (KMS Z Y) (AM Z) (PM Z mth mto mrw mta mtp mat' mtt mme mun mde mco mcn mvi men mfa mac' mfi' mse' mtd' mra mkp) r') := by
  refine Mg.start (lv := [(0, .ref (mA Z 0)), (1, .int p1)]) (by decide) rfl (Nat.le_of_ble_eq_true rfl) rfl ?_
  intro p e s m below meth c F hr hlk C hP ls hl
  have C0 := C
  have C := C0.1
  have hS : va_S (AM Z) s.heap s.heap [] := va_S.rf
  unfold fX12_readsAct at hE
  refine lv_aload_n F.1 F.2.1 dX12_readsAct_0 rfl (lv_at hl 0 rfl) ?_
  refine gX12_65 F C hP dX12_readsAct_1 ?_
  refine lv_iload_n F.1 F.2.1 dX12_readsAct_4 rfl (lv_at hl 1 rfl) ?_
  refine lv_aload_n F.1 F.2.1 dX12_readsAct_5 rfl (lv_at hl 0 rfl) ?_
  refine va_ldcSW F.1 F.2.1 F.2.2.2.1 C0.2.2.2 dX12_readsAct_6 ?_
  obtain ⟨r872, mat_872, hc, hE⟩ := bnd2_some hE
  refine aft_i (run_V (rest := [.int p1, .ref (mA Z 7)]) F (kX12_takesOf_a hc) (okMS Z Y) C0 hS lkX12_43 ⟨Nat.le_of_ble_eq_true rfl, Nat.le_of_ble_eq_true rfl⟩ (rvM C hP) hP rfl hl.1 rfl (lv_room (Nat.le_of_ble_eq_true rfl)) dX12_readsAct_9 ⟨Nat.zero_le _, Nat.zero_le _⟩) hS (fun H locs hP hS => ?_)
  obtain ⟨hi, hE⟩ := grd_some hE
  obtain ⟨mac_873, emac_873, hE⟩ := lt_some hE
  refine sm7 F C hP hi hS emac_873.symm dX12_readsAct_12 (fun H locs hP hS => ?_)
  refine lv_aload_n F.1 F.2.1 dX12_readsAct_13 rfl (lv_at hl 0 rfl) ?_
  refine gX12_68 F C hP dX12_readsAct_14 ?_
  refine lv_iload_n F.1 F.2.1 dX12_readsAct_17 rfl (lv_at hl 1 rfl) ?_
  refine lv_aload_n F.1 F.2.1 dX12_readsAct_18 rfl (lv_at hl 0 rfl) ?_
  refine gX12_65 F C hP dX12_readsAct_19 ?_
  refine lv_iload_n F.1 F.2.1 dX12_readsAct_22 rfl (lv_at hl 1 rfl) ?_
  obtain ⟨hi, hE⟩ := grd_some hE
  refine am7 F C hP hi dX12_readsAct_23 ?_
  refine lv_if_ge (tgt := 31) F.1 F.2.1 dX12_readsAct_24 (by decide) (fun hc => ?_) (fun hc => ?_)
  · have hE := ifp hE hc
    refine lv_aload_n F.1 F.2.1 dX12_readsAct_31 rfl (lv_at hl 0 rfl) ?_
    refine gX12_65 F C hP dX12_readsAct_32 ?_
    refine lv_iload_n F.1 F.2.1 dX12_readsAct_35 rfl (lv_at hl 1 rfl) ?_
    obtain ⟨hi, hE⟩ := grd_some hE
    refine am7 F C hP hi dX12_readsAct_36 ?_
    refine lv_if_ne (tgt := 48) F.1 F.2.1 dX12_readsAct_37 (by decide) (fun hc => ?_) (fun hc => ?_)
    · have hE := ifn hE hc
      refine lv_aload_n F.1 F.2.1 dX12_readsAct_48 rfl (lv_at hl 0 rfl) ?_
      refine gX12_65 F C hP dX12_readsAct_49 ?_
      refine lv_iload_n F.1 F.2.1 dX12_readsAct_52 rfl (lv_at hl 1 rfl) ?_
      obtain ⟨hi, hE⟩ := grd_some hE
      refine am7 F C hP hi dX12_readsAct_53 ?_
      refine lv_iconst (v := 1) F.1 F.2.1 dX12_readsAct_54 (by decide) ?_
      refine lv_icmp_ne (tgt := 66) F.1 F.2.1 dX12_readsAct_55 (by decide) (fun hc => ?_) (fun hc => ?_)
      · have hE := ifn hE hc
        refine lv_aload_n F.1 F.2.1 dX12_readsAct_66 rfl (lv_at hl 0 rfl) ?_
        refine gX12_65 F C hP dX12_readsAct_67 ?_
        refine lv_iload_n F.1 F.2.1 dX12_readsAct_70 rfl (lv_at hl 1 rfl) ?_
        obtain ⟨hi, hE⟩ := grd_some hE
        refine am7 F C hP hi dX12_readsAct_71 ?_
        refine lv_iconst (v := 5) F.1 F.2.1 dX12_readsAct_72 (by decide) ?_
        refine lv_icmp_ne (tgt := 80) F.1 F.2.1 dX12_readsAct_73 (by decide) (fun hc => ?_) (fun hc => ?_)
        · have hE := ifn hE hc
          refine lv_aload_n F.1 F.2.1 dX12_readsAct_80 rfl (lv_at hl 0 rfl) ?_
          refine lv_iconst (v := 1) F.1 F.2.1 dX12_readsAct_81 (by decide) ?_
          obtain ⟨r874, mat_874, hc, hE⟩ := bnd2_some hE
          refine aft_i (run_V (rest := [.int p1, .ref (mA Z 8)]) F (kX12_digits hc) (okMS Z Y) C0 hS lkX12_304 ⟨Nat.le_of_ble_eq_true rfl, Nat.le_of_ble_eq_true rfl⟩ (rvM C hP) hP rfl hl.1 rfl (lv_room (Nat.le_of_ble_eq_true rfl)) dX12_readsAct_82 ⟨Nat.zero_le _, Nat.zero_le _⟩) hS (fun H locs hP hS => ?_)
          exact qX12_readsAct_85 F hr hlk C0 mat_874 mac_873 mfi mse mtd r874 p1 hE _ _ hP hS ls (lv_sub hl [0, 1] rfl)
        · have hE := ifp hE hc
          refine lv_iconst (v := 0) F.1 F.2.1 dX12_readsAct_76 (by decide) ?_
          refine lv_goto (tgt := 85) F.1 F.2.1 dX12_readsAct_77 (by decide) ?_
          exact qX12_readsAct_85 F hr hlk C0 mat_872 mac_873 mfi mse mtd 0 p1 hE _ _ hP hS ls (lv_sub hl [0, 1] rfl)
      · have hE := ifp hE hc
        refine lv_aload_n F.1 F.2.1 dX12_readsAct_58 rfl (lv_at hl 0 rfl) ?_
        refine lv_iconst (v := 2) F.1 F.2.1 dX12_readsAct_59 (by decide) ?_
        obtain ⟨r875, mat_875, hc, hE⟩ := bnd2_some hE
        refine aft_i (run_V (rest := [.int p1, .ref (mA Z 8)]) F (kX12_digits hc) (okMS Z Y) C0 hS lkX12_304 ⟨Nat.le_of_ble_eq_true rfl, Nat.le_of_ble_eq_true rfl⟩ (rvM C hP) hP rfl hl.1 rfl (lv_room (Nat.le_of_ble_eq_true rfl)) dX12_readsAct_60 ⟨Nat.zero_le _, Nat.zero_le _⟩) hS (fun H locs hP hS => ?_)
        refine lv_goto (tgt := 85) F.1 F.2.1 dX12_readsAct_63 (by decide) ?_
        exact qX12_readsAct_85 F hr hlk C0 mat_875 mac_873 mfi mse mtd r875 p1 hE _ _ hP hS ls (lv_sub hl [0, 1] rfl)
    · have hE := ifp hE hc
      refine lv_aload_n F.1 F.2.1 dX12_readsAct_40 rfl (lv_at hl 0 rfl) ?_
      refine lv_iconst (v := 4) F.1 F.2.1 dX12_readsAct_41 (by decide) ?_
      obtain ⟨r876, mat_876, hc, hE⟩ := bnd2_some hE
      refine aft_i (run_V (rest := [.int p1, .ref (mA Z 8)]) F (kX12_digits hc) (okMS Z Y) C0 hS lkX12_304 ⟨Nat.le_of_ble_eq_true rfl, Nat.le_of_ble_eq_true rfl⟩ (rvM C hP) hP rfl hl.1 rfl (lv_room (Nat.le_of_ble_eq_true rfl)) dX12_readsAct_42 ⟨Nat.zero_le _, Nat.zero_le _⟩) hS (fun H locs hP hS => ?_)
      refine lv_goto (tgt := 85) F.1 F.2.1 dX12_readsAct_45 (by decide) ?_
      exact qX12_readsAct_85 F hr hlk C0 mat_876 mac_873 mfi mse mtd r876 p1 hE _ _ hP hS ls (lv_sub hl [0, 1] rfl)
  · have hE := ifn hE hc
    refine lv_iconst (v := (-1)) F.1 F.2.1 dX12_readsAct_27 (by decide) ?_
    refine lv_goto (tgt := 85) F.1 F.2.1 dX12_readsAct_28 (by decide) ?_
    exact qX12_readsAct_85 F hr hlk C0 mat_872 mac_873 mfi mse mtd (-1) p1 hE _ _ hP hS ls (lv_sub hl [0, 1] rfl)
set_option maxRecDepth 100000 in
set_option maxHeartbeats 4000000 in
theorem qX12_day_108 {p : Program} {l : Launch} {e : Env} {s : State} {m : MethodId} {args : Array Value} {below : List Frame} {meth : Method} {c : Code} {Z : ZC} {Y : YS} {mta : Nat → Int32} {mde : Int32} {mfa : Nat → Int32} {mra : Int32} {mkp : Nat → Int32} {N : Nat} {r' : Int32} {mth' : Int32} {mto' : Int32} {mrw' : Nat → Int64} {mtp' : Int32} {mat' : Int32} {mtt' : Int32} {mme' : Nat → Int32} {mun' : Int32} {mco' : Nat → Int32} {mcn' : Nat → Int32} {mvi' : Int32} {men' : Int32} {mac' : Nat → Int32} {mfi' : Nat → Int32} {mse' : Nat → Int32} {mtd' : Nat → Int32} (F : CallFix p m c cX12_day 3 s args bigW RX12) (hr : meth.sig.returnType = (some .int)) (hlk : meth.locks = false) (C0 : KMS Z Y s) : ∀ (mth : Int32) (mto : Int32) (mrw : Nat → Int64) (mtp : Int32) (mat : Int32) (mtt : Int32) (mme : Nat → Int32) (mun : Int32) (mco : Nat → Int32) (mcn : Nat → Int32) (mvi : Int32) (men : Int32) (mac : Nat → Int32) (mfi : Nat → Int32) (mse : Nat → Int32) (mtd : Nat → Int32) (x2 : Int32) (y0 : Int32), fX12_day_108 N mta mde mth mto mrw mtp mat mtt mme mun mco mcn mvi men mac mfi mse mtd x2 y0 = some (r', mth', mto', mrw', mtp', mat', mtt', mme', mun', mco', mcn', mvi', men', mac', mfi', mse', mtd') → ∀ (H : Heap) (locs : List Loc), PM Z mth mto mrw mta mtp mat mtt mme mun mde mco mcn mvi men mfa mac mfi mse mtd mra mkp H → va_S (AM Z) s.heap H locs → ∀ ls : Array Slot, lv_has ls 3 [(0, .ref (mA Z 0)), (2, .int x2)] → W p l e (rmk 208 4930) s m args below meth c H locs 0 0 (MQ below (Qi (KMS Z Y) (AM Z) (PM Z mth' mto' mrw' mta mtp' mat' mtt' mme' mun' mde mco' mcn' mvi' men' mfa mac' mfi' mse' mtd' mra mkp) r') args s 0 0 (AM Z)) (F0 m 108 ls [.int y0, .ref (mA Z 0)]) := by
  intro mth mto mrw mtp mat mtt mme mun mco mcn mvi men mac mfi mse mtd x2 y0 hE H locs hP hS ls hl
  have C := C0.1
  unfold fX12_day_108 at hE
  obtain ⟨r896, hc, hE⟩ := bnd1_some hE
  refine aft_i (run_S (rest := [.ref (mA Z 0)]) F (kX12_flag hc) (okM Z) C hS lkX12_167 ⟨Nat.le_of_ble_eq_true rfl, Nat.le_of_ble_eq_true rfl⟩ hP rfl hl.1 rfl (lv_room (Nat.le_of_ble_eq_true rfl)) dX12_day_108 ⟨Nat.zero_le _, Nat.zero_le _⟩) hS (fun H locs hP hS => ?_)
  refine lv_i2l (v := r896.toInt64) F.1 F.2.1 dX12_day_111 rfl ?_
  obtain ⟨mto_897, mrw_897, hc, hE⟩ := bnd2_some hE
  refine aft_v (run_V (rest := []) F (kX12_enters hc) (okM Z) C hS lkX12_239 ⟨Nat.le_of_ble_eq_true rfl, Nat.le_of_ble_eq_true rfl⟩ (rvM C hP) hP rfl hl.1 rfl (lv_room (Nat.le_of_ble_eq_true rfl)) dX12_day_112 ⟨Nat.zero_le _, Nat.zero_le _⟩) hS (fun H locs hP hS => ?_)
  refine lv_aload_n F.1 F.2.1 dX12_day_115 rfl (lv_at hl 0 rfl) ?_
  refine lv_aload_n F.1 F.2.1 dX12_day_116 rfl (lv_at hl 0 rfl) ?_
  obtain ⟨r898, hc, hE⟩ := bnd1_some hE
  refine aft_i (run_V (rest := [.ref (mA Z 0)]) F (kX12_thereAll hc) (okM Z) C hS lkX12_233 ⟨Nat.le_of_ble_eq_true rfl, Nat.le_of_ble_eq_true rfl⟩ (rvM C hP) hP rfl hl.1 rfl (lv_room (Nat.le_of_ble_eq_true rfl)) dX12_day_117 ⟨Nat.zero_le _, Nat.zero_le _⟩) hS (fun H locs hP hS => ?_)
  obtain ⟨r899, hc, hE⟩ := bnd1_some hE
  refine aft_i (run_S (rest := [.ref (mA Z 0)]) F (kX12_sizeOf hc) (okM Z) C hS lkX12_236 ⟨Nat.le_of_ble_eq_true rfl, Nat.le_of_ble_eq_true rfl⟩ hP rfl hl.1 rfl (lv_room (Nat.le_of_ble_eq_true rfl)) dX12_day_120 ⟨Nat.zero_le _, Nat.zero_le _⟩) hS (fun H locs hP hS => ?_)
  refine lv_i2l (v := r899.toInt64) F.1 F.2.1 dX12_day_123 rfl ?_
  obtain ⟨mto_900, mrw_900, hc, hE⟩ := bnd2_some hE
  refine aft_v (run_V (rest := []) F (kX12_enters hc) (okM Z) C hS lkX12_239 ⟨Nat.le_of_ble_eq_true rfl, Nat.le_of_ble_eq_true rfl⟩ (rvM C hP) hP rfl hl.1 rfl (lv_room (Nat.le_of_ble_eq_true rfl)) dX12_day_124 ⟨Nat.zero_le _, Nat.zero_le _⟩) hS (fun H locs hP hS => ?_)
  refine lv_iload_n F.1 F.2.1 dX12_day_127 rfl (lv_at hl 1 rfl) ?_
  have w0 := Option.some.inj hE
  obtain ⟨g0, w1⟩ := Prod.mk.inj w0
  obtain ⟨g1, w2⟩ := Prod.mk.inj w1
  obtain ⟨g2, w3⟩ := Prod.mk.inj w2
  obtain ⟨g3, w4⟩ := Prod.mk.inj w3
  obtain ⟨g4, w5⟩ := Prod.mk.inj w4
  obtain ⟨g5, w6⟩ := Prod.mk.inj w5
  obtain ⟨g6, w7⟩ := Prod.mk.inj w6
  obtain ⟨g7, w8⟩ := Prod.mk.inj w7
  obtain ⟨g8, w9⟩ := Prod.mk.inj w8
  obtain ⟨g9, w10⟩ := Prod.mk.inj w9
  obtain ⟨g10, w11⟩ := Prod.mk.inj w10
  obtain ⟨g11, w12⟩ := Prod.mk.inj w11
  obtain ⟨g12, w13⟩ := Prod.mk.inj w12
  obtain ⟨g13, w14⟩ := Prod.mk.inj w13
  obtain ⟨g14, w15⟩ := Prod.mk.inj w14
  obtain ⟨g15, w16⟩ := Prod.mk.inj w15
  subst g0 g1 g2 g3 g4 g5 g6 g7 g8 g9 g10 g11 g12 g13 g14 g15 w16
  exact ret_i F hr hlk hP hS dX12_day_128
set_option maxRecDepth 100000 in
set_option maxHeartbeats 4000000 in
theorem qX12_day_92 {p : Program} {l : Launch} {e : Env} {s : State} {m : MethodId} {args : Array Value} {below : List Frame} {meth : Method} {c : Code} {Z : ZC} {Y : YS} {mta : Nat → Int32} {mde : Int32} {mfa : Nat → Int32} {mra : Int32} {mkp : Nat → Int32} {N : Nat} {r' : Int32} {mth' : Int32} {mto' : Int32} {mrw' : Nat → Int64} {mtp' : Int32} {mat' : Int32} {mtt' : Int32} {mme' : Nat → Int32} {mun' : Int32} {mco' : Nat → Int32} {mcn' : Nat → Int32} {mvi' : Int32} {men' : Int32} {mac' : Nat → Int32} {mfi' : Nat → Int32} {mse' : Nat → Int32} {mtd' : Nat → Int32} (F : CallFix p m c cX12_day 3 s args bigW RX12) (hr : meth.sig.returnType = (some .int)) (hlk : meth.locks = false) (C0 : KMS Z Y s) : ∀ (mth : Int32) (mto : Int32) (mrw : Nat → Int64) (mtp : Int32) (mat : Int32) (mtt : Int32) (mme : Nat → Int32) (mun : Int32) (mco : Nat → Int32) (mcn : Nat → Int32) (mvi : Int32) (men : Int32) (mac : Nat → Int32) (mfi : Nat → Int32) (mse : Nat → Int32) (mtd : Nat → Int32) (x1 : Int32) (x2 : Int32), fX12_day_92 N mta mde mth mto mrw mtp mat mtt mme mun mco mcn mvi men mac mfi mse mtd x1 x2 = some (r', mth', mto', mrw', mtp', mat', mtt', mme', mun', mco', mcn', mvi', men', mac', mfi', mse', mtd') → ∀ (H : Heap) (locs : List Loc), PM Z mth mto mrw mta mtp mat mtt mme mun mde mco mcn mvi men mfa mac mfi mse mtd mra mkp H → va_S (AM Z) s.heap H locs → ∀ ls : Array Slot, lv_has ls 3 [(0, .ref (mA Z 0)), (1, .int x1), (2, .int x2)] → W p l e (rmk 208 4930) s m args below meth c H locs 0 0 (MQ below (Qi (KMS Z Y) (AM Z) (PM Z mth' mto' mrw' mta mtp' mat' mtt' mme' mun' mde mco' mcn' mvi' men' mfa mac' mfi' mse' mtd' mra mkp) r') args s 0 0 (AM Z)) (F0 m 92 ls []) := by
  intro mth mto mrw mtp mat mtt mme mun mco mcn mvi men mac mfi mse mtd x1 x2 hE H locs hP hS ls hl
  have C := C0.1
  unfold fX12_day_92 at hE
  refine lv_aload_n F.1 F.2.1 dX12_day_92 rfl (lv_at hl 0 rfl) ?_
  refine lv_iconst (v := 0) F.1 F.2.1 dX12_day_93 (by decide) ?_
  refine pX12_11 F C hP hS rfl dX12_day_94 (fun H locs hP hS => ?_)
  refine lv_aload_n F.1 F.2.1 dX12_day_97 rfl (lv_at hl 0 rfl) ?_
  refine lv_iload_n F.1 F.2.1 dX12_day_98 rfl (lv_at hl 2 rfl) ?_
  refine lv_iload_n F.1 F.2.1 dX12_day_99 rfl (lv_at hl 1 rfl) ?_
  refine lv_icmp_ge (tgt := 107) F.1 F.2.1 dX12_day_100 (by decide) (fun hc => ?_) (fun hc => ?_)
  · have hE := ifp hE hc
    refine lv_iconst (v := 0) F.1 F.2.1 dX12_day_107 (by decide) ?_
    exact qX12_day_108 F hr hlk C0 mth 0 mrw mtp mat mtt mme mun mco mcn mvi men mac mfi mse mtd x2 0 hE _ _ hP hS ls (lv_sub hl [0, 2] rfl)
  · have hE := ifn hE hc
    refine lv_iconst (v := 1) F.1 F.2.1 dX12_day_103 (by decide) ?_
    refine lv_goto (tgt := 108) F.1 F.2.1 dX12_day_104 (by decide) ?_
    exact qX12_day_108 F hr hlk C0 mth 0 mrw mtp mat mtt mme mun mco mcn mvi men mac mfi mse mtd x2 1 hE _ _ hP hS ls (lv_sub hl [0, 2] rfl)
set_option maxRecDepth 100000 in
set_option maxHeartbeats 4000000 in
theorem qX12_day_84 {p : Program} {l : Launch} {e : Env} {s : State} {m : MethodId} {args : Array Value} {below : List Frame} {meth : Method} {c : Code} {Z : ZC} {Y : YS} {mta : Nat → Int32} {mde : Int32} {mfa : Nat → Int32} {mra : Int32} {mkp : Nat → Int32} {N : Nat} {r' : Int32} {mth' : Int32} {mto' : Int32} {mrw' : Nat → Int64} {mtp' : Int32} {mat' : Int32} {mtt' : Int32} {mme' : Nat → Int32} {mun' : Int32} {mco' : Nat → Int32} {mcn' : Nat → Int32} {mvi' : Int32} {men' : Int32} {mac' : Nat → Int32} {mfi' : Nat → Int32} {mse' : Nat → Int32} {mtd' : Nat → Int32} (F : CallFix p m c cX12_day 3 s args bigW RX12) (hr : meth.sig.returnType = (some .int)) (hlk : meth.locks = false) (C0 : KMS Z Y s) : ∀ (mth : Int32) (mto : Int32) (mrw : Nat → Int64) (mtp : Int32) (mat : Int32) (mtt : Int32) (mme : Nat → Int32) (mun : Int32) (mco : Nat → Int32) (mcn : Nat → Int32) (mvi : Int32) (men : Int32) (mac : Nat → Int32) (mfi : Nat → Int32) (mse : Nat → Int32) (mtd : Nat → Int32) (x1 : Int32) (x2 : Int32), fX12_day_84 N mta mde mth mto mrw mtp mat mtt mme mun mco mcn mvi men mac mfi mse mtd x1 x2 = some (r', mth', mto', mrw', mtp', mat', mtt', mme', mun', mco', mcn', mvi', men', mac', mfi', mse', mtd') → ∀ (H : Heap) (locs : List Loc), PM Z mth mto mrw mta mtp mat mtt mme mun mde mco mcn mvi men mfa mac mfi mse mtd mra mkp H → va_S (AM Z) s.heap H locs → ∀ ls : Array Slot, lv_has ls 3 [(0, .ref (mA Z 0)), (1, .int x1), (2, .int x2)] → W p l e (rmk 208 4930) s m args below meth c H locs 0 0 (MQ below (Qi (KMS Z Y) (AM Z) (PM Z mth' mto' mrw' mta mtp' mat' mtt' mme' mun' mde mco' mcn' mvi' men' mfa mac' mfi' mse' mtd' mra mkp) r') args s 0 0 (AM Z)) (F0 m 84 ls []) := by
  intro mth mto mrw mtp mat mtt mme mun mco mcn mvi men mac mfi mse mtd x1 x2 hE H locs hP hS ls hl
  have C := C0.1
  unfold fX12_day_84 at hE
  refine lv_iload_n F.1 F.2.1 dX12_day_84 rfl (lv_at hl 2 rfl) ?_
  refine lv_if_le (tgt := 92) F.1 F.2.1 dX12_day_85 (by decide) (fun hc => ?_) (fun hc => ?_)
  · have hE := ifp hE hc
    exact qX12_day_92 F hr hlk C0 mth mto mrw mtp mat mtt mme mun mco mcn mvi men mac mfi mse mtd x1 x2 hE _ _ hP hS ls (lv_sub hl [0, 1, 2] rfl)
  · have hE := ifn hE hc
    refine lv_aload_n F.1 F.2.1 dX12_day_88 rfl (lv_at hl 0 rfl) ?_
    obtain ⟨mme_895, mun_895, hc, hE⟩ := bnd2_some hE
    refine aft_v (run_V (rest := []) F (kX12_lays hc) (okM Z) C hS lkX12_243 ⟨Nat.le_of_ble_eq_true rfl, Nat.le_of_ble_eq_true rfl⟩ (rvM C hP) hP rfl hl.1 rfl (lv_room (Nat.le_of_ble_eq_true rfl)) dX12_day_89 ⟨Nat.zero_le _, Nat.zero_le _⟩) hS (fun H locs hP hS => ?_)
    exact qX12_day_92 F hr hlk C0 mth mto mrw mtp mat mtt mme_895 mun_895 mco mcn mvi men mac mfi mse mtd x1 x2 hE _ _ hP hS ls (lv_sub hl [0, 1, 2] rfl)
set_option maxRecDepth 100000 in
set_option maxHeartbeats 4000000 in
theorem qX12_day_65 {p : Program} {l : Launch} {e : Env} {s : State} {m : MethodId} {args : Array Value} {below : List Frame} {meth : Method} {c : Code} {Z : ZC} {Y : YS} {mta : Nat → Int32} {mde : Int32} {mfa : Nat → Int32} {mra : Int32} {mkp : Nat → Int32} {N : Nat} {r' : Int32} {mth' : Int32} {mto' : Int32} {mrw' : Nat → Int64} {mtp' : Int32} {mat' : Int32} {mtt' : Int32} {mme' : Nat → Int32} {mun' : Int32} {mco' : Nat → Int32} {mcn' : Nat → Int32} {mvi' : Int32} {men' : Int32} {mac' : Nat → Int32} {mfi' : Nat → Int32} {mse' : Nat → Int32} {mtd' : Nat → Int32} (F : CallFix p m c cX12_day 3 s args bigW RX12) (hr : meth.sig.returnType = (some .int)) (hlk : meth.locks = false) (C0 : KMS Z Y s) : ∀ n : Nat, ∀ (mth : Int32) (mto : Int32) (mrw : Nat → Int64) (mtp : Int32) (mat : Int32) (mtt : Int32) (mme : Nat → Int32) (mun : Int32) (mco : Nat → Int32) (mcn : Nat → Int32) (mvi : Int32) (men : Int32) (mac : Nat → Int32) (mfi : Nat → Int32) (mse : Nat → Int32) (mtd : Nat → Int32) (x1 : Int32) (x2 : Int32), fX12_day_65 N mta mde n mth mto mrw mtp mat mtt mme mun mco mcn mvi men mac mfi mse mtd x1 x2 = some (r', mth', mto', mrw', mtp', mat', mtt', mme', mun', mco', mcn', mvi', men', mac', mfi', mse', mtd') → ∀ (H : Heap) (locs : List Loc), PM Z mth mto mrw mta mtp mat mtt mme mun mde mco mcn mvi men mfa mac mfi mse mtd mra mkp H → va_S (AM Z) s.heap H locs → ∀ ls : Array Slot, lv_has ls 3 [(0, .ref (mA Z 0)), (1, .int x1), (2, .int x2)] → W p l e (rmk 208 4930) s m args below meth c H locs 0 0 (MQ below (Qi (KMS Z Y) (AM Z) (PM Z mth' mto' mrw' mta mtp' mat' mtt' mme' mun' mde mco' mcn' mvi' men' mfa mac' mfi' mse' mtd' mra mkp) r') args s 0 0 (AM Z)) (F0 m 65 ls []) := by
  intro n
  induction n with
  | zero => intro mth mto mrw mtp mat mtt mme mun mco mcn mvi men mac mfi mse mtd x1 x2 hE; cases hE
  | succ n h65 =>
    intro mth mto mrw mtp mat mtt mme mun mco mcn mvi men mac mfi mse mtd x1 x2 hE H locs hP hS ls hl
    have C := C0.1
    have hE : fX12_day_65b N mta mde (fX12_day_65 N mta mde n) mth mto mrw mtp mat mtt mme mun mco mcn mvi men mac mfi mse mtd x1 x2 = some (r', mth', mto', mrw', mtp', mat', mtt', mme', mun', mco', mcn', mvi', men', mac', mfi', mse', mtd') := hE
    refine lv_iload_n F.1 F.2.1 dX12_day_65 rfl (lv_at hl 2 rfl) ?_
    refine lv_iload_n F.1 F.2.1 dX12_day_66 rfl (lv_at hl 1 rfl) ?_
    refine lv_icmp_ge (tgt := 84) F.1 F.2.1 dX12_day_67 (by decide) (fun hc => ?_) (fun hc => ?_)
    · have hE := ifp hE hc
      exact qX12_day_84 F hr hlk C0 mth mto mrw mtp mat mtt mme mun mco mcn mvi men mac mfi mse mtd x1 x2 hE _ _ hP hS ls (lv_sub hl [0, 1, 2] rfl)
    · have hE := ifn hE hc
      refine lv_aload_n F.1 F.2.1 dX12_day_70 rfl (lv_at hl 0 rfl) ?_
      refine lv_iload_n F.1 F.2.1 dX12_day_71 rfl (lv_at hl 2 rfl) ?_
      obtain ⟨r894, mme_894, mco_894, mcn_894, mvi_894, men_894, hc, hE⟩ := bnd6_some hE
      refine aft_i (run_V (rest := []) F (kX12_does hc) (okM Z) C hS lkX12_313 ⟨Nat.le_of_ble_eq_true rfl, Nat.le_of_ble_eq_true rfl⟩ (rvM C hP) hP rfl hl.1 rfl (lv_room (Nat.le_of_ble_eq_true rfl)) dX12_day_72 ⟨Nat.zero_le _, Nat.zero_le _⟩) hS (fun H locs hP hS => ?_)
      refine lv_if_eq (tgt := 84) F.1 F.2.1 dX12_day_75 (by decide) (fun hc => ?_) (fun hc => ?_)
      · have hE := ifp hE hc
        exact qX12_day_84 F hr hlk C0 mth mto mrw mtp mat mtt mme_894 mun mco_894 mcn_894 mvi_894 men_894 mac mfi mse mtd x1 x2 hE _ _ hP hS ls (lv_sub hl [0, 1, 2] rfl)
      · have hE := ifn hE hc
        refine lv_iinc (v := x2 + 1) (lv' := [(2, .int (x2 + 1)), (0, .ref (mA Z 0)), (1, .int x1)]) F.1 F.2.1 dX12_day_78 hl (k := 2) rfl rfl (by decide) rfl (fun ls hl => ?_)
        refine lv_goto (tgt := 65) F.1 F.2.1 dX12_day_81 (by decide) ?_
        exact h65 mth mto mrw mtp mat mtt mme_894 mun mco_894 mcn_894 mvi_894 men_894 mac mfi mse mtd x1 (x2 + 1) hE _ _ hP hS ls (lv_sub hl [1, 2, 0] rfl)
set_option maxRecDepth 100000 in
set_option maxHeartbeats 4000000 in
theorem qX12_day_57 {p : Program} {l : Launch} {e : Env} {s : State} {m : MethodId} {args : Array Value} {below : List Frame} {meth : Method} {c : Code} {Z : ZC} {Y : YS} {mta : Nat → Int32} {mde : Int32} {mfa : Nat → Int32} {mra : Int32} {mkp : Nat → Int32} {N : Nat} {r' : Int32} {mth' : Int32} {mto' : Int32} {mrw' : Nat → Int64} {mtp' : Int32} {mat' : Int32} {mtt' : Int32} {mme' : Nat → Int32} {mun' : Int32} {mco' : Nat → Int32} {mcn' : Nat → Int32} {mvi' : Int32} {men' : Int32} {mac' : Nat → Int32} {mfi' : Nat → Int32} {mse' : Nat → Int32} {mtd' : Nat → Int32} (F : CallFix p m c cX12_day 3 s args bigW RX12) (hr : meth.sig.returnType = (some .int)) (hlk : meth.locks = false) (C0 : KMS Z Y s) : ∀ (mth : Int32) (mto : Int32) (mrw : Nat → Int64) (mtp : Int32) (mat : Int32) (mtt : Int32) (mme : Nat → Int32) (mun : Int32) (mco : Nat → Int32) (mcn : Nat → Int32) (mvi : Int32) (men : Int32) (mac : Nat → Int32) (mfi : Nat → Int32) (mse : Nat → Int32) (mtd : Nat → Int32) (x1 : Int32), fX12_day_57 N mta mde mth mto mrw mtp mat mtt mme mun mco mcn mvi men mac mfi mse mtd x1 = some (r', mth', mto', mrw', mtp', mat', mtt', mme', mun', mco', mcn', mvi', men', mac', mfi', mse', mtd') → ∀ (H : Heap) (locs : List Loc), PM Z mth mto mrw mta mtp mat mtt mme mun mde mco mcn mvi men mfa mac mfi mse mtd mra mkp H → va_S (AM Z) s.heap H locs → ∀ ls : Array Slot, lv_has ls 3 [(0, .ref (mA Z 0)), (1, .int x1)] → W p l e (rmk 208 4930) s m args below meth c H locs 0 0 (MQ below (Qi (KMS Z Y) (AM Z) (PM Z mth' mto' mrw' mta mtp' mat' mtt' mme' mun' mde mco' mcn' mvi' men' mfa mac' mfi' mse' mtd' mra mkp) r') args s 0 0 (AM Z)) (F0 m 57 ls []) := by
  intro mth mto mrw mtp mat mtt mme mun mco mcn mvi men mac mfi mse mtd x1 hE H locs hP hS ls hl
  have C := C0.1
  unfold fX12_day_57 at hE
  refine lv_aload_n F.1 F.2.1 dX12_day_57 rfl (lv_at hl 0 rfl) ?_
  refine lv_iconst (v := 0) F.1 F.2.1 dX12_day_58 (by decide) ?_
  refine lv_iconst (v := 3) F.1 F.2.1 dX12_day_59 (by decide) ?_
  obtain ⟨mme_893, hc, hE⟩ := bnd1_some hE
  refine aft_v (run_V (rest := []) F (kX12_copies hc) (okM Z) C hS lkX12_81 ⟨Nat.le_of_ble_eq_true rfl, Nat.le_of_ble_eq_true rfl⟩ (rvM C hP) hP rfl hl.1 rfl (lv_room (Nat.le_of_ble_eq_true rfl)) dX12_day_60 ⟨Nat.zero_le _, Nat.zero_le _⟩) hS (fun H locs hP hS => ?_)
  refine lv_iconst (v := 0) F.1 F.2.1 dX12_day_63 (by decide) ?_
  refine lv_istore_n (lv' := [(2, .int 0), (0, .ref (mA Z 0)), (1, .int x1)]) F.1 F.2.1 dX12_day_64 rfl hl (by decide) rfl (fun ls hl => ?_)
  exact qX12_day_65 F hr hlk C0 N mth mto mrw mtp mat mtt mme_893 mun mco mcn mvi men mac mfi mse mtd x1 0 hE _ _ hP hS ls (lv_sub hl [1, 2, 0] rfl)
set_option maxRecDepth 100000 in
set_option maxHeartbeats 4000000 in
theorem qX12_day_25 {p : Program} {l : Launch} {e : Env} {s : State} {m : MethodId} {args : Array Value} {below : List Frame} {meth : Method} {c : Code} {Z : ZC} {Y : YS} {mta : Nat → Int32} {mde : Int32} {mfa : Nat → Int32} {mra : Int32} {mkp : Nat → Int32} {N : Nat} {r' : Int32} {mth' : Int32} {mto' : Int32} {mrw' : Nat → Int64} {mtp' : Int32} {mat' : Int32} {mtt' : Int32} {mme' : Nat → Int32} {mun' : Int32} {mco' : Nat → Int32} {mcn' : Nat → Int32} {mvi' : Int32} {men' : Int32} {mac' : Nat → Int32} {mfi' : Nat → Int32} {mse' : Nat → Int32} {mtd' : Nat → Int32} (F : CallFix p m c cX12_day 3 s args bigW RX12) (hr : meth.sig.returnType = (some .int)) (hlk : meth.locks = false) (C0 : KMS Z Y s) : ∀ n : Nat, ∀ (mth : Int32) (mto : Int32) (mrw : Nat → Int64) (mtp : Int32) (mat : Int32) (mtt : Int32) (mme : Nat → Int32) (mun : Int32) (mco : Nat → Int32) (mcn : Nat → Int32) (mvi : Int32) (men : Int32) (mac : Nat → Int32) (mfi : Nat → Int32) (mse : Nat → Int32) (mtd : Nat → Int32) (x1 : Int32), fX12_day_25 N mta mde n mth mto mrw mtp mat mtt mme mun mco mcn mvi men mac mfi mse mtd x1 = some (r', mth', mto', mrw', mtp', mat', mtt', mme', mun', mco', mcn', mvi', men', mac', mfi', mse', mtd') → ∀ (H : Heap) (locs : List Loc), PM Z mth mto mrw mta mtp mat mtt mme mun mde mco mcn mvi men mfa mac mfi mse mtd mra mkp H → va_S (AM Z) s.heap H locs → ∀ ls : Array Slot, lv_has ls 3 [(0, .ref (mA Z 0)), (1, .int x1)] → W p l e (rmk 208 4930) s m args below meth c H locs 0 0 (MQ below (Qi (KMS Z Y) (AM Z) (PM Z mth' mto' mrw' mta mtp' mat' mtt' mme' mun' mde mco' mcn' mvi' men' mfa mac' mfi' mse' mtd' mra mkp) r') args s 0 0 (AM Z)) (F0 m 25 ls []) := by
  intro n
  induction n with
  | zero => intro mth mto mrw mtp mat mtt mme mun mco mcn mvi men mac mfi mse mtd x1 hE; cases hE
  | succ n h25 =>
    intro mth mto mrw mtp mat mtt mme mun mco mcn mvi men mac mfi mse mtd x1 hE H locs hP hS ls hl
    have C := C0.1
    have hE : fX12_day_25b N mta mde (fX12_day_25 N mta mde n) mth mto mrw mtp mat mtt mme mun mco mcn mvi men mac mfi mse mtd x1 = some (r', mth', mto', mrw', mtp', mat', mtt', mme', mun', mco', mcn', mvi', men', mac', mfi', mse', mtd') := hE
    refine lv_aload_n F.1 F.2.1 dX12_day_25 rfl (lv_at hl 0 rfl) ?_
    refine gX12_31 F C hP dX12_day_26 ?_
    refine lv_aload_n F.1 F.2.1 dX12_day_29 rfl (lv_at hl 0 rfl) ?_
    refine gX12_34 F C hP dX12_day_30 ?_
    refine lv_icmp_ge (tgt := 57) F.1 F.2.1 dX12_day_33 (by decide) (fun hc => ?_) (fun hc => ?_)
    · have hE := ifp hE hc
      exact qX12_day_57 F hr hlk C0 mth mto mrw mtp mat mtt mme mun mco mcn mvi men mac mfi mse mtd x1 hE _ _ hP hS ls (lv_sub hl [0, 1] rfl)
    · have hE := ifn hE hc
      refine lv_aload_n F.1 F.2.1 dX12_day_36 rfl (lv_at hl 0 rfl) ?_
      refine lv_iload_n F.1 F.2.1 dX12_day_37 rfl (lv_at hl 1 rfl) ?_
      obtain ⟨r892, mat_892, mac_892, mfi_892, mse_892, mtd_892, hc, hE⟩ := bnd6_some hE
      refine aft_i (run_V (rest := []) F (kX12_readsAct hc) (okMS Z Y) C0 hS lkX12_310 ⟨Nat.le_of_ble_eq_true rfl, Nat.le_of_ble_eq_true rfl⟩ (rvM C hP) hP rfl hl.1 rfl (lv_room (Nat.le_of_ble_eq_true rfl)) dX12_day_38 ⟨Nat.zero_le _, Nat.zero_le _⟩) hS (fun H locs hP hS => ?_)
      refine lv_if_ne (tgt := 51) F.1 F.2.1 dX12_day_41 (by decide) (fun hc => ?_) (fun hc => ?_)
      · have hE := ifn hE hc
        refine lv_iinc (v := x1 + 1) (lv' := [(1, .int (x1 + 1)), (0, .ref (mA Z 0))]) F.1 F.2.1 dX12_day_51 hl (k := 1) rfl rfl (by decide) rfl (fun ls hl => ?_)
        refine lv_goto (tgt := 25) F.1 F.2.1 dX12_day_54 (by decide) ?_
        exact h25 mth mto mrw mtp mat_892 mtt mme mun mco mcn mvi men mac_892 mfi_892 mse_892 mtd_892 (x1 + 1) hE _ _ hP hS ls (lv_sub hl [1, 0] rfl)
      · have hE := ifp hE hc
        refine lv_iconst (v := (-1)) F.1 F.2.1 dX12_day_44 (by decide) ?_
        refine lv_aload_n F.1 F.2.1 dX12_day_45 rfl (lv_at hl 0 rfl) ?_
        refine gX12_31 F C hP dX12_day_46 ?_
        refine lv_isub F.1 F.2.1 dX12_day_49 ?_
        have w0 := Option.some.inj hE
        obtain ⟨g0, w1⟩ := Prod.mk.inj w0
        obtain ⟨g1, w2⟩ := Prod.mk.inj w1
        obtain ⟨g2, w3⟩ := Prod.mk.inj w2
        obtain ⟨g3, w4⟩ := Prod.mk.inj w3
        obtain ⟨g4, w5⟩ := Prod.mk.inj w4
        obtain ⟨g5, w6⟩ := Prod.mk.inj w5
        obtain ⟨g6, w7⟩ := Prod.mk.inj w6
        obtain ⟨g7, w8⟩ := Prod.mk.inj w7
        obtain ⟨g8, w9⟩ := Prod.mk.inj w8
        obtain ⟨g9, w10⟩ := Prod.mk.inj w9
        obtain ⟨g10, w11⟩ := Prod.mk.inj w10
        obtain ⟨g11, w12⟩ := Prod.mk.inj w11
        obtain ⟨g12, w13⟩ := Prod.mk.inj w12
        obtain ⟨g13, w14⟩ := Prod.mk.inj w13
        obtain ⟨g14, w15⟩ := Prod.mk.inj w14
        obtain ⟨g15, w16⟩ := Prod.mk.inj w15
        subst g0 g1 g2 g3 g4 g5 g6 g7 g8 g9 g10 g11 g12 g13 g14 g15 w16
        exact ret_i F hr hlk hP hS dX12_day_50
set_option maxRecDepth 100000 in
set_option maxHeartbeats 4000000 in
theorem kX12_day {l : Launch} {Z : ZC} {Y : YS} {mth : Int32} {mto : Int32} {mrw : Nat → Int64} {mta : Nat → Int32} {mtp : Int32} {mat : Int32} {mtt : Int32} {mme : Nat → Int32} {mun : Int32} {mde : Int32} {mco : Nat → Int32} {mcn : Nat → Int32} {mvi : Int32} {men : Int32} {mfa : Nat → Int32} {mac : Nat → Int32} {mfi : Nat → Int32} {mse : Nat → Int32} {mtd : Nat → Int32} {mra : Int32} {mkp : Nat → Int32} {N : Nat} {r' : Int32} {mth' : Int32} {mto' : Int32} {mrw' : Nat → Int64} {mtp' : Int32} {mat' : Int32} {mtt' : Int32} {mme' : Nat → Int32} {mun' : Int32} {mco' : Nat → Int32} {mcn' : Nat → Int32} {mvi' : Int32} {men' : Int32} {mac' : Nat → Int32} {mfi' : Nat → Int32} {mse' : Nat → Int32} {mtd' : Nat → Int32} (hE : fX12_day N mth mto mrw mta mtp mat mtt mme mun mde mco mcn mvi men mac mfi mse mtd = some (r', mth', mto', mrw', mtp', mat', mtt', mme', mun', mco', mcn', mvi', men', mac', mfi', mse', mtd')) : Mg l yX12_day cX12_day 3 (some .int) (rmk 208 4930) (KMS Z Y) (AM Z) [.ref (mA Z 0)] (PM Z mth mto mrw mta mtp mat mtt mme mun mde mco mcn mvi men mfa mac mfi mse mtd mra mkp) (Qi (KMS Z Y) (AM Z) (PM Z mth' mto' mrw' mta mtp' mat' mtt' mme' mun' mde mco' mcn' mvi' men' mfa mac' mfi' mse' mtd' mra mkp) r') := by
  refine Mg.start (lv := [(0, .ref (mA Z 0))]) (by decide) rfl (Nat.le_of_ble_eq_true rfl) rfl ?_
  intro p e s m below meth c F hr hlk C hP ls hl
  have C0 := C
  have C := C0.1
  have hS : va_S (AM Z) s.heap s.heap [] := va_S.rf
  unfold fX12_day at hE
  refine lv_aload_n F.1 F.2.1 dX12_day_0 rfl (lv_at hl 0 rfl) ?_
  refine lv_iconst (v := 0) F.1 F.2.1 dX12_day_1 (by decide) ?_
  refine pX12_1 F C hP hS rfl dX12_day_2 (fun H locs hP hS => ?_)
  refine lv_aload_n F.1 F.2.1 dX12_day_5 rfl (lv_at hl 0 rfl) ?_
  refine lv_aload_n F.1 F.2.1 dX12_day_6 rfl (lv_at hl 0 rfl) ?_
  refine gX12_14 F C hP dX12_day_7 ?_
  refine pX12_34 F C hP hS rfl dX12_day_10 (fun H locs hP hS => ?_)
  refine lv_aload_n F.1 F.2.1 dX12_day_13 rfl (lv_at hl 0 rfl) ?_
  refine lv_iconst (v := 0) F.1 F.2.1 dX12_day_14 (by decide) ?_
  refine pX12_14 F C hP hS rfl dX12_day_15 (fun H locs hP hS => ?_)
  refine lv_aload_n F.1 F.2.1 dX12_day_18 rfl (lv_at hl 0 rfl) ?_
  refine lv_iconst (v := 0) F.1 F.2.1 dX12_day_19 (by decide) ?_
  refine pX12_31 F C hP hS rfl dX12_day_20 (fun H locs hP hS => ?_)
  refine lv_iconst (v := 0) F.1 F.2.1 dX12_day_23 (by decide) ?_
  refine lv_istore_n (lv' := [(1, .int 0), (0, .ref (mA Z 0))]) F.1 F.2.1 dX12_day_24 rfl hl (by decide) rfl (fun ls hl => ?_)
  exact qX12_day_25 F hr hlk C0 N 0 mto mrw 0 0 mtp mme mun mco mcn mvi men mac mfi mse mtd 0 hE _ _ hP hS ls (lv_sub hl [1, 0] rfl)
