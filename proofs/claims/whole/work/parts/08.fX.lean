theorem lv_seti {p : Program} {l : Launch} {e : Env} {R : Room} {s : State} {m : MethodId} {args : Array Value} {below : List Frame} {meth : Method} {c : Code} {H : Heap} {locs : List Loc} {cells slots : Nat} {Q : State → Prop} {pc : Nat} {ls : Array Slot} {rest : List Value} {x y : Int32} (h : y = x) (k : W p l e R s m args below meth c H locs cells slots Q (F0 m pc ls (.int y :: rest))) : W p l e R s m args below meth c H locs cells slots Q (F0 m pc ls (.int x :: rest)) := h ▸ k
def fJ6_bitCount_0f7a4 (p0 : Int32) : Option (Int32) :=
  lt (p0 - ((jushr p0 1) &&& 1431655765)) fun v_5 =>
  lt ((v_5 &&& 858993459) + ((jushr v_5 2) &&& 858993459)) fun v_6 =>
  lt ((v_6 + (jushr v_6 4)) &&& 252645135) fun v_7 =>
  lt ((v_7 + (jushr v_7 8)) + (jushr (v_7 + (jushr v_7 8)) 16)) fun v_8 =>
  some (v_8 &&& 63)
def fJ7_fill_53178_cl_5b (N : Nat) (p1 : Int32) (k5 : (Nat → Int32) → Int32 → Int32 → Option ((Nat → Int32))) (zcl : Nat → Int32) (x2 : Int32) (x3 : Int32) : Option ((Nat → Int32)) :=
  if x3 ≤ x2 then
    some zcl
  else
    grd (inb x2 24) <|
    lt (upd zcl x2.toNatClampNeg p1) fun zcl_10 =>
    k5 zcl_10 (x2 + 1) x3
def fJ7_fill_53178_cl_5 (N : Nat) (p1 : Int32) : Nat → (Nat → Int32) → Int32 → Int32 → Option ((Nat → Int32))
  | 0 => fun _ _ _ => none
  | n + 1 => fun zcl x2 x3 => fJ7_fill_53178_cl_5b N p1  (fJ7_fill_53178_cl_5 N p1  n) zcl x2 x3
def fJ7_fill_53178_cl (N : Nat) (zcl : Nat → Int32) (p1 : Int32) : Option ((Nat → Int32)) :=
  fJ7_fill_53178_cl_5 N p1 N zcl 0 24
def fJ7_fill_53178_fr_5b (N : Nat) (p1 : Int32) (k5 : (Nat → Int32) → Int32 → Int32 → Option ((Nat → Int32))) (zfr : Nat → Int32) (x2 : Int32) (x3 : Int32) : Option ((Nat → Int32)) :=
  if x3 ≤ x2 then
    some zfr
  else
    grd (inb x2 24) <|
    lt (upd zfr x2.toNatClampNeg p1) fun zfr_12 =>
    k5 zfr_12 (x2 + 1) x3
def fJ7_fill_53178_fr_5 (N : Nat) (p1 : Int32) : Nat → (Nat → Int32) → Int32 → Int32 → Option ((Nat → Int32))
  | 0 => fun _ _ _ => none
  | n + 1 => fun zfr x2 x3 => fJ7_fill_53178_fr_5b N p1  (fJ7_fill_53178_fr_5 N p1  n) zfr x2 x3
def fJ7_fill_53178_fr (N : Nat) (zfr : Nat → Int32) (p1 : Int32) : Option ((Nat → Int32)) :=
  fJ7_fill_53178_fr_5 N p1 N zfr 0 24
def fX11_placesOf_r_23 (N : Nat) (HS : Nat → Nat → Nat → Int32) (p1 : Int32) (k4 : Int32 → Int32 → Option (Int32)) (x3 : Int32) (y0 : Int32) (y1 : Int32) : Option (Int32) :=
  k4 (y1 ||| (jshl y0 x3)) (x3 + 1)
def fX11_placesOf_r_4b (N : Nat) (HS : Nat → Nat → Nat → Int32) (p1 : Int32) (k4 : Int32 → Int32 → Option (Int32)) (x2 : Int32) (x3 : Int32) : Option (Int32) :=
  if 6 ≤ x3 then
    some x2
  else
    grd (inb x3 6) <|
    if (HS 0) 6 x3.toNatClampNeg = p1 then
      fX11_placesOf_r_23 N HS p1 k4 x3 1 x2
    else
      fX11_placesOf_r_23 N HS p1 k4 x3 0 x2
def fX11_placesOf_r_4 (N : Nat) (HS : Nat → Nat → Nat → Int32) (p1 : Int32) : Nat → Int32 → Int32 → Option (Int32)
  | 0 => fun _ _ => none
  | n + 1 => fun x2 x3 => fX11_placesOf_r_4b N HS p1  (fX11_placesOf_r_4 N HS p1  n) x2 x3
def fX11_placesOf_r (N : Nat) (HS : Nat → Nat → Nat → Int32) (p1 : Int32) : Option (Int32) :=
  fX11_placesOf_r_4 N HS p1 N 0 0
def fX11_placesOf_w_23 (N : Nat) (HS : Nat → Nat → Nat → Int32) (p1 : Int32) (k4 : Int32 → Int32 → Option (Int32)) (x3 : Int32) (y0 : Int32) (y1 : Int32) : Option (Int32) :=
  k4 (y1 ||| (jshl y0 x3)) (x3 + 1)
def fX11_placesOf_w_4b (N : Nat) (HS : Nat → Nat → Nat → Int32) (p1 : Int32) (k4 : Int32 → Int32 → Option (Int32)) (x2 : Int32) (x3 : Int32) : Option (Int32) :=
  if 4 ≤ x3 then
    some x2
  else
    grd (inb x3 4) <|
    if (HS 0) 7 x3.toNatClampNeg = p1 then
      fX11_placesOf_w_23 N HS p1 k4 x3 1 x2
    else
      fX11_placesOf_w_23 N HS p1 k4 x3 0 x2
def fX11_placesOf_w_4 (N : Nat) (HS : Nat → Nat → Nat → Int32) (p1 : Int32) : Nat → Int32 → Int32 → Option (Int32)
  | 0 => fun _ _ => none
  | n + 1 => fun x2 x3 => fX11_placesOf_w_4b N HS p1  (fX11_placesOf_w_4 N HS p1  n) x2 x3
def fX11_placesOf_w (N : Nat) (HS : Nat → Nat → Nat → Int32) (p1 : Int32) : Option (Int32) :=
  fX11_placesOf_w_4 N HS p1 N 0 0
def fX7_takes_14b (N : Nat) (p1 : Int32) (k14 : Int32 → (Nat → Int32) → Int32 → Option (Int32 × Int32 × (Nat → Int32))) (zxz : Int32) (zsg : Nat → Int32) (x2 : Int32) : Option (Int32 × Int32 × (Nat → Int32)) :=
  if x2 < 0 then
    some (1, zxz, zsg)
  else
    grd (inb zxz 80) <|
    lt (upd zsg zxz.toNatClampNeg ((jushr p1 x2) &&& 255)) fun zsg_15 =>
    lt (zxz + 1) fun zxz_16 =>
    k14 zxz_16 zsg_15 (x2 + (-8))
def fX7_takes_14 (N : Nat) (p1 : Int32) : Nat → Int32 → (Nat → Int32) → Int32 → Option (Int32 × Int32 × (Nat → Int32))
  | 0 => fun _ _ _ => none
  | n + 1 => fun zxz zsg x2 => fX7_takes_14b N p1  (fX7_takes_14 N p1  n) zxz zsg x2
def fX7_takes (N : Nat) (zxz : Int32) (zsg : Nat → Int32) (p1 : Int32) : Option (Int32 × Int32 × (Nat → Int32)) :=
  if zxz ≤ 76 then
    fX7_takes_14 N p1 N zxz zsg 24
  else
    some (0, zxz, zsg)
def fX11_sign (N : Nat) (zxz : Int32) (zsg : Nat → Int32) (p1 : Int32) : Option (Int32 × Int32 × (Nat → Int32)) :=
  bnd3 (fX7_takes N zxz zsg p1) fun r18 zxz_18 zsg_18 =>
  if r18 = 0 then
    some ((-1), zxz_18, zsg_18)
  else
    some (zxz_18, zxz_18, zsg_18)
def fX11_end (zxz : Int32) (p1 : Int32) : Option (Int32 × Int32) :=
  if p1 < 0 then
    some (0, zxz)
  else
    if p1 ≤ zxz then
      some (1, p1)
    else
      some (0, zxz)
def fX11_bit (p0 : Int32) (p1 : Int32) : Option (Int32) :=
  some ((jushr p0 p1) &&& 1)
def fX3_leastFree_2b (N : Nat) (X : Nat → Nat → Int32) (k2 : Int32 → Option (Int32)) (x1 : Int32) : Option (Int32) :=
  if 24 ≤ x1 then
    some (-1)
  else
    bnd1 (fX11_bit (X 0 0) x1) fun r20 =>
    if r20 = 0 then
      some x1
    else
      k2 (x1 + 1)
def fX3_leastFree_2 (N : Nat) (X : Nat → Nat → Int32) : Nat → Int32 → Option (Int32)
  | 0 => fun _ => none
  | n + 1 => fun x1 => fX3_leastFree_2b N X  (fX3_leastFree_2 N X  n) x1
def fX3_leastFree (N : Nat) (X : Nat → Nat → Int32) : Option (Int32) :=
  fX3_leastFree_2 N X N 0
def fX0_becomes (za0 : Int32) (za1 : Int32) (za2 : Int32) (za3 : Int32) (za4 : Int32) (p1 : Int32) (p2 : Int32) (p3 : Int32) (p4 : Int32) (p5 : Int32) : Option (Int32 × Int32 × Int32 × Int32 × Int32) :=
  some (p1, p2, p3, p4, p5)
def fX5_marks (zpn : Int32) (HS : Nat → Nat → Nat → Int32) : Option ((Nat → Nat → Nat → Int32)) :=
  grd (inb zpn 9) <|
  lt (updH HS (4 + zpn.toNatClampNeg) (HS 0)) fun HS_22 =>
  some HS_22
def fX1_isWithin (p0 : Int32) (p1 : Int32) (p2 : Int32) : Option (Int32) :=
  if p0 < p1 then
    some 0
  else
    if p2 < p0 then
      some 0
    else
      some 1
def fX1_refusesMake (N : Nat) (za1 : Int32) (za2 : Int32) (za3 : Int32) (za4 : Int32) (X : Nat → Nat → Int32) : Option (Int32) :=
  bnd1 (fX1_isWithin za1 0 4) fun r28 =>
  if r28 = 0 then
    some (-1)
  else
    bnd1 (fX1_isWithin za2 1 9) fun r29 =>
    if r29 = 0 then
      some (-1)
    else
      bnd1 (fX1_isWithin za3 0 7) fun r30 =>
      if r30 = 0 then
        some (-1)
      else
        bnd1 (fX1_isWithin za4 0 5) fun r31 =>
        if r31 = 0 then
          some (-1)
        else
          bnd1 (fX3_leastFree N X) fun r32 =>
          if r32 = (-1) then
            some (-2)
          else
            some 0
def fX3_has (X : Nat → Nat → Int32) (p1 : Int32) : Option (Int32) :=
  if p1 < 0 then
    some 0
  else
    if 24 ≤ p1 then
      some 0
    else
      if (jushr (X 0 0) p1) &&& 1 = 1 then
        some 1
      else
        some 0
def fX3_hasField (X : Nat → Nat → Int32) (p1 : Int32) (p2 : Int32) : Option (Int32) :=
  bnd1 (fX3_has X p1) fun r34 =>
  if r34 = 0 then
    some 0
  else
    if p2 < 0 then
      some 0
    else
      grd (inb p1 24) <|
      if X 1 p1.toNatClampNeg ≤ p2 then
        some 0
      else
        some 1
def fX3_hasOrNone (X : Nat → Nat → Int32) (p1 : Int32) : Option (Int32) :=
  if p1 = (-1) then
    some 1
  else
    bnd1 (fX3_has X p1) fun r36 =>
    if r36 = 0 then
      some 0
    else
      some 1
def fX3_fieldAt (X : Nat → Nat → Int32) (p1 : Int32) (p2 : Int32) : Option (Int32) :=
  if p1 < 0 then
    some (-1)
  else
    if 24 ≤ p1 then
      some (-1)
    else
      if p2 < 0 then
        some (-1)
      else
        if 4 ≤ p2 then
          some (-1)
        else
          grd (inb ((p1 * 4) + p2) 96) <|
          some (X 5 ((p1 * 4) + p2).toNatClampNeg)
def fX3_rootBits_4b (N : Nat) (X : Nat → Nat → Int32) (p1 : Int32) (k4 : Int32 → Int32 → Option (Int32)) (x2 : Int32) (x3 : Int32) : Option (Int32) :=
  if 6 ≤ x3 then
    some x2
  else
    grd (inb x3 6) <|
    if X 6 x3.toNatClampNeg = (-1) then
      k4 x2 (x3 + 1)
    else
      bnd1 (fX11_bit p1 x3) fun r39 =>
      if r39 = 0 then
        grd (inb x3 6) <|
        lt (x2 ||| (jshl 1 (X 6 x3.toNatClampNeg))) fun v_40 =>
        k4 v_40 (x3 + 1)
      else
        k4 x2 (x3 + 1)
def fX3_rootBits_4 (N : Nat) (X : Nat → Nat → Int32) (p1 : Int32) : Nat → Int32 → Int32 → Option (Int32)
  | 0 => fun _ _ => none
  | n + 1 => fun x2 x3 => fX3_rootBits_4b N X p1  (fX3_rootBits_4 N X p1  n) x2 x3
def fX3_rootBits (N : Nat) (X : Nat → Nat → Int32) (p1 : Int32) : Option (Int32) :=
  fX3_rootBits_4 N X p1 N 0 0
def fX3_fieldBits_4b (N : Nat) (X : Nat → Nat → Int32) (p1 : Int32) (k4 : Int32 → Int32 → Option (Int32)) (x2 : Int32) (x3 : Int32) : Option (Int32) :=
  if 4 ≤ x3 then
    some x2
  else
    bnd1 (fX3_fieldAt X p1 x3) fun r42 =>
    if r42 = (-1) then
      k4 x2 (x3 + 1)
    else
      k4 (x2 ||| (jshl 1 r42)) (x3 + 1)
def fX3_fieldBits_4 (N : Nat) (X : Nat → Nat → Int32) (p1 : Int32) : Nat → Int32 → Int32 → Option (Int32)
  | 0 => fun _ _ => none
  | n + 1 => fun x2 x3 => fX3_fieldBits_4b N X p1  (fX3_fieldBits_4 N X p1  n) x2 x3
def fX3_fieldBits (N : Nat) (X : Nat → Nat → Int32) (p1 : Int32) : Option (Int32) :=
  fX3_fieldBits_4 N X p1 N 0 0
def fX10_spreads_14b (N : Nat) (X : Nat → Nat → Int32) (p2 : Int32) (p3 : Int32) (k14 : Int32 → Int32 → Int32 → Option (Int32)) (x4 : Int32) (x5 : Int32) (x6 : Int32) : Option (Int32) :=
  if 24 ≤ x6 then
    some x4
  else
    if x5 = 0 then
      some x4
    else
      bnd1 (fJ6_bitCount_0f7a4 ((x5 &&& (-x5)) - 1)) fun r47 =>
      bnd1 (fX3_fieldBits N X r47) fun r48 =>
      lt ((r48 &&& (x4 ^^^ (-1))) &&& (p3 ^^^ (-1))) fun v_49 =>
      lt ((x5 &&& ((x5 &&& (-x5)) ^^^ (-1))) ||| v_49) fun v_50 =>
      k14 (x4 ||| v_49) v_50 (x6 + 1)
def fX10_spreads_14 (N : Nat) (X : Nat → Nat → Int32) (p2 : Int32) (p3 : Int32) : Nat → Int32 → Int32 → Int32 → Option (Int32)
  | 0 => fun _ _ _ => none
  | n + 1 => fun x4 x5 x6 => fX10_spreads_14b N X p2 p3  (fX10_spreads_14 N X p2 p3  n) x4 x5 x6
def fX10_spreads (N : Nat) (X : Nat → Nat → Int32) (p2 : Int32) (p3 : Int32) : Option (Int32) :=
  fX10_spreads_14 N X p2 p3 N (p2 &&& (p3 ^^^ (-1))) (p2 &&& (p3 ^^^ (-1))) 0
def fX10_reached (N : Nat) (X : Nat → Nat → Int32) : Option (Int32) :=
  bnd1 (fX3_rootBits N X 0) fun r53 =>
  bnd1 (fX10_spreads N X r53 0) fun r54 =>
  some r54
def fX1_isIn (p0 : Int32) (p1 : Int32) : Option (Int32) :=
  if p1 = (-1) then
    some 1
  else
    bnd1 (fX11_bit p0 p1) fun r56 =>
    if r56 = 1 then
      some 1
    else
      some 0
def fX1_refusesSet (N : Nat) (X : Nat → Nat → Int32) (p2 : Int32) (p3 : Int32) (p4 : Int32) : Option (Int32) :=
  bnd1 (fX3_hasField X p2 p3) fun r63 =>
  if r63 = 0 then
    some (-1)
  else
    bnd1 (fX3_hasOrNone X p4) fun r64 =>
    if r64 = 0 then
      some (-1)
    else
      bnd1 (fX3_fieldAt X p2 p3) fun r65 =>
      if r65 = p4 then
        some (-2)
      else
        bnd1 (fX10_reached N X) fun r66 =>
        bnd1 (fX1_isIn r66 p2) fun r67 =>
        if r67 = 0 then
          some (-3)
        else
          bnd1 (fX1_isIn r66 p4) fun r68 =>
          if r68 = 0 then
            some (-3)
          else
            some 0
def fX1_refusesRoot (N : Nat) (X : Nat → Nat → Int32) (p2 : Int32) (p3 : Int32) : Option (Int32) :=
  bnd1 (fX1_isWithin p2 0 5) fun r73 =>
  if r73 = 0 then
    some (-1)
  else
    bnd1 (fX3_hasOrNone X p3) fun r74 =>
    if r74 = 0 then
      some (-1)
    else
      grd (inb p2 6) <|
      if X 6 p2.toNatClampNeg = p3 then
        some (-2)
      else
        bnd1 (fX10_reached N X) fun r75 =>
        bnd1 (fX1_isIn r75 p3) fun r76 =>
        if r76 = 0 then
          some (-3)
        else
          some 0
def fX1_refusesWeak (N : Nat) (X : Nat → Nat → Int32) (p2 : Int32) (p3 : Int32) : Option (Int32) :=
  bnd1 (fX1_isWithin p2 0 3) fun r81 =>
  if r81 = 0 then
    some (-4)
  else
    bnd1 (fX3_hasOrNone X p3) fun r82 =>
    if r82 = 0 then
      some (-4)
    else
      grd (inb p2 4) <|
      if X 7 p2.toNatClampNeg = p3 then
        some (-2)
      else
        bnd1 (fX10_reached N X) fun r83 =>
        bnd1 (fX1_isIn r83 p3) fun r84 =>
        if r84 = 0 then
          some (-3)
        else
          some 0
def fX1_refusesWake (X : Nat → Nat → Int32) (p2 : Int32) (p3 : Int32) : Option (Int32) :=
  bnd1 (fX1_isWithin p2 0 3) fun r87 =>
  if r87 = 0 then
    some (-1)
  else
    bnd1 (fX1_isWithin p3 0 5) fun r88 =>
    if r88 = 0 then
      some (-1)
    else
      grd (inb p2 4) <|
      if X 7 p2.toNatClampNeg = (-1) then
        some (-3)
      else
        grd (inb p3 6) <|
        grd (inb p2 4) <|
        if X 6 p3.toNatClampNeg = X 7 p2.toNatClampNeg then
          some (-2)
        else
          some 0
def fX1_refuses (N : Nat) (za0 : Int32) (za1 : Int32) (za2 : Int32) (za3 : Int32) (za4 : Int32) (X : Nat → Nat → Int32) : Option (Int32) :=
  if za0 = 107 then
    bnd1 (fX1_refusesWake X za1 za2) fun r94 =>
    some r94
  else
  if za0 = 110 then
    bnd1 (fX1_refusesMake N za1 za2 za3 za4 X) fun r95 =>
    some r95
  else
  if za0 = 114 then
    bnd1 (fX1_refusesRoot N X za1 za2) fun r96 =>
    some r96
  else
  if za0 = 115 then
    bnd1 (fX1_refusesSet N X za1 za2 za3) fun r97 =>
    some r97
  else
  if za0 = 116 then
    if X 8 1 = 0 then
      some (-2)
    else
      some 0
  else
  if za0 = 119 then
    bnd1 (fX1_refusesWeak N X za1 za2) fun r98 =>
    some r98
  else
    some (-1)
def fX3_empties_2b (N : Nat) (p1 : Int32) (k2 : (Nat → Nat → Int32) → Int32 → Option ((Nat → Nat → Int32))) (X : Nat → Nat → Int32) (x2 : Int32) : Option ((Nat → Nat → Int32)) :=
  if 4 ≤ x2 then
    some X
  else
    grd (inb ((p1 * 4) + x2) 96) <|
    lt (up2 X 5 ((p1 * 4) + x2).toNatClampNeg (-1)) fun X_100 =>
    k2 X_100 (x2 + 1)
def fX3_empties_2 (N : Nat) (p1 : Int32) : Nat → (Nat → Nat → Int32) → Int32 → Option ((Nat → Nat → Int32))
  | 0 => fun _ _ => none
  | n + 1 => fun X x2 => fX3_empties_2b N p1  (fX3_empties_2 N p1  n) X x2
def fX3_empties (N : Nat) (X : Nat → Nat → Int32) (p1 : Int32) : Option ((Nat → Nat → Int32)) :=
  fX3_empties_2 N p1 N X 0
def fX4_adds (X : Nat → Nat → Int32) (p1 : Int32) (p2 : Int32) : Option ((Nat → Nat → Int32)) :=
  grd (nzb 60) <|
  grd (inb (jrem (X 10 3) 60) 60) <|
  lt (up2 X 11 (jrem (X 10 3) 60).toNatClampNeg p1) fun X_105 =>
  grd (inb (jrem (X 10 3) 60) 60) <|
  lt (up2 X_105 12 (jrem (X 10 3) 60).toNatClampNeg p2) fun X_106 =>
  grd (inb p1 6) <|
  grd (inb p1 6) <|
  lt (up2 X_106 13 p1.toNatClampNeg ((X_106 13 p1.toNatClampNeg) + 1)) fun X_107 =>
  lt (up2 X_107 10 3 ((X_107 10 3) + 1)) fun X_108 =>
  some X_108
def fX3_adds (N : Nat) (X : Nat → Nat → Int32) (p1 : Int32) (p2 : Int32) (p3 : Int32) (p4 : Int32) : Option ((Nat → Nat → Int32)) :=
  lt (up2 X 0 0 ((X 0 0) ||| (jshl 1 p1))) fun X_117 =>
  lt (up2 X_117 0 1 ((X_117 0 1) &&& ((jshl 1 p1) ^^^ (-1)))) fun X_118 =>
  grd (inb p1 24) <|
  lt (up2 X_118 1 p1.toNatClampNeg p2) fun X_119 =>
  grd (inb p1 24) <|
  lt (up2 X_119 2 p1.toNatClampNeg p3) fun X_120 =>
  grd (inb p1 24) <|
  lt (up2 X_120 3 p1.toNatClampNeg p4) fun X_121 =>
  grd (inb p1 24) <|
  lt (up2 X_121 4 p1.toNatClampNeg 0) fun X_122 =>
  bnd1 (fX3_empties N X_122 p1) fun X_123 =>
  bnd1 (fX4_adds X_123 0 p1) fun X_124 =>
  some X_124
def fX6_trusts (X : Nat → Nat → Int32) (p1 : Int32) : Option ((Nat → Nat → Int32)) :=
  lt (up2 X 8 3 ((X 8 3) &&& ((jshl 1 p1) ^^^ (-1)))) fun X_126 =>
  some X_126
def fX6_means (X : Nat → Nat → Int32) (p1 : Int32) : Option ((Nat → Nat → Int32)) :=
  lt (up2 X 8 3 ((X 8 3) ||| (jshl 1 p1))) fun X_132 =>
  bnd1 (fX11_bit (X_132 8 2) p1) fun r133 =>
  if r133 = 0 then
    if 24 ≤ X_132 8 1 then
      some X_132
    else
      grd (inb (X_132 8 1) 24) <|
      lt (up2 X_132 9 (X_132 8 1).toNatClampNeg p1) fun X_134 =>
      lt (up2 X_134 8 1 ((X_134 8 1) + 1)) fun X_135 =>
      lt (up2 X_135 8 2 ((X_135 8 2) ||| (jshl 1 p1))) fun X_136 =>
      some X_136
  else
    some X_132
def fX6_drops_43 (N : Nat) (p1 : Int32) (X : Nat → Nat → Int32) (x2 : Int32) : Option ((Nat → Nat → Int32)) :=
  lt (up2 X 8 1 x2) fun X_142 =>
  lt (up2 X_142 8 2 ((X_142 8 2) &&& ((jshl 1 p1) ^^^ (-1)))) fun X_143 =>
  lt (up2 X_143 8 3 ((X_143 8 3) &&& ((jshl 1 p1) ^^^ (-1)))) fun X_144 =>
  some X_144
def fX6_drops_4b (N : Nat) (p1 : Int32) (k4 : (Nat → Nat → Int32) → Int32 → Int32 → Option ((Nat → Nat → Int32))) (X : Nat → Nat → Int32) (x2 : Int32) (x3 : Int32) : Option ((Nat → Nat → Int32)) :=
  if X 8 1 ≤ x3 then
    fX6_drops_43 N p1 X x2
  else
    grd (inb x3 24) <|
    if X 9 x3.toNatClampNeg = p1 then
      k4 X x2 (x3 + 1)
    else
      grd (inb x3 24) <|
      grd (inb x2 24) <|
      lt (up2 X 9 x2.toNatClampNeg (X 9 x3.toNatClampNeg)) fun X_141 =>
      k4 X_141 (x2 + 1) (x3 + 1)
def fX6_drops_4 (N : Nat) (p1 : Int32) : Nat → (Nat → Nat → Int32) → Int32 → Int32 → Option ((Nat → Nat → Int32))
  | 0 => fun _ _ _ => none
  | n + 1 => fun X x2 x3 => fX6_drops_4b N p1  (fX6_drops_4 N p1  n) X x2 x3
def fX6_drops (N : Nat) (X : Nat → Nat → Int32) (p1 : Int32) : Option ((Nat → Nat → Int32)) :=
  fX6_drops_4 N p1 N X 0 0
def fX3_hasEndToRun (X : Nat → Nat → Int32) (p1 : Int32) : Option (Int32) :=
  bnd1 (fX3_has X p1) fun r147 =>
  if r147 = 0 then
    some 0
  else
    grd (inb p1 24) <|
    if X 3 p1.toNatClampNeg = 0 then
      some 0
    else
      bnd1 (fX11_bit (X 0 1) p1) fun r148 =>
      if r148 = 0 then
        some 1
      else
        some 0
def fX2_runsEnd (X : Nat → Nat → Int32) (p2 : Int32) : Option (Int32 × (Nat → Nat → Int32)) :=
  lt (up2 X 0 1 ((X 0 1) ||| (jshl 1 p2))) fun X_157 =>
  bnd1 (fX4_adds X_157 3 p2) fun X_158 =>
  grd (inb p2 24) <|
  lt ((X_158 3 p2.toNatClampNeg) - 2) fun v_159 =>
  if v_159 < 0 then
    some ((-1), X_158)
  else
    if v_159 < 6 then
      bnd1 (fX4_adds X_158 4 p2) fun X_160 =>
      grd (inb v_159 6) <|
      lt (X_160 6 v_159.toNatClampNeg) fun v_161 =>
      grd (inb v_159 6) <|
      lt (up2 X_160 6 v_159.toNatClampNeg p2) fun X_162 =>
      grd (inb p2 24) <|
      grd (inb p2 24) <|
      lt (up2 X_162 4 p2.toNatClampNeg ((X_162 4 p2.toNatClampNeg) + 1)) fun X_163 =>
      bnd1 (fX6_trusts X_163 p2) fun X_164 =>
      some (v_161, X_164)
    else
      some ((-1), X_158)
def fX2_countsOneDown_72 (N : Nat) (p2 : Int32) (zcd : Int32) (zgo : Nat → Int32) (X : Nat → Nat → Int32) : Option (Int32 × Int32 × (Nat → Int32) × (Nat → Nat → Int32)) :=
  bnd1 (fX4_adds X 1 p2) fun X_178 =>
  if 24 ≤ zcd then
    some ((-1), zcd, zgo, X_178)
  else
    grd (inb zcd 24) <|
    lt (upd zgo zcd.toNatClampNeg p2) fun zgo_179 =>
    lt (zcd + 1) fun zcd_180 =>
    some ((-1), zcd_180, zgo_179, X_178)
def fX2_countsOneDown (N : Nat) (zcd : Int32) (zgo : Nat → Int32) (X : Nat → Nat → Int32) (p2 : Int32) : Option (Int32 × Int32 × (Nat → Int32) × (Nat → Nat → Int32)) :=
  grd (inb p2 24) <|
  grd (inb p2 24) <|
  lt (up2 X 4 p2.toNatClampNeg ((X 4 p2.toNatClampNeg) - 1)) fun X_173 =>
  grd (inb p2 24) <|
  if X_173 4 p2.toNatClampNeg ≤ 0 then
    bnd1 (fX6_drops N X_173 p2) fun X_174 =>
    bnd1 (fX3_hasEndToRun X_174 p2) fun r175 =>
    if r175 = 0 then
      fX2_countsOneDown_72 N p2 zcd zgo X_174
    else
      bnd2 (fX2_runsEnd X_174 p2) fun r176 X_176 =>
      grd (inb p2 24) <|
      if X_176 4 p2.toNatClampNeg ≤ 0 then
        fX2_countsOneDown_72 N p2 zcd zgo X_176
      else
        some (r176, zcd, zgo, X_176)
  else
    grd (inb p2 24) <|
    if X_173 1 p2.toNatClampNeg ≤ 0 then
      some ((-1), zcd, zgo, X_173)
    else
      bnd1 (fX6_means X_173 p2) fun X_177 =>
      some ((-1), zcd, zgo, X_177)
def fX3_fills (X : Nat → Nat → Int32) (p1 : Int32) (p2 : Int32) (p3 : Int32) : Option ((Nat → Nat → Int32)) :=
  if p1 < 0 then
    some X
  else
    if 24 ≤ p1 then
      some X
    else
      if p2 < 0 then
        some X
      else
        if 4 ≤ p2 then
          some X
        else
          grd (inb ((p1 * 4) + p2) 96) <|
          lt (up2 X 5 ((p1 * 4) + p2).toNatClampNeg p3) fun X_182 =>
          some X_182
def fX3_loses_39 (N : Nat) (p1 : Int32) (X : Nat → Nat → Int32) : Option ((Nat → Nat → Int32)) :=
  lt (up2 X 0 0 ((X 0 0) &&& ((jshl 1 p1) ^^^ (-1)))) fun X_188 =>
  some X_188
def fX3_loses_2b (N : Nat) (p1 : Int32) (k2 : (Nat → Nat → Int32) → Int32 → Option ((Nat → Nat → Int32))) (X : Nat → Nat → Int32) (x2 : Int32) : Option ((Nat → Nat → Int32)) :=
  if 4 ≤ x2 then
    fX3_loses_39 N p1 X
  else
    grd (inb x2 4) <|
    if X 7 x2.toNatClampNeg = p1 then
      grd (inb x2 4) <|
      lt (up2 X 7 x2.toNatClampNeg (-1)) fun X_186 =>
      bnd1 (fX4_adds X_186 5 p1) fun X_187 =>
      k2 X_187 (x2 + 1)
    else
      k2 X (x2 + 1)
def fX3_loses_2 (N : Nat) (p1 : Int32) : Nat → (Nat → Nat → Int32) → Int32 → Option ((Nat → Nat → Int32))
  | 0 => fun _ _ => none
  | n + 1 => fun X x2 => fX3_loses_2b N p1  (fX3_loses_2 N p1  n) X x2
def fX3_loses (N : Nat) (X : Nat → Nat → Int32) (p1 : Int32) : Option ((Nat → Nat → Int32)) :=
  fX3_loses_2 N p1 N X 0
def fX2_goesOnFreeing_49 (N : Nat) (zgo : Nat → Int32) (zcd : Int32) (X : Nat → Nat → Int32) (x2 : Int32) : Option (Int32 × Int32 × (Nat → Nat → Int32)) :=
  lt (zcd - 1) fun zcd_197 =>
  bnd1 (fX3_loses N X x2) fun X_198 =>
  some ((-1), zcd_197, X_198)
def fX2_goesOnFreeing_14b (N : Nat) (zgo : Nat → Int32) (k14 : Int32 → (Nat → Nat → Int32) → Int32 → Int32 → Option (Int32 × Int32 × (Nat → Nat → Int32))) (zcd : Int32) (X : Nat → Nat → Int32) (x2 : Int32) (x3 : Int32) : Option (Int32 × Int32 × (Nat → Nat → Int32)) :=
  if 4 ≤ x3 then
    fX2_goesOnFreeing_49 N zgo zcd X x2
  else
    bnd1 (fX3_fieldAt X x2 x3) fun r195 =>
    if r195 = (-1) then
      k14 zcd X x2 (x3 + 1)
    else
      bnd1 (fX3_fills X x2 x3 (-1)) fun X_196 =>
      some (r195, zcd, X_196)
def fX2_goesOnFreeing_14 (N : Nat) (zgo : Nat → Int32) : Nat → Int32 → (Nat → Nat → Int32) → Int32 → Int32 → Option (Int32 × Int32 × (Nat → Nat → Int32))
  | 0 => fun _ _ _ _ => none
  | n + 1 => fun zcd X x2 x3 => fX2_goesOnFreeing_14b N zgo  (fX2_goesOnFreeing_14 N zgo  n) zcd X x2 x3
def fX2_goesOnFreeing (N : Nat) (zcd : Int32) (zgo : Nat → Int32) (X : Nat → Nat → Int32) : Option (Int32 × Int32 × (Nat → Nat → Int32)) :=
  grd (inb (zcd - 1) 24) <|
  lt (zgo (zcd - 1).toNatClampNeg) fun v_194 =>
  fX2_goesOnFreeing_14 N zgo N zcd X v_194 0
def fX2_countsDown_29 (N : Nat) (p2 : Int32) (k10 : Int32 → (Nat → Int32) → (Nat → Nat → Int32) → Int32 → Int32 → Option (Int32 × (Nat → Int32) × (Nat → Nat → Int32))) (zcd : Int32) (zgo : Nat → Int32) (X : Nat → Nat → Int32) (x3 : Int32) (x4 : Int32) : Option (Int32 × (Nat → Int32) × (Nat → Nat → Int32)) :=
  if x3 = (-1) then
    bnd3 (fX2_goesOnFreeing N zcd zgo X) fun r201 zcd_201 X_201 =>
    k10 zcd_201 zgo X_201 r201 (x4 + 1)
  else
    bnd4 (fX2_countsOneDown N zcd zgo X x3) fun r202 zcd_202 zgo_202 X_202 =>
    k10 zcd_202 zgo_202 X_202 r202 (x4 + 1)
def fX2_countsDown_10b (N : Nat) (p2 : Int32) (k10 : Int32 → (Nat → Int32) → (Nat → Nat → Int32) → Int32 → Int32 → Option (Int32 × (Nat → Int32) × (Nat → Nat → Int32))) (zcd : Int32) (zgo : Nat → Int32) (X : Nat → Nat → Int32) (x3 : Int32) (x4 : Int32) : Option (Int32 × (Nat → Int32) × (Nat → Nat → Int32)) :=
  if 100000 ≤ x4 then
    some (zcd, zgo, X)
  else
    if x3 = (-1) then
      if zcd ≤ 0 then
        some (zcd, zgo, X)
      else
        fX2_countsDown_29 N p2 k10 zcd zgo X x3 x4
    else
      fX2_countsDown_29 N p2 k10 zcd zgo X x3 x4
def fX2_countsDown_10 (N : Nat) (p2 : Int32) : Nat → Int32 → (Nat → Int32) → (Nat → Nat → Int32) → Int32 → Int32 → Option (Int32 × (Nat → Int32) × (Nat → Nat → Int32))
  | 0 => fun _ _ _ _ _ => none
  | n + 1 => fun zcd zgo X x3 x4 => fX2_countsDown_10b N p2  (fX2_countsDown_10 N p2  n) zcd zgo X x3 x4
def fX2_countsDown (N : Nat) (zcd : Int32) (zgo : Nat → Int32) (X : Nat → Nat → Int32) (p2 : Int32) : Option (Int32 × (Nat → Int32) × (Nat → Nat → Int32)) :=
  fX2_countsDown_10 N p2 N 0 zgo X p2 0
def fX2_recounts_23 (N : Nat) (p2 : Int32) (p3 : Int32) (zcd : Int32) (zgo : Nat → Int32) (X : Nat → Nat → Int32) : Option (Int32 × (Nat → Int32) × (Nat → Nat → Int32)) :=
  bnd3 (fX2_countsDown N zcd zgo X p2) fun zcd_208 zgo_208 X_208 =>
  some (zcd_208, zgo_208, X_208)
def fX2_recounts (N : Nat) (zcd : Int32) (zgo : Nat → Int32) (X : Nat → Nat → Int32) (p2 : Int32) (p3 : Int32) : Option (Int32 × (Nat → Int32) × (Nat → Nat → Int32)) :=
  if p3 = (-1) then
    fX2_recounts_23 N p2 p3 zcd zgo X
  else
    grd (inb p3 24) <|
    grd (inb p3 24) <|
    lt (up2 X 4 p3.toNatClampNeg ((X 4 p3.toNatClampNeg) + 1)) fun X_206 =>
    bnd1 (fX6_trusts X_206 p3) fun X_207 =>
    fX2_recounts_23 N p2 p3 zcd zgo X_207
def fX2_laysRoot (N : Nat) (zcd : Int32) (zgo : Nat → Int32) (X : Nat → Nat → Int32) (p2 : Int32) (p3 : Int32) : Option (Int32 × (Nat → Int32) × (Nat → Nat → Int32)) :=
  grd (inb p2 6) <|
  grd (inb p2 6) <|
  lt (up2 X 6 p2.toNatClampNeg p3) fun X_211 =>
  bnd3 (fX2_recounts N zcd zgo X_211 (X 6 p2.toNatClampNeg) p3) fun zcd_212 zgo_212 X_212 =>
  some (zcd_212, zgo_212, X_212)
def fX2_laysField (N : Nat) (zcd : Int32) (zgo : Nat → Int32) (X : Nat → Nat → Int32) (p2 : Int32) (p3 : Int32) (p4 : Int32) : Option (Int32 × (Nat → Int32) × (Nat → Nat → Int32)) :=
  bnd1 (fX3_fieldAt X p2 p3) fun r216 =>
  bnd1 (fX3_fills X p2 p3 p4) fun X_217 =>
  bnd3 (fX2_recounts N zcd zgo X_217 r216 p4) fun zcd_218 zgo_218 X_218 =>
  some (zcd_218, zgo_218, X_218)
def fX6_dropsTrusted_4b (N : Nat) (k4 : (Nat → Nat → Int32) → Int32 → Int32 → Option ((Nat → Nat → Int32))) (X : Nat → Nat → Int32) (x1 : Int32) (x2 : Int32) : Option ((Nat → Nat → Int32)) :=
  if X 8 1 ≤ x2 then
    lt (up2 X 8 1 x1) fun X_223 =>
    lt (up2 X_223 8 2 (X_223 8 3)) fun X_224 =>
    some X_224
  else
    grd (inb x2 24) <|
    bnd1 (fX11_bit (X 8 3) (X 9 x2.toNatClampNeg)) fun r225 =>
    if r225 = 1 then
      grd (inb x2 24) <|
      grd (inb x1 24) <|
      lt (up2 X 9 x1.toNatClampNeg (X 9 x2.toNatClampNeg)) fun X_226 =>
      k4 X_226 (x1 + 1) (x2 + 1)
    else
      k4 X x1 (x2 + 1)
def fX6_dropsTrusted_4 (N : Nat) : Nat → (Nat → Nat → Int32) → Int32 → Int32 → Option ((Nat → Nat → Int32))
  | 0 => fun _ _ _ => none
  | n + 1 => fun X x1 x2 => fX6_dropsTrusted_4b N  (fX6_dropsTrusted_4 N  n) X x1 x2
def fX6_dropsTrusted (N : Nat) (X : Nat → Nat → Int32) : Option ((Nat → Nat → Int32)) :=
  fX6_dropsTrusted_4 N N X 0 0
def fX9_paints (ztv : Int32) (zcl : Nat → Int32) (p1 : Int32) (p2 : Int32) : Option (Int32 × (Nat → Int32)) :=
  grd (inb p1 24) <|
  lt (upd zcl p1.toNatClampNeg p2) fun zcl_229 =>
  lt (ztv + 1) fun ztv_230 =>
  some (ztv_230, zcl_229)
def fX9_spreads_36b (N : Nat) (p2 : Int32) (p3 : Int32) (p4 : Int32) (k19 : Int32 → (Nat → Int32) → (Nat → Int32) → (Nat → Nat → Int32) → Int32 → Int32 → Option (Int32 × (Nat → Int32) × (Nat → Int32) × (Nat → Nat → Int32))) (k36 : Int32 → (Nat → Int32) → (Nat → Int32) → (Nat → Nat → Int32) → Int32 → Int32 → Int32 → Option (Int32 × (Nat → Int32) × (Nat → Int32) × (Nat → Nat → Int32))) (ztv : Int32) (zcl : Nat → Int32) (zwa : Nat → Int32) (X : Nat → Nat → Int32) (x5 : Int32) (x6 : Int32) (x7 : Int32) : Option (Int32 × (Nat → Int32) × (Nat → Int32) × (Nat → Nat → Int32)) :=
  if 4 ≤ x7 then
    k19 ztv zcl zwa X x5 (x6 + 1)
  else
    grd (inb x6 24) <|
    bnd1 (fX3_fieldAt X (zwa x6.toNatClampNeg) x7) fun r239 =>
    if r239 = (-1) then
      k36 ztv zcl zwa X x5 x6 (x7 + 1)
    else
      grd (inb r239 24) <|
      grd (inb r239 24) <|
      lt (up2 X 4 r239.toNatClampNeg ((X 4 r239.toNatClampNeg) + p4)) fun X_240 =>
      grd (inb r239 24) <|
      if zcl r239.toNatClampNeg = p3 then
        k36 ztv zcl zwa X_240 x5 x6 (x7 + 1)
      else
        if 24 ≤ x5 then
          k36 ztv zcl zwa X_240 x5 x6 (x7 + 1)
        else
          grd (inb x5 24) <|
          lt (upd zwa x5.toNatClampNeg r239) fun zwa_241 =>
          bnd2 (fX9_paints ztv zcl r239 p3) fun ztv_242 zcl_242 =>
          k36 ztv_242 zcl_242 zwa_241 X_240 (x5 + 1) x6 (x7 + 1)
def fX9_spreads_36 (N : Nat) (p2 : Int32) (p3 : Int32) (p4 : Int32) (k19 : Int32 → (Nat → Int32) → (Nat → Int32) → (Nat → Nat → Int32) → Int32 → Int32 → Option (Int32 × (Nat → Int32) × (Nat → Int32) × (Nat → Nat → Int32))) : Nat → Int32 → (Nat → Int32) → (Nat → Int32) → (Nat → Nat → Int32) → Int32 → Int32 → Int32 → Option (Int32 × (Nat → Int32) × (Nat → Int32) × (Nat → Nat → Int32))
  | 0 => fun _ _ _ _ _ _ _ => none
  | n + 1 => fun ztv zcl zwa X x5 x6 x7 => fX9_spreads_36b N p2 p3 p4 k19 (fX9_spreads_36 N p2 p3 p4 k19 n) ztv zcl zwa X x5 x6 x7
def fX9_spreads_19b (N : Nat) (p2 : Int32) (p3 : Int32) (p4 : Int32) (k19 : Int32 → (Nat → Int32) → (Nat → Int32) → (Nat → Nat → Int32) → Int32 → Int32 → Option (Int32 × (Nat → Int32) × (Nat → Int32) × (Nat → Nat → Int32))) (ztv : Int32) (zcl : Nat → Int32) (zwa : Nat → Int32) (X : Nat → Nat → Int32) (x5 : Int32) (x6 : Int32) : Option (Int32 × (Nat → Int32) × (Nat → Int32) × (Nat → Nat → Int32)) :=
  if x5 ≤ x6 then
    some (ztv, zcl, zwa, X)
  else
    if 24 ≤ x6 then
      some (ztv, zcl, zwa, X)
    else
      fX9_spreads_36 N p2 p3 p4 k19 N ztv zcl zwa X x5 x6 0
def fX9_spreads_19 (N : Nat) (p2 : Int32) (p3 : Int32) (p4 : Int32) : Nat → Int32 → (Nat → Int32) → (Nat → Int32) → (Nat → Nat → Int32) → Int32 → Int32 → Option (Int32 × (Nat → Int32) × (Nat → Int32) × (Nat → Nat → Int32))
  | 0 => fun _ _ _ _ _ _ => none
  | n + 1 => fun ztv zcl zwa X x5 x6 => fX9_spreads_19b N p2 p3 p4  (fX9_spreads_19 N p2 p3 p4  n) ztv zcl zwa X x5 x6
def fX9_spreads (N : Nat) (ztv : Int32) (zcl : Nat → Int32) (zwa : Nat → Int32) (X : Nat → Nat → Int32) (p2 : Int32) (p3 : Int32) (p4 : Int32) : Option (Int32 × (Nat → Int32) × (Nat → Int32) × (Nat → Nat → Int32)) :=
  grd (inb 0 24) <|
  lt (upd zwa (0 : Int32).toNatClampNeg p2) fun zwa_237 =>
  bnd2 (fX9_paints ztv zcl p2 p3) fun ztv_238 zcl_238 =>
  fX9_spreads_19 N p2 p3 p4 N ztv_238 zcl_238 zwa_237 X 1 0
def fX9_takesAway (N : Nat) (ztv : Int32) (zcl : Nat → Int32) (zwa : Nat → Int32) (X : Nat → Nat → Int32) (p2 : Int32) : Option (Int32 × (Nat → Int32) × (Nat → Int32) × (Nat → Nat → Int32)) :=
  grd (inb p2 24) <|
  if zcl p2.toNatClampNeg = 1 then
    some (ztv, zcl, zwa, X)
  else
    bnd4 (fX9_spreads N ztv zcl zwa X p2 1 (-1)) fun ztv_244 zcl_244 zwa_244 X_244 =>
    some (ztv_244, zcl_244, zwa_244, X_244)
def fX9_looksAt (N : Nat) (ztd : Int32) (ztv : Int32) (zcl : Nat → Int32) (zwa : Nat → Int32) (zpt : Nat → Int32) (zpf : Nat → Int32) (X : Nat → Nat → Int32) (p2 : Int32) : Option (Int32 × Int32 × (Nat → Int32) × (Nat → Int32) × (Nat → Int32) × (Nat → Int32) × (Nat → Nat → Int32)) :=
  if p2 = (-1) then
    some (ztd, ztv, zcl, zwa, zpt, zpf, X)
  else
    grd (inb p2 24) <|
    if zcl p2.toNatClampNeg = 1 then
      grd (inb p2 24) <|
      if X 4 p2.toNatClampNeg ≤ 0 then
        if 24 ≤ ztd then
          some (ztd, ztv, zcl, zwa, zpt, zpf, X)
        else
          bnd2 (fX9_paints ztv zcl p2 2) fun ztv_250 zcl_250 =>
          grd (inb ztd 24) <|
          lt (upd zpt ztd.toNatClampNeg p2) fun zpt_251 =>
          grd (inb ztd 24) <|
          lt (upd zpf ztd.toNatClampNeg 0) fun zpf_252 =>
          lt (ztd + 1) fun ztd_253 =>
          some (ztd_253, ztv_250, zcl_250, zwa, zpt_251, zpf_252, X)
      else
        bnd4 (fX9_spreads N ztv zcl zwa X p2 3 1) fun ztv_254 zcl_254 zwa_254 X_254 =>
        some (ztd, ztv_254, zcl_254, zwa_254, zpt, zpf, X_254)
    else
      some (ztd, ztv, zcl, zwa, zpt, zpf, X)
def fX9_looksThrough_13b (N : Nat) (p2 : Int32) (k13 : Int32 → Int32 → (Nat → Int32) → (Nat → Int32) → (Nat → Int32) → (Nat → Int32) → (Nat → Nat → Int32) → Int32 → Option (Int32 × Int32 × (Nat → Int32) × (Nat → Int32) × (Nat → Int32) × (Nat → Int32) × (Nat → Nat → Int32))) (ztd : Int32) (ztv : Int32) (zcl : Nat → Int32) (zwa : Nat → Int32) (zpt : Nat → Int32) (zpf : Nat → Int32) (X : Nat → Nat → Int32) (x3 : Int32) : Option (Int32 × Int32 × (Nat → Int32) × (Nat → Int32) × (Nat → Int32) × (Nat → Int32) × (Nat → Nat → Int32)) :=
  if 100000 ≤ x3 then
    some (ztd, ztv, zcl, zwa, zpt, zpf, X)
  else
    if ztd ≤ 0 then
      some (ztd, ztv, zcl, zwa, zpt, zpf, X)
    else
      grd (inb (ztd - 1) 24) <|
      lt (zpt (ztd - 1).toNatClampNeg) fun v_263 =>
      grd (inb (ztd - 1) 24) <|
      lt (zpf (ztd - 1).toNatClampNeg) fun v_264 =>
      if 4 ≤ v_264 then
        lt (ztd - 1) fun ztd_265 =>
        k13 ztd_265 ztv zcl zwa zpt zpf X (x3 + 1)
      else
        grd (inb (ztd - 1) 24) <|
        grd (inb (ztd - 1) 24) <|
        lt (upd zpf (ztd - 1).toNatClampNeg ((zpf (ztd - 1).toNatClampNeg) + 1)) fun zpf_266 =>
        bnd1 (fX3_fieldAt X v_263 v_264) fun r267 =>
        bnd7 (fX9_looksAt N ztd ztv zcl zwa zpt zpf_266 X r267) fun ztd_268 ztv_268 zcl_268 zwa_268 zpt_268 zpf_268 X_268 =>
        k13 ztd_268 ztv_268 zcl_268 zwa_268 zpt_268 zpf_268 X_268 (x3 + 1)
def fX9_looksThrough_13 (N : Nat) (p2 : Int32) : Nat → Int32 → Int32 → (Nat → Int32) → (Nat → Int32) → (Nat → Int32) → (Nat → Int32) → (Nat → Nat → Int32) → Int32 → Option (Int32 × Int32 × (Nat → Int32) × (Nat → Int32) × (Nat → Int32) × (Nat → Int32) × (Nat → Nat → Int32))
  | 0 => fun _ _ _ _ _ _ _ _ => none
  | n + 1 => fun ztd ztv zcl zwa zpt zpf X x3 => fX9_looksThrough_13b N p2  (fX9_looksThrough_13 N p2  n) ztd ztv zcl zwa zpt zpf X x3
def fX9_looksThrough (N : Nat) (ztd : Int32) (ztv : Int32) (zcl : Nat → Int32) (zwa : Nat → Int32) (zpt : Nat → Int32) (zpf : Nat → Int32) (X : Nat → Nat → Int32) (p2 : Int32) : Option (Int32 × Int32 × (Nat → Int32) × (Nat → Int32) × (Nat → Int32) × (Nat → Int32) × (Nat → Nat → Int32)) :=
  bnd7 (fX9_looksAt N 0 ztv zcl zwa zpt zpf X p2) fun ztd_262 ztv_262 zcl_262 zwa_262 zpt_262 zpf_262 X_262 =>
  fX9_looksThrough_13 N p2 N ztd_262 ztv_262 zcl_262 zwa_262 zpt_262 zpf_262 X_262 0
def fX6_clears (X : Nat → Nat → Int32) : Option ((Nat → Nat → Int32)) :=
  lt (up2 X 8 1 0) fun X_272 =>
  lt (up2 X_272 8 2 0) fun X_273 =>
  lt (up2 X_273 8 3 0) fun X_274 =>
  some X_274
def fX9_hasWhiteEnd_2b (N : Nat) (zcl : Nat → Int32) (X : Nat → Nat → Int32) (k2 : Int32 → Option (Int32)) (x2 : Int32) : Option (Int32) :=
  if 24 ≤ x2 then
    some 0
  else
    grd (inb x2 24) <|
    if zcl x2.toNatClampNeg = 2 then
      bnd1 (fX3_hasEndToRun X x2) fun r276 =>
      if r276 = 0 then
        k2 (x2 + 1)
      else
        some 1
    else
      k2 (x2 + 1)
def fX9_hasWhiteEnd_2 (N : Nat) (zcl : Nat → Int32) (X : Nat → Nat → Int32) : Nat → Int32 → Option (Int32)
  | 0 => fun _ => none
  | n + 1 => fun x2 => fX9_hasWhiteEnd_2b N zcl X  (fX9_hasWhiteEnd_2 N zcl X  n) x2
def fX9_hasWhiteEnd (N : Nat) (zcl : Nat → Int32) (X : Nat → Nat → Int32) : Option (Int32) :=
  fX9_hasWhiteEnd_2 N zcl X N 0
def fX9_runsEnds_66b (N : Nat) (zcl : Nat → Int32) (zca : Nat → Int32) (k66 : Int32 → (Nat → Int32) → (Nat → Nat → Int32) → Int32 → Option (Int32 × (Nat → Int32) × (Nat → Nat → Int32))) (zcd : Int32) (zgo : Nat → Int32) (X : Nat → Nat → Int32) (x2 : Int32) : Option (Int32 × (Nat → Int32) × (Nat → Nat → Int32)) :=
  if 24 ≤ x2 then
    some (zcd, zgo, X)
  else
    grd (inb x2 24) <|
    if zcl x2.toNatClampNeg = 2 then
      bnd1 (fX3_has X x2) fun r288 =>
      if r288 = 0 then
        k66 zcd zgo X (x2 + 1)
      else
        grd (inb x2 24) <|
        if X 1 x2.toNatClampNeg ≤ 0 then
          k66 zcd zgo X (x2 + 1)
        else
          bnd1 (fX11_bit (X 8 2) x2) fun r289 =>
          if r289 = 0 then
            bnd1 (fX6_means X x2) fun X_290 =>
            k66 zcd zgo X_290 (x2 + 1)
          else
            k66 zcd zgo X (x2 + 1)
    else
      k66 zcd zgo X (x2 + 1)
def fX9_runsEnds_66 (N : Nat) (zcl : Nat → Int32) (zca : Nat → Int32) : Nat → Int32 → (Nat → Int32) → (Nat → Nat → Int32) → Int32 → Option (Int32 × (Nat → Int32) × (Nat → Nat → Int32))
  | 0 => fun _ _ _ _ => none
  | n + 1 => fun zcd zgo X x2 => fX9_runsEnds_66b N zcl zca  (fX9_runsEnds_66 N zcl zca  n) zcd zgo X x2
def fX9_runsEnds_17b (N : Nat) (zcl : Nat → Int32) (zca : Nat → Int32) (k17 : Int32 → (Nat → Int32) → (Nat → Nat → Int32) → Int32 → Option (Int32 × (Nat → Int32) × (Nat → Nat → Int32))) (zcd : Int32) (zgo : Nat → Int32) (X : Nat → Nat → Int32) (x2 : Int32) : Option (Int32 × (Nat → Int32) × (Nat → Nat → Int32)) :=
  if 24 ≤ x2 then
    fX9_runsEnds_66 N zcl zca N zcd zgo X 0
  else
    grd (inb x2 24) <|
    if zcl x2.toNatClampNeg = 2 then
      bnd1 (fX3_hasEndToRun X x2) fun r285 =>
      if r285 = 0 then
        k17 zcd zgo X (x2 + 1)
      else
        bnd2 (fX2_runsEnd X x2) fun r286 X_286 =>
        bnd3 (fX2_countsDown N zcd zgo X_286 r286) fun zcd_287 zgo_287 X_287 =>
        k17 zcd_287 zgo_287 X_287 (x2 + 1)
    else
      k17 zcd zgo X (x2 + 1)
def fX9_runsEnds_17 (N : Nat) (zcl : Nat → Int32) (zca : Nat → Int32) : Nat → Int32 → (Nat → Int32) → (Nat → Nat → Int32) → Int32 → Option (Int32 × (Nat → Int32) × (Nat → Nat → Int32))
  | 0 => fun _ _ _ _ => none
  | n + 1 => fun zcd zgo X x2 => fX9_runsEnds_17b N zcl zca  (fX9_runsEnds_17 N zcl zca  n) zcd zgo X x2
def fX9_runsEnds (N : Nat) (zcd : Int32) (zgo : Nat → Int32) (zcl : Nat → Int32) (zca : Nat → Int32) (X : Nat → Nat → Int32) : Option (Int32 × (Nat → Int32) × (Nat → Nat → Int32)) :=
  lt (upR X 4 zca) fun X_284 =>
  fX9_runsEnds_17 N zcl zca N zcd zgo X_284 0
def fX9_frees_2b (N : Nat) (zcl : Nat → Int32) (k2 : (Nat → Nat → Int32) → Int32 → Option ((Nat → Nat → Int32))) (X : Nat → Nat → Int32) (x2 : Int32) : Option ((Nat → Nat → Int32)) :=
  if 24 ≤ x2 then
    some X
  else
    grd (inb x2 24) <|
    if zcl x2.toNatClampNeg = 2 then
      bnd1 (fX4_adds X 2 x2) fun X_294 =>
      bnd1 (fX3_empties N X_294 x2) fun X_295 =>
      bnd1 (fX3_loses N X_295 x2) fun X_296 =>
      k2 X_296 (x2 + 1)
    else
      k2 X (x2 + 1)
def fX9_frees_2 (N : Nat) (zcl : Nat → Int32) : Nat → (Nat → Nat → Int32) → Int32 → Option ((Nat → Nat → Int32))
  | 0 => fun _ _ => none
  | n + 1 => fun X x2 => fX9_frees_2b N zcl  (fX9_frees_2 N zcl  n) X x2
def fX9_frees (N : Nat) (zcl : Nat → Int32) (X : Nat → Nat → Int32) : Option ((Nat → Nat → Int32)) :=
  fX9_frees_2 N zcl N X 0
def fX9_tries_101 (N : Nat) (zcd : Int32) (zgo : Nat → Int32) (ztd : Int32) (ztv : Int32) (zcl : Nat → Int32) (zca : Nat → Int32) (zwa : Nat → Int32) (zpt : Nat → Int32) (zpf : Nat → Int32) (X : Nat → Nat → Int32) : Option (Int32 × (Nat → Int32) × Int32 × Int32 × (Nat → Int32) × (Nat → Int32) × (Nat → Int32) × (Nat → Int32) × (Nat → Int32) × (Nat → Nat → Int32)) :=
  bnd1 (fX6_clears X) fun X_309 =>
  bnd1 (fX9_hasWhiteEnd N zcl X_309) fun r310 =>
  if r310 = 0 then
    bnd1 (fX9_frees N zcl X_309) fun X_311 =>
    some (zcd, zgo, ztd, ztv, zcl, zca, zwa, zpt, zpf, X_311)
  else
    bnd3 (fX9_runsEnds N zcd zgo zcl zca X_309) fun zcd_312 zgo_312 X_312 =>
    some (zcd_312, zgo_312, ztd, ztv, zcl, zca, zwa, zpt, zpf, X_312)
def fX9_tries_70b (N : Nat) (k70 : Int32 → (Nat → Int32) → Int32 → Int32 → (Nat → Int32) → (Nat → Int32) → (Nat → Int32) → (Nat → Int32) → (Nat → Int32) → (Nat → Nat → Int32) → Int32 → Option (Int32 × (Nat → Int32) × Int32 × Int32 × (Nat → Int32) × (Nat → Int32) × (Nat → Int32) × (Nat → Int32) × (Nat → Int32) × (Nat → Nat → Int32))) (zcd : Int32) (zgo : Nat → Int32) (ztd : Int32) (ztv : Int32) (zcl : Nat → Int32) (zca : Nat → Int32) (zwa : Nat → Int32) (zpt : Nat → Int32) (zpf : Nat → Int32) (X : Nat → Nat → Int32) (x2 : Int32) : Option (Int32 × (Nat → Int32) × Int32 × Int32 × (Nat → Int32) × (Nat → Int32) × (Nat → Int32) × (Nat → Int32) × (Nat → Int32) × (Nat → Nat → Int32)) :=
  if X 8 1 ≤ x2 then
    fX9_tries_101 N zcd zgo ztd ztv zcl zca zwa zpt zpf X
  else
    grd (inb x2 24) <|
    bnd7 (fX9_looksThrough N ztd ztv zcl zwa zpt zpf X (X 9 x2.toNatClampNeg)) fun ztd_308 ztv_308 zcl_308 zwa_308 zpt_308 zpf_308 X_308 =>
    k70 zcd zgo ztd_308 ztv_308 zcl_308 zca zwa_308 zpt_308 zpf_308 X_308 (x2 + 1)
def fX9_tries_70 (N : Nat) : Nat → Int32 → (Nat → Int32) → Int32 → Int32 → (Nat → Int32) → (Nat → Int32) → (Nat → Int32) → (Nat → Int32) → (Nat → Int32) → (Nat → Nat → Int32) → Int32 → Option (Int32 × (Nat → Int32) × Int32 × Int32 × (Nat → Int32) × (Nat → Int32) × (Nat → Int32) × (Nat → Int32) × (Nat → Int32) × (Nat → Nat → Int32))
  | 0 => fun _ _ _ _ _ _ _ _ _ _ _ => none
  | n + 1 => fun zcd zgo ztd ztv zcl zca zwa zpt zpf X x2 => fX9_tries_70b N  (fX9_tries_70 N  n) zcd zgo ztd ztv zcl zca zwa zpt zpf X x2
def fX9_tries_37b (N : Nat) (k37 : Int32 → (Nat → Int32) → Int32 → Int32 → (Nat → Int32) → (Nat → Int32) → (Nat → Int32) → (Nat → Int32) → (Nat → Int32) → (Nat → Nat → Int32) → Int32 → Option (Int32 × (Nat → Int32) × Int32 × Int32 × (Nat → Int32) × (Nat → Int32) × (Nat → Int32) × (Nat → Int32) × (Nat → Int32) × (Nat → Nat → Int32))) (zcd : Int32) (zgo : Nat → Int32) (ztd : Int32) (ztv : Int32) (zcl : Nat → Int32) (zca : Nat → Int32) (zwa : Nat → Int32) (zpt : Nat → Int32) (zpf : Nat → Int32) (X : Nat → Nat → Int32) (x2 : Int32) : Option (Int32 × (Nat → Int32) × Int32 × Int32 × (Nat → Int32) × (Nat → Int32) × (Nat → Int32) × (Nat → Int32) × (Nat → Int32) × (Nat → Nat → Int32)) :=
  if X 8 1 ≤ x2 then
    fX9_tries_70 N N zcd zgo ztd ztv zcl zca zwa zpt zpf X 0
  else
    grd (inb x2 24) <|
    bnd4 (fX9_takesAway N ztv zcl zwa X (X 9 x2.toNatClampNeg)) fun ztv_307 zcl_307 zwa_307 X_307 =>
    k37 zcd zgo ztd ztv_307 zcl_307 zca zwa_307 zpt zpf X_307 (x2 + 1)
def fX9_tries_37 (N : Nat) : Nat → Int32 → (Nat → Int32) → Int32 → Int32 → (Nat → Int32) → (Nat → Int32) → (Nat → Int32) → (Nat → Int32) → (Nat → Int32) → (Nat → Nat → Int32) → Int32 → Option (Int32 × (Nat → Int32) × Int32 × Int32 × (Nat → Int32) × (Nat → Int32) × (Nat → Int32) × (Nat → Int32) × (Nat → Int32) × (Nat → Nat → Int32))
  | 0 => fun _ _ _ _ _ _ _ _ _ _ _ => none
  | n + 1 => fun zcd zgo ztd ztv zcl zca zwa zpt zpf X x2 => fX9_tries_37b N  (fX9_tries_37 N  n) zcd zgo ztd ztv zcl zca zwa zpt zpf X x2
def fX9_tries (N : Nat) (zcd : Int32) (zgo : Nat → Int32) (ztd : Int32) (ztv : Int32) (zcl : Nat → Int32) (zca : Nat → Int32) (zwa : Nat → Int32) (zpt : Nat → Int32) (zpf : Nat → Int32) (X : Nat → Nat → Int32) : Option (Int32 × (Nat → Int32) × Int32 × Int32 × (Nat → Int32) × (Nat → Int32) × (Nat → Int32) × (Nat → Int32) × (Nat → Int32) × (Nat → Nat → Int32)) :=
  bnd1 (fJ7_fill_53178_cl N zcl 0) fun zcl_305 =>
  bnd1 (fX6_dropsTrusted N X) fun X_306 =>
  fX9_tries_37 N N zcd zgo ztd 0 zcl_305 (X 4) zwa zpt zpf X_306 0
def fX1_does_263 (N : Nat) (za0 : Int32) (za1 : Int32) (za2 : Int32) (za3 : Int32) (za4 : Int32) (zcd : Int32) (zgo : Nat → Int32) (ztd : Int32) (ztv : Int32) (zcl : Nat → Int32) (zca : Nat → Int32) (zwa : Nat → Int32) (zpt : Nat → Int32) (zpf : Nat → Int32) (X : Nat → Nat → Int32) (x4 : Int32) : Option (Int32 × Int32 × (Nat → Int32) × Int32 × Int32 × (Nat → Int32) × (Nat → Int32) × (Nat → Int32) × (Nat → Int32) × (Nat → Int32) × (Nat → Nat → Int32)) :=
  some ((X 10 3) - x4, zcd, zgo, ztd, ztv, zcl, zca, zwa, zpt, zpf, X)
def fX1_does_223 (N : Nat) (za0 : Int32) (za1 : Int32) (za2 : Int32) (za3 : Int32) (za4 : Int32) (zcd : Int32) (zgo : Nat → Int32) (ztd : Int32) (ztv : Int32) (zcl : Nat → Int32) (zca : Nat → Int32) (zwa : Nat → Int32) (zpt : Nat → Int32) (zpf : Nat → Int32) (X : Nat → Nat → Int32) (x4 : Int32) : Option (Int32 × Int32 × (Nat → Int32) × Int32 × Int32 × (Nat → Int32) × (Nat → Int32) × (Nat → Int32) × (Nat → Int32) × (Nat → Int32) × (Nat → Nat → Int32)) :=
  if za0 = 119 then
    fX1_does_263 N za0 za1 za2 za3 za4 zcd zgo ztd ztv zcl zca zwa zpt zpf X x4
  else
    if za0 = 116 then
      fX1_does_263 N za0 za1 za2 za3 za4 zcd zgo ztd ztv zcl zca zwa zpt zpf X x4
    else
      if X 8 1 < X 0 2 then
        fX1_does_263 N za0 za1 za2 za3 za4 zcd zgo ztd ztv zcl zca zwa zpt zpf X x4
      else
        bnd10 (fX9_tries N zcd zgo ztd ztv zcl zca zwa zpt zpf X) fun zcd_331 zgo_331 ztd_331 ztv_331 zcl_331 zca_331 zwa_331 zpt_331 zpf_331 X_331 =>
        fX1_does_263 N za0 za1 za2 za3 za4 zcd_331 zgo_331 ztd_331 ztv_331 zcl_331 zca_331 zwa_331 zpt_331 zpf_331 X_331 x4
def fX1_does_215 (N : Nat) (za0 : Int32) (za1 : Int32) (za2 : Int32) (za3 : Int32) (za4 : Int32) (zcd : Int32) (zgo : Nat → Int32) (ztd : Int32) (ztv : Int32) (zcl : Nat → Int32) (zca : Nat → Int32) (zwa : Nat → Int32) (zpt : Nat → Int32) (zpf : Nat → Int32) (X : Nat → Nat → Int32) (x4 : Int32) : Option (Int32 × Int32 × (Nat → Int32) × Int32 × Int32 × (Nat → Int32) × (Nat → Int32) × (Nat → Int32) × (Nat → Int32) × (Nat → Int32) × (Nat → Nat → Int32)) :=
  bnd10 (fX9_tries N zcd zgo ztd ztv zcl zca zwa zpt zpf X) fun zcd_332 zgo_332 ztd_332 ztv_332 zcl_332 zca_332 zwa_332 zpt_332 zpf_332 X_332 =>
  fX1_does_223 N za0 za1 za2 za3 za4 zcd_332 zgo_332 ztd_332 ztv_332 zcl_332 zca_332 zwa_332 zpt_332 zpf_332 X_332 x4
def fX1_does (N : Nat) (za0 : Int32) (za1 : Int32) (za2 : Int32) (za3 : Int32) (za4 : Int32) (zcd : Int32) (zgo : Nat → Int32) (ztd : Int32) (ztv : Int32) (zcl : Nat → Int32) (zca : Nat → Int32) (zwa : Nat → Int32) (zpt : Nat → Int32) (zpf : Nat → Int32) (X : Nat → Nat → Int32) : Option (Int32 × Int32 × (Nat → Int32) × Int32 × Int32 × (Nat → Int32) × (Nat → Int32) × (Nat → Int32) × (Nat → Int32) × (Nat → Int32) × (Nat → Nat → Int32)) :=
  bnd1 (fX1_refuses N za0 za1 za2 za3 za4 X) fun r323 =>
  if 0 ≤ r323 then
    if za0 = 107 then
      grd (inb za1 4) <|
      bnd3 (fX2_laysRoot N zcd zgo X za2 (X 7 za1.toNatClampNeg)) fun zcd_324 zgo_324 X_324 =>
      fX1_does_223 N za0 za1 za2 za3 za4 zcd_324 zgo_324 ztd ztv zcl zca zwa zpt zpf X_324 (X 10 3)
    else
    if za0 = 110 then
      bnd1 (fX3_leastFree N X) fun r325 =>
      bnd1 (fX3_adds N X r325 za1 za2 za3) fun X_326 =>
      bnd3 (fX2_laysRoot N zcd zgo X_326 za4 r325) fun zcd_327 zgo_327 X_327 =>
      fX1_does_223 N za0 za1 za2 za3 za4 zcd_327 zgo_327 ztd ztv zcl zca zwa zpt zpf X_327 (X 10 3)
    else
    if za0 = 114 then
      bnd3 (fX2_laysRoot N zcd zgo X za1 za2) fun zcd_328 zgo_328 X_328 =>
      fX1_does_223 N za0 za1 za2 za3 za4 zcd_328 zgo_328 ztd ztv zcl zca zwa zpt zpf X_328 (X 10 3)
    else
    if za0 = 115 then
      bnd3 (fX2_laysField N zcd zgo X za1 za2 za3) fun zcd_329 zgo_329 X_329 =>
      fX1_does_223 N za0 za1 za2 za3 za4 zcd_329 zgo_329 ztd ztv zcl zca zwa zpt zpf X_329 (X 10 3)
    else
    if za0 = 119 then
      grd (inb za1 4) <|
      lt (up2 X 7 za1.toNatClampNeg za2) fun X_330 =>
      fX1_does_223 N za0 za1 za2 za3 za4 zcd zgo ztd ztv zcl zca zwa zpt zpf X_330 (X 10 3)
    else
      fX1_does_215 N za0 za1 za2 za3 za4 zcd zgo ztd ztv zcl zca zwa zpt zpf X (X 10 3)
  else
    some (r323, zcd, zgo, ztd, ztv, zcl, zca, zwa, zpt, zpf, X)
def fX5_keeps_20 (zpn : Int32) (zps : Int32) (y0 : Int32) : Option (Int32 × Int32) :=
  lt (if 8 < zps + 1 then 8 else zps + 1) fun zps_334 =>
  some (y0, zps_334)
def fX5_keeps (zpn : Int32) (zps : Int32) : Option (Int32 × Int32) :=
  if zpn = 8 then
    fX5_keeps_20 zpn zps 0
  else
    fX5_keeps_20 zpn zps (zpn + 1)
def fX8_clears (ztz : Int32) : Option (Int32) :=
  some 0
def fX8_adds (ztz : Int32) (ztn : Nat → Int64) (p1 : Int64) : Option (Int32 × (Nat → Int64)) :=
  if 24 ≤ ztz then
    some (ztz, ztn)
  else
    grd (inb ztz 24) <|
    lt (vp_updL ztn ztz.toNatClampNeg p1) fun ztn_337 =>
    lt (ztz + 1) fun ztz_338 =>
    some (ztz_338, ztn_337)
def fX8_tells (ztz : Int32) (ztn : Nat → Int64) (p1 : Int64) : Option (Int32 × (Nat → Int64)) :=
  bnd1 (fX8_clears ztz) fun ztz_341 =>
  bnd2 (fX8_adds ztz_341 ztn p1) fun ztz_342 ztn_342 =>
  some (ztz_342, ztn_342)
def fX11_makes (N : Nat) (zpn : Int32) (zps : Int32) (ztz : Int32) (ztn : Nat → Int64) (za0 : Int32) (za1 : Int32) (za2 : Int32) (za3 : Int32) (za4 : Int32) (zcd : Int32) (zgo : Nat → Int32) (ztd : Int32) (ztv : Int32) (zcl : Nat → Int32) (zca : Nat → Int32) (zwa : Nat → Int32) (zpt : Nat → Int32) (zpf : Nat → Int32) (HS : Nat → Nat → Nat → Int32) (p1 : Int32) (p2 : Int32) (p3 : Int32) (p4 : Int32) : Option (Int32 × Int32 × Int32 × Int32 × (Nat → Int64) × Int32 × Int32 × Int32 × Int32 × Int32 × Int32 × (Nat → Int32) × Int32 × Int32 × (Nat → Int32) × (Nat → Int32) × (Nat → Int32) × (Nat → Int32) × (Nat → Int32) × (Nat → Nat → Nat → Int32)) :=
  bnd1 (fX3_leastFree N (HS 0)) fun r350 =>
  bnd5 (fX0_becomes za0 za1 za2 za3 za4 110 p1 p2 p3 p4) fun za0_351 za1_351 za2_351 za3_351 za4_351 =>
  bnd1 (fX5_marks zpn HS) fun HS_352 =>
  bnd11 (fX1_does N za0_351 za1_351 za2_351 za3_351 za4_351 zcd zgo ztd ztv zcl zca zwa zpt zpf (HS_352 0)) fun r353 zcd_353 zgo_353 ztd_353 ztv_353 zcl_353 zca_353 zwa_353 zpt_353 zpf_353 X_353 =>
  lt (updH HS_352 0 X_353) fun HS_354 =>
  if 0 ≤ r353 then
    bnd2 (fX5_keeps zpn zps) fun zpn_355 zps_355 =>
    bnd2 (fX8_tells ztz ztn r353.toInt64) fun ztz_356 ztn_356 =>
    some (r350, zpn_355, zps_355, ztz_356, ztn_356, za0_351, za1_351, za2_351, za3_351, za4_351, zcd_353, zgo_353, ztd_353, ztv_353, zcl_353, zca_353, zwa_353, zpt_353, zpf_353, HS_354)
  else
    some (r353, zpn, zps, ztz, ztn, za0_351, za1_351, za2_351, za3_351, za4_351, zcd_353, zgo_353, ztd_353, ztv_353, zcl_353, zca_353, zwa_353, zpt_353, zpf_353, HS_354)
def fX3_objects (X : Nat → Nat → Int32) : Option (Int32) :=
  bnd1 (fJ6_bitCount_0f7a4 (X 0 0)) fun r358 =>
  some r358
def fX8_tells_ (ztz : Int32) (ztn : Nat → Int64) (p1 : Int64) (p3 : Int64) : Option (Int32 × (Nat → Int64)) :=
  bnd2 (fX8_tells ztz ztn p1) fun ztz_361 ztn_361 =>
  bnd2 (fX8_adds ztz_361 ztn_361 p3) fun ztz_362 ztn_362 =>
  some (ztz_362, ztn_362)
def fX11_tellsChange (zpn : Int32) (zps : Int32) (ztz : Int32) (ztn : Nat → Int64) (HS : Nat → Nat → Nat → Int32) (p1 : Int32) : Option (Int32 × Int32 × Int32 × Int32 × (Nat → Int64)) :=
  if p1 < 0 then
    some (p1, zpn, zps, ztz, ztn)
  else
    bnd2 (fX5_keeps zpn zps) fun zpn_366 zps_366 =>
    bnd1 (fX3_objects (HS 0)) fun r367 =>
    bnd2 (fX8_tells_ ztz ztn r367.toInt64 (((HS 0) 8 1).toInt64)) fun ztz_368 ztn_368 =>
    some (p1, zpn_366, zps_366, ztz_368, ztn_368)
def fX11_sets (N : Nat) (zpn : Int32) (zps : Int32) (ztz : Int32) (ztn : Nat → Int64) (za0 : Int32) (za1 : Int32) (za2 : Int32) (za3 : Int32) (za4 : Int32) (zcd : Int32) (zgo : Nat → Int32) (ztd : Int32) (ztv : Int32) (zcl : Nat → Int32) (zca : Nat → Int32) (zwa : Nat → Int32) (zpt : Nat → Int32) (zpf : Nat → Int32) (HS : Nat → Nat → Nat → Int32) (p1 : Int32) (p2 : Int32) (p3 : Int32) : Option (Int32 × Int32 × Int32 × Int32 × (Nat → Int64) × Int32 × Int32 × Int32 × Int32 × Int32 × Int32 × (Nat → Int32) × Int32 × Int32 × (Nat → Int32) × (Nat → Int32) × (Nat → Int32) × (Nat → Int32) × (Nat → Int32) × (Nat → Nat → Nat → Int32)) :=
  bnd5 (fX0_becomes za0 za1 za2 za3 za4 115 p1 p2 p3 0) fun za0_374 za1_374 za2_374 za3_374 za4_374 =>
  bnd1 (fX5_marks zpn HS) fun HS_375 =>
  bnd11 (fX1_does N za0_374 za1_374 za2_374 za3_374 za4_374 zcd zgo ztd ztv zcl zca zwa zpt zpf (HS_375 0)) fun r376 zcd_376 zgo_376 ztd_376 ztv_376 zcl_376 zca_376 zwa_376 zpt_376 zpf_376 X_376 =>
  lt (updH HS_375 0 X_376) fun HS_377 =>
  bnd5 (fX11_tellsChange zpn zps ztz ztn HS_377 r376) fun r378 zpn_378 zps_378 ztz_378 ztn_378 =>
  some (r378, zpn_378, zps_378, ztz_378, ztn_378, za0_374, za1_374, za2_374, za3_374, za4_374, zcd_376, zgo_376, ztd_376, ztv_376, zcl_376, zca_376, zwa_376, zpt_376, zpf_376, HS_377)
def fX11_roots (N : Nat) (zpn : Int32) (zps : Int32) (ztz : Int32) (ztn : Nat → Int64) (za0 : Int32) (za1 : Int32) (za2 : Int32) (za3 : Int32) (za4 : Int32) (zcd : Int32) (zgo : Nat → Int32) (ztd : Int32) (ztv : Int32) (zcl : Nat → Int32) (zca : Nat → Int32) (zwa : Nat → Int32) (zpt : Nat → Int32) (zpf : Nat → Int32) (HS : Nat → Nat → Nat → Int32) (p1 : Int32) (p2 : Int32) : Option (Int32 × Int32 × Int32 × Int32 × (Nat → Int64) × Int32 × Int32 × Int32 × Int32 × Int32 × Int32 × (Nat → Int32) × Int32 × Int32 × (Nat → Int32) × (Nat → Int32) × (Nat → Int32) × (Nat → Int32) × (Nat → Int32) × (Nat → Nat → Nat → Int32)) :=
  bnd5 (fX0_becomes za0 za1 za2 za3 za4 114 p1 p2 0 0) fun za0_384 za1_384 za2_384 za3_384 za4_384 =>
  bnd1 (fX5_marks zpn HS) fun HS_385 =>
  bnd11 (fX1_does N za0_384 za1_384 za2_384 za3_384 za4_384 zcd zgo ztd ztv zcl zca zwa zpt zpf (HS_385 0)) fun r386 zcd_386 zgo_386 ztd_386 ztv_386 zcl_386 zca_386 zwa_386 zpt_386 zpf_386 X_386 =>
  lt (updH HS_385 0 X_386) fun HS_387 =>
  bnd5 (fX11_tellsChange zpn zps ztz ztn HS_387 r386) fun r388 zpn_388 zps_388 ztz_388 ztn_388 =>
  some (r388, zpn_388, zps_388, ztz_388, ztn_388, za0_384, za1_384, za2_384, za3_384, za4_384, zcd_386, zgo_386, ztd_386, ztv_386, zcl_386, zca_386, zwa_386, zpt_386, zpf_386, HS_387)
def fX3_weakAt (X : Nat → Nat → Int32) (p1 : Int32) : Option (Int32) :=
  if p1 < 0 then
    some (-1)
  else
    if 4 ≤ p1 then
      some (-1)
    else
      grd (inb p1 4) <|
      some (X 7 p1.toNatClampNeg)
def fX11_weaks (N : Nat) (zpn : Int32) (zps : Int32) (za0 : Int32) (za1 : Int32) (za2 : Int32) (za3 : Int32) (za4 : Int32) (zcd : Int32) (zgo : Nat → Int32) (ztd : Int32) (ztv : Int32) (zcl : Nat → Int32) (zca : Nat → Int32) (zwa : Nat → Int32) (zpt : Nat → Int32) (zpf : Nat → Int32) (HS : Nat → Nat → Nat → Int32) (p1 : Int32) (p2 : Int32) : Option (Int32 × Int32 × Int32 × Int32 × Int32 × Int32 × Int32 × Int32 × Int32 × (Nat → Int32) × Int32 × Int32 × (Nat → Int32) × (Nat → Int32) × (Nat → Int32) × (Nat → Int32) × (Nat → Int32) × (Nat → Nat → Nat → Int32)) :=
  bnd1 (fX3_weakAt (HS 0) p1) fun r395 =>
  bnd5 (fX0_becomes za0 za1 za2 za3 za4 119 p1 p2 0 0) fun za0_396 za1_396 za2_396 za3_396 za4_396 =>
  bnd1 (fX5_marks zpn HS) fun HS_397 =>
  bnd11 (fX1_does N za0_396 za1_396 za2_396 za3_396 za4_396 zcd zgo ztd ztv zcl zca zwa zpt zpf (HS_397 0)) fun r398 zcd_398 zgo_398 ztd_398 ztv_398 zcl_398 zca_398 zwa_398 zpt_398 zpf_398 X_398 =>
  lt (updH HS_397 0 X_398) fun HS_399 =>
  if 0 ≤ r398 then
    bnd2 (fX5_keeps zpn zps) fun zpn_400 zps_400 =>
    some (r395, zpn_400, zps_400, za0_396, za1_396, za2_396, za3_396, za4_396, zcd_398, zgo_398, ztd_398, ztv_398, zcl_398, zca_398, zwa_398, zpt_398, zpf_398, HS_399)
  else
    some (r398, zpn, zps, za0_396, za1_396, za2_396, za3_396, za4_396, zcd_398, zgo_398, ztd_398, ztv_398, zcl_398, zca_398, zwa_398, zpt_398, zpf_398, HS_399)
def fX11_wakes (N : Nat) (zpn : Int32) (zps : Int32) (ztz : Int32) (ztn : Nat → Int64) (za0 : Int32) (za1 : Int32) (za2 : Int32) (za3 : Int32) (za4 : Int32) (zcd : Int32) (zgo : Nat → Int32) (ztd : Int32) (ztv : Int32) (zcl : Nat → Int32) (zca : Nat → Int32) (zwa : Nat → Int32) (zpt : Nat → Int32) (zpf : Nat → Int32) (HS : Nat → Nat → Nat → Int32) (p1 : Int32) (p2 : Int32) : Option (Int32 × Int32 × Int32 × Int32 × (Nat → Int64) × Int32 × Int32 × Int32 × Int32 × Int32 × Int32 × (Nat → Int32) × Int32 × Int32 × (Nat → Int32) × (Nat → Int32) × (Nat → Int32) × (Nat → Int32) × (Nat → Int32) × (Nat → Nat → Nat → Int32)) :=
  bnd5 (fX0_becomes za0 za1 za2 za3 za4 107 p1 p2 0 0) fun za0_406 za1_406 za2_406 za3_406 za4_406 =>
  bnd1 (fX5_marks zpn HS) fun HS_407 =>
  bnd11 (fX1_does N za0_406 za1_406 za2_406 za3_406 za4_406 zcd zgo ztd ztv zcl zca zwa zpt zpf (HS_407 0)) fun r408 zcd_408 zgo_408 ztd_408 ztv_408 zcl_408 zca_408 zwa_408 zpt_408 zpf_408 X_408 =>
  lt (updH HS_407 0 X_408) fun HS_409 =>
  bnd5 (fX11_tellsChange zpn zps ztz ztn HS_409 r408) fun r410 zpn_410 zps_410 ztz_410 ztn_410 =>
  some (r410, zpn_410, zps_410, ztz_410, ztn_410, za0_406, za1_406, za2_406, za3_406, za4_406, zcd_408, zgo_408, ztd_408, ztv_408, zcl_408, zca_408, zwa_408, zpt_408, zpf_408, HS_409)
def fX4_freed (X : Nat → Nat → Int32) : Option (Int32) :=
  grd (inb 1 6) <|
  grd (inb 2 6) <|
  some ((X 13 (1 : Int32).toNatClampNeg) + (X 13 (2 : Int32).toNatClampNeg))
def fX11_trial (N : Nat) (zpn : Int32) (zps : Int32) (ztz : Int32) (ztn : Nat → Int64) (za0 : Int32) (za1 : Int32) (za2 : Int32) (za3 : Int32) (za4 : Int32) (zcd : Int32) (zgo : Nat → Int32) (ztd : Int32) (ztv : Int32) (zcl : Nat → Int32) (zca : Nat → Int32) (zwa : Nat → Int32) (zpt : Nat → Int32) (zpf : Nat → Int32) (HS : Nat → Nat → Nat → Int32) : Option (Int32 × Int32 × Int32 × Int32 × (Nat → Int64) × Int32 × Int32 × Int32 × Int32 × Int32 × Int32 × (Nat → Int32) × Int32 × Int32 × (Nat → Int32) × (Nat → Int32) × (Nat → Int32) × (Nat → Int32) × (Nat → Int32) × (Nat → Nat → Nat → Int32)) :=
  bnd1 (fX4_freed (HS 0)) fun r420 =>
  grd (inb 3 6) <|
  lt ((HS 0) 13 (3 : Int32).toNatClampNeg) fun v_421 =>
  bnd5 (fX0_becomes za0 za1 za2 za3 za4 116 0 0 0 0) fun za0_422 za1_422 za2_422 za3_422 za4_422 =>
  bnd1 (fX5_marks zpn HS) fun HS_423 =>
  bnd11 (fX1_does N za0_422 za1_422 za2_422 za3_422 za4_422 zcd zgo ztd ztv zcl zca zwa zpt zpf (HS_423 0)) fun r424 zcd_424 zgo_424 ztd_424 ztv_424 zcl_424 zca_424 zwa_424 zpt_424 zpf_424 X_424 =>
  lt (updH HS_423 0 X_424) fun HS_425 =>
  if 0 ≤ r424 then
    bnd2 (fX5_keeps zpn zps) fun zpn_426 zps_426 =>
    grd (inb 3 6) <|
    bnd2 (fX8_tells_ ztz ztn ((((HS_425 0) 13 (3 : Int32).toNatClampNeg) - v_421).toInt64) ztv_424.toInt64) fun ztz_427 ztn_427 =>
    bnd1 (fX4_freed (HS_425 0)) fun r428 =>
    some (r428 - r420, zpn_426, zps_426, ztz_427, ztn_427, za0_422, za1_422, za2_422, za3_422, za4_422, zcd_424, zgo_424, ztd_424, ztv_424, zcl_424, zca_424, zwa_424, zpt_424, zpf_424, HS_425)
  else
    some (r424, zpn, zps, ztz, ztn, za0_422, za1_422, za2_422, za3_422, za4_422, zcd_424, zgo_424, ztd_424, ztv_424, zcl_424, zca_424, zwa_424, zpt_424, zpf_424, HS_425)
def fX11_limit (zpn : Int32) (zps : Int32) (HS : Nat → Nat → Nat → Int32) (p1 : Int32) : Option (Int32 × Int32 × Int32 × (Nat → Nat → Nat → Int32)) :=
  if p1 < 1 then
    some ((-1), zpn, zps, HS)
  else
    if p1 ≤ 24 then
      if p1 = (HS 0) 0 2 then
        some ((-2), zpn, zps, HS)
      else
        bnd1 (fX5_marks zpn HS) fun HS_432 =>
        lt (updH HS_432 0 (up2 (HS_432 0) 0 2 p1)) fun HS_433 =>
        bnd2 (fX5_keeps zpn zps) fun zpn_434 zps_434 =>
        some ((HS 0) 0 2, zpn_434, zps_434, HS_433)
    else
      some ((-1), zpn, zps, HS)
def fX3_weightOf_4b (N : Nat) (X : Nat → Nat → Int32) (p1 : Int32) (k4 : Int32 → Int32 → Option (Int32)) (x2 : Int32) (x3 : Int32) : Option (Int32) :=
  if 24 ≤ x3 then
    some x2
  else
    bnd1 (fX11_bit p1 x3) fun r437 =>
    grd (inb x3 24) <|
    lt (x2 + (r437 * (X 2 x3.toNatClampNeg))) fun v_438 =>
    k4 v_438 (x3 + 1)
def fX3_weightOf_4 (N : Nat) (X : Nat → Nat → Int32) (p1 : Int32) : Nat → Int32 → Int32 → Option (Int32)
  | 0 => fun _ _ => none
  | n + 1 => fun x2 x3 => fX3_weightOf_4b N X p1  (fX3_weightOf_4 N X p1  n) x2 x3
def fX3_weightOf (N : Nat) (X : Nat → Nat → Int32) (p1 : Int32) : Option (Int32) :=
  fX3_weightOf_4 N X p1 N 0 0
def fX11_all_99 (N : Nat) (HS : Nat → Nat → Nat → Int32) (p1 : Int32) (ztz : Int32) (ztn : Nat → Int64) (x2 : Int32) : Option (Int32 × Int32 × (Nat → Int64)) :=
  bnd1 (fX3_weightOf N (HS 0) x2) fun r447 =>
  bnd2 (fX8_tells ztz ztn r447.toInt64) fun ztz_448 ztn_448 =>
  some (x2, ztz_448, ztn_448)
def fX11_all (N : Nat) (ztz : Int32) (ztn : Nat → Int64) (HS : Nat → Nat → Nat → Int32) (p1 : Int32) : Option (Int32 × Int32 × (Nat → Int64)) :=
  if p1 = 0 then
    fX11_all_99 N HS p1 ztz ztn ((HS 0) 0 0)
  else
  if p1 = 1 then
    bnd1 (fX10_reached N (HS 0)) fun r444 =>
    fX11_all_99 N HS p1 ztz ztn r444
  else
  if p1 = 2 then
    bnd1 (fX10_reached N (HS 0)) fun r445 =>
    lt (((HS 0) 0 0) &&& (r445 ^^^ (-1))) fun v_446 =>
    fX11_all_99 N HS p1 ztz ztn v_446
  else
  if p1 = 3 then
    fX11_all_99 N HS p1 ztz ztn ((HS 0) 8 2)
  else
    some ((-1), ztz, ztn)
def fX11_list_9b (N : Nat) (HS : Nat → Nat → Nat → Int32) (k9 : Int32 → (Nat → Int64) → Int32 → Option (Int32 × Int32 × (Nat → Int64))) (ztz : Int32) (ztn : Nat → Int64) (x1 : Int32) : Option (Int32 × Int32 × (Nat → Int64)) :=
  if (HS 0) 8 1 ≤ x1 then
    some ((HS 0) 8 1, ztz, ztn)
  else
    grd (inb x1 24) <|
    bnd2 (fX8_adds ztz ztn (((HS 0) 9 x1.toNatClampNeg).toInt64)) fun ztz_452 ztn_452 =>
    k9 ztz_452 ztn_452 (x1 + 1)
def fX11_list_9 (N : Nat) (HS : Nat → Nat → Nat → Int32) : Nat → Int32 → (Nat → Int64) → Int32 → Option (Int32 × Int32 × (Nat → Int64))
  | 0 => fun _ _ _ => none
  | n + 1 => fun ztz ztn x1 => fX11_list_9b N HS  (fX11_list_9 N HS  n) ztz ztn x1
def fX11_list (N : Nat) (ztz : Int32) (ztn : Nat → Int64) (HS : Nat → Nat → Nat → Int32) : Option (Int32 × Int32 × (Nat → Int64)) :=
  bnd1 (fX8_clears ztz) fun ztz_451 =>
  fX11_list_9 N HS N ztz_451 ztn 0
def fX11_holders_46 (N : Nat) (HS : Nat → Nat → Nat → Int32) (p1 : Int32) (ztz : Int32) (ztn : Nat → Int64) (x2 : Int32) : Option (Int32 × Int32 × (Nat → Int64)) :=
  bnd1 (fX11_placesOf_r N HS p1) fun r462 =>
  bnd1 (fX11_placesOf_w N HS p1) fun r463 =>
  bnd2 (fX8_tells_ ztz ztn r462.toInt64 r463.toInt64) fun ztz_464 ztn_464 =>
  some (x2, ztz_464, ztn_464)
def fX11_holders_17b (N : Nat) (HS : Nat → Nat → Nat → Int32) (p1 : Int32) (k17 : Int32 → (Nat → Int64) → Int32 → Int32 → Option (Int32 × Int32 × (Nat → Int64))) (ztz : Int32) (ztn : Nat → Int64) (x2 : Int32) (x3 : Int32) : Option (Int32 × Int32 × (Nat → Int64)) :=
  if 24 ≤ x3 then
    fX11_holders_46 N HS p1 ztz ztn x2
  else
    bnd1 (fX3_fieldBits N (HS 0) x3) fun r460 =>
    bnd1 (fX11_bit r460 p1) fun r461 =>
    k17 ztz ztn (x2 ||| (jshl r461 x3)) (x3 + 1)
def fX11_holders_17 (N : Nat) (HS : Nat → Nat → Nat → Int32) (p1 : Int32) : Nat → Int32 → (Nat → Int64) → Int32 → Int32 → Option (Int32 × Int32 × (Nat → Int64))
  | 0 => fun _ _ _ _ => none
  | n + 1 => fun ztz ztn x2 x3 => fX11_holders_17b N HS p1  (fX11_holders_17 N HS p1  n) ztz ztn x2 x3
def fX11_holders (N : Nat) (ztz : Int32) (ztn : Nat → Int64) (HS : Nat → Nat → Nat → Int32) (p1 : Int32) : Option (Int32 × Int32 × (Nat → Int64)) :=
  bnd1 (fX3_has (HS 0) p1) fun r459 =>
  if r459 = 0 then
    some ((-1), ztz, ztn)
  else
    fX11_holders_17 N HS p1 N ztz ztn 0 0
def fX10_measures_39b (N : Nat) (X : Nat → Nat → Int32) (p2 : Int32) (k22 : (Nat → Int32) → Int32 → Int32 → Option ((Nat → Int32))) (k39 : (Nat → Int32) → Int32 → Int32 → Int32 → Int32 → Option ((Nat → Int32))) (zfr : Nat → Int32) (x3 : Int32) (x4 : Int32) (x5 : Int32) (x6 : Int32) : Option ((Nat → Int32)) :=
  if 24 ≤ x6 then
    k22 zfr x5 (x4 + 1)
  else
    grd (inb x6 24) <|
    if zfr x6.toNatClampNeg = (-1) then
      bnd1 (fX3_fieldBits N X x6) fun r471 =>
      if r471 &&& x3 = 0 then
        k39 zfr x3 x4 x5 (x6 + 1)
      else
        grd (inb x6 24) <|
        lt (upd zfr x6.toNatClampNeg x4) fun zfr_472 =>
        k39 zfr_472 x3 x4 (x5 ||| (jshl 1 x6)) (x6 + 1)
    else
      k39 zfr x3 x4 x5 (x6 + 1)
def fX10_measures_39 (N : Nat) (X : Nat → Nat → Int32) (p2 : Int32) (k22 : (Nat → Int32) → Int32 → Int32 → Option ((Nat → Int32))) : Nat → (Nat → Int32) → Int32 → Int32 → Int32 → Int32 → Option ((Nat → Int32))
  | 0 => fun _ _ _ _ _ => none
  | n + 1 => fun zfr x3 x4 x5 x6 => fX10_measures_39b N X p2 k22 (fX10_measures_39 N X p2 k22 n) zfr x3 x4 x5 x6
def fX10_measures_22b (N : Nat) (X : Nat → Nat → Int32) (p2 : Int32) (k22 : (Nat → Int32) → Int32 → Int32 → Option ((Nat → Int32))) (zfr : Nat → Int32) (x3 : Int32) (x4 : Int32) : Option ((Nat → Int32)) :=
  if 24 ≤ x4 then
    some zfr
  else
    if x3 = 0 then
      some zfr
    else
      fX10_measures_39 N X p2 k22 N zfr x3 x4 0 0
def fX10_measures_22 (N : Nat) (X : Nat → Nat → Int32) (p2 : Int32) : Nat → (Nat → Int32) → Int32 → Int32 → Option ((Nat → Int32))
  | 0 => fun _ _ _ => none
  | n + 1 => fun zfr x3 x4 => fX10_measures_22b N X p2  (fX10_measures_22 N X p2  n) zfr x3 x4
def fX10_measures (N : Nat) (zfr : Nat → Int32) (X : Nat → Nat → Int32) (p2 : Int32) : Option ((Nat → Int32)) :=
  bnd1 (fJ7_fill_53178_fr N zfr (-1)) fun zfr_469 =>
  grd (inb p2 24) <|
  lt (upd zfr_469 p2.toNatClampNeg 0) fun zfr_470 =>
  fX10_measures_22 N X p2 N zfr_470 (jshl 1 p2) 1
def fX10_nearest_4b (N : Nat) (zfr : Nat → Int32) (p1 : Int32) (k4 : Int32 → Int32 → Option (Int32)) (x2 : Int32) (x3 : Int32) : Option (Int32) :=
  if 24 ≤ x3 then
    some x2
  else
    bnd1 (fX11_bit p1 x3) fun r474 =>
    if r474 = 1 then
      grd (inb x3 24) <|
      if zfr x3.toNatClampNeg = (-1) then
        k4 x2 (x3 + 1)
      else
        if x2 = (-1) then
          k4 x3 (x3 + 1)
        else
          grd (inb x3 24) <|
          grd (inb x2 24) <|
          if zfr x2.toNatClampNeg ≤ zfr x3.toNatClampNeg then
            k4 x2 (x3 + 1)
          else
            k4 x3 (x3 + 1)
    else
      k4 x2 (x3 + 1)
def fX10_nearest_4 (N : Nat) (zfr : Nat → Int32) (p1 : Int32) : Nat → Int32 → Int32 → Option (Int32)
  | 0 => fun _ _ => none
  | n + 1 => fun x2 x3 => fX10_nearest_4b N zfr p1  (fX10_nearest_4 N zfr p1  n) x2 x3
def fX10_nearest (N : Nat) (zfr : Nat → Int32) (p1 : Int32) : Option (Int32) :=
  fX10_nearest_4 N zfr p1 N (-1) 0
def fX11_way_75b (N : Nat) (HS : Nat → Nat → Nat → Int32) (p1 : Int32) (k75 : Int32 → (Nat → Int64) → (Nat → Int32) → Int32 → Int32 → Option (Int32 × Int32 × (Nat → Int64) × (Nat → Int32))) (ztz : Int32) (ztn : Nat → Int64) (zfr : Nat → Int32) (x2 : Int32) (x3 : Int32) : Option (Int32 × Int32 × (Nat → Int64) × (Nat → Int32)) :=
  if x3 ≤ 0 then
    some (ztz, ztz, ztn, zfr)
  else
    if x2 = (-1) then
      some (ztz, ztz, ztn, zfr)
    else
      bnd1 (fX3_fieldBits N (HS 0) x2) fun r492 =>
      bnd1 (fX10_nearest N zfr r492) fun r493 =>
      bnd2 (fX8_adds ztz ztn r493.toInt64) fun ztz_494 ztn_494 =>
      k75 ztz_494 ztn_494 zfr r493 (x3 + (-1))
def fX11_way_75 (N : Nat) (HS : Nat → Nat → Nat → Int32) (p1 : Int32) : Nat → Int32 → (Nat → Int64) → (Nat → Int32) → Int32 → Int32 → Option (Int32 × Int32 × (Nat → Int64) × (Nat → Int32))
  | 0 => fun _ _ _ _ _ => none
  | n + 1 => fun ztz ztn zfr x2 x3 => fX11_way_75b N HS p1  (fX11_way_75 N HS p1  n) ztz ztn zfr x2 x3
def fX11_way (N : Nat) (ztz : Int32) (ztn : Nat → Int64) (zfr : Nat → Int32) (HS : Nat → Nat → Nat → Int32) (p1 : Int32) : Option (Int32 × Int32 × (Nat → Int64) × (Nat → Int32)) :=
  bnd1 (fX3_has (HS 0) p1) fun r485 =>
  if r485 = 0 then
    some ((-1), ztz, ztn, zfr)
  else
    bnd1 (fX10_measures N zfr (HS 0) p1) fun zfr_486 =>
    bnd1 (fX3_rootBits N (HS 0) 0) fun r487 =>
    bnd1 (fX10_nearest N zfr_486 r487) fun r488 =>
    if r488 = (-1) then
      some ((-2), ztz, ztn, zfr_486)
    else
      bnd1 (fX8_clears ztz) fun ztz_489 =>
      bnd2 (fX8_adds ztz_489 ztn r488.toInt64) fun ztz_490 ztn_490 =>
      grd (inb r488 24) <|
      lt (zfr_486 r488.toNatClampNeg) fun v_491 =>
      fX11_way_75 N HS p1 N ztz_490 ztn_490 zfr_486 r488 v_491
def fX11_from (N : Nat) (ztz : Int32) (ztn : Nat → Int64) (HS : Nat → Nat → Nat → Int32) (p1 : Int32) : Option (Int32 × Int32 × (Nat → Int64)) :=
  bnd1 (fX3_has (HS 0) p1) fun r500 =>
  if r500 = 0 then
    some ((-1), ztz, ztn)
  else
    bnd1 (fX3_fieldBits N (HS 0) p1) fun r501 =>
    bnd1 (fX10_spreads N (HS 0) r501 0) fun r502 =>
    bnd1 (fX11_bit r502 p1) fun r503 =>
    bnd2 (fX8_tells ztz ztn r503.toInt64) fun ztz_504 ztn_504 =>
    some (r502 ||| (jshl 1 p1), ztz_504, ztn_504)
def fX11_ringOf_4b (N : Nat) (zky : Nat → Int32) (p1 : Int32) (k4 : Int32 → Int32 → Option (Int32)) (x2 : Int32) (x3 : Int32) : Option (Int32) :=
  if 24 ≤ x3 then
    some x2
  else
    grd (inb p1 24) <|
    bnd1 (fX11_bit (zky p1.toNatClampNeg) x3) fun r508 =>
    grd (inb x3 24) <|
    bnd1 (fX11_bit (zky x3.toNatClampNeg) p1) fun r509 =>
    lt (x2 ||| (jshl (r508 &&& r509) x3)) fun v_510 =>
    k4 v_510 (x3 + 1)
def fX11_ringOf_4 (N : Nat) (zky : Nat → Int32) (p1 : Int32) : Nat → Int32 → Int32 → Option (Int32)
  | 0 => fun _ _ => none
  | n + 1 => fun x2 x3 => fX11_ringOf_4b N zky p1  (fX11_ringOf_4 N zky p1  n) x2 x3
def fX11_ringOf (N : Nat) (zky : Nat → Int32) (p1 : Int32) : Option (Int32) :=
  fX11_ringOf_4 N zky p1 N 0 0
def fX11_rings_51b (N : Nat) (HS : Nat → Nat → Nat → Int32) (k51 : (Nat → Int32) → Int32 → (Nat → Int64) → Int32 → Int32 → Option (Int32 × (Nat → Int32) × Int32 × (Nat → Int64))) (zky : Nat → Int32) (ztz : Int32) (ztn : Nat → Int64) (x1 : Int32) (x2 : Int32) : Option (Int32 × (Nat → Int32) × Int32 × (Nat → Int64)) :=
  if 24 ≤ x2 then
    some (ztz, zky, ztz, ztn)
  else
    grd (inb x2 24) <|
    bnd1 (fX11_bit (zky x2.toNatClampNeg) x2) fun r523 =>
    if r523 = 1 then
      bnd1 (fX11_bit x1 x2) fun r524 =>
      if r524 = 0 then
        bnd1 (fX11_ringOf N zky x2) fun r525 =>
        bnd2 (fX8_adds ztz ztn r525.toInt64) fun ztz_526 ztn_526 =>
        k51 zky ztz_526 ztn_526 (x1 ||| r525) (x2 + 1)
      else
        k51 zky ztz ztn x1 (x2 + 1)
    else
      k51 zky ztz ztn x1 (x2 + 1)
def fX11_rings_51 (N : Nat) (HS : Nat → Nat → Nat → Int32) : Nat → (Nat → Int32) → Int32 → (Nat → Int64) → Int32 → Int32 → Option (Int32 × (Nat → Int32) × Int32 × (Nat → Int64))
  | 0 => fun _ _ _ _ _ => none
  | n + 1 => fun zky ztz ztn x1 x2 => fX11_rings_51b N HS  (fX11_rings_51 N HS  n) zky ztz ztn x1 x2
def fX11_rings_40 (N : Nat) (HS : Nat → Nat → Nat → Int32) (zky : Nat → Int32) (ztz : Int32) (ztn : Nat → Int64) : Option (Int32 × (Nat → Int32) × Int32 × (Nat → Int64)) :=
  bnd1 (fX8_clears ztz) fun ztz_522 =>
  fX11_rings_51 N HS N zky ztz_522 ztn 0 0
def fX11_rings_2b (N : Nat) (HS : Nat → Nat → Nat → Int32) (k2 : (Nat → Int32) → Int32 → (Nat → Int64) → Int32 → Option (Int32 × (Nat → Int32) × Int32 × (Nat → Int64))) (zky : Nat → Int32) (ztz : Int32) (ztn : Nat → Int64) (x1 : Int32) : Option (Int32 × (Nat → Int32) × Int32 × (Nat → Int64)) :=
  if 24 ≤ x1 then
    fX11_rings_40 N HS zky ztz ztn
  else
    bnd1 (fX3_fieldBits N (HS 0) x1) fun r519 =>
    bnd1 (fX10_spreads N (HS 0) r519 0) fun r520 =>
    grd (inb x1 24) <|
    lt (upd zky x1.toNatClampNeg r520) fun zky_521 =>
    k2 zky_521 ztz ztn (x1 + 1)
def fX11_rings_2 (N : Nat) (HS : Nat → Nat → Nat → Int32) : Nat → (Nat → Int32) → Int32 → (Nat → Int64) → Int32 → Option (Int32 × (Nat → Int32) × Int32 × (Nat → Int64))
  | 0 => fun _ _ _ _ => none
  | n + 1 => fun zky ztz ztn x1 => fX11_rings_2b N HS  (fX11_rings_2 N HS  n) zky ztz ztn x1
def fX11_rings (N : Nat) (zky : Nat → Int32) (ztz : Int32) (ztn : Nat → Int64) (HS : Nat → Nat → Nat → Int32) : Option (Int32 × (Nat → Int32) × Int32 × (Nat → Int64)) :=
  fX11_rings_2 N HS N zky ztz ztn 0
def fX10_hanging (N : Nat) (X : Nat → Nat → Int32) (p2 : Int32) : Option (Int32) :=
  bnd1 (fX10_reached N X) fun r530 =>
  bnd1 (fX3_rootBits N X 0) fun r531 =>
  bnd1 (fX10_spreads N X r531 (jshl 1 p2)) fun r532 =>
  some (r530 &&& (r532 ^^^ (-1)))
def fX11_alone (N : Nat) (ztz : Int32) (ztn : Nat → Int64) (HS : Nat → Nat → Nat → Int32) (p1 : Int32) : Option (Int32 × Int32 × (Nat → Int64)) :=
  bnd1 (fX3_has (HS 0) p1) fun r537 =>
  if r537 = 0 then
    some ((-1), ztz, ztn)
  else
    bnd1 (fX10_hanging N (HS 0) p1) fun r538 =>
    if r538 = 0 then
      some ((-2), ztz, ztn)
    else
      bnd1 (fX3_weightOf N (HS 0) r538) fun r539 =>
      bnd2 (fX8_tells ztz ztn r539.toInt64) fun ztz_540 ztn_540 =>
      some (r538, ztz_540, ztn_540)
def fX11_keepers_66 (N : Nat) (HS : Nat → Nat → Nat → Int32) (p1 : Int32) (ztz : Int32) (ztn : Nat → Int64) (x2 : Int32) : Option (Int32 × Int32 × (Nat → Int64)) :=
  if x2 = 0 then
    some ((-2), ztz, ztn)
  else
    bnd1 (fX3_rootBits N (HS 0) x2) fun r554 =>
    bnd1 (fX10_spreads N (HS 0) r554 0) fun r555 =>
    bnd1 (fX10_reached N (HS 0)) fun r556 =>
    bnd1 (fJ6_bitCount_0f7a4 (r556 &&& (r555 ^^^ (-1)))) fun r557 =>
    bnd2 (fX8_tells ztz ztn r557.toInt64) fun ztz_558 ztn_558 =>
    some (x2, ztz_558, ztn_558)
def fX11_keepers_17b (N : Nat) (HS : Nat → Nat → Nat → Int32) (p1 : Int32) (k17 : Int32 → (Nat → Int64) → Int32 → Int32 → Option (Int32 × Int32 × (Nat → Int64))) (ztz : Int32) (ztn : Nat → Int64) (x2 : Int32) (x3 : Int32) : Option (Int32 × Int32 × (Nat → Int64)) :=
  if 6 ≤ x3 then
    fX11_keepers_66 N HS p1 ztz ztn x2
  else
    bnd1 (fX3_rootBits N (HS 0) ((jshl 1 x3) ^^^ (-1))) fun r551 =>
    bnd1 (fX10_spreads N (HS 0) r551 0) fun r552 =>
    bnd1 (fX11_bit r552 p1) fun r553 =>
    k17 ztz ztn (x2 ||| (jshl r553 x3)) (x3 + 1)
def fX11_keepers_17 (N : Nat) (HS : Nat → Nat → Nat → Int32) (p1 : Int32) : Nat → Int32 → (Nat → Int64) → Int32 → Int32 → Option (Int32 × Int32 × (Nat → Int64))
  | 0 => fun _ _ _ _ => none
  | n + 1 => fun ztz ztn x2 x3 => fX11_keepers_17b N HS p1  (fX11_keepers_17 N HS p1  n) ztz ztn x2 x3
def fX11_keepers (N : Nat) (ztz : Int32) (ztn : Nat → Int64) (HS : Nat → Nat → Nat → Int32) (p1 : Int32) : Option (Int32 × Int32 × (Nat → Int64)) :=
  bnd1 (fX3_has (HS 0) p1) fun r550 =>
  if r550 = 0 then
    some ((-1), ztz, ztn)
  else
    fX11_keepers_17 N HS p1 N ztz ztn 0 0
def fX11_cut (N : Nat) (ztz : Int32) (ztn : Nat → Int64) (zcd : Int32) (zgo : Nat → Int32) (HS : Nat → Nat → Nat → Int32) (p1 : Int32) (p2 : Int32) : Option (Int32 × Int32 × (Nat → Int64) × Int32 × (Nat → Int32) × (Nat → Nat → Nat → Int32)) :=
  bnd1 (fX3_hasField (HS 0) p1 p2) fun r565 =>
  if r565 = 0 then
    some ((-1), ztz, ztn, zcd, zgo, HS)
  else
    bnd1 (fX3_fieldAt (HS 0) p1 p2) fun r566 =>
    if r566 = (-1) then
      some ((-2), ztz, ztn, zcd, zgo, HS)
    else
      lt (updH HS 1 (HS 0)) fun HS_567 =>
      bnd3 (fX2_laysField N zcd zgo (HS_567 1) p1 p2 (-1)) fun zcd_568 zgo_568 X_568 =>
      lt (updH HS_567 1 X_568) fun HS_569 =>
      bnd2 (fX8_tells ztz ztn (((HS_569 1) 8 1).toInt64)) fun ztz_570 ztn_570 =>
      some (((HS_569 0) 0 0) &&& (((HS_569 1) 0 0) ^^^ (-1)), ztz_570, ztn_570, zcd_568, zgo_568, HS_569)
def fX8_tells__ (ztz : Int32) (ztn : Nat → Int64) (p1 : Int64) (p3 : Int64) (p5 : Int64) : Option (Int32 × (Nat → Int64)) :=
  bnd2 (fX8_tells_ ztz ztn p1 p3) fun ztz_573 ztn_573 =>
  bnd2 (fX8_adds ztz_573 ztn_573 p5) fun ztz_574 ztn_574 =>
  some (ztz_574, ztn_574)
def fX11_would (N : Nat) (ztz : Int32) (ztn : Nat → Int64) (zcd : Int32) (zgo : Nat → Int32) (ztd : Int32) (ztv : Int32) (zcl : Nat → Int32) (zca : Nat → Int32) (zwa : Nat → Int32) (zpt : Nat → Int32) (zpf : Nat → Int32) (HS : Nat → Nat → Nat → Int32) : Option (Int32 × Int32 × (Nat → Int64) × Int32 × (Nat → Int32) × Int32 × Int32 × (Nat → Int32) × (Nat → Int32) × (Nat → Int32) × (Nat → Int32) × (Nat → Int32) × (Nat → Nat → Nat → Int32)) :=
  if (HS 0) 8 1 = 0 then
    some ((-2), ztz, ztn, zcd, zgo, ztd, ztv, zcl, zca, zwa, zpt, zpf, HS)
  else
    lt (updH HS 1 (HS 0)) fun HS_580 =>
    bnd10 (fX9_tries N zcd zgo ztd ztv zcl zca zwa zpt zpf (HS_580 1)) fun zcd_581 zgo_581 ztd_581 ztv_581 zcl_581 zca_581 zwa_581 zpt_581 zpf_581 X_581 =>
    lt (updH HS_580 1 X_581) fun HS_582 =>
    grd (inb 3 6) <|
    grd (inb 3 6) <|
    lt (((HS_582 1) 13 (3 : Int32).toNatClampNeg) - ((HS_582 0) 13 (3 : Int32).toNatClampNeg)) fun v_583 =>
    bnd2 (fX8_tells__ ztz ztn v_583.toInt64 ztv_581.toInt64 (((HS_582 1) 8 1).toInt64)) fun ztz_584 ztn_584 =>
    some (((HS_582 0) 0 0) &&& (((HS_582 1) 0 0) ^^^ (-1)), ztz_584, ztn_584, zcd_581, zgo_581, ztd_581, ztv_581, zcl_581, zca_581, zwa_581, zpt_581, zpf_581, HS_582)
def fX11_settles_49 (N : Nat) (ztz : Int32) (ztn : Nat → Int64) (zcd : Int32) (zgo : Nat → Int32) (ztd : Int32) (ztv : Int32) (zcl : Nat → Int32) (zca : Nat → Int32) (zwa : Nat → Int32) (zpt : Nat → Int32) (zpf : Nat → Int32) (HS : Nat → Nat → Nat → Int32) (x1 : Int32) : Option (Int32 × Int32 × (Nat → Int64) × Int32 × (Nat → Int32) × Int32 × Int32 × (Nat → Int32) × (Nat → Int32) × (Nat → Int32) × (Nat → Int32) × (Nat → Int32) × (Nat → Nat → Nat → Int32)) :=
  if (HS 1) 8 1 ≤ 0 then
    bnd1 (fX3_objects (HS 1)) fun r596 =>
    bnd1 (fX3_objects (HS 1)) fun r597 =>
    bnd1 (fX10_reached N (HS 1)) fun r598 =>
    bnd1 (fJ6_bitCount_0f7a4 r598) fun r599 =>
    bnd2 (fX8_tells_ ztz ztn r596.toInt64 ((r597 - r599).toInt64)) fun ztz_600 ztn_600 =>
    some (x1, ztz_600, ztn_600, zcd, zgo, ztd, ztv, zcl, zca, zwa, zpt, zpf, HS)
  else
    some ((-2), ztz, ztn, zcd, zgo, ztd, ztv, zcl, zca, zwa, zpt, zpf, HS)
def fX11_settles_13b (N : Nat) (k13 : Int32 → (Nat → Int64) → Int32 → (Nat → Int32) → Int32 → Int32 → (Nat → Int32) → (Nat → Int32) → (Nat → Int32) → (Nat → Int32) → (Nat → Int32) → (Nat → Nat → Nat → Int32) → Int32 → Option (Int32 × Int32 × (Nat → Int64) × Int32 × (Nat → Int32) × Int32 × Int32 × (Nat → Int32) × (Nat → Int32) × (Nat → Int32) × (Nat → Int32) × (Nat → Int32) × (Nat → Nat → Nat → Int32))) (ztz : Int32) (ztn : Nat → Int64) (zcd : Int32) (zgo : Nat → Int32) (ztd : Int32) (ztv : Int32) (zcl : Nat → Int32) (zca : Nat → Int32) (zwa : Nat → Int32) (zpt : Nat → Int32) (zpf : Nat → Int32) (HS : Nat → Nat → Nat → Int32) (x1 : Int32) : Option (Int32 × Int32 × (Nat → Int64) × Int32 × (Nat → Int32) × Int32 × Int32 × (Nat → Int32) × (Nat → Int32) × (Nat → Int32) × (Nat → Int32) × (Nat → Int32) × (Nat → Nat → Nat → Int32)) :=
  if 30 ≤ x1 then
    fX11_settles_49 N ztz ztn zcd zgo ztd ztv zcl zca zwa zpt zpf HS x1
  else
    if (HS 1) 8 1 ≤ 0 then
      fX11_settles_49 N ztz ztn zcd zgo ztd ztv zcl zca zwa zpt zpf HS x1
    else
      bnd10 (fX9_tries N zcd zgo ztd ztv zcl zca zwa zpt zpf (HS 1)) fun zcd_594 zgo_594 ztd_594 ztv_594 zcl_594 zca_594 zwa_594 zpt_594 zpf_594 X_594 =>
      lt (updH HS 1 X_594) fun HS_595 =>
      k13 ztz ztn zcd_594 zgo_594 ztd_594 ztv_594 zcl_594 zca_594 zwa_594 zpt_594 zpf_594 HS_595 (x1 + 1)
def fX11_settles_13 (N : Nat) : Nat → Int32 → (Nat → Int64) → Int32 → (Nat → Int32) → Int32 → Int32 → (Nat → Int32) → (Nat → Int32) → (Nat → Int32) → (Nat → Int32) → (Nat → Int32) → (Nat → Nat → Nat → Int32) → Int32 → Option (Int32 × Int32 × (Nat → Int64) × Int32 × (Nat → Int32) × Int32 × Int32 × (Nat → Int32) × (Nat → Int32) × (Nat → Int32) × (Nat → Int32) × (Nat → Int32) × (Nat → Nat → Nat → Int32))
  | 0 => fun _ _ _ _ _ _ _ _ _ _ _ _ _ => none
  | n + 1 => fun ztz ztn zcd zgo ztd ztv zcl zca zwa zpt zpf HS x1 => fX11_settles_13b N  (fX11_settles_13 N  n) ztz ztn zcd zgo ztd ztv zcl zca zwa zpt zpf HS x1
def fX11_settles (N : Nat) (ztz : Int32) (ztn : Nat → Int64) (zcd : Int32) (zgo : Nat → Int32) (ztd : Int32) (ztv : Int32) (zcl : Nat → Int32) (zca : Nat → Int32) (zwa : Nat → Int32) (zpt : Nat → Int32) (zpf : Nat → Int32) (HS : Nat → Nat → Nat → Int32) : Option (Int32 × Int32 × (Nat → Int64) × Int32 × (Nat → Int32) × Int32 × Int32 × (Nat → Int32) × (Nat → Int32) × (Nat → Int32) × (Nat → Int32) × (Nat → Int32) × (Nat → Nat → Nat → Int32)) :=
  lt (updH HS 1 (HS 0)) fun HS_593 =>
  fX11_settles_13 N N ztz ztn zcd zgo ztd ztv zcl zca zwa zpt zpf HS_593 0
def fX11_rankKey (N : Nat) (HS : Nat → Nat → Nat → Int32) (p1 : Int32) (p2 : Int32) : Option (Int32) :=
  if p2 = 0 then
    grd (inb p1 24) <|
    some ((HS 0) 4 p1.toNatClampNeg)
  else
  if p2 = 1 then
    grd (inb p1 24) <|
    some ((HS 0) 2 p1.toNatClampNeg)
  else
    bnd1 (fX10_hanging N (HS 0) p1) fun r603 =>
    bnd1 (fX3_weightOf N (HS 0) r603) fun r604 =>
    some r604
def fX11_greatest_4b (N : Nat) (zky : Nat → Int32) (p1 : Int32) (k4 : Int32 → Int32 → Option (Int32)) (x2 : Int32) (x3 : Int32) : Option (Int32) :=
  if 24 ≤ x3 then
    some x2
  else
    bnd1 (fX11_bit p1 x3) fun r607 =>
    if r607 = 1 then
      bnd1 (fX11_bit p1 x2) fun r608 =>
      if r608 = 0 then
        k4 x3 (x3 + 1)
      else
        grd (inb x3 24) <|
        grd (inb x2 24) <|
        if zky x3.toNatClampNeg ≤ zky x2.toNatClampNeg then
          k4 x2 (x3 + 1)
        else
          k4 x3 (x3 + 1)
    else
      k4 x2 (x3 + 1)
def fX11_greatest_4 (N : Nat) (zky : Nat → Int32) (p1 : Int32) : Nat → Int32 → Int32 → Option (Int32)
  | 0 => fun _ _ => none
  | n + 1 => fun x2 x3 => fX11_greatest_4b N zky p1  (fX11_greatest_4 N zky p1  n) x2 x3
def fX11_greatest (N : Nat) (zky : Nat → Int32) (p1 : Int32) : Option (Int32) :=
  fX11_greatest_4 N zky p1 N 0 1
def fX11_ranks_75b (N : Nat) (HS : Nat → Nat → Nat → Int32) (p1 : Int32) (k75 : (Nat → Int32) → Int32 → (Nat → Int64) → Int32 → Int32 → Option (Int32 × (Nat → Int32) × Int32 × (Nat → Int64))) (zky : Nat → Int32) (ztz : Int32) (ztn : Nat → Int64) (x2 : Int32) (x3 : Int32) : Option (Int32 × (Nat → Int32) × Int32 × (Nat → Int64)) :=
  if x3 ≤ 0 then
    some (ztz, zky, ztz, ztn)
  else
    bnd1 (fX11_greatest N zky x2) fun r624 =>
    lt (x2 &&& ((jshl 1 r624) ^^^ (-1))) fun v_625 =>
    bnd2 (fX8_adds ztz ztn r624.toInt64) fun ztz_626 ztn_626 =>
    k75 zky ztz_626 ztn_626 v_625 (x3 + (-1))
def fX11_ranks_75 (N : Nat) (HS : Nat → Nat → Nat → Int32) (p1 : Int32) : Nat → (Nat → Int32) → Int32 → (Nat → Int64) → Int32 → Int32 → Option (Int32 × (Nat → Int32) × Int32 × (Nat → Int64))
  | 0 => fun _ _ _ _ _ => none
  | n + 1 => fun zky ztz ztn x2 x3 => fX11_ranks_75b N HS p1  (fX11_ranks_75 N HS p1  n) zky ztz ztn x2 x3
def fX11_ranks_52 (N : Nat) (HS : Nat → Nat → Nat → Int32) (p1 : Int32) (zky : Nat → Int32) (ztz : Int32) (ztn : Nat → Int64) : Option (Int32 × (Nat → Int32) × Int32 × (Nat → Int64)) :=
  bnd1 (fX8_clears ztz) fun ztz_622 =>
  bnd1 (fX3_objects (HS 0)) fun r623 =>
  fX11_ranks_75 N HS p1 N zky ztz_622 ztn ((HS 0) 0 0) r623
def fX11_ranks_13b (N : Nat) (HS : Nat → Nat → Nat → Int32) (p1 : Int32) (k13 : (Nat → Int32) → Int32 → (Nat → Int64) → Int32 → Option (Int32 × (Nat → Int32) × Int32 × (Nat → Int64))) (zky : Nat → Int32) (ztz : Int32) (ztn : Nat → Int64) (x2 : Int32) : Option (Int32 × (Nat → Int32) × Int32 × (Nat → Int64)) :=
  if 24 ≤ x2 then
    fX11_ranks_52 N HS p1 zky ztz ztn
  else
    bnd1 (fX3_has (HS 0) x2) fun r618 =>
    if r618 = 0 then
      grd (inb x2 24) <|
      lt (upd zky x2.toNatClampNeg (-1)) fun zky_619 =>
      k13 zky_619 ztz ztn (x2 + 1)
    else
      bnd1 (fX11_rankKey N HS x2 p1) fun r620 =>
      grd (inb x2 24) <|
      lt (upd zky x2.toNatClampNeg r620) fun zky_621 =>
      k13 zky_621 ztz ztn (x2 + 1)
def fX11_ranks_13 (N : Nat) (HS : Nat → Nat → Nat → Int32) (p1 : Int32) : Nat → (Nat → Int32) → Int32 → (Nat → Int64) → Int32 → Option (Int32 × (Nat → Int32) × Int32 × (Nat → Int64))
  | 0 => fun _ _ _ _ => none
  | n + 1 => fun zky ztz ztn x2 => fX11_ranks_13b N HS p1  (fX11_ranks_13 N HS p1  n) zky ztz ztn x2
def fX11_ranks (N : Nat) (zky : Nat → Int32) (ztz : Int32) (ztn : Nat → Int64) (HS : Nat → Nat → Nat → Int32) (p1 : Int32) : Option (Int32 × (Nat → Int32) × Int32 × (Nat → Int64)) :=
  if p1 < 0 then
    some ((-1), zky, ztz, ztn)
  else
    if p1 ≤ 2 then
      fX11_ranks_13 N HS p1 N zky ztz ztn 0
    else
      some ((-1), zky, ztz, ztn)
def fX11_logged (ztz : Int32) (ztn : Nat → Int64) (HS : Nat → Nat → Nat → Int32) (p1 : Int32) : Option (Int32 × Int32 × (Nat → Int64)) :=
  if p1 < 0 then
    some ((-1), ztz, ztn)
  else
    if p1 < 6 then
      bnd2 (fX8_tells ztz ztn (((HS 0) 10 3).toInt64)) fun ztz_628 ztn_628 =>
      grd (inb p1 6) <|
      some ((HS 0) 13 p1.toNatClampNeg, ztz_628, ztn_628)
    else
      some ((-1), ztz, ztn)
def fX7_digitsOf (p0 : Int32) : Option (Int32) :=
  if p0 = 107 then
    some 2
  else
  if p0 = 110 then
    some 4
  else
  if p0 = 114 then
    some 3
  else
  if p0 = 115 then
    some 5
  else
  if p0 = 116 then
    some 0
  else
  if p0 = 119 then
    some 3
  else
    some (-1)
def fX7_fault_69 (N : Nat) (zxz : Int32) (zsg : Nat → Int32) (x1 : Int32) : Option (Int32) :=
  if x1 ≤ 0 then
    some (-1)
  else
    some zxz
def fX7_fault_4b (N : Nat) (zxz : Int32) (zsg : Nat → Int32) (k4 : Int32 → Int32 → Option (Int32)) (x1 : Int32) (x2 : Int32) : Option (Int32) :=
  if zxz ≤ x2 then
    fX7_fault_69 N zxz zsg x1
  else
    if x1 ≤ 0 then
      grd (inb x2 80) <|
      bnd1 (fX7_digitsOf (zsg x2.toNatClampNeg)) fun r630 =>
      if r630 = (-1) then
        some x2
      else
        k4 r630 (x2 + 1)
    else
      grd (inb x2 80) <|
      if zsg x2.toNatClampNeg < 48 then
        some x2
      else
        grd (inb x2 80) <|
        if zsg x2.toNatClampNeg ≤ 57 then
          k4 (x1 + (-1)) (x2 + 1)
        else
          some x2
def fX7_fault_4 (N : Nat) (zxz : Int32) (zsg : Nat → Int32) : Nat → Int32 → Int32 → Option (Int32)
  | 0 => fun _ _ => none
  | n + 1 => fun x1 x2 => fX7_fault_4b N zxz zsg  (fX7_fault_4 N zxz zsg  n) x1 x2
def fX7_fault (N : Nat) (zxz : Int32) (zsg : Nat → Int32) : Option (Int32) :=
  fX7_fault_4 N zxz zsg N 0 0
def fX7_starts (zxa : Int32) : Option (Int32) :=
  some 0
def fX7_goesOn (zxz : Int32) (zxa : Int32) : Option (Int32) :=
  if zxz ≤ zxa then
    some 0
  else
    some 1
def fX7_next (zxz : Int32) (zxa : Int32) (zsg : Nat → Int32) : Option (Int32 × Int32) :=
  if zxa < zxz then
    lt (zxa + 1) fun zxa_632 =>
    grd (inb (zxa_632 - 1) 80) <|
    some (zsg (zxa_632 - 1).toNatClampNeg, zxa_632)
  else
    some ((-1), zxa)
def fX7_digit (zxz : Int32) (zxa : Int32) (zsg : Nat → Int32) : Option (Int32 × Int32) :=
  bnd2 (fX7_next zxz zxa zsg) fun r634 zxa_634 =>
  some (r634 - 48, zxa_634)
def fX7_twoDigits (zxz : Int32) (zxa : Int32) (zsg : Nat → Int32) : Option (Int32 × Int32) :=
  bnd2 (fX7_digit zxz zxa zsg) fun r637 zxa_637 =>
  bnd2 (fX7_digit zxz zxa_637 zsg) fun r638 zxa_638 =>
  some ((r637 * 10) + r638, zxa_638)
def fX7_target (zxz : Int32) (zxa : Int32) (zsg : Nat → Int32) : Option (Int32 × Int32) :=
  bnd2 (fX7_twoDigits zxz zxa zsg) fun r640 zxa_640 =>
  if r640 = 99 then
    some ((-1), zxa_640)
  else
    some (r640, zxa_640)
def fX7_reads_153 (zxz : Int32) (zsg : Nat → Int32) (zxa : Int32) (za0 : Int32) (za1 : Int32) (za2 : Int32) (za3 : Int32) (za4 : Int32) (x2 : Int32) : Option (Int32 × Int32 × Int32 × Int32 × Int32 × Int32) :=
  bnd5 (fX0_becomes za0 za1 za2 za3 za4 x2 0 0 0 0) fun za0_671 za1_671 za2_671 za3_671 za4_671 =>
  some (zxa, za0_671, za1_671, za2_671, za3_671, za4_671)
def fX7_reads_117 (zxz : Int32) (zsg : Nat → Int32) (zxa : Int32) (za0 : Int32) (za1 : Int32) (za2 : Int32) (za3 : Int32) (za4 : Int32) (x2 : Int32) : Option (Int32 × Int32 × Int32 × Int32 × Int32 × Int32) :=
  bnd2 (fX7_digit zxz zxa zsg) fun r672 zxa_672 =>
  bnd2 (fX7_target zxz zxa_672 zsg) fun r673 zxa_673 =>
  bnd5 (fX0_becomes za0 za1 za2 za3 za4 x2 r672 r673 0 0) fun za0_674 za1_674 za2_674 za3_674 za4_674 =>
  some (zxa_673, za0_674, za1_674, za2_674, za3_674, za4_674)
def fX7_reads (zxz : Int32) (zxa : Int32) (zsg : Nat → Int32) (za0 : Int32) (za1 : Int32) (za2 : Int32) (za3 : Int32) (za4 : Int32) : Option (Int32 × Int32 × Int32 × Int32 × Int32 × Int32) :=
  bnd2 (fX7_next zxz zxa zsg) fun r658 zxa_658 =>
  if r658 = 107 then
    bnd2 (fX7_digit zxz zxa_658 zsg) fun r659 zxa_659 =>
    bnd2 (fX7_digit zxz zxa_659 zsg) fun r660 zxa_660 =>
    bnd5 (fX0_becomes za0 za1 za2 za3 za4 r658 r659 r660 0 0) fun za0_661 za1_661 za2_661 za3_661 za4_661 =>
    some (zxa_660, za0_661, za1_661, za2_661, za3_661, za4_661)
  else
  if r658 = 110 then
    bnd2 (fX7_digit zxz zxa_658 zsg) fun r662 zxa_662 =>
    bnd2 (fX7_digit zxz zxa_662 zsg) fun r663 zxa_663 =>
    bnd2 (fX7_digit zxz zxa_663 zsg) fun r664 zxa_664 =>
    bnd2 (fX7_digit zxz zxa_664 zsg) fun r665 zxa_665 =>
    bnd5 (fX0_becomes za0 za1 za2 za3 za4 r658 r662 r663 r664 r665) fun za0_666 za1_666 za2_666 za3_666 za4_666 =>
    some (zxa_665, za0_666, za1_666, za2_666, za3_666, za4_666)
  else
  if r658 = 114 then
    fX7_reads_117 zxz zsg zxa_658 za0 za1 za2 za3 za4 r658
  else
  if r658 = 115 then
    bnd2 (fX7_twoDigits zxz zxa_658 zsg) fun r667 zxa_667 =>
    bnd2 (fX7_digit zxz zxa_667 zsg) fun r668 zxa_668 =>
    bnd2 (fX7_target zxz zxa_668 zsg) fun r669 zxa_669 =>
    bnd5 (fX0_becomes za0 za1 za2 za3 za4 r658 r667 r668 r669 0) fun za0_670 za1_670 za2_670 za3_670 za4_670 =>
    some (zxa_669, za0_670, za1_670, za2_670, za3_670, za4_670)
  else
  if r658 = 119 then
    fX7_reads_117 zxz zsg zxa_658 za0 za1 za2 za3 za4 r658
  else
    fX7_reads_153 zxz zsg zxa_658 za0 za1 za2 za3 za4 r658
def fX11_day_133 (N : Nat) (zsg : Nat → Int32) (zpn : Int32) (zps : Int32) (ztz : Int32) (ztn : Nat → Int64) (zxz : Int32) (zxa : Int32) (za0 : Int32) (za1 : Int32) (za2 : Int32) (za3 : Int32) (za4 : Int32) (zcd : Int32) (zgo : Nat → Int32) (ztd : Int32) (ztv : Int32) (zcl : Nat → Int32) (zca : Nat → Int32) (zwa : Nat → Int32) (zpt : Nat → Int32) (zpf : Nat → Int32) (HS : Nat → Nat → Nat → Int32) (x2 : Int32) (x3 : Int32) : Option (Int32 × Int32 × Int32 × Int32 × (Nat → Int64) × Int32 × Int32 × Int32 × Int32 × Int32 × Int32 × Int32 × Int32 × (Nat → Int32) × Int32 × Int32 × (Nat → Int32) × (Nat → Int32) × (Nat → Int32) × (Nat → Int32) × (Nat → Int32) × (Nat → Nat → Nat → Int32)) :=
  bnd1 (fX3_objects (HS 0)) fun r693 =>
  bnd2 (fX8_tells_ ztz ztn x3.toInt64 r693.toInt64) fun ztz_694 ztn_694 =>
  some (x2, zpn, zps, ztz_694, ztn_694, zxz, zxa, za0, za1, za2, za3, za4, zcd, zgo, ztd, ztv, zcl, zca, zwa, zpt, zpf, HS)
def fX11_day_114 (N : Nat) (zsg : Nat → Int32) (zpn : Int32) (zps : Int32) (ztz : Int32) (ztn : Nat → Int64) (zxz : Int32) (zxa : Int32) (za0 : Int32) (za1 : Int32) (za2 : Int32) (za3 : Int32) (za4 : Int32) (zcd : Int32) (zgo : Nat → Int32) (ztd : Int32) (ztv : Int32) (zcl : Nat → Int32) (zca : Nat → Int32) (zwa : Nat → Int32) (zpt : Nat → Int32) (zpf : Nat → Int32) (HS : Nat → Nat → Nat → Int32) (x2 : Int32) (x3 : Int32) : Option (Int32 × Int32 × Int32 × Int32 × (Nat → Int64) × Int32 × Int32 × Int32 × Int32 × Int32 × Int32 × Int32 × Int32 × (Nat → Int32) × Int32 × Int32 × (Nat → Int32) × (Nat → Int32) × (Nat → Int32) × (Nat → Int32) × (Nat → Int32) × (Nat → Nat → Nat → Int32)) :=
  if x2 ≤ 0 then
    fX11_day_133 N zsg zpn zps ztz ztn 0 zxa za0 za1 za2 za3 za4 zcd zgo ztd ztv zcl zca zwa zpt zpf HS x2 x3
  else
    bnd2 (fX5_keeps zpn zps) fun zpn_692 zps_692 =>
    fX11_day_133 N zsg zpn_692 zps_692 ztz ztn 0 zxa za0 za1 za2 za3 za4 zcd zgo ztd ztv zcl zca zwa zpt zpf HS x2 x3
def fX11_day_50b (N : Nat) (zsg : Nat → Int32) (k50 : Int32 → Int32 → Int32 → (Nat → Int64) → Int32 → Int32 → Int32 → Int32 → Int32 → Int32 → Int32 → Int32 → (Nat → Int32) → Int32 → Int32 → (Nat → Int32) → (Nat → Int32) → (Nat → Int32) → (Nat → Int32) → (Nat → Int32) → (Nat → Nat → Nat → Int32) → Int32 → Int32 → Int32 → Option (Int32 × Int32 × Int32 × Int32 × (Nat → Int64) × Int32 × Int32 × Int32 × Int32 × Int32 × Int32 × Int32 × Int32 × (Nat → Int32) × Int32 × Int32 × (Nat → Int32) × (Nat → Int32) × (Nat → Int32) × (Nat → Int32) × (Nat → Int32) × (Nat → Nat → Nat → Int32))) (zpn : Int32) (zps : Int32) (ztz : Int32) (ztn : Nat → Int64) (zxz : Int32) (zxa : Int32) (za0 : Int32) (za1 : Int32) (za2 : Int32) (za3 : Int32) (za4 : Int32) (zcd : Int32) (zgo : Nat → Int32) (ztd : Int32) (ztv : Int32) (zcl : Nat → Int32) (zca : Nat → Int32) (zwa : Nat → Int32) (zpt : Nat → Int32) (zpf : Nat → Int32) (HS : Nat → Nat → Nat → Int32) (x2 : Int32) (x3 : Int32) (x4 : Int32) : Option (Int32 × Int32 × Int32 × Int32 × (Nat → Int64) × Int32 × Int32 × Int32 × Int32 × Int32 × Int32 × Int32 × Int32 × (Nat → Int32) × Int32 × Int32 × (Nat → Int32) × (Nat → Int32) × (Nat → Int32) × (Nat → Int32) × (Nat → Int32) × (Nat → Nat → Nat → Int32)) :=
  if 80 ≤ x4 then
    fX11_day_114 N zsg zpn zps ztz ztn zxz zxa za0 za1 za2 za3 za4 zcd zgo ztd ztv zcl zca zwa zpt zpf HS x2 x3
  else
    if x3 = 0 then
      bnd1 (fX7_goesOn zxz zxa) fun r688 =>
      if r688 = 0 then
        fX11_day_114 N zsg zpn zps ztz ztn zxz zxa za0 za1 za2 za3 za4 zcd zgo ztd ztv zcl zca zwa zpt zpf HS x2 x3
      else
        bnd6 (fX7_reads zxz zxa zsg za0 za1 za2 za3 za4) fun zxa_689 za0_689 za1_689 za2_689 za3_689 za4_689 =>
        bnd11 (fX1_does N za0_689 za1_689 za2_689 za3_689 za4_689 zcd zgo ztd ztv zcl zca zwa zpt zpf (HS 0)) fun r690 zcd_690 zgo_690 ztd_690 ztv_690 zcl_690 zca_690 zwa_690 zpt_690 zpf_690 X_690 =>
        lt (updH HS 0 X_690) fun HS_691 =>
        if 0 ≤ r690 then
          k50 zpn zps ztz ztn zxz zxa_689 za0_689 za1_689 za2_689 za3_689 za4_689 zcd_690 zgo_690 ztd_690 ztv_690 zcl_690 zca_690 zwa_690 zpt_690 zpf_690 HS_691 (x2 + 1) x3 (x4 + 1)
        else
          k50 zpn zps ztz ztn zxz zxa_689 za0_689 za1_689 za2_689 za3_689 za4_689 zcd_690 zgo_690 ztd_690 ztv_690 zcl_690 zca_690 zwa_690 zpt_690 zpf_690 HS_691 x2 1 (x4 + 1)
    else
      fX11_day_114 N zsg zpn zps ztz ztn zxz zxa za0 za1 za2 za3 za4 zcd zgo ztd ztv zcl zca zwa zpt zpf HS x2 x3
def fX11_day_50 (N : Nat) (zsg : Nat → Int32) : Nat → Int32 → Int32 → Int32 → (Nat → Int64) → Int32 → Int32 → Int32 → Int32 → Int32 → Int32 → Int32 → Int32 → (Nat → Int32) → Int32 → Int32 → (Nat → Int32) → (Nat → Int32) → (Nat → Int32) → (Nat → Int32) → (Nat → Int32) → (Nat → Nat → Nat → Int32) → Int32 → Int32 → Int32 → Option (Int32 × Int32 × Int32 × Int32 × (Nat → Int64) × Int32 × Int32 × Int32 × Int32 × Int32 × Int32 × Int32 × Int32 × (Nat → Int32) × Int32 × Int32 × (Nat → Int32) × (Nat → Int32) × (Nat → Int32) × (Nat → Int32) × (Nat → Int32) × (Nat → Nat → Nat → Int32))
  | 0 => fun _ _ _ _ _ _ _ _ _ _ _ _ _ _ _ _ _ _ _ _ _ _ _ _ => none
  | n + 1 => fun zpn zps ztz ztn zxz zxa za0 za1 za2 za3 za4 zcd zgo ztd ztv zcl zca zwa zpt zpf HS x2 x3 x4 => fX11_day_50b N zsg  (fX11_day_50 N zsg  n) zpn zps ztz ztn zxz zxa za0 za1 za2 za3 za4 zcd zgo ztd ztv zcl zca zwa zpt zpf HS x2 x3 x4
def fX11_day (N : Nat) (zpn : Int32) (zps : Int32) (ztz : Int32) (ztn : Nat → Int64) (zxz : Int32) (zxa : Int32) (zsg : Nat → Int32) (za0 : Int32) (za1 : Int32) (za2 : Int32) (za3 : Int32) (za4 : Int32) (zcd : Int32) (zgo : Nat → Int32) (ztd : Int32) (ztv : Int32) (zcl : Nat → Int32) (zca : Nat → Int32) (zwa : Nat → Int32) (zpt : Nat → Int32) (zpf : Nat → Int32) (HS : Nat → Nat → Nat → Int32) : Option (Int32 × Int32 × Int32 × Int32 × (Nat → Int64) × Int32 × Int32 × Int32 × Int32 × Int32 × Int32 × Int32 × Int32 × (Nat → Int32) × Int32 × Int32 × (Nat → Int32) × (Nat → Int32) × (Nat → Int32) × (Nat → Int32) × (Nat → Int32) × (Nat → Nat → Nat → Int32)) :=
  bnd1 (fX7_fault N zxz zsg) fun r685 =>
  if r685 = (-1) then
    bnd1 (fX5_marks zpn HS) fun HS_686 =>
    bnd1 (fX7_starts zxa) fun zxa_687 =>
    fX11_day_50 N zsg N zpn zps ztz ztn zxz zxa_687 za0 za1 za2 za3 za4 zcd zgo ztd ztv zcl zca zwa zpt zpf HS_686 0 0 0
  else
    some ((-1) - r685, zpn, zps, ztz, ztn, 0, zxa, za0, za1, za2, za3, za4, zcd, zgo, ztd, ztv, zcl, zca, zwa, zpt, zpf, HS)
def fX5_undoes_26 (zpn : Int32) (zps : Int32) (HS : Nat → Nat → Nat → Int32) (y0 : Int32) : Option (Int32 × Int32 × (Nat → Nat → Nat → Int32)) :=
  lt (zps - 1) fun zps_697 =>
  grd (inb y0 9) <|
  lt (updH HS 0 (HS (4 + y0.toNatClampNeg))) fun HS_698 =>
  some (y0, zps_697, HS_698)
def fX5_undoes (zpn : Int32) (zps : Int32) (HS : Nat → Nat → Nat → Int32) : Option (Int32 × Int32 × (Nat → Nat → Nat → Int32)) :=
  if zps ≤ 0 then
    some (zpn, zps, HS)
  else
    if zpn = 0 then
      fX5_undoes_26 zpn zps HS 8
    else
      fX5_undoes_26 zpn zps HS (zpn - 1)
def fX11_undo (zpn : Int32) (zps : Int32) (HS : Nat → Nat → Nat → Int32) : Option (Int32 × Int32 × Int32 × (Nat → Nat → Nat → Int32)) :=
  if zps = 0 then
    some ((-1), zpn, zps, HS)
  else
    bnd3 (fX5_undoes zpn zps HS) fun zpn_700 zps_700 HS_700 =>
    some (zps_700, zpn_700, zps_700, HS_700)
def fX11_draws (zdr : Int32) (p1 : Int32) : Option (Int32 × Int32) :=
  lt ((zdr * 1103515245) + 12345) fun zdr_702 =>
  if p1 ≤ 0 then
    some (0, zdr_702)
  else
    grd (nzb p1) <|
    some (jrem (jushr zdr_702 16) p1, zdr_702)
def fX11_drawsTo (zdr : Int32) : Option (Int32 × Int32) :=
  bnd2 (fX11_draws zdr 25) fun r704 zdr_704 =>
  if r704 = 24 then
    some ((-1), zdr_704)
  else
    some (r704, zdr_704)
def fX11_drawsAct (zdr : Int32) (za0 : Int32) (za1 : Int32) (za2 : Int32) (za3 : Int32) (za4 : Int32) : Option (Int32 × Int32 × Int32 × Int32 × Int32 × Int32) :=
  bnd2 (fX11_draws zdr 4) fun r717 zdr_717 =>
  if r717 = 0 then
    bnd2 (fX11_draws zdr_717 5) fun r718 zdr_718 =>
    bnd2 (fX11_draws zdr_718 8) fun r719 zdr_719 =>
    bnd2 (fX11_draws zdr_719 6) fun r720 zdr_720 =>
    bnd5 (fX0_becomes za0 za1 za2 za3 za4 110 r718 1 r719 r720) fun za0_721 za1_721 za2_721 za3_721 za4_721 =>
    some (zdr_720, za0_721, za1_721, za2_721, za3_721, za4_721)
  else
  if r717 = 3 then
    bnd2 (fX11_draws zdr_717 6) fun r722 zdr_722 =>
    bnd2 (fX11_drawsTo zdr_722) fun r723 zdr_723 =>
    bnd5 (fX0_becomes za0 za1 za2 za3 za4 114 r722 r723 0 0) fun za0_724 za1_724 za2_724 za3_724 za4_724 =>
    some (zdr_723, za0_724, za1_724, za2_724, za3_724, za4_724)
  else
    bnd2 (fX11_draws zdr_717 24) fun r725 zdr_725 =>
    bnd2 (fX11_draws zdr_725 4) fun r726 zdr_726 =>
    bnd2 (fX11_drawsTo zdr_726) fun r727 zdr_727 =>
    bnd5 (fX0_becomes za0 za1 za2 za3 za4 115 r725 r726 r727 0) fun za0_728 za1_728 za2_728 za3_728 za4_728 =>
    some (zdr_727, za0_728, za1_728, za2_728, za3_728, za4_728)
def fX11_years_62 (N : Nat) (p1 : Int32) (p2 : Int32) (zdr : Int32) (ztz : Int32) (ztn : Nat → Int64) (za0 : Int32) (za1 : Int32) (za2 : Int32) (za3 : Int32) (za4 : Int32) (zcd : Int32) (zgo : Nat → Int32) (ztd : Int32) (ztv : Int32) (zcl : Nat → Int32) (zca : Nat → Int32) (zwa : Nat → Int32) (zpt : Nat → Int32) (zpf : Nat → Int32) (HS : Nat → Nat → Nat → Int32) : Option (Int32 × Int32 × Int32 × (Nat → Int64) × Int32 × Int32 × Int32 × Int32 × Int32 × Int32 × (Nat → Int32) × Int32 × Int32 × (Nat → Int32) × (Nat → Int32) × (Nat → Int32) × (Nat → Int32) × (Nat → Int32) × (Nat → Nat → Nat → Int32)) :=
  bnd2 (fX8_tells_ ztz ztn ((((HS 1) 10 3) - ((HS 0) 10 3)).toInt64) (((HS 1) 8 1).toInt64)) fun ztz_738 ztn_738 =>
  some ((HS 1) 0 0, zdr, ztz_738, ztn_738, za0, za1, za2, za3, za4, zcd, zgo, ztd, ztv, zcl, zca, zwa, zpt, zpf, HS)
def fX11_years_31b (N : Nat) (p1 : Int32) (p2 : Int32) (k31 : Int32 → Int32 → (Nat → Int64) → Int32 → Int32 → Int32 → Int32 → Int32 → Int32 → (Nat → Int32) → Int32 → Int32 → (Nat → Int32) → (Nat → Int32) → (Nat → Int32) → (Nat → Int32) → (Nat → Int32) → (Nat → Nat → Nat → Int32) → Int32 → Option (Int32 × Int32 × Int32 × (Nat → Int64) × Int32 × Int32 × Int32 × Int32 × Int32 × Int32 × (Nat → Int32) × Int32 × Int32 × (Nat → Int32) × (Nat → Int32) × (Nat → Int32) × (Nat → Int32) × (Nat → Int32) × (Nat → Nat → Nat → Int32))) (zdr : Int32) (ztz : Int32) (ztn : Nat → Int64) (za0 : Int32) (za1 : Int32) (za2 : Int32) (za3 : Int32) (za4 : Int32) (zcd : Int32) (zgo : Nat → Int32) (ztd : Int32) (ztv : Int32) (zcl : Nat → Int32) (zca : Nat → Int32) (zwa : Nat → Int32) (zpt : Nat → Int32) (zpf : Nat → Int32) (HS : Nat → Nat → Nat → Int32) (x3 : Int32) : Option (Int32 × Int32 × Int32 × (Nat → Int64) × Int32 × Int32 × Int32 × Int32 × Int32 × Int32 × (Nat → Int32) × Int32 × Int32 × (Nat → Int32) × (Nat → Int32) × (Nat → Int32) × (Nat → Int32) × (Nat → Int32) × (Nat → Nat → Nat → Int32)) :=
  if p2 ≤ x3 then
    fX11_years_62 N p1 p2 zdr ztz ztn za0 za1 za2 za3 za4 zcd zgo ztd ztv zcl zca zwa zpt zpf HS
  else
    bnd6 (fX11_drawsAct zdr za0 za1 za2 za3 za4) fun zdr_735 za0_735 za1_735 za2_735 za3_735 za4_735 =>
    bnd11 (fX1_does N za0_735 za1_735 za2_735 za3_735 za4_735 zcd zgo ztd ztv zcl zca zwa zpt zpf (HS 1)) fun r736 zcd_736 zgo_736 ztd_736 ztv_736 zcl_736 zca_736 zwa_736 zpt_736 zpf_736 X_736 =>
    lt (updH HS 1 X_736) fun HS_737 =>
    k31 zdr_735 ztz ztn za0_735 za1_735 za2_735 za3_735 za4_735 zcd_736 zgo_736 ztd_736 ztv_736 zcl_736 zca_736 zwa_736 zpt_736 zpf_736 HS_737 (x3 + 1)
def fX11_years_31 (N : Nat) (p1 : Int32) (p2 : Int32) : Nat → Int32 → Int32 → (Nat → Int64) → Int32 → Int32 → Int32 → Int32 → Int32 → Int32 → (Nat → Int32) → Int32 → Int32 → (Nat → Int32) → (Nat → Int32) → (Nat → Int32) → (Nat → Int32) → (Nat → Int32) → (Nat → Nat → Nat → Int32) → Int32 → Option (Int32 × Int32 × Int32 × (Nat → Int64) × Int32 × Int32 × Int32 × Int32 × Int32 × Int32 × (Nat → Int32) × Int32 × Int32 × (Nat → Int32) × (Nat → Int32) × (Nat → Int32) × (Nat → Int32) × (Nat → Int32) × (Nat → Nat → Nat → Int32))
  | 0 => fun _ _ _ _ _ _ _ _ _ _ _ _ _ _ _ _ _ _ _ => none
  | n + 1 => fun zdr ztz ztn za0 za1 za2 za3 za4 zcd zgo ztd ztv zcl zca zwa zpt zpf HS x3 => fX11_years_31b N p1 p2  (fX11_years_31 N p1 p2  n) zdr ztz ztn za0 za1 za2 za3 za4 zcd zgo ztd ztv zcl zca zwa zpt zpf HS x3
def fX11_years (N : Nat) (zdr : Int32) (ztz : Int32) (ztn : Nat → Int64) (za0 : Int32) (za1 : Int32) (za2 : Int32) (za3 : Int32) (za4 : Int32) (zcd : Int32) (zgo : Nat → Int32) (ztd : Int32) (ztv : Int32) (zcl : Nat → Int32) (zca : Nat → Int32) (zwa : Nat → Int32) (zpt : Nat → Int32) (zpf : Nat → Int32) (HS : Nat → Nat → Nat → Int32) (p1 : Int32) (p2 : Int32) : Option (Int32 × Int32 × Int32 × (Nat → Int64) × Int32 × Int32 × Int32 × Int32 × Int32 × Int32 × (Nat → Int32) × Int32 × Int32 × (Nat → Int32) × (Nat → Int32) × (Nat → Int32) × (Nat → Int32) × (Nat → Int32) × (Nat → Nat → Nat → Int32)) :=
  if p2 < 1 then
    some ((-1), zdr, ztz, ztn, za0, za1, za2, za3, za4, zcd, zgo, ztd, ztv, zcl, zca, zwa, zpt, zpf, HS)
  else
    if p2 ≤ 40 then
      lt (updH HS 1 (HS 0)) fun HS_734 =>
      fX11_years_31 N p1 p2 N p1 ztz ztn za0 za1 za2 za3 za4 zcd zgo ztd ztv zcl zca zwa zpt zpf HS_734 0
    else
      some ((-1), zdr, ztz, ztn, za0, za1, za2, za3, za4, zcd, zgo, ztd, ztv, zcl, zca, zwa, zpt, zpf, HS)
def fX11_keep (zkb : Int32) (HS : Nat → Nat → Nat → Int32) (p1 : Int32) : Option (Int32 × Int32 × (Nat → Nat → Nat → Int32)) :=
  if p1 < 0 then
    some (0, zkb, HS)
  else
    if p1 < 2 then
      grd (inb p1 2) <|
      lt (updH HS (2 + p1.toNatClampNeg) (HS 0)) fun HS_741 =>
      lt (zkb ||| (jshl 1 p1)) fun zkb_742 =>
      some (1, zkb_742, HS_741)
    else
      some (0, zkb, HS)
def fX11_again (zkb : Int32) (zps : Int32) (HS : Nat → Nat → Nat → Int32) (p1 : Int32) : Option (Int32 × Int32 × (Nat → Nat → Nat → Int32)) :=
  if p1 < 0 then
    some (0, zps, HS)
  else
    if 2 ≤ p1 then
      some (0, zps, HS)
    else
      bnd1 (fX11_bit zkb p1) fun r745 =>
      if r745 = 0 then
        some (0, zps, HS)
      else
        grd (inb p1 2) <|
        lt (updH HS 0 (HS (2 + p1.toNatClampNeg))) fun HS_746 =>
        some (1, 0, HS_746)
def fX3_countsTogether_4b (N : Nat) (X : Nat → Nat → Int32) (k4 : Int32 → Int32 → Option (Int32)) (x1 : Int32) (x2 : Int32) : Option (Int32) :=
  if 24 ≤ x2 then
    some x1
  else
    bnd1 (fX11_bit (X 0 0) x2) fun r749 =>
    grd (inb x2 24) <|
    lt (x1 + (r749 * (X 4 x2.toNatClampNeg))) fun v_750 =>
    k4 v_750 (x2 + 1)
def fX3_countsTogether_4 (N : Nat) (X : Nat → Nat → Int32) : Nat → Int32 → Int32 → Option (Int32)
  | 0 => fun _ _ => none
  | n + 1 => fun x1 x2 => fX3_countsTogether_4b N X  (fX3_countsTogether_4 N X  n) x1 x2
def fX3_countsTogether (N : Nat) (X : Nat → Nat → Int32) : Option (Int32) :=
  fX3_countsTogether_4 N X N 0 0
def fX11_count (N : Nat) (zps : Int32) (ztz : Int32) (zxz : Int32) (HS : Nat → Nat → Nat → Int32) (p1 : Int32) : Option (Int32) :=
  if p1 = 0 then
    bnd1 (fX3_objects (HS 0)) fun r753 =>
    some r753
  else
  if p1 = 1 then
    some ((HS 0) 8 1)
  else
  if p1 = 2 then
    some ((HS 0) 0 2)
  else
  if p1 = 3 then
    bnd1 (fX3_countsTogether N (HS 0)) fun r754 =>
    some r754
  else
  if p1 = 4 then
    some ((HS 0) 10 3)
  else
  if p1 = 5 then
    some zps
  else
  if p1 = 6 then
    some ztz
  else
  if p1 = 7 then
    some zxz
  else
    some (-1)
def fX3_rootAt (X : Nat → Nat → Int32) (p1 : Int32) : Option (Int32) :=
  if p1 < 0 then
    some (-1)
  else
    if 6 ≤ p1 then
      some (-1)
    else
      grd (inb p1 6) <|
      some (X 6 p1.toNatClampNeg)
def fX4_has (X : Nat → Nat → Int32) (p1 : Int32) : Option (Int32) :=
  if p1 < 0 then
    some 0
  else
    if X 10 3 ≤ p1 then
      some 0
    else
      if p1 < (X 10 3) - 60 then
        some 0
      else
        some 1
def fX4_kindAt (X : Nat → Nat → Int32) (p1 : Int32) : Option (Int32) :=
  bnd1 (fX4_has X p1) fun r756 =>
  if r756 = 0 then
    some (-1)
  else
    grd (nzb 60) <|
    grd (inb (jrem p1 60) 60) <|
    some (X 11 (jrem p1 60).toNatClampNeg)
def fX4_objectAt (X : Nat → Nat → Int32) (p1 : Int32) : Option (Int32) :=
  bnd1 (fX4_has X p1) fun r758 =>
  if r758 = 0 then
    some (-1)
  else
    grd (nzb 60) <|
    grd (inb (jrem p1 60) 60) <|
    some (X 12 (jrem p1 60).toNatClampNeg)
def fX6_state (X : Nat → Nat → Int32) (p1 : Int32) : Option (Int32) :=
  bnd1 (fX11_bit (X 8 2) p1) fun r761 =>
  if r761 = 0 then
    some 0
  else
    bnd1 (fX11_bit (X 8 3) p1) fun r762 =>
    if r762 = 1 then
      some 1
    else
      some 2
