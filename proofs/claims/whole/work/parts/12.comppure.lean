def pX11_feed (w0o4 : Int32) (w0a17 : (Nat → Int32)) (x1 : Int32) : Option (Int32 × Int32 × ((Nat → Int32))) :=
  if x1 < 0 then
    some ((-2), w0o4, w0a17)
  else
    if x1 ≤ 127 then
      if w0o4 < 100 then
        gck (ginb w0o4 100) <|
        gnm (upd w0a17 (Int32.toNatClampNeg w0o4) (vp_nar .char (UInt32.toInt32 (Int32.toUInt32 x1 % 65536)))) fun f_2 =>
        some ((w0o4 + 1), (w0o4 + 1), f_2)
      else
        some ((-4), w0o4, w0a17)
    else
      some ((-2), w0o4, w0a17)


def pX11_told (F : gF) (w0o5 : Int32) (w0o6 : Int32) (w0o7 : Int32) (w0h : Nat) (x1 : Int32) : Option (Int32) :=
  if x1 = 0 then
    gck (hsv F w0h = true) <|
    some ((hI F w0h 0))
  else
  if x1 = 1 then
    gck (hsv F w0h = true) <|
    some ((hI F w0h 1))
  else
  if x1 = 2 then
    gck (hsv F w0h = true) <|
    some ((hI F w0h 2))
  else
  if x1 = 3 then
    some (w0o5)
  else
  if x1 = 4 then
    some (w0o6)
  else
  if x1 = 5 then
    some (w0o7)
  else
  some ((-1))


def pX10_chiefAt_w0 (w0o1 : Int32) (w0c : (Nat → Option Nat)) (x1 : Int32) : Option (Option Nat) :=
  if x1 < 0 then
    some (none)
  else
    if w0o1 ≤ x1 then
      some (none)
    else
      if 4 ≤ x1 then
        some (none)
      else
        gck (ginb x1 4) <|
        some ((w0c (Int32.toNatClampNeg x1)))


def pX11_isWithin (x0 : Int32) (x1 : Int32) : Option (Int32) :=
  if x0 < 0 then
    some (0)
  else
    if x1 < x0 then
      some (0)
    else
      some (1)


def pX11_worker (w0o1 : Int32) (w0c : (Nat → Option Nat)) (w0o0 : Int32) (w0a8 : (Nat → Int32)) (w0a9 : (Nat → Int32)) (w0a10 : (Nat → Int32)) (w0a11 : (Nat → Int32)) (w0a12 : (Nat → Int32)) (x1 : Int32) (x2 : Int32) (x3 : Int32) (x4 : Int32) : Option (Int32 × Int32 × ((Nat → Int32)) × ((Nat → Int32)) × ((Nat → Int32)) × ((Nat → Int32)) × ((Nat → Int32))) :=
  gbd (pX10_chiefAt_w0 w0o1 w0c x1) fun z_1 =>
  gmt z_1 (
    some ((-1), w0o0, w0a8, w0a9, w0a10, w0a11, w0a12)
  ) fun b_z1 =>
    gbd (pX11_isWithin x2 99) fun z_2 =>
    if z_2 = 0 then
      some ((-2), w0o0, w0a8, w0a9, w0a10, w0a11, w0a12)
    else
      gbd (pX11_isWithin x3 99) fun z_3 =>
      if z_3 = 0 then
        some ((-2), w0o0, w0a8, w0a9, w0a10, w0a11, w0a12)
      else
        gbd (pX11_isWithin x4 9) fun z_4 =>
        if z_4 = 0 then
          some ((-2), w0o0, w0a8, w0a9, w0a10, w0a11, w0a12)
        else
          if w0o0 < 10 then
            gck (ginb w0o0 10) <|
            gnm (upd w0a8 (Int32.toNatClampNeg w0o0) x2) fun f_6 =>
            gck (ginb w0o0 10) <|
            gnm (upd w0a9 (Int32.toNatClampNeg w0o0) x3) fun f_8 =>
            gck (ginb w0o0 10) <|
            gnm (upd w0a10 (Int32.toNatClampNeg w0o0) x1) fun f_10 =>
            gck (ginb w0o0 10) <|
            gnm (upd w0a11 (Int32.toNatClampNeg w0o0) x4) fun f_12 =>
            gck (ginb w0o0 10) <|
            gnm (upd w0a12 (Int32.toNatClampNeg w0o0) 0) fun f_14 =>
            some (w0o0, (w0o0 + 1), f_6, f_8, f_10, f_12, f_14)
          else
            some ((-4), w0o0, w0a8, w0a9, w0a10, w0a11, w0a12)


def pX10_hasWorker_w0 (w0o0 : Int32) (x1 : Int32) : Option (Int32) :=
  if x1 < 0 then
    some (0)
  else
    if w0o0 ≤ x1 then
      some (0)
    else
      if 10 ≤ x1 then
        some (0)
      else
        some (1)


def pX1_gather_7 : Nat → Int32 → ((Nat → Int32)) → Int32 → Int32 → Option (Int32 × ((Nat → Int32)))
  | 0, _, _, _, _ => none
  | n + 1, gs, ga2, x1, x2 =>
  if 10 ≤ x2 then
    some (gs, ga2)
  else
    if (x1 &&& (1 <<< (x2 &&& 31))) = 0 then
      pX1_gather_7 n gs ga2 x1 (x2 + 1)
    else
      gck (ginb gs 10) <|
      gnm (upd ga2 (Int32.toNatClampNeg gs) x2) fun f_2 =>
      pX1_gather_7 n (gs + 1) f_2 x1 (x2 + 1)


def pX1_gather (gs : Int32) (ga2 : (Nat → Int32)) (x1 : Int32) : Option (Int32 × ((Nat → Int32))) :=
  pX1_gather_7 1000 0 ga2 x1 0


def pX1_meanOfTeam_13 (gs : Int32) (ga1 : (Nat → Int32)) (ga2 : (Nat → Int32)) : Nat → Int32 → Int32 → Option (Int32)
  | 0, _, _ => none
  | n + 1, x1, x2 =>
  if gs ≤ x2 then
    gck (¬ gs = 0) <|
    some ((x1 / gs))
  else
    gck (ginb x2 10) <|
    gck (ginb (ga2 (Int32.toNatClampNeg x2)) 10) <|
    gnm (x1 + (ga1 (Int32.toNatClampNeg (ga2 (Int32.toNatClampNeg x2))))) fun v_4 =>
    pX1_meanOfTeam_13 gs ga1 ga2 n v_4 (x2 + 1)


def pX1_meanOfTeam (gs : Int32) (ga1 : (Nat → Int32)) (ga2 : (Nat → Int32)) : Option (Int32) :=
  if gs = 0 then
    some (0)
  else
    pX1_meanOfTeam_13 gs ga1 ga2 1000 0 0


def pX10_teamBits_w0_4 (w0o0 : Int32) (w0a10 : (Nat → Int32)) : Nat → Int32 → Int32 → Int32 → Option (Int32)
  | 0, _, _, _ => none
  | n + 1, x1, x2, x3 =>
  if w0o0 ≤ x3 then
    some (x2)
  else
    gck (ginb x3 10) <|
    if (w0a10 (Int32.toNatClampNeg x3)) = x1 then
      gnm (x2 ||| (1 <<< (x3 &&& 31))) fun v_2 =>
      pX10_teamBits_w0_4 w0o0 w0a10 n x1 v_2 (x3 + 1)
    else
      pX10_teamBits_w0_4 w0o0 w0a10 n x1 x2 (x3 + 1)


def pX10_teamBits_w0 (w0o0 : Int32) (w0a10 : (Nat → Int32)) (x1 : Int32) : Option (Int32) :=
  pX10_teamBits_w0_4 w0o0 w0a10 1000 x1 0 0


def pX1_rank_84 (k2 : (Nat → Int32) → Int32 → Option (((Nat → Int32)))) (k14 : (Nat → Int32) → Int32 → Int32 → Int32 → Option (((Nat → Int32)))) (gs : Int32) (ga1 : (Nat → Int32)) (ga2 : (Nat → Int32)) (ga3 : (Nat → Int32)) (x1 : Int32) (x2 : Int32) (x3 : Int32) (x4 : Int32) (y0 : Int32) : Option (((Nat → Int32))) :=
  if x4 = 0 then
    if y0 = 0 then
      k14 ga3 x1 x2 (x3 + 1)
    else
      if x3 ≤ x1 then
        k14 ga3 x1 x2 (x3 + 1)
      else
        k14 ga3 x1 (x2 + 1) (x3 + 1)
  else
    k14 ga3 x1 (x2 + 1) (x3 + 1)


def pX1_rank_52 (k2 : (Nat → Int32) → Int32 → Option (((Nat → Int32)))) (k14 : (Nat → Int32) → Int32 → Int32 → Int32 → Option (((Nat → Int32)))) (gs : Int32) (ga1 : (Nat → Int32)) (ga2 : (Nat → Int32)) (ga3 : (Nat → Int32)) (x1 : Int32) (x2 : Int32) (x3 : Int32) (y0 : Int32) : Option (((Nat → Int32))) :=
  gck (ginb x3 10) <|
  gck (ginb (ga2 (Int32.toNatClampNeg x3)) 10) <|
  gck (ginb x1 10) <|
  gck (ginb (ga2 (Int32.toNatClampNeg x1)) 10) <|
  if (ga1 (Int32.toNatClampNeg (ga2 (Int32.toNatClampNeg x3)))) = (ga1 (Int32.toNatClampNeg (ga2 (Int32.toNatClampNeg x1)))) then
    pX1_rank_84 k2 k14 gs ga1 ga2 ga3 x1 x2 x3 y0 1
  else
    pX1_rank_84 k2 k14 gs ga1 ga2 ga3 x1 x2 x3 y0 0


def pX1_rank_14 (k2 : (Nat → Int32) → Int32 → Option (((Nat → Int32)))) (gs : Int32) (ga1 : (Nat → Int32)) (ga2 : (Nat → Int32)) : Nat → ((Nat → Int32)) → Int32 → Int32 → Int32 → Option (((Nat → Int32)))
  | 0, _, _, _, _ => none
  | n + 1, ga3, x1, x2, x3 =>
  if gs ≤ x3 then
    gck (ginb x1 10) <|
    gck (ginb x2 10) <|
    gnm (upd ga3 (Int32.toNatClampNeg x2) (ga2 (Int32.toNatClampNeg x1))) fun f_3 =>
    k2 f_3 (x1 + 1)
  else
    gck (ginb x3 10) <|
    gck (ginb (ga2 (Int32.toNatClampNeg x3)) 10) <|
    gck (ginb x1 10) <|
    gck (ginb (ga2 (Int32.toNatClampNeg x1)) 10) <|
    if (ga1 (Int32.toNatClampNeg (ga2 (Int32.toNatClampNeg x1)))) ≤ (ga1 (Int32.toNatClampNeg (ga2 (Int32.toNatClampNeg x3)))) then
      pX1_rank_52 k2 (pX1_rank_14 k2 gs ga1 ga2 n) gs ga1 ga2 ga3 x1 x2 x3 0
    else
      pX1_rank_52 k2 (pX1_rank_14 k2 gs ga1 ga2 n) gs ga1 ga2 ga3 x1 x2 x3 1


def pX1_rank_2 (gs : Int32) (ga1 : (Nat → Int32)) (ga2 : (Nat → Int32)) : Nat → ((Nat → Int32)) → Int32 → Option (((Nat → Int32)))
  | 0, _, _ => none
  | n + 1, ga3, x1 =>
  if gs ≤ x1 then
    some (ga3)
  else
    pX1_rank_14 (pX1_rank_2 gs ga1 ga2 n) gs ga1 ga2 1000 ga3 x1 0 0


def pX1_rank (gs : Int32) (ga1 : (Nat → Int32)) (ga2 : (Nat → Int32)) (ga3 : (Nat → Int32)) : Option (((Nat → Int32))) :=
  pX1_rank_2 gs ga1 ga2 1000 ga3 0


def pX0_lineUp_k0 (x2 : Int32) (x3 : Int32) : Option (Unit) :=
  some ()


def pX0_lineUp_k1 (x2 : Int32) (x3 : Int32) : Option (Unit) :=
  some ()


def pX9_lineUp_k2_3 (ga2 : (Nat → Int32)) : Nat → ((Nat → Int32)) → Int32 → Int32 → Int32 → Option (((Nat → Int32)))
  | 0, _, _, _, _ => none
  | n + 1, ga3, x2, x3, x5 =>
  if x2 ≤ x5 then
    some (ga3)
  else
    gck (¬ x2 = 0) <|
    gck (ginb ((x3 + x5) - (x3 + x5) / x2 * x2) 10) <|
    gck (ginb x5 10) <|
    gnm (upd ga3 (Int32.toNatClampNeg x5) (ga2 (Int32.toNatClampNeg ((x3 + x5) - (x3 + x5) / x2 * x2)))) fun f_4 =>
    pX9_lineUp_k2_3 ga2 n f_4 x2 x3 (x5 + 1)


def pX9_lineUp_k2 (ga2 : (Nat → Int32)) (ga3 : (Nat → Int32)) (x2 : Int32) (x3 : Int32) : Option (((Nat → Int32))) :=
  pX9_lineUp_k2_3 ga2 1000 ga3 x2 x3 0


def pX0_lineUp_k3 (x2 : Int32) (x3 : Int32) : Option (Unit) :=
  some ()


def pX0_lineUp_k4 (x2 : Int32) (x3 : Int32) : Option (Unit) :=
  some ()


def pX9_lineUp_k5_3 (ga2 : (Nat → Int32)) : Nat → ((Nat → Int32)) → Int32 → Int32 → Int32 → Option (((Nat → Int32)))
  | 0, _, _, _, _ => none
  | n + 1, ga3, x2, x3, x5 =>
  if x2 ≤ x5 then
    some (ga3)
  else
    gck (¬ x2 = 0) <|
    gck (ginb ((x3 + x5) - (x3 + x5) / x2 * x2) 10) <|
    gck (ginb x5 10) <|
    gnm (upd ga3 (Int32.toNatClampNeg x5) (ga2 (Int32.toNatClampNeg ((x3 + x5) - (x3 + x5) / x2 * x2)))) fun f_4 =>
    pX9_lineUp_k5_3 ga2 n f_4 x2 x3 (x5 + 1)


def pX9_lineUp_k5 (ga2 : (Nat → Int32)) (ga3 : (Nat → Int32)) (x2 : Int32) (x3 : Int32) : Option (((Nat → Int32))) :=
  pX9_lineUp_k5_3 ga2 1000 ga3 x2 x3 0


def pX3_lineUp_k5_64 (F : gF) (b0 : Nat) (ga2 : (Nat → Int32)) : Nat → ((Nat → Int32)) → Int32 → Int32 → Int32 → Int32 → Option (((Nat → Int32)))
  | 0, _, _, _, _, _ => none
  | n + 1, ga3, x3, x5, x6, x7 =>
  if x6 ≤ x7 then
    some (ga3)
  else
    gck (¬ x6 = 0) <|
    gnm ((x3 + x7) - (x3 + x7) / x6 * x6) fun v_2 =>
    if x5 ≤ v_2 then
      gck (ginb (v_2 + 1) 10) <|
      gck (ginb (x7 + 1) 10) <|
      gnm (upd ga3 (Int32.toNatClampNeg (x7 + 1)) (ga2 (Int32.toNatClampNeg (v_2 + 1)))) fun f_5 =>
      pX3_lineUp_k5_64 F b0 ga2 n f_5 x3 x5 x6 (x7 + 1)
    else
      gck (ginb v_2 10) <|
      gck (ginb (x7 + 1) 10) <|
      gnm (upd ga3 (Int32.toNatClampNeg (x7 + 1)) (ga2 (Int32.toNatClampNeg v_2))) fun f_8 =>
      pX3_lineUp_k5_64 F b0 ga2 n f_8 x3 x5 x6 (x7 + 1)


def pX3_lineUp_k5_33 (F : gF) (b0 : Nat) (ga2 : (Nat → Int32)) (ga3 : (Nat → Int32)) (x2 : Int32) (x3 : Int32) (x5 : Int32) : Option (((Nat → Int32))) :=
  if 0 ≤ x5 then
    gck (ginb 0 10) <|
    gnm (upd ga3 (Int32.toNatClampNeg 0) (cv F b0)) fun f_2 =>
    gnm (x2 - 1) fun v_3 =>
    pX3_lineUp_k5_64 F b0 ga2 1000 f_2 x3 x5 v_3 0
  else
    gbd (pX9_lineUp_k5 ga2 ga3 x2 x3) fun z_4 =>
    some (z_4)


def pX3_lineUp_k5_6 (F : gF) (b0 : Nat) (ga2 : (Nat → Int32)) : Nat → ((Nat → Int32)) → Int32 → Int32 → Int32 → Int32 → Option (((Nat → Int32)))
  | 0, _, _, _, _, _ => none
  | n + 1, ga3, x2, x3, x5, x6 =>
  if x2 ≤ x6 then
    pX3_lineUp_k5_33 F b0 ga2 ga3 x2 x3 x5
  else
    gck (ginb x6 10) <|
    if (ga2 (Int32.toNatClampNeg x6)) = (cv F b0) then
      pX3_lineUp_k5_6 F b0 ga2 n ga3 x2 x3 x6 (x6 + 1)
    else
      pX3_lineUp_k5_6 F b0 ga2 n ga3 x2 x3 x5 (x6 + 1)


def pX3_lineUp_k5 (F : gF) (b0 : Nat) (ga2 : (Nat → Int32)) (ga3 : (Nat → Int32)) (x2 : Int32) (x3 : Int32) : Option (((Nat → Int32))) :=
  pX3_lineUp_k5_6 F b0 ga2 1000 ga3 x2 x3 (-1) 0


def pX0_lineUp_k6 (x2 : Int32) (x3 : Int32) : Option (Unit) :=
  some ()


def pX1_byMark (x0 : Int32) : Option (Int32) :=
  if x0 < 80 then
    if x0 < 60 then
      if x0 < 40 then
        if x0 < 20 then
          some (1)
        else
          some (2)
      else
        some (3)
    else
      some (4)
  else
    some (5)


def pX1_share_w0_181 (F : gF) (w0o5 : Int32) (w0h : Nat) (gs : Int32) (ga1 : (Nat → Int32)) (ga2 : (Nat → Int32)) : Nat → ((Nat → Int32)) → ((Nat → Int32)) → Int32 → Int32 → Option (Int32 × ((Nat → Int32)) × ((Nat → Int32)))
  | 0, _, _, _, _ => none
  | n + 1, ga0, ga3, x5, x6 =>
  if gs ≤ x6 then
    some (x5, ga0, ga3)
  else
    gck (ginb x6 10) <|
    gck (ginb (ga2 (Int32.toNatClampNeg x6)) 10) <|
    gnm (x5 + (ga0 (Int32.toNatClampNeg (ga2 (Int32.toNatClampNeg x6))))) fun v_3 =>
    pX1_share_w0_181 F w0o5 w0h gs ga1 ga2 n ga0 ga3 v_3 (x6 + 1)


def pX1_share_w0_149 (F : gF) (w0o5 : Int32) (w0h : Nat) (gs : Int32) (ga1 : (Nat → Int32)) (ga2 : (Nat → Int32)) : Nat → ((Nat → Int32)) → ((Nat → Int32)) → Int32 → Int32 → Option (Int32 × ((Nat → Int32)) × ((Nat → Int32)))
  | 0, _, _, _, _ => none
  | n + 1, ga0, ga3, x4, x5 =>
  if x4 ≤ x5 then
    pX1_share_w0_181 F w0o5 w0h gs ga1 ga2 1000 ga0 ga3 0 0
  else
    gck (ginb x5 10) <|
    gck (ginb (ga3 (Int32.toNatClampNeg x5)) 10) <|
    gnm (upd ga0 (Int32.toNatClampNeg (ga3 (Int32.toNatClampNeg x5))) 1) fun f_3 =>
    pX1_share_w0_149 F w0o5 w0h gs ga1 ga2 n f_3 ga3 x4 (x5 + 1)


def pX1_share_w0_126 (F : gF) (w0o5 : Int32) (w0h : Nat) (gs : Int32) (ga1 : (Nat → Int32)) (ga2 : (Nat → Int32)) (ga0 : (Nat → Int32)) (ga3 : (Nat → Int32)) (x2 : Nat) (x4 : Int32) : Option (Int32 × ((Nat → Int32)) × ((Nat → Int32))) :=
  gck (chv F x2 = true) <|
  if ck F x2 = 0 then
    gbd (pX0_lineUp_k0 gs w0o5) fun z_9 =>
    pX1_share_w0_149 F w0o5 w0h gs ga1 ga2 1000 ga0 ga3 x4 0
  else
  if ck F x2 = 1 then
    gbd (pX0_lineUp_k1 gs w0o5) fun z_10 =>
    pX1_share_w0_149 F w0o5 w0h gs ga1 ga2 1000 ga0 ga3 x4 0
  else
  if ck F x2 = 2 then
    gbd (pX9_lineUp_k2 ga2 ga3 gs w0o5) fun z_11 =>
    pX1_share_w0_149 F w0o5 w0h gs ga1 ga2 1000 ga0 z_11 x4 0
  else
  if ck F x2 = 3 then
    gbd (pX0_lineUp_k3 gs w0o5) fun z_12 =>
    pX1_share_w0_149 F w0o5 w0h gs ga1 ga2 1000 ga0 ga3 x4 0
  else
  if ck F x2 = 4 then
    gbd (pX0_lineUp_k4 gs w0o5) fun z_13 =>
    pX1_share_w0_149 F w0o5 w0h gs ga1 ga2 1000 ga0 ga3 x4 0
  else
  if ck F x2 = 5 then
    gbd (pX3_lineUp_k5 F x2 ga2 ga3 gs w0o5) fun z_14 =>
    pX1_share_w0_149 F w0o5 w0h gs ga1 ga2 1000 ga0 z_14 x4 0
  else
  gbd (pX0_lineUp_k6 gs w0o5) fun z_15 =>
  pX1_share_w0_149 F w0o5 w0h gs ga1 ga2 1000 ga0 ga3 x4 0


def pX1_share_w0_89 (F : gF) (k47 : (Nat → Int32) → (Nat → Int32) → Nat → Int32 → Int32 → Int32 → Option (Int32 × ((Nat → Int32)) × ((Nat → Int32)))) (w0o5 : Int32) (w0h : Nat) (gs : Int32) (ga1 : (Nat → Int32)) (ga2 : (Nat → Int32)) (ga0 : (Nat → Int32)) (ga3 : (Nat → Int32)) (x2 : Nat) (x3 : Int32) (x4 : Int32) (x5 : Int32) (x6 : Int32) (y0 : Int32) : Option (Int32 × ((Nat → Int32)) × ((Nat → Int32))) :=
  gck (ginb x5 10) <|
  if x6 = 5 then
    if y0 = 0 then
      gck (ginb (ga3 (Int32.toNatClampNeg x5)) 10) <|
      gnm (upd ga0 (Int32.toNatClampNeg (ga3 (Int32.toNatClampNeg x5))) 4) fun f_7 =>
      k47 f_7 ga3 x2 x3 x4 (x5 + 1)
    else
      gck (ginb (ga3 (Int32.toNatClampNeg x5)) 10) <|
      gnm (upd ga0 (Int32.toNatClampNeg (ga3 (Int32.toNatClampNeg x5))) x6) fun f_5 =>
      k47 f_5 ga3 x2 x3 x4 (x5 + 1)
  else
    gck (ginb (ga3 (Int32.toNatClampNeg x5)) 10) <|
    gnm (upd ga0 (Int32.toNatClampNeg (ga3 (Int32.toNatClampNeg x5))) x6) fun f_3 =>
    k47 f_3 ga3 x2 x3 x4 (x5 + 1)


def pX1_share_w0_47 (F : gF) (w0o5 : Int32) (w0h : Nat) (gs : Int32) (ga1 : (Nat → Int32)) (ga2 : (Nat → Int32)) : Nat → ((Nat → Int32)) → ((Nat → Int32)) → Nat → Int32 → Int32 → Int32 → Option (Int32 × ((Nat → Int32)) × ((Nat → Int32)))
  | 0, _, _, _, _, _, _ => none
  | n + 1, ga0, ga3, x2, x3, x4, x5 =>
  if gs ≤ x5 then
    pX1_share_w0_126 F w0o5 w0h gs ga1 ga2 ga0 ga3 x2 x4
  else
    gck (ginb x5 10) <|
    gck (ginb (ga3 (Int32.toNatClampNeg x5)) 10) <|
    gbd (pX1_byMark (ga1 (Int32.toNatClampNeg (ga3 (Int32.toNatClampNeg x5))))) fun z_3 =>
    if x5 < (gs - x3) then
      pX1_share_w0_89 F (pX1_share_w0_47 F w0o5 w0h gs ga1 ga2 n) w0o5 w0h gs ga1 ga2 ga0 ga3 x2 x3 x4 x5 z_3 0
    else
      pX1_share_w0_89 F (pX1_share_w0_47 F w0o5 w0h gs ga1 ga2 n) w0o5 w0h gs ga1 ga2 ga0 ga3 x2 x3 x4 x5 z_3 1


def pX1_share_w0 (F : gF) (w0o5 : Int32) (w0h : Nat) (gs : Int32) (ga1 : (Nat → Int32)) (ga2 : (Nat → Int32)) (ga0 : (Nat → Int32)) (ga3 : (Nat → Int32)) (x2 : Nat) : Option (Int32 × ((Nat → Int32)) × ((Nat → Int32))) :=
  gck (hsv F w0h = true) <|
  gnm (((hI F w0h 0) * gs) / 10) fun v_3 =>
  gnm (if (((hI F w0h 1) * gs) / 10) < gs then (((hI F w0h 1) * gs) / 10) else gs) fun v_5 =>
  gbd (pX1_rank gs ga1 ga2 ga3) fun z_6 =>
  pX1_share_w0_47 F w0o5 w0h gs ga1 ga2 1000 ga0 z_6 x2 v_3 v_5 0


def pJ6_bitCount_0f7a4 (x0 : Int32) : Option (Int32) :=
  gnm (x0 - ((UInt32.toInt32 (Int32.toUInt32 x0 >>> (Int32.toUInt32 1 &&& Int32.toUInt32 31))) &&& 1431655765)) fun v_1 =>
  gnm ((v_1 &&& 858993459) + ((UInt32.toInt32 (Int32.toUInt32 v_1 >>> (Int32.toUInt32 2 &&& Int32.toUInt32 31))) &&& 858993459)) fun v_2 =>
  gnm ((v_2 + (UInt32.toInt32 (Int32.toUInt32 v_2 >>> (Int32.toUInt32 4 &&& Int32.toUInt32 31)))) &&& 252645135) fun v_3 =>
  gnm (v_3 + (UInt32.toInt32 (Int32.toUInt32 v_3 >>> (Int32.toUInt32 8 &&& Int32.toUInt32 31)))) fun v_4 =>
  gnm (v_4 + (UInt32.toInt32 (Int32.toUInt32 v_4 >>> (Int32.toUInt32 16 &&& Int32.toUInt32 31)))) fun v_5 =>
  some ((v_5 &&& 63))


def pX0_seen_k0 (x1 : Int32) (x2 : Int32) : Option (Int32) :=
  some (x1)


def pX0_seen_k1 (x1 : Int32) (x2 : Int32) : Option (Int32) :=
  some (x1)


def pX0_seen_k2 (x1 : Int32) (x2 : Int32) : Option (Int32) :=
  some (x1)


def pX4_seen_k3 (F : gF) (b0 : Nat) (x1 : Int32) (x2 : Int32) : Option (Int32) :=
  some ((((x1 * (10 - (cv F b0))) + (x2 * (cv F b0))) / 10))


def pX0_seen_k4 (x1 : Int32) (x2 : Int32) : Option (Int32) :=
  some (x1)


def pX0_seen_k5 (x1 : Int32) (x2 : Int32) : Option (Int32) :=
  some (x1)


def pX4_seen_k6 (F : gF) (b0 : Nat) (x1 : Int32) (x2 : Int32) : Option (Int32) :=
  some ((((x1 * (10 - (cv F b0))) + (x2 * (cv F b0))) / 10))


def pX0_favour_k0 (x1 : Int32) : Option (Int32) :=
  some (0)


def pX5_favour_k1 (F : gF) (b0 : Nat) (x1 : Int32) : Option (Int32) :=
  some ((cv F b0))


def pX0_favour_k2 (x1 : Int32) : Option (Int32) :=
  some (0)


def pX0_favour_k3 (x1 : Int32) : Option (Int32) :=
  some (0)


def pX5_favour_k4 (F : gF) (b0 : Nat) (x1 : Int32) : Option (Int32) :=
  some ((cv F b0))


def pX6_favour_k4 (F : gF) (b0 : Nat) (x1 : Int32) : Option (Int32) :=
  gbd (pX5_favour_k4 F b0 x1) fun z_1 =>
  gnm (if 0 ≤ ((cd F b0) - x1) then ((cd F b0) - x1) else 0 - ((cd F b0) - x1)) fun v_2 =>
  some (((z_1 + 9) - v_2))


def pX0_favour_k5 (x1 : Int32) : Option (Int32) :=
  some (0)


def pX7_favour_k6 (F : gF) (b0 : Nat) (x1 : Int32) : Option (Int32) :=
  some ((2 * (cv F b0)))


def pX2_raise_164 (F : gF) (b0 : Nat) (k7 : Int32 → Int32 → Int32 → Option (Int32)) (ga5 : (Nat → Int32)) (x2 : Int32) (x3 : Int32) (x4 : Int32) (y0 : Int32) : Option (Int32) :=
  if y0 = 0 then
    gnm ((x2 <<< (1 &&& 31)) ||| 0) fun v_1 =>
    k7 v_1 x3 (x4 + 1)
  else
    gnm ((x2 <<< (1 &&& 31)) ||| 1) fun v_2 =>
    k7 v_2 x3 (x4 + 1)


def pX2_raise_7 (F : gF) (b0 : Nat) (ga5 : (Nat → Int32)) : Nat → Int32 → Int32 → Int32 → Option (Int32)
  | 0, _, _, _ => none
  | n + 1, x2, x3, x4 =>
  if (hI F b0 10) ≤ x4 then
    some (x3)
  else
    gck (ginb x4 (hn F b0)) <|
    gnm (ha F b0 7 (Int32.toNatClampNeg x4)) fun v_2 =>
    gnm (x2 &&& 1) fun v_3 =>
    gnm ((x2 >>> (1 &&& 31)) &&& 1) fun v_4 =>
    if v_2 = (-4) then
      gck (ginb x4 (hn F b0)) <|
      gnm (x3 + (v_3 * (ha F b0 8 (Int32.toNatClampNeg x4)))) fun v_13 =>
      pX2_raise_7 F b0 ga5 n 0 v_13 (x4 + 1)
    else
      if v_2 = (-1) then
        gnm (x2 ^^^ 1) fun v_11 =>
        pX2_raise_7 F b0 ga5 n v_11 x3 (x4 + 1)
      else
        if v_2 = (-2) then
          gnm (((x2 >>> (2 &&& 31)) <<< (1 &&& 31)) ||| (v_3 &&& v_4)) fun v_10 =>
          pX2_raise_7 F b0 ga5 n v_10 x3 (x4 + 1)
        else
          if v_2 = (-3) then
            gnm ((((x2 >>> (2 &&& 31)) <<< (1 &&& 31)) ||| v_3) ||| v_4) fun v_9 =>
            pX2_raise_7 F b0 ga5 n v_9 x3 (x4 + 1)
          else
            if v_2 < 0 then
              pX2_raise_7 F b0 ga5 n x2 x3 (x4 + 1)
            else
              if 6 ≤ v_2 then
                pX2_raise_7 F b0 ga5 n x2 x3 (x4 + 1)
              else
                gck (ginb v_2 6) <|
                gck (ginb x4 (hn F b0)) <|
                if (ga5 (Int32.toNatClampNeg v_2)) < (ha F b0 8 (Int32.toNatClampNeg x4)) then
                  pX2_raise_164 F b0 (pX2_raise_7 F b0 ga5 n) ga5 x2 x3 x4 0
                else
                  gck (ginb v_2 6) <|
                  gck (ginb x4 (hn F b0)) <|
                  if (ha F b0 9 (Int32.toNatClampNeg x4)) < (ga5 (Int32.toNatClampNeg v_2)) then
                    pX2_raise_164 F b0 (pX2_raise_7 F b0 ga5 n) ga5 x2 x3 x4 0
                  else
                    pX2_raise_164 F b0 (pX2_raise_7 F b0 ga5 n) ga5 x2 x3 x4 1


def pX2_raise (F : gF) (b0 : Nat) (ga5 : (Nat → Int32)) : Option (Int32) :=
  pX2_raise_7 F b0 ga5 1000 0 0 0


def pX1_markBy_w0 (F : gF) (w0o0 : Int32) (w0o5 : Int32) (w0a8 : (Nat → Int32)) (w0a9 : (Nat → Int32)) (w0a10 : (Nat → Int32)) (w0a11 : (Nat → Int32)) (w0h : Nat) (ga5 : (Nat → Int32)) (x2 : Int32) (x3 : Nat) : Option (Int32 × ((Nat → Int32))) :=
  gbd (pX10_hasWorker_w0 w0o0 x2) fun z_1 =>
  if z_1 = 0 then
    some (0, ga5)
  else
    gck (ginb 0 6) <|
    gnm (upd ga5 (Int32.toNatClampNeg 0) x2) fun f_3 =>
    gck (chv F x3 = true) <|
    gck (ginb 1 6) <|
    gnm (upd f_3 (Int32.toNatClampNeg 1) (cn F x3)) fun f_6 =>
    gck (ginb 2 6) <|
    gnm (upd f_6 (Int32.toNatClampNeg 2) (ck F x3)) fun f_8 =>
    gck (ginb x2 10) <|
    gck (ginb 3 6) <|
    gnm (upd f_8 (Int32.toNatClampNeg 3) ((w0a8 (Int32.toNatClampNeg x2)) / 10)) fun f_12 =>
    gck (ginb 4 6) <|
    gnm (upd f_12 (Int32.toNatClampNeg 4) (w0o5 - w0o5 / 10 * 10)) fun f_15 =>
    gbd (pX10_teamBits_w0 w0o0 w0a10 (cn F x3)) fun z_16 =>
    gbd (pJ6_bitCount_0f7a4 z_16) fun z_17 =>
    gck (ginb 5 6) <|
    gnm (upd f_15 (Int32.toNatClampNeg 5) z_17) fun f_19 =>
    gck (ginb x2 10) <|
    gck (ginb x2 10) <|
    if ck F x3 = 0 then
      gbd (pX0_seen_k0 (w0a8 (Int32.toNatClampNeg x2)) (w0a9 (Int32.toNatClampNeg x2))) fun z_29 =>
      gck (ginb x2 10) <|
      gbd (pX0_favour_k0 (w0a11 (Int32.toNatClampNeg x2))) fun z_31 =>
      gck (hsv F w0h = true) <|
      gbd (pX2_raise F w0h f_19) fun z_33 =>
      some (((z_29 + z_31) + z_33), f_19)
    else
    if ck F x3 = 1 then
      gbd (pX0_seen_k1 (w0a8 (Int32.toNatClampNeg x2)) (w0a9 (Int32.toNatClampNeg x2))) fun z_34 =>
      gck (ginb x2 10) <|
      gbd (pX5_favour_k1 F x3 (w0a11 (Int32.toNatClampNeg x2))) fun z_36 =>
      gck (hsv F w0h = true) <|
      gbd (pX2_raise F w0h f_19) fun z_38 =>
      some (((z_34 + z_36) + z_38), f_19)
    else
    if ck F x3 = 2 then
      gbd (pX0_seen_k2 (w0a8 (Int32.toNatClampNeg x2)) (w0a9 (Int32.toNatClampNeg x2))) fun z_39 =>
      gck (ginb x2 10) <|
      gbd (pX0_favour_k2 (w0a11 (Int32.toNatClampNeg x2))) fun z_41 =>
      gck (hsv F w0h = true) <|
      gbd (pX2_raise F w0h f_19) fun z_43 =>
      some (((z_39 + z_41) + z_43), f_19)
    else
    if ck F x3 = 3 then
      gbd (pX4_seen_k3 F x3 (w0a8 (Int32.toNatClampNeg x2)) (w0a9 (Int32.toNatClampNeg x2))) fun z_44 =>
      gck (ginb x2 10) <|
      gbd (pX0_favour_k3 (w0a11 (Int32.toNatClampNeg x2))) fun z_46 =>
      gck (hsv F w0h = true) <|
      gbd (pX2_raise F w0h f_19) fun z_48 =>
      some (((z_44 + z_46) + z_48), f_19)
    else
    if ck F x3 = 4 then
      gbd (pX0_seen_k4 (w0a8 (Int32.toNatClampNeg x2)) (w0a9 (Int32.toNatClampNeg x2))) fun z_49 =>
      gck (ginb x2 10) <|
      gbd (pX6_favour_k4 F x3 (w0a11 (Int32.toNatClampNeg x2))) fun z_51 =>
      gck (hsv F w0h = true) <|
      gbd (pX2_raise F w0h f_19) fun z_53 =>
      some (((z_49 + z_51) + z_53), f_19)
    else
    if ck F x3 = 5 then
      gbd (pX0_seen_k5 (w0a8 (Int32.toNatClampNeg x2)) (w0a9 (Int32.toNatClampNeg x2))) fun z_54 =>
      gck (ginb x2 10) <|
      gbd (pX0_favour_k5 (w0a11 (Int32.toNatClampNeg x2))) fun z_56 =>
      gck (hsv F w0h = true) <|
      gbd (pX2_raise F w0h f_19) fun z_58 =>
      some (((z_54 + z_56) + z_58), f_19)
    else
    gbd (pX4_seen_k6 F x3 (w0a8 (Int32.toNatClampNeg x2)) (w0a9 (Int32.toNatClampNeg x2))) fun z_59 =>
    gck (ginb x2 10) <|
    gbd (pX7_favour_k6 F x3 (w0a11 (Int32.toNatClampNeg x2))) fun z_61 =>
    gck (hsv F w0h = true) <|
    gbd (pX2_raise F w0h f_19) fun z_63 =>
    some (((z_59 + z_61) + z_63), f_19)


def pX1_markTeam_w0_2 (F : gF) (w0o0 : Int32) (w0o5 : Int32) (w0a8 : (Nat → Int32)) (w0a9 : (Nat → Int32)) (w0a10 : (Nat → Int32)) (w0a11 : (Nat → Int32)) (w0h : Nat) (gs : Int32) (ga2 : (Nat → Int32)) : Nat → ((Nat → Int32)) → ((Nat → Int32)) → Nat → Int32 → Option (((Nat → Int32)) × ((Nat → Int32)))
  | 0, _, _, _, _ => none
  | n + 1, ga1, ga5, x2, x3 =>
  if gs ≤ x3 then
    some (ga1, ga5)
  else
    gck (ginb x3 10) <|
    gck (ginb x3 10) <|
    gbd (pX1_markBy_w0 F w0o0 w0o5 w0a8 w0a9 w0a10 w0a11 w0h ga5 (ga2 (Int32.toNatClampNeg x3)) x2) fun z_3 =>
    gck (ginb (ga2 (Int32.toNatClampNeg x3)) 10) <|
    gnm (upd ga1 (Int32.toNatClampNeg (ga2 (Int32.toNatClampNeg x3))) z_3.1) fun f_5 =>
    pX1_markTeam_w0_2 F w0o0 w0o5 w0a8 w0a9 w0a10 w0a11 w0h gs ga2 n f_5 z_3.2 x2 (x3 + 1)


def pX1_markTeam_w0 (F : gF) (w0o0 : Int32) (w0o5 : Int32) (w0a8 : (Nat → Int32)) (w0a9 : (Nat → Int32)) (w0a10 : (Nat → Int32)) (w0a11 : (Nat → Int32)) (w0h : Nat) (gs : Int32) (ga2 : (Nat → Int32)) (ga1 : (Nat → Int32)) (ga5 : (Nat → Int32)) (x2 : Nat) : Option (((Nat → Int32)) × ((Nat → Int32))) :=
  pX1_markTeam_w0_2 F w0o0 w0o5 w0a8 w0a9 w0a10 w0a11 w0h gs ga2 1000 ga1 ga5 x2 0


def pX1_gradeLevelled_w0_106 (F : gF) (k63 : Int32 → (Nat → Int32) → (Nat → Int32) → (Nat → Int32) → (Nat → Int32) → (Nat → Int32) → Int32 → Int32 → Option (Int32 × ((Nat → Int32)) × ((Nat → Int32)) × ((Nat → Int32)) × ((Nat → Int32)) × ((Nat → Int32)))) (w0o0 : Int32) (w0o1 : Int32) (w0o5 : Int32) (w0a8 : (Nat → Int32)) (w0a9 : (Nat → Int32)) (w0a10 : (Nat → Int32)) (w0a11 : (Nat → Int32)) (w0h : Nat) (w0c : (Nat → Option Nat)) : Nat → Int32 → ((Nat → Int32)) → ((Nat → Int32)) → ((Nat → Int32)) → ((Nat → Int32)) → ((Nat → Int32)) → Int32 → Int32 → Nat → Int32 → Int32 → Option (Int32 × ((Nat → Int32)) × ((Nat → Int32)) × ((Nat → Int32)) × ((Nat → Int32)) × ((Nat → Int32)))
  | 0, _, _, _, _, _, _, _, _, _, _, _ => none
  | n + 1, gs, ga0, ga1, ga2, ga3, ga5, x2, x3, x4, x5, x6 =>
  if gs ≤ x6 then
    gbd (pX1_share_w0 F w0o5 w0h gs ga1 ga2 ga0 ga3 x4) fun z_1 =>
    k63 gs z_1.2.1 ga1 ga2 z_1.2.2 ga5 x2 (x3 + 1)
  else
    gck (ginb x6 10) <|
    gck (ginb (ga2 (Int32.toNatClampNeg x6)) 10) <|
    gck (ginb (ga2 (Int32.toNatClampNeg x6)) 10) <|
    gnm (upd ga1 (Int32.toNatClampNeg (ga2 (Int32.toNatClampNeg x6))) ((ga1 (Int32.toNatClampNeg (ga2 (Int32.toNatClampNeg x6)))) + x5)) fun f_5 =>
    pX1_gradeLevelled_w0_106 F k63 w0o0 w0o1 w0o5 w0a8 w0a9 w0a10 w0a11 w0h w0c n gs ga0 f_5 ga2 ga3 ga5 x2 x3 x4 x5 (x6 + 1)


def pX1_gradeLevelled_w0_63 (F : gF) (w0o0 : Int32) (w0o1 : Int32) (w0o5 : Int32) (w0a8 : (Nat → Int32)) (w0a9 : (Nat → Int32)) (w0a10 : (Nat → Int32)) (w0a11 : (Nat → Int32)) (w0h : Nat) (w0c : (Nat → Option Nat)) : Nat → Int32 → ((Nat → Int32)) → ((Nat → Int32)) → ((Nat → Int32)) → ((Nat → Int32)) → ((Nat → Int32)) → Int32 → Int32 → Option (Int32 × ((Nat → Int32)) × ((Nat → Int32)) × ((Nat → Int32)) × ((Nat → Int32)) × ((Nat → Int32)))
  | 0, _, _, _, _, _, _, _, _ => none
  | n + 1, gs, ga0, ga1, ga2, ga3, ga5, x2, x3 =>
  if w0o1 ≤ x3 then
    some (gs, ga0, ga1, ga2, ga3, ga5)
  else
    gbd (pX10_chiefAt_w0 w0o1 w0c x3) fun z_1 =>
    gmt z_1 (
      pX1_gradeLevelled_w0_63 F w0o0 w0o1 w0o5 w0a8 w0a9 w0a10 w0a11 w0h w0c n gs ga0 ga1 ga2 ga3 ga5 x2 (x3 + 1)
    ) fun b_z1 =>
      gbd (pX10_teamBits_w0 w0o0 w0a10 x3) fun z_2 =>
      gbd (pX1_gather gs ga2 z_2) fun z_3 =>
      gbd (pX1_meanOfTeam z_3.1 ga1 z_3.2) fun z_4 =>
      gnm (x2 - z_4) fun v_5 =>
      pX1_gradeLevelled_w0_106 F (pX1_gradeLevelled_w0_63 F w0o0 w0o1 w0o5 w0a8 w0a9 w0a10 w0a11 w0h w0c n) w0o0 w0o1 w0o5 w0a8 w0a9 w0a10 w0a11 w0h w0c 1000 z_3.1 ga0 ga1 z_3.2 ga3 ga5 x2 x3 b_z1 v_5 0


def pX1_gradeLevelled_w0_44 (F : gF) (w0o0 : Int32) (w0o1 : Int32) (w0o5 : Int32) (w0a8 : (Nat → Int32)) (w0a9 : (Nat → Int32)) (w0a10 : (Nat → Int32)) (w0a11 : (Nat → Int32)) (w0h : Nat) (w0c : (Nat → Option Nat)) (gs : Int32) (ga0 : (Nat → Int32)) (ga1 : (Nat → Int32)) (ga2 : (Nat → Int32)) (ga3 : (Nat → Int32)) (ga5 : (Nat → Int32)) : Option (Int32 × ((Nat → Int32)) × ((Nat → Int32)) × ((Nat → Int32)) × ((Nat → Int32)) × ((Nat → Int32))) :=
  gbd (pX1_gather gs ga2 ((1 <<< (w0o0 &&& 31)) - 1)) fun z_1 =>
  gbd (pX1_meanOfTeam z_1.1 ga1 z_1.2) fun z_2 =>
  pX1_gradeLevelled_w0_63 F w0o0 w0o1 w0o5 w0a8 w0a9 w0a10 w0a11 w0h w0c 1000 z_1.1 ga0 ga1 z_1.2 ga3 ga5 z_2 0


def pX1_gradeLevelled_w0_2 (F : gF) (w0o0 : Int32) (w0o1 : Int32) (w0o5 : Int32) (w0a8 : (Nat → Int32)) (w0a9 : (Nat → Int32)) (w0a10 : (Nat → Int32)) (w0a11 : (Nat → Int32)) (w0h : Nat) (w0c : (Nat → Option Nat)) : Nat → Int32 → ((Nat → Int32)) → ((Nat → Int32)) → ((Nat → Int32)) → ((Nat → Int32)) → ((Nat → Int32)) → Int32 → Option (Int32 × ((Nat → Int32)) × ((Nat → Int32)) × ((Nat → Int32)) × ((Nat → Int32)) × ((Nat → Int32)))
  | 0, _, _, _, _, _, _, _ => none
  | n + 1, gs, ga0, ga1, ga2, ga3, ga5, x2 =>
  if w0o1 ≤ x2 then
    pX1_gradeLevelled_w0_44 F w0o0 w0o1 w0o5 w0a8 w0a9 w0a10 w0a11 w0h w0c gs ga0 ga1 ga2 ga3 ga5
  else
    gbd (pX10_chiefAt_w0 w0o1 w0c x2) fun z_1 =>
    gmt z_1 (
      pX1_gradeLevelled_w0_2 F w0o0 w0o1 w0o5 w0a8 w0a9 w0a10 w0a11 w0h w0c n gs ga0 ga1 ga2 ga3 ga5 (x2 + 1)
    ) fun b_z1 =>
      gbd (pX10_teamBits_w0 w0o0 w0a10 x2) fun z_2 =>
      gbd (pX1_gather gs ga2 z_2) fun z_3 =>
      gbd (pX1_markTeam_w0 F w0o0 w0o5 w0a8 w0a9 w0a10 w0a11 w0h z_3.1 z_3.2 ga1 ga5 b_z1) fun z_4 =>
      pX1_gradeLevelled_w0_2 F w0o0 w0o1 w0o5 w0a8 w0a9 w0a10 w0a11 w0h w0c n z_3.1 ga0 z_4.1 z_3.2 ga3 z_4.2 (x2 + 1)


def pX1_gradeLevelled_w0 (F : gF) (w0o0 : Int32) (w0o1 : Int32) (w0o5 : Int32) (w0a8 : (Nat → Int32)) (w0a9 : (Nat → Int32)) (w0a10 : (Nat → Int32)) (w0a11 : (Nat → Int32)) (w0h : Nat) (w0c : (Nat → Option Nat)) (gs : Int32) (ga0 : (Nat → Int32)) (ga1 : (Nat → Int32)) (ga2 : (Nat → Int32)) (ga3 : (Nat → Int32)) (ga5 : (Nat → Int32)) : Option (Int32 × ((Nat → Int32)) × ((Nat → Int32)) × ((Nat → Int32)) × ((Nat → Int32)) × ((Nat → Int32))) :=
  pX1_gradeLevelled_w0_2 F w0o0 w0o1 w0o5 w0a8 w0a9 w0a10 w0a11 w0h w0c 1000 gs ga0 ga1 ga2 ga3 ga5 0


def pX1_gradeDue_w0_14 (F : gF) (w0o0 : Int32) (w0o5 : Int32) (w0a8 : (Nat → Int32)) (w0h : Nat) : Nat → Int32 → ((Nat → Int32)) → ((Nat → Int32)) → ((Nat → Int32)) → ((Nat → Int32)) → Int32 → Option (Int32 × ((Nat → Int32)) × ((Nat → Int32)) × ((Nat → Int32)) × ((Nat → Int32)))
  | 0, _, _, _, _, _, _ => none
  | n + 1, gs, ga0, ga1, ga2, ga3, x2 =>
  if gs ≤ x2 then
    gbd (pX1_share_w0 F w0o5 w0h gs ga1 ga2 ga0 ga3 (gpl F)) fun z_1 =>
    some (gs, z_1.2.1, ga1, ga2, z_1.2.2)
  else
    gck (ginb x2 10) <|
    gck (ginb x2 10) <|
    gck (ginb (ga2 (Int32.toNatClampNeg x2)) 10) <|
    gck (ginb (ga2 (Int32.toNatClampNeg x2)) 10) <|
    gnm (upd ga1 (Int32.toNatClampNeg (ga2 (Int32.toNatClampNeg x2))) (w0a8 (Int32.toNatClampNeg (ga2 (Int32.toNatClampNeg x2))))) fun f_6 =>
    pX1_gradeDue_w0_14 F w0o0 w0o5 w0a8 w0h n gs ga0 f_6 ga2 ga3 (x2 + 1)


def pX1_gradeDue_w0 (F : gF) (w0o0 : Int32) (w0o5 : Int32) (w0a8 : (Nat → Int32)) (w0h : Nat) (gs : Int32) (ga0 : (Nat → Int32)) (ga1 : (Nat → Int32)) (ga2 : (Nat → Int32)) (ga3 : (Nat → Int32)) : Option (Int32 × ((Nat → Int32)) × ((Nat → Int32)) × ((Nat → Int32)) × ((Nat → Int32))) :=
  gbd (pX1_gather gs ga2 ((1 <<< (w0o0 &&& 31)) - 1)) fun z_1 =>
  pX1_gradeDue_w0_14 F w0o0 w0o5 w0a8 w0h 1000 z_1.1 ga0 ga1 z_1.2 ga3 0


def pX1_gradeTeam_w0 (F : gF) (w0o0 : Int32) (w0o5 : Int32) (w0a8 : (Nat → Int32)) (w0a9 : (Nat → Int32)) (w0a10 : (Nat → Int32)) (w0a11 : (Nat → Int32)) (w0h : Nat) (gs : Int32) (ga0 : (Nat → Int32)) (ga1 : (Nat → Int32)) (ga2 : (Nat → Int32)) (ga3 : (Nat → Int32)) (ga5 : (Nat → Int32)) (x2 : Nat) : Option (Int32 × Int32 × ((Nat → Int32)) × ((Nat → Int32)) × ((Nat → Int32)) × ((Nat → Int32)) × ((Nat → Int32))) :=
  gck (chv F x2 = true) <|
  gbd (pX10_teamBits_w0 w0o0 w0a10 (cn F x2)) fun z_2 =>
  gbd (pX1_gather gs ga2 z_2) fun z_3 =>
  gbd (pX1_markTeam_w0 F w0o0 w0o5 w0a8 w0a9 w0a10 w0a11 w0h z_3.1 z_3.2 ga1 ga5 x2) fun z_4 =>
  gbd (pX1_share_w0 F w0o5 w0h z_3.1 z_4.1 z_3.2 ga0 ga3 x2) fun z_5 =>
  some (z_5.1, z_3.1, z_5.2.1, z_4.1, z_3.2, z_5.2.2, z_4.2)


def pX1_gradeHad_w0 (F : gF) (w0o0 : Int32) (w0o1 : Int32) (w0o5 : Int32) (w0a8 : (Nat → Int32)) (w0a9 : (Nat → Int32)) (w0a10 : (Nat → Int32)) (w0a11 : (Nat → Int32)) (w0h : Nat) (w0c : (Nat → Option Nat)) (gs : Int32) (ga0 : (Nat → Int32)) (ga1 : (Nat → Int32)) (ga2 : (Nat → Int32)) (ga3 : (Nat → Int32)) (ga5 : (Nat → Int32)) (x2 : Int32) : Option (Int32 × Int32 × ((Nat → Int32)) × ((Nat → Int32)) × ((Nat → Int32)) × ((Nat → Int32)) × ((Nat → Int32))) :=
  gbd (pX10_hasWorker_w0 w0o0 x2) fun z_1 =>
  if z_1 = 0 then
    some (0, gs, ga0, ga1, ga2, ga3, ga5)
  else
    gck (ginb x2 10) <|
    gbd (pX10_chiefAt_w0 w0o1 w0c (w0a10 (Int32.toNatClampNeg x2))) fun z_3 =>
    gmt z_3 (
      some (0, gs, ga0, ga1, ga2, ga3, ga5)
    ) fun b_z3 =>
      gbd (pX1_gradeTeam_w0 F w0o0 w0o5 w0a8 w0a9 w0a10 w0a11 w0h gs ga0 ga1 ga2 ga3 ga5 b_z3) fun z_4 =>
      gck (ginb x2 10) <|
      some ((z_4.2.2.1 (Int32.toNatClampNeg x2)), z_4.2.1, z_4.2.2.1, z_4.2.2.2.1, z_4.2.2.2.2.1, z_4.2.2.2.2.2.1, z_4.2.2.2.2.2.2)


def pX11_mark (F : gF) (w0o0 : Int32) (w0o1 : Int32) (w0o5 : Int32) (w0a8 : (Nat → Int32)) (w0a9 : (Nat → Int32)) (w0a10 : (Nat → Int32)) (w0a11 : (Nat → Int32)) (w0h : Nat) (w0c : (Nat → Option Nat)) (ga5 : (Nat → Int32)) (x1 : Int32) (x2 : Int32) : Option (Int32 × ((Nat → Int32))) :=
  gbd (pX10_chiefAt_w0 w0o1 w0c x2) fun z_1 =>
  gmt z_1 (
    gbd (pX10_hasWorker_w0 w0o0 x1) fun z_2 =>
    if z_2 = 0 then
      some ((-1001), ga5)
    else
      some ((-1001), ga5)
  ) fun b_z1 =>
    gbd (pX10_hasWorker_w0 w0o0 x1) fun z_3 =>
    if z_3 = 0 then
      some ((-1001), ga5)
    else
      gbd (pX1_markBy_w0 F w0o0 w0o5 w0a8 w0a9 w0a10 w0a11 w0h ga5 x1 b_z1) fun z_4 =>
      some (z_4.1, z_4.2)


def pX11_of (F : gF) (w0o0 : Int32) (w0o1 : Int32) (w0o5 : Int32) (w0a8 : (Nat → Int32)) (w0a9 : (Nat → Int32)) (w0a10 : (Nat → Int32)) (w0a11 : (Nat → Int32)) (w0a12 : (Nat → Int32)) (w0h : Nat) (w0c : (Nat → Option Nat)) (gs : Int32) (ga0 : (Nat → Int32)) (ga1 : (Nat → Int32)) (ga2 : (Nat → Int32)) (ga3 : (Nat → Int32)) (ga5 : (Nat → Int32)) (x1 : Int32) (x2 : Int32) : Option (Int32 × Int32 × ((Nat → Int32)) × ((Nat → Int32)) × ((Nat → Int32)) × ((Nat → Int32)) × ((Nat → Int32))) :=
  gbd (pX10_hasWorker_w0 w0o0 x1) fun z_1 =>
  if z_1 = 0 then
    some ((-1001), gs, ga0, ga1, ga2, ga3, ga5)
  else
    if x2 = 0 then
      gck (ginb x1 10) <|
      some ((w0a8 (Int32.toNatClampNeg x1)), gs, ga0, ga1, ga2, ga3, ga5)
    else
    if x2 = 1 then
      gck (ginb x1 10) <|
      some ((w0a9 (Int32.toNatClampNeg x1)), gs, ga0, ga1, ga2, ga3, ga5)
    else
    if x2 = 2 then
      gck (ginb x1 10) <|
      some ((w0a10 (Int32.toNatClampNeg x1)), gs, ga0, ga1, ga2, ga3, ga5)
    else
    if x2 = 3 then
      gck (ginb x1 10) <|
      some ((w0a11 (Int32.toNatClampNeg x1)), gs, ga0, ga1, ga2, ga3, ga5)
    else
    if x2 = 4 then
      gck (ginb x1 10) <|
      some ((w0a12 (Int32.toNatClampNeg x1)), gs, ga0, ga1, ga2, ga3, ga5)
    else
    if x2 = 5 then
      gck (ginb x1 10) <|
      gbd (pX11_mark F w0o0 w0o1 w0o5 w0a8 w0a9 w0a10 w0a11 w0h w0c ga5 x1 (w0a10 (Int32.toNatClampNeg x1))) fun z_8 =>
      some (z_8.1, gs, ga0, ga1, ga2, ga3, z_8.2)
    else
    if x2 = 6 then
      gbd (pX1_gradeHad_w0 F w0o0 w0o1 w0o5 w0a8 w0a9 w0a10 w0a11 w0h w0c gs ga0 ga1 ga2 ga3 ga5 x1) fun z_9 =>
      some (z_9.1, z_9.2.1, z_9.2.2.1, z_9.2.2.2.1, z_9.2.2.2.2.1, z_9.2.2.2.2.2.1, z_9.2.2.2.2.2.2)
    else
    if x2 = 7 then
      gbd (pX1_gradeDue_w0 F w0o0 w0o5 w0a8 w0h gs ga0 ga1 ga2 ga3) fun z_10 =>
      gck (ginb x1 10) <|
      some ((z_10.2.1 (Int32.toNatClampNeg x1)), z_10.1, z_10.2.1, z_10.2.2.1, z_10.2.2.2.1, z_10.2.2.2.2, ga5)
    else
    if x2 = 8 then
      gbd (pX1_gradeLevelled_w0 F w0o0 w0o1 w0o5 w0a8 w0a9 w0a10 w0a11 w0h w0c gs ga0 ga1 ga2 ga3 ga5) fun z_12 =>
      gck (ginb x1 10) <|
      some ((z_12.2.1 (Int32.toNatClampNeg x1)), z_12.1, z_12.2.1, z_12.2.2.1, z_12.2.2.2.1, z_12.2.2.2.2.1, z_12.2.2.2.2.2)
    else
    some ((-1001), gs, ga0, ga1, ga2, ga3, ga5)


def pX11_by (F : gF) (w0o0 : Int32) (w0o1 : Int32) (w0a10 : (Nat → Int32)) (w0c : (Nat → Option Nat)) (x1 : Int32) (x2 : Int32) : Option (Int32) :=
  gbd (pX10_chiefAt_w0 w0o1 w0c x1) fun z_1 =>
  gmt z_1 (
    some ((-1))
  ) fun b_z1 =>
    if x2 = 0 then
      gck (chv F b_z1 = true) <|
      some ((ck F b_z1))
    else
    if x2 = 1 then
      gck (chv F b_z1 = true) <|
      some ((cv F b_z1))
    else
    if x2 = 2 then
      gck (chv F b_z1 = true) <|
      some ((cd F b_z1))
    else
    if x2 = 3 then
      gbd (pX10_teamBits_w0 w0o0 w0a10 x1) fun z_5 =>
      gbd (pJ6_bitCount_0f7a4 z_5) fun z_6 =>
      some (z_6)
    else
    if x2 = 4 then
      gbd (pX10_teamBits_w0 w0o0 w0a10 x1) fun z_7 =>
      some (z_7)
    else
    some ((-1))


def pX11_move (w0o0 : Int32) (w0o1 : Int32) (w0c : (Nat → Option Nat)) (w0a10 : (Nat → Int32)) (x1 : Int32) (x2 : Int32) : Option (Int32 × ((Nat → Int32))) :=
  gbd (pX10_hasWorker_w0 w0o0 x1) fun z_1 =>
  if z_1 = 0 then
    some ((-1), w0a10)
  else
    gbd (pX10_chiefAt_w0 w0o1 w0c x2) fun z_2 =>
    gmt z_2 (
      some ((-1), w0a10)
    ) fun b_z2 =>
      gck (ginb x1 10) <|
      gnm (w0a10 (Int32.toNatClampNeg x1)) fun v_4 =>
      gck (ginb x1 10) <|
      gnm (upd w0a10 (Int32.toNatClampNeg x1) x2) fun f_6 =>
      some (v_4, f_6)


def pX11_set_35 (w0o0 : Int32) (w0a8 : (Nat → Int32)) (w0a9 : (Nat → Int32)) (w0a11 : (Nat → Int32)) (x1 : Int32) (x2 : Int32) (x3 : Int32) (y0 : Int32) (y1 : Int32) : Option (Int32 × ((Nat → Int32)) × ((Nat → Int32)) × ((Nat → Int32))) :=
  gbd (pX11_isWithin y0 y1) fun z_1 =>
  if z_1 = 0 then
    some ((-2), w0a8, w0a9, w0a11)
  else
    if x2 = 0 then
      gck (ginb x1 10) <|
      gnm (w0a8 (Int32.toNatClampNeg x1)) fun v_11 =>
      gck (ginb x1 10) <|
      gnm (upd w0a8 (Int32.toNatClampNeg x1) x3) fun f_13 =>
      some (v_11, f_13, w0a9, w0a11)
    else
      if x2 = 1 then
        gck (ginb x1 10) <|
        gnm (w0a9 (Int32.toNatClampNeg x1)) fun v_7 =>
        gck (ginb x1 10) <|
        gnm (upd w0a9 (Int32.toNatClampNeg x1) x3) fun f_9 =>
        some (v_7, w0a8, f_9, w0a11)
      else
        gck (ginb x1 10) <|
        gnm (w0a11 (Int32.toNatClampNeg x1)) fun v_3 =>
        gck (ginb x1 10) <|
        gnm (upd w0a11 (Int32.toNatClampNeg x1) x3) fun f_5 =>
        some (v_3, w0a8, w0a9, f_5)


def pX11_set (w0o0 : Int32) (w0a8 : (Nat → Int32)) (w0a9 : (Nat → Int32)) (w0a11 : (Nat → Int32)) (x1 : Int32) (x2 : Int32) (x3 : Int32) : Option (Int32 × ((Nat → Int32)) × ((Nat → Int32)) × ((Nat → Int32))) :=
  gbd (pX10_hasWorker_w0 w0o0 x1) fun z_1 =>
  if z_1 = 0 then
    some ((-1), w0a8, w0a9, w0a11)
  else
    if x2 < 0 then
      some ((-1), w0a8, w0a9, w0a11)
    else
      if x2 ≤ 2 then
        if x2 = 2 then
          pX11_set_35 w0o0 w0a8 w0a9 w0a11 x1 x2 x3 x3 9
        else
          pX11_set_35 w0o0 w0a8 w0a9 w0a11 x1 x2 x3 x3 99
      else
        some ((-1), w0a8, w0a9, w0a11)


def pX11_fresh (w0o6 : Int32) (w0o7 : Int32) (x1 : Int32) (x2 : Int32) : Option (Int32 × Int32 × Int32) :=
  gbd (pX11_isWithin x1 99) fun z_1 =>
  if z_1 = 0 then
    some ((-2), w0o6, w0o7)
  else
    gbd (pX11_isWithin x2 99) fun z_2 =>
    if z_2 = 0 then
      some ((-2), w0o6, w0o7)
    else
      some (w0o6, x1, x2)


def pX1_gradeAll_w0_2 (F : gF) (w0o0 : Int32) (w0o1 : Int32) (w0o5 : Int32) (w0a8 : (Nat → Int32)) (w0a9 : (Nat → Int32)) (w0a10 : (Nat → Int32)) (w0a11 : (Nat → Int32)) (w0h : Nat) (w0c : (Nat → Option Nat)) : Nat → Int32 → ((Nat → Int32)) → ((Nat → Int32)) → ((Nat → Int32)) → ((Nat → Int32)) → ((Nat → Int32)) → Int32 → Option (Int32 × ((Nat → Int32)) × ((Nat → Int32)) × ((Nat → Int32)) × ((Nat → Int32)) × ((Nat → Int32)))
  | 0, _, _, _, _, _, _, _ => none
  | n + 1, gs, ga0, ga1, ga2, ga3, ga5, x2 =>
  if w0o1 ≤ x2 then
    some (gs, ga0, ga1, ga2, ga3, ga5)
  else
    gbd (pX10_chiefAt_w0 w0o1 w0c x2) fun z_1 =>
    gmt z_1 (
      pX1_gradeAll_w0_2 F w0o0 w0o1 w0o5 w0a8 w0a9 w0a10 w0a11 w0h w0c n gs ga0 ga1 ga2 ga3 ga5 (x2 + 1)
    ) fun b_z1 =>
      gbd (pX1_gradeTeam_w0 F w0o0 w0o5 w0a8 w0a9 w0a10 w0a11 w0h gs ga0 ga1 ga2 ga3 ga5 b_z1) fun z_2 =>
      pX1_gradeAll_w0_2 F w0o0 w0o1 w0o5 w0a8 w0a9 w0a10 w0a11 w0h w0c n z_2.2.1 z_2.2.2.1 z_2.2.2.2.1 z_2.2.2.2.2.1 z_2.2.2.2.2.2.1 z_2.2.2.2.2.2.2 (x2 + 1)


def pX1_gradeAll_w0 (F : gF) (w0o0 : Int32) (w0o1 : Int32) (w0o5 : Int32) (w0a8 : (Nat → Int32)) (w0a9 : (Nat → Int32)) (w0a10 : (Nat → Int32)) (w0a11 : (Nat → Int32)) (w0h : Nat) (w0c : (Nat → Option Nat)) (gs : Int32) (ga0 : (Nat → Int32)) (ga1 : (Nat → Int32)) (ga2 : (Nat → Int32)) (ga3 : (Nat → Int32)) (ga5 : (Nat → Int32)) : Option (Int32 × ((Nat → Int32)) × ((Nat → Int32)) × ((Nat → Int32)) × ((Nat → Int32)) × ((Nat → Int32))) :=
  pX1_gradeAll_w0_2 F w0o0 w0o1 w0o5 w0a8 w0a9 w0a10 w0a11 w0h w0c 1000 gs ga0 ga1 ga2 ga3 ga5 0


def pX11_wrong_111 (F : gF) (k61 : Int32 → (Nat → Int32) → (Nat → Int32) → (Nat → Int32) → (Nat → Int32) → (Nat → Int32) → (Nat → Int32) → Int32 → Int32 → Int32 → Int32 → Int32 → Option (Int32 × Int32 × ((Nat → Int32)) × ((Nat → Int32)) × ((Nat → Int32)) × ((Nat → Int32)) × ((Nat → Int32)) × ((Nat → Int32)))) (w0o0 : Int32) (w0o1 : Int32) (w0o5 : Int32) (w0a8 : (Nat → Int32)) (w0a9 : (Nat → Int32)) (w0a10 : (Nat → Int32)) (w0a11 : (Nat → Int32)) (w0h : Nat) (w0c : (Nat → Option Nat)) (gs : Int32) (ga0 : (Nat → Int32)) (ga1 : (Nat → Int32)) (ga2 : (Nat → Int32)) (ga3 : (Nat → Int32)) (ga5 : (Nat → Int32)) (bf : (Nat → Int32)) (x1 : Int32) (x2 : Int32) (x3 : Int32) (x4 : Int32) (x5 : Int32) (x6 : Int32) : Option (Int32 × Int32 × ((Nat → Int32)) × ((Nat → Int32)) × ((Nat → Int32)) × ((Nat → Int32)) × ((Nat → Int32)) × ((Nat → Int32))) :=
  gck (ginb x5 10) <|
  if (bf (Int32.toNatClampNeg x5)) ≤ x6 then
    gnm (x4 + x6) fun v_2 =>
    k61 gs ga0 ga1 ga2 ga3 ga5 bf x1 x2 x3 v_2 (x5 + 1)
  else
    gnm (x3 ||| (1 <<< (x5 &&& 31))) fun v_3 =>
    gnm (x4 + x6) fun v_4 =>
    k61 gs ga0 ga1 ga2 ga3 ga5 bf x1 x2 v_3 v_4 (x5 + 1)


def pX11_wrong_61 (F : gF) (w0o0 : Int32) (w0o1 : Int32) (w0o5 : Int32) (w0a8 : (Nat → Int32)) (w0a9 : (Nat → Int32)) (w0a10 : (Nat → Int32)) (w0a11 : (Nat → Int32)) (w0h : Nat) (w0c : (Nat → Option Nat)) : Nat → Int32 → ((Nat → Int32)) → ((Nat → Int32)) → ((Nat → Int32)) → ((Nat → Int32)) → ((Nat → Int32)) → ((Nat → Int32)) → Int32 → Int32 → Int32 → Int32 → Int32 → Option (Int32 × Int32 × ((Nat → Int32)) × ((Nat → Int32)) × ((Nat → Int32)) × ((Nat → Int32)) × ((Nat → Int32)) × ((Nat → Int32)))
  | 0, _, _, _, _, _, _, _, _, _, _, _, _ => none
  | n + 1, gs, ga0, ga1, ga2, ga3, ga5, bf, x1, x2, x3, x4, x5 =>
  if w0o0 ≤ x5 then
    if x1 = 0 then
      some (x2, gs, ga0, ga1, ga2, ga3, ga5, bf)
    else
      if x1 = 1 then
        some (x3, gs, ga0, ga1, ga2, ga3, ga5, bf)
      else
        some (x4, gs, ga0, ga1, ga2, ga3, ga5, bf)
  else
    if 10 ≤ x5 then
      if x1 = 0 then
        some (x2, gs, ga0, ga1, ga2, ga3, ga5, bf)
      else
        if x1 = 1 then
          some (x3, gs, ga0, ga1, ga2, ga3, ga5, bf)
        else
          some (x4, gs, ga0, ga1, ga2, ga3, ga5, bf)
    else
      gck (ginb x5 10) <|
      gnm (ga0 (Int32.toNatClampNeg x5)) fun v_2 =>
      gck (ginb x5 10) <|
      if v_2 = (bf (Int32.toNatClampNeg x5)) then
        pX11_wrong_111 F (pX11_wrong_61 F w0o0 w0o1 w0o5 w0a8 w0a9 w0a10 w0a11 w0h w0c n) w0o0 w0o1 w0o5 w0a8 w0a9 w0a10 w0a11 w0h w0c gs ga0 ga1 ga2 ga3 ga5 bf x1 x2 x3 x4 x5 v_2
      else
        gnm (x2 ||| (1 <<< (x5 &&& 31))) fun v_4 =>
        pX11_wrong_111 F (pX11_wrong_61 F w0o0 w0o1 w0o5 w0a8 w0a9 w0a10 w0a11 w0h w0c n) w0o0 w0o1 w0o5 w0a8 w0a9 w0a10 w0a11 w0h w0c gs ga0 ga1 ga2 ga3 ga5 bf x1 v_4 x3 x4 x5 v_2


def pX11_wrong (F : gF) (w0o0 : Int32) (w0o1 : Int32) (w0o5 : Int32) (w0a8 : (Nat → Int32)) (w0a9 : (Nat → Int32)) (w0a10 : (Nat → Int32)) (w0a11 : (Nat → Int32)) (w0h : Nat) (w0c : (Nat → Option Nat)) (gs : Int32) (ga0 : (Nat → Int32)) (ga1 : (Nat → Int32)) (ga2 : (Nat → Int32)) (ga3 : (Nat → Int32)) (ga5 : (Nat → Int32)) (bf : (Nat → Int32)) (x1 : Int32) : Option (Int32 × Int32 × ((Nat → Int32)) × ((Nat → Int32)) × ((Nat → Int32)) × ((Nat → Int32)) × ((Nat → Int32)) × ((Nat → Int32))) :=
  if x1 < 0 then
    some ((-1), gs, ga0, ga1, ga2, ga3, ga5, bf)
  else
    if x1 ≤ 2 then
      gbd (pX1_gradeDue_w0 F w0o0 w0o5 w0a8 w0h gs ga0 ga1 ga2 ga3) fun z_1 =>
      gnm (va_cpy z_1.2.1 bf 0 0 10) fun f_2 =>
      gbd (pX1_gradeAll_w0 F w0o0 w0o1 w0o5 w0a8 w0a9 w0a10 w0a11 w0h w0c z_1.1 z_1.2.1 z_1.2.2.1 z_1.2.2.2.1 z_1.2.2.2.2 ga5) fun z_3 =>
      pX11_wrong_61 F w0o0 w0o1 w0o5 w0a8 w0a9 w0a10 w0a11 w0h w0c 1000 z_3.1 z_3.2.1 z_3.2.2.1 z_3.2.2.2.1 z_3.2.2.2.2.1 z_3.2.2.2.2.2 f_2 x1 0 0 0 0
    else
      some ((-1), gs, ga0, ga1, ga2, ga3, ga5, bf)


def pX10_become_w1_w0_209 (F : gF) (w0o0 : Int32) (w0o1 : Int32) (w0o2 : Int32) (w0o3 : Int32) (w0o4 : Int32) (w0o5 : Int32) (w0o6 : Int32) (w0o7 : Int32) (w0a8 : (Nat → Int32)) (w0a9 : (Nat → Int32)) (w0a10 : (Nat → Int32)) (w0a11 : (Nat → Int32)) (w0a12 : (Nat → Int32)) (w0a14 : (Nat → Int32)) (w0a15 : (Nat → Int32)) (w0a16 : (Nat → Int32)) (w0a17 : (Nat → Int32)) (w0h : Nat) (w0c : (Nat → Option Nat)) : Nat → Int32 → Int32 → Int32 → Int32 → Int32 → Int32 → Int32 → Int32 → ((Nat → Int32)) → ((Nat → Int32)) → ((Nat → Int32)) → ((Nat → Int32)) → ((Nat → Int32)) → ((Nat → Int32)) → ((Nat → Int32)) → ((Nat → Int32)) → ((Nat → Int32)) → Nat → ((Nat → Option Nat)) → Int32 → Option (Int32 × Int32 × Int32 × Int32 × Int32 × Int32 × Int32 × Int32 × ((Nat → Int32)) × ((Nat → Int32)) × ((Nat → Int32)) × ((Nat → Int32)) × ((Nat → Int32)) × ((Nat → Int32)) × ((Nat → Int32)) × ((Nat → Int32)) × ((Nat → Int32)) × Nat × ((Nat → Option Nat)))
  | 0, _, _, _, _, _, _, _, _, _, _, _, _, _, _, _, _, _, _, _, _ => none
  | n + 1, w1o0, w1o1, w1o2, w1o3, w1o4, w1o5, w1o6, w1o7, w1a8, w1a9, w1a10, w1a11, w1a12, w1a14, w1a15, w1a16, w1a17, w1h, w1c, x2 =>
  if 4 ≤ x2 then
    some (w1o0, w1o1, w1o2, w1o3, w1o4, w1o5, w1o6, w1o7, w1a8, w1a9, w1a10, w1a11, w1a12, w1a14, w1a15, w1a16, w1a17, w1h, w1c)
  else
    gck (ginb x2 4) <|
    gck (ginb x2 4) <|
    gck (gqok F (w0c (Int32.toNatClampNeg x2)) = true) <|
    gnm (va_up w1c (Int32.toNatClampNeg x2) (w0c (Int32.toNatClampNeg x2))) fun f_4 =>
    pX10_become_w1_w0_209 F w0o0 w0o1 w0o2 w0o3 w0o4 w0o5 w0o6 w0o7 w0a8 w0a9 w0a10 w0a11 w0a12 w0a14 w0a15 w0a16 w0a17 w0h w0c n w1o0 w1o1 w1o2 w1o3 w1o4 w1o5 w1o6 w1o7 w1a8 w1a9 w1a10 w1a11 w1a12 w1a14 w1a15 w1a16 w1a17 w1h f_4 (x2 + 1)


def pX10_become_w1_w0 (F : gF) (w0o0 : Int32) (w0o1 : Int32) (w0o2 : Int32) (w0o3 : Int32) (w0o4 : Int32) (w0o5 : Int32) (w0o6 : Int32) (w0o7 : Int32) (w0a8 : (Nat → Int32)) (w0a9 : (Nat → Int32)) (w0a10 : (Nat → Int32)) (w0a11 : (Nat → Int32)) (w0a12 : (Nat → Int32)) (w0a14 : (Nat → Int32)) (w0a15 : (Nat → Int32)) (w0a16 : (Nat → Int32)) (w0a17 : (Nat → Int32)) (w0h : Nat) (w0c : (Nat → Option Nat)) (w1o0 : Int32) (w1o1 : Int32) (w1o2 : Int32) (w1o3 : Int32) (w1o4 : Int32) (w1o5 : Int32) (w1o6 : Int32) (w1o7 : Int32) (w1a8 : (Nat → Int32)) (w1a9 : (Nat → Int32)) (w1a10 : (Nat → Int32)) (w1a11 : (Nat → Int32)) (w1a12 : (Nat → Int32)) (w1a14 : (Nat → Int32)) (w1a15 : (Nat → Int32)) (w1a16 : (Nat → Int32)) (w1a17 : (Nat → Int32)) (w1h : Nat) (w1c : (Nat → Option Nat)) : Option (Int32 × Int32 × Int32 × Int32 × Int32 × Int32 × Int32 × Int32 × ((Nat → Int32)) × ((Nat → Int32)) × ((Nat → Int32)) × ((Nat → Int32)) × ((Nat → Int32)) × ((Nat → Int32)) × ((Nat → Int32)) × ((Nat → Int32)) × ((Nat → Int32)) × Nat × ((Nat → Option Nat))) :=
  gnm (va_cpy w0a8 w1a8 0 0 10) fun f_1 =>
  gnm (va_cpy w0a9 w1a9 0 0 10) fun f_2 =>
  gnm (va_cpy w0a10 w1a10 0 0 10) fun f_3 =>
  gnm (va_cpy w0a11 w1a11 0 0 10) fun f_4 =>
  gnm (va_cpy w0a12 w1a12 0 0 10) fun f_5 =>
  gnm (va_cpy w0a14 w1a14 0 0 20) fun f_6 =>
  gnm (va_cpy w0a15 w1a15 0 0 20) fun f_7 =>
  gnm (va_cpy w0a16 w1a16 0 0 20) fun f_8 =>
  gck (gfitC w0a17 100 = true) <|
  gnm (va_cpy w0a17 w1a17 0 0 100) fun f_10 =>
  pX10_become_w1_w0_209 F w0o0 w0o1 w0o2 w0o3 w0o4 w0o5 w0o6 w0o7 w0a8 w0a9 w0a10 w0a11 w0a12 w0a14 w0a15 w0a16 w0a17 w0h w0c 1000 w0o0 w0o1 w0o2 w0o3 w0o4 w0o5 w0o6 w0o7 f_1 f_2 f_3 f_4 f_5 f_6 f_7 f_8 f_10 w0h w1c 0


def pX10_hasWorker_w1 (w1o0 : Int32) (x1 : Int32) : Option (Int32) :=
  if x1 < 0 then
    some (0)
  else
    if w1o0 ≤ x1 then
      some (0)
    else
      if 10 ≤ x1 then
        some (0)
      else
        some (1)


def pX10_chiefAt_w1 (w1o1 : Int32) (w1c : (Nat → Option Nat)) (x1 : Int32) : Option (Option Nat) :=
  if x1 < 0 then
    some (none)
  else
    if w1o1 ≤ x1 then
      some (none)
    else
      if 4 ≤ x1 then
        some (none)
      else
        gck (ginb x1 4) <|
        some ((w1c (Int32.toNatClampNeg x1)))


def pX10_teamBits_w1_4 (w1o0 : Int32) (w1a10 : (Nat → Int32)) : Nat → Int32 → Int32 → Int32 → Option (Int32)
  | 0, _, _, _ => none
  | n + 1, x1, x2, x3 =>
  if w1o0 ≤ x3 then
    some (x2)
  else
    gck (ginb x3 10) <|
    if (w1a10 (Int32.toNatClampNeg x3)) = x1 then
      gnm (x2 ||| (1 <<< (x3 &&& 31))) fun v_2 =>
      pX10_teamBits_w1_4 w1o0 w1a10 n x1 v_2 (x3 + 1)
    else
      pX10_teamBits_w1_4 w1o0 w1a10 n x1 x2 (x3 + 1)


def pX10_teamBits_w1 (w1o0 : Int32) (w1a10 : (Nat → Int32)) (x1 : Int32) : Option (Int32) :=
  pX10_teamBits_w1_4 w1o0 w1a10 1000 x1 0 0


def pX1_markBy_w1 (F : gF) (w1o0 : Int32) (w1o5 : Int32) (w1a8 : (Nat → Int32)) (w1a9 : (Nat → Int32)) (w1a10 : (Nat → Int32)) (w1a11 : (Nat → Int32)) (w1h : Nat) (ga5 : (Nat → Int32)) (x2 : Int32) (x3 : Nat) : Option (Int32 × ((Nat → Int32))) :=
  gbd (pX10_hasWorker_w1 w1o0 x2) fun z_1 =>
  if z_1 = 0 then
    some (0, ga5)
  else
    gck (ginb 0 6) <|
    gnm (upd ga5 (Int32.toNatClampNeg 0) x2) fun f_3 =>
    gck (chv F x3 = true) <|
    gck (ginb 1 6) <|
    gnm (upd f_3 (Int32.toNatClampNeg 1) (cn F x3)) fun f_6 =>
    gck (ginb 2 6) <|
    gnm (upd f_6 (Int32.toNatClampNeg 2) (ck F x3)) fun f_8 =>
    gck (ginb x2 10) <|
    gck (ginb 3 6) <|
    gnm (upd f_8 (Int32.toNatClampNeg 3) ((w1a8 (Int32.toNatClampNeg x2)) / 10)) fun f_12 =>
    gck (ginb 4 6) <|
    gnm (upd f_12 (Int32.toNatClampNeg 4) (w1o5 - w1o5 / 10 * 10)) fun f_15 =>
    gbd (pX10_teamBits_w1 w1o0 w1a10 (cn F x3)) fun z_16 =>
    gbd (pJ6_bitCount_0f7a4 z_16) fun z_17 =>
    gck (ginb 5 6) <|
    gnm (upd f_15 (Int32.toNatClampNeg 5) z_17) fun f_19 =>
    gck (ginb x2 10) <|
    gck (ginb x2 10) <|
    if ck F x3 = 0 then
      gbd (pX0_seen_k0 (w1a8 (Int32.toNatClampNeg x2)) (w1a9 (Int32.toNatClampNeg x2))) fun z_29 =>
      gck (ginb x2 10) <|
      gbd (pX0_favour_k0 (w1a11 (Int32.toNatClampNeg x2))) fun z_31 =>
      gck (hsv F w1h = true) <|
      gbd (pX2_raise F w1h f_19) fun z_33 =>
      some (((z_29 + z_31) + z_33), f_19)
    else
    if ck F x3 = 1 then
      gbd (pX0_seen_k1 (w1a8 (Int32.toNatClampNeg x2)) (w1a9 (Int32.toNatClampNeg x2))) fun z_34 =>
      gck (ginb x2 10) <|
      gbd (pX5_favour_k1 F x3 (w1a11 (Int32.toNatClampNeg x2))) fun z_36 =>
      gck (hsv F w1h = true) <|
      gbd (pX2_raise F w1h f_19) fun z_38 =>
      some (((z_34 + z_36) + z_38), f_19)
    else
    if ck F x3 = 2 then
      gbd (pX0_seen_k2 (w1a8 (Int32.toNatClampNeg x2)) (w1a9 (Int32.toNatClampNeg x2))) fun z_39 =>
      gck (ginb x2 10) <|
      gbd (pX0_favour_k2 (w1a11 (Int32.toNatClampNeg x2))) fun z_41 =>
      gck (hsv F w1h = true) <|
      gbd (pX2_raise F w1h f_19) fun z_43 =>
      some (((z_39 + z_41) + z_43), f_19)
    else
    if ck F x3 = 3 then
      gbd (pX4_seen_k3 F x3 (w1a8 (Int32.toNatClampNeg x2)) (w1a9 (Int32.toNatClampNeg x2))) fun z_44 =>
      gck (ginb x2 10) <|
      gbd (pX0_favour_k3 (w1a11 (Int32.toNatClampNeg x2))) fun z_46 =>
      gck (hsv F w1h = true) <|
      gbd (pX2_raise F w1h f_19) fun z_48 =>
      some (((z_44 + z_46) + z_48), f_19)
    else
    if ck F x3 = 4 then
      gbd (pX0_seen_k4 (w1a8 (Int32.toNatClampNeg x2)) (w1a9 (Int32.toNatClampNeg x2))) fun z_49 =>
      gck (ginb x2 10) <|
      gbd (pX6_favour_k4 F x3 (w1a11 (Int32.toNatClampNeg x2))) fun z_51 =>
      gck (hsv F w1h = true) <|
      gbd (pX2_raise F w1h f_19) fun z_53 =>
      some (((z_49 + z_51) + z_53), f_19)
    else
    if ck F x3 = 5 then
      gbd (pX0_seen_k5 (w1a8 (Int32.toNatClampNeg x2)) (w1a9 (Int32.toNatClampNeg x2))) fun z_54 =>
      gck (ginb x2 10) <|
      gbd (pX0_favour_k5 (w1a11 (Int32.toNatClampNeg x2))) fun z_56 =>
      gck (hsv F w1h = true) <|
      gbd (pX2_raise F w1h f_19) fun z_58 =>
      some (((z_54 + z_56) + z_58), f_19)
    else
    gbd (pX4_seen_k6 F x3 (w1a8 (Int32.toNatClampNeg x2)) (w1a9 (Int32.toNatClampNeg x2))) fun z_59 =>
    gck (ginb x2 10) <|
    gbd (pX7_favour_k6 F x3 (w1a11 (Int32.toNatClampNeg x2))) fun z_61 =>
    gck (hsv F w1h = true) <|
    gbd (pX2_raise F w1h f_19) fun z_63 =>
    some (((z_59 + z_61) + z_63), f_19)


def pX1_markTeam_w1_2 (F : gF) (w1o0 : Int32) (w1o5 : Int32) (w1a8 : (Nat → Int32)) (w1a9 : (Nat → Int32)) (w1a10 : (Nat → Int32)) (w1a11 : (Nat → Int32)) (w1h : Nat) (gs : Int32) (ga2 : (Nat → Int32)) : Nat → ((Nat → Int32)) → ((Nat → Int32)) → Nat → Int32 → Option (((Nat → Int32)) × ((Nat → Int32)))
  | 0, _, _, _, _ => none
  | n + 1, ga1, ga5, x2, x3 =>
  if gs ≤ x3 then
    some (ga1, ga5)
  else
    gck (ginb x3 10) <|
    gck (ginb x3 10) <|
    gbd (pX1_markBy_w1 F w1o0 w1o5 w1a8 w1a9 w1a10 w1a11 w1h ga5 (ga2 (Int32.toNatClampNeg x3)) x2) fun z_3 =>
    gck (ginb (ga2 (Int32.toNatClampNeg x3)) 10) <|
    gnm (upd ga1 (Int32.toNatClampNeg (ga2 (Int32.toNatClampNeg x3))) z_3.1) fun f_5 =>
    pX1_markTeam_w1_2 F w1o0 w1o5 w1a8 w1a9 w1a10 w1a11 w1h gs ga2 n f_5 z_3.2 x2 (x3 + 1)


def pX1_markTeam_w1 (F : gF) (w1o0 : Int32) (w1o5 : Int32) (w1a8 : (Nat → Int32)) (w1a9 : (Nat → Int32)) (w1a10 : (Nat → Int32)) (w1a11 : (Nat → Int32)) (w1h : Nat) (gs : Int32) (ga2 : (Nat → Int32)) (ga1 : (Nat → Int32)) (ga5 : (Nat → Int32)) (x2 : Nat) : Option (((Nat → Int32)) × ((Nat → Int32))) :=
  pX1_markTeam_w1_2 F w1o0 w1o5 w1a8 w1a9 w1a10 w1a11 w1h gs ga2 1000 ga1 ga5 x2 0


def pX1_share_w1_181 (F : gF) (w1o5 : Int32) (w1h : Nat) (gs : Int32) (ga1 : (Nat → Int32)) (ga2 : (Nat → Int32)) : Nat → ((Nat → Int32)) → ((Nat → Int32)) → Int32 → Int32 → Option (Int32 × ((Nat → Int32)) × ((Nat → Int32)))
  | 0, _, _, _, _ => none
  | n + 1, ga0, ga3, x5, x6 =>
  if gs ≤ x6 then
    some (x5, ga0, ga3)
  else
    gck (ginb x6 10) <|
    gck (ginb (ga2 (Int32.toNatClampNeg x6)) 10) <|
    gnm (x5 + (ga0 (Int32.toNatClampNeg (ga2 (Int32.toNatClampNeg x6))))) fun v_3 =>
    pX1_share_w1_181 F w1o5 w1h gs ga1 ga2 n ga0 ga3 v_3 (x6 + 1)


def pX1_share_w1_149 (F : gF) (w1o5 : Int32) (w1h : Nat) (gs : Int32) (ga1 : (Nat → Int32)) (ga2 : (Nat → Int32)) : Nat → ((Nat → Int32)) → ((Nat → Int32)) → Int32 → Int32 → Option (Int32 × ((Nat → Int32)) × ((Nat → Int32)))
  | 0, _, _, _, _ => none
  | n + 1, ga0, ga3, x4, x5 =>
  if x4 ≤ x5 then
    pX1_share_w1_181 F w1o5 w1h gs ga1 ga2 1000 ga0 ga3 0 0
  else
    gck (ginb x5 10) <|
    gck (ginb (ga3 (Int32.toNatClampNeg x5)) 10) <|
    gnm (upd ga0 (Int32.toNatClampNeg (ga3 (Int32.toNatClampNeg x5))) 1) fun f_3 =>
    pX1_share_w1_149 F w1o5 w1h gs ga1 ga2 n f_3 ga3 x4 (x5 + 1)


def pX1_share_w1_126 (F : gF) (w1o5 : Int32) (w1h : Nat) (gs : Int32) (ga1 : (Nat → Int32)) (ga2 : (Nat → Int32)) (ga0 : (Nat → Int32)) (ga3 : (Nat → Int32)) (x2 : Nat) (x4 : Int32) : Option (Int32 × ((Nat → Int32)) × ((Nat → Int32))) :=
  gck (chv F x2 = true) <|
  if ck F x2 = 0 then
    gbd (pX0_lineUp_k0 gs w1o5) fun z_9 =>
    pX1_share_w1_149 F w1o5 w1h gs ga1 ga2 1000 ga0 ga3 x4 0
  else
  if ck F x2 = 1 then
    gbd (pX0_lineUp_k1 gs w1o5) fun z_10 =>
    pX1_share_w1_149 F w1o5 w1h gs ga1 ga2 1000 ga0 ga3 x4 0
  else
  if ck F x2 = 2 then
    gbd (pX9_lineUp_k2 ga2 ga3 gs w1o5) fun z_11 =>
    pX1_share_w1_149 F w1o5 w1h gs ga1 ga2 1000 ga0 z_11 x4 0
  else
  if ck F x2 = 3 then
    gbd (pX0_lineUp_k3 gs w1o5) fun z_12 =>
    pX1_share_w1_149 F w1o5 w1h gs ga1 ga2 1000 ga0 ga3 x4 0
  else
  if ck F x2 = 4 then
    gbd (pX0_lineUp_k4 gs w1o5) fun z_13 =>
    pX1_share_w1_149 F w1o5 w1h gs ga1 ga2 1000 ga0 ga3 x4 0
  else
  if ck F x2 = 5 then
    gbd (pX3_lineUp_k5 F x2 ga2 ga3 gs w1o5) fun z_14 =>
    pX1_share_w1_149 F w1o5 w1h gs ga1 ga2 1000 ga0 z_14 x4 0
  else
  gbd (pX0_lineUp_k6 gs w1o5) fun z_15 =>
  pX1_share_w1_149 F w1o5 w1h gs ga1 ga2 1000 ga0 ga3 x4 0


def pX1_share_w1_89 (F : gF) (k47 : (Nat → Int32) → (Nat → Int32) → Nat → Int32 → Int32 → Int32 → Option (Int32 × ((Nat → Int32)) × ((Nat → Int32)))) (w1o5 : Int32) (w1h : Nat) (gs : Int32) (ga1 : (Nat → Int32)) (ga2 : (Nat → Int32)) (ga0 : (Nat → Int32)) (ga3 : (Nat → Int32)) (x2 : Nat) (x3 : Int32) (x4 : Int32) (x5 : Int32) (x6 : Int32) (y0 : Int32) : Option (Int32 × ((Nat → Int32)) × ((Nat → Int32))) :=
  gck (ginb x5 10) <|
  if x6 = 5 then
    if y0 = 0 then
      gck (ginb (ga3 (Int32.toNatClampNeg x5)) 10) <|
      gnm (upd ga0 (Int32.toNatClampNeg (ga3 (Int32.toNatClampNeg x5))) 4) fun f_7 =>
      k47 f_7 ga3 x2 x3 x4 (x5 + 1)
    else
      gck (ginb (ga3 (Int32.toNatClampNeg x5)) 10) <|
      gnm (upd ga0 (Int32.toNatClampNeg (ga3 (Int32.toNatClampNeg x5))) x6) fun f_5 =>
      k47 f_5 ga3 x2 x3 x4 (x5 + 1)
  else
    gck (ginb (ga3 (Int32.toNatClampNeg x5)) 10) <|
    gnm (upd ga0 (Int32.toNatClampNeg (ga3 (Int32.toNatClampNeg x5))) x6) fun f_3 =>
    k47 f_3 ga3 x2 x3 x4 (x5 + 1)


def pX1_share_w1_47 (F : gF) (w1o5 : Int32) (w1h : Nat) (gs : Int32) (ga1 : (Nat → Int32)) (ga2 : (Nat → Int32)) : Nat → ((Nat → Int32)) → ((Nat → Int32)) → Nat → Int32 → Int32 → Int32 → Option (Int32 × ((Nat → Int32)) × ((Nat → Int32)))
  | 0, _, _, _, _, _, _ => none
  | n + 1, ga0, ga3, x2, x3, x4, x5 =>
  if gs ≤ x5 then
    pX1_share_w1_126 F w1o5 w1h gs ga1 ga2 ga0 ga3 x2 x4
  else
    gck (ginb x5 10) <|
    gck (ginb (ga3 (Int32.toNatClampNeg x5)) 10) <|
    gbd (pX1_byMark (ga1 (Int32.toNatClampNeg (ga3 (Int32.toNatClampNeg x5))))) fun z_3 =>
    if x5 < (gs - x3) then
      pX1_share_w1_89 F (pX1_share_w1_47 F w1o5 w1h gs ga1 ga2 n) w1o5 w1h gs ga1 ga2 ga0 ga3 x2 x3 x4 x5 z_3 0
    else
      pX1_share_w1_89 F (pX1_share_w1_47 F w1o5 w1h gs ga1 ga2 n) w1o5 w1h gs ga1 ga2 ga0 ga3 x2 x3 x4 x5 z_3 1


def pX1_share_w1 (F : gF) (w1o5 : Int32) (w1h : Nat) (gs : Int32) (ga1 : (Nat → Int32)) (ga2 : (Nat → Int32)) (ga0 : (Nat → Int32)) (ga3 : (Nat → Int32)) (x2 : Nat) : Option (Int32 × ((Nat → Int32)) × ((Nat → Int32))) :=
  gck (hsv F w1h = true) <|
  gnm (((hI F w1h 0) * gs) / 10) fun v_3 =>
  gnm (if (((hI F w1h 1) * gs) / 10) < gs then (((hI F w1h 1) * gs) / 10) else gs) fun v_5 =>
  gbd (pX1_rank gs ga1 ga2 ga3) fun z_6 =>
  pX1_share_w1_47 F w1o5 w1h gs ga1 ga2 1000 ga0 z_6 x2 v_3 v_5 0


def pX1_gradeTeam_w1 (F : gF) (w1o0 : Int32) (w1o5 : Int32) (w1a8 : (Nat → Int32)) (w1a9 : (Nat → Int32)) (w1a10 : (Nat → Int32)) (w1a11 : (Nat → Int32)) (w1h : Nat) (gs : Int32) (ga0 : (Nat → Int32)) (ga1 : (Nat → Int32)) (ga2 : (Nat → Int32)) (ga3 : (Nat → Int32)) (ga5 : (Nat → Int32)) (x2 : Nat) : Option (Int32 × Int32 × ((Nat → Int32)) × ((Nat → Int32)) × ((Nat → Int32)) × ((Nat → Int32)) × ((Nat → Int32))) :=
  gck (chv F x2 = true) <|
  gbd (pX10_teamBits_w1 w1o0 w1a10 (cn F x2)) fun z_2 =>
  gbd (pX1_gather gs ga2 z_2) fun z_3 =>
  gbd (pX1_markTeam_w1 F w1o0 w1o5 w1a8 w1a9 w1a10 w1a11 w1h z_3.1 z_3.2 ga1 ga5 x2) fun z_4 =>
  gbd (pX1_share_w1 F w1o5 w1h z_3.1 z_4.1 z_3.2 ga0 ga3 x2) fun z_5 =>
  some (z_5.1, z_3.1, z_5.2.1, z_4.1, z_3.2, z_5.2.2, z_4.2)


def pX1_gradeHad_w1 (F : gF) (w1o0 : Int32) (w1o1 : Int32) (w1o5 : Int32) (w1a8 : (Nat → Int32)) (w1a9 : (Nat → Int32)) (w1a10 : (Nat → Int32)) (w1a11 : (Nat → Int32)) (w1h : Nat) (w1c : (Nat → Option Nat)) (gs : Int32) (ga0 : (Nat → Int32)) (ga1 : (Nat → Int32)) (ga2 : (Nat → Int32)) (ga3 : (Nat → Int32)) (ga5 : (Nat → Int32)) (x2 : Int32) : Option (Int32 × Int32 × ((Nat → Int32)) × ((Nat → Int32)) × ((Nat → Int32)) × ((Nat → Int32)) × ((Nat → Int32))) :=
  gbd (pX10_hasWorker_w1 w1o0 x2) fun z_1 =>
  if z_1 = 0 then
    some (0, gs, ga0, ga1, ga2, ga3, ga5)
  else
    gck (ginb x2 10) <|
    gbd (pX10_chiefAt_w1 w1o1 w1c (w1a10 (Int32.toNatClampNeg x2))) fun z_3 =>
    gmt z_3 (
      some (0, gs, ga0, ga1, ga2, ga3, ga5)
    ) fun b_z3 =>
      gbd (pX1_gradeTeam_w1 F w1o0 w1o5 w1a8 w1a9 w1a10 w1a11 w1h gs ga0 ga1 ga2 ga3 ga5 b_z3) fun z_4 =>
      gck (ginb x2 10) <|
      some ((z_4.2.2.1 (Int32.toNatClampNeg x2)), z_4.2.1, z_4.2.2.1, z_4.2.2.2.1, z_4.2.2.2.2.1, z_4.2.2.2.2.2.1, z_4.2.2.2.2.2.2)


def pX11_gradeUnder (F : gF) (w0o0 : Int32) (w0o1 : Int32) (w0o2 : Int32) (w0o3 : Int32) (w0o4 : Int32) (w0o5 : Int32) (w0o6 : Int32) (w0o7 : Int32) (w0a8 : (Nat → Int32)) (w0a9 : (Nat → Int32)) (w0a10 : (Nat → Int32)) (w0a11 : (Nat → Int32)) (w0a12 : (Nat → Int32)) (w0a14 : (Nat → Int32)) (w0a15 : (Nat → Int32)) (w0a16 : (Nat → Int32)) (w0a17 : (Nat → Int32)) (w0h : Nat) (w0c : (Nat → Option Nat)) (w1o0 : Int32) (w1o1 : Int32) (w1o2 : Int32) (w1o3 : Int32) (w1o4 : Int32) (w1o5 : Int32) (w1o6 : Int32) (w1o7 : Int32) (w1a8 : (Nat → Int32)) (w1a9 : (Nat → Int32)) (w1a10 : (Nat → Int32)) (w1a11 : (Nat → Int32)) (w1a12 : (Nat → Int32)) (w1a14 : (Nat → Int32)) (w1a15 : (Nat → Int32)) (w1a16 : (Nat → Int32)) (w1a17 : (Nat → Int32)) (w1h : Nat) (w1c : (Nat → Option Nat)) (gs : Int32) (ga0 : (Nat → Int32)) (ga1 : (Nat → Int32)) (ga2 : (Nat → Int32)) (ga3 : (Nat → Int32)) (ga5 : (Nat → Int32)) (x1 : Int32) (x2 : Nat) : Option (Int32 × Int32 × Int32 × Int32 × Int32 × Int32 × Int32 × Int32 × Int32 × ((Nat → Int32)) × ((Nat → Int32)) × ((Nat → Int32)) × ((Nat → Int32)) × ((Nat → Int32)) × ((Nat → Int32)) × ((Nat → Int32)) × ((Nat → Int32)) × ((Nat → Int32)) × Nat × ((Nat → Option Nat)) × Int32 × ((Nat → Int32)) × ((Nat → Int32)) × ((Nat → Int32)) × ((Nat → Int32)) × ((Nat → Int32))) :=
  gbd (pX10_become_w1_w0 F w0o0 w0o1 w0o2 w0o3 w0o4 w0o5 w0o6 w0o7 w0a8 w0a9 w0a10 w0a11 w0a12 w0a14 w0a15 w0a16 w0a17 w0h w0c w1o0 w1o1 w1o2 w1o3 w1o4 w1o5 w1o6 w1o7 w1a8 w1a9 w1a10 w1a11 w1a12 w1a14 w1a15 w1a16 w1a17 w1h w1c) fun z_1 =>
  gck (chv F x2 = true) <|
  gck (ginb x1 10) <|
  gnm (upd z_1.2.2.2.2.2.2.2.2.2.2.1 (Int32.toNatClampNeg x1) (cn F x2)) fun f_4 =>
  gbd (pX1_gradeHad_w1 F z_1.1 z_1.2.1 z_1.2.2.2.2.2.1 z_1.2.2.2.2.2.2.2.2.1 z_1.2.2.2.2.2.2.2.2.2.1 f_4 z_1.2.2.2.2.2.2.2.2.2.2.2.1 z_1.2.2.2.2.2.2.2.2.2.2.2.2.2.2.2.2.2.1 z_1.2.2.2.2.2.2.2.2.2.2.2.2.2.2.2.2.2.2 gs ga0 ga1 ga2 ga3 ga5 x1) fun z_5 =>
  some (z_5.1, z_1.1, z_1.2.1, z_1.2.2.1, z_1.2.2.2.1, z_1.2.2.2.2.1, z_1.2.2.2.2.2.1, z_1.2.2.2.2.2.2.1, z_1.2.2.2.2.2.2.2.1, z_1.2.2.2.2.2.2.2.2.1, z_1.2.2.2.2.2.2.2.2.2.1, f_4, z_1.2.2.2.2.2.2.2.2.2.2.2.1, z_1.2.2.2.2.2.2.2.2.2.2.2.2.1, z_1.2.2.2.2.2.2.2.2.2.2.2.2.2.1, z_1.2.2.2.2.2.2.2.2.2.2.2.2.2.2.1, z_1.2.2.2.2.2.2.2.2.2.2.2.2.2.2.2.1, z_1.2.2.2.2.2.2.2.2.2.2.2.2.2.2.2.2.1, z_1.2.2.2.2.2.2.2.2.2.2.2.2.2.2.2.2.2.1, z_1.2.2.2.2.2.2.2.2.2.2.2.2.2.2.2.2.2.2, z_5.2.1, z_5.2.2.1, z_5.2.2.2.1, z_5.2.2.2.2.1, z_5.2.2.2.2.2.1, z_5.2.2.2.2.2.2)


def pX11_moved (F : gF) (w0o0 : Int32) (w0o1 : Int32) (w0o2 : Int32) (w0o3 : Int32) (w0o4 : Int32) (w0o5 : Int32) (w0o6 : Int32) (w0o7 : Int32) (w0a8 : (Nat → Int32)) (w0a9 : (Nat → Int32)) (w0a10 : (Nat → Int32)) (w0a11 : (Nat → Int32)) (w0a12 : (Nat → Int32)) (w0a14 : (Nat → Int32)) (w0a15 : (Nat → Int32)) (w0a16 : (Nat → Int32)) (w0a17 : (Nat → Int32)) (w0h : Nat) (w0c : (Nat → Option Nat)) (w1o0 : Int32) (w1o1 : Int32) (w1o2 : Int32) (w1o3 : Int32) (w1o4 : Int32) (w1o5 : Int32) (w1o6 : Int32) (w1o7 : Int32) (w1a8 : (Nat → Int32)) (w1a9 : (Nat → Int32)) (w1a10 : (Nat → Int32)) (w1a11 : (Nat → Int32)) (w1a12 : (Nat → Int32)) (w1a14 : (Nat → Int32)) (w1a15 : (Nat → Int32)) (w1a16 : (Nat → Int32)) (w1a17 : (Nat → Int32)) (w1h : Nat) (w1c : (Nat → Option Nat)) (gs : Int32) (ga0 : (Nat → Int32)) (ga1 : (Nat → Int32)) (ga2 : (Nat → Int32)) (ga3 : (Nat → Int32)) (ga5 : (Nat → Int32)) (x1 : Int32) (x2 : Int32) : Option (Int32 × Int32 × Int32 × Int32 × Int32 × Int32 × Int32 × Int32 × Int32 × ((Nat → Int32)) × ((Nat → Int32)) × ((Nat → Int32)) × ((Nat → Int32)) × ((Nat → Int32)) × ((Nat → Int32)) × ((Nat → Int32)) × ((Nat → Int32)) × ((Nat → Int32)) × Nat × ((Nat → Option Nat)) × Int32 × ((Nat → Int32)) × ((Nat → Int32)) × ((Nat → Int32)) × ((Nat → Int32)) × ((Nat → Int32))) :=
  gbd (pX10_chiefAt_w0 w0o1 w0c x2) fun z_1 =>
  gmt z_1 (
    gbd (pX10_hasWorker_w0 w0o0 x1) fun z_2 =>
    if z_2 = 0 then
      some ((-1), w1o0, w1o1, w1o2, w1o3, w1o4, w1o5, w1o6, w1o7, w1a8, w1a9, w1a10, w1a11, w1a12, w1a14, w1a15, w1a16, w1a17, w1h, w1c, gs, ga0, ga1, ga2, ga3, ga5)
    else
      some ((-1), w1o0, w1o1, w1o2, w1o3, w1o4, w1o5, w1o6, w1o7, w1a8, w1a9, w1a10, w1a11, w1a12, w1a14, w1a15, w1a16, w1a17, w1h, w1c, gs, ga0, ga1, ga2, ga3, ga5)
  ) fun b_z1 =>
    gbd (pX10_hasWorker_w0 w0o0 x1) fun z_3 =>
    if z_3 = 0 then
      some ((-1), w1o0, w1o1, w1o2, w1o3, w1o4, w1o5, w1o6, w1o7, w1a8, w1a9, w1a10, w1a11, w1a12, w1a14, w1a15, w1a16, w1a17, w1h, w1c, gs, ga0, ga1, ga2, ga3, ga5)
    else
      gbd (pX11_gradeUnder F w0o0 w0o1 w0o2 w0o3 w0o4 w0o5 w0o6 w0o7 w0a8 w0a9 w0a10 w0a11 w0a12 w0a14 w0a15 w0a16 w0a17 w0h w0c w1o0 w1o1 w1o2 w1o3 w1o4 w1o5 w1o6 w1o7 w1a8 w1a9 w1a10 w1a11 w1a12 w1a14 w1a15 w1a16 w1a17 w1h w1c gs ga0 ga1 ga2 ga3 ga5 x1 b_z1) fun z_4 =>
      some (z_4.1, z_4.2.1, z_4.2.2.1, z_4.2.2.2.1, z_4.2.2.2.2.1, z_4.2.2.2.2.2.1, z_4.2.2.2.2.2.2.1, z_4.2.2.2.2.2.2.2.1, z_4.2.2.2.2.2.2.2.2.1, z_4.2.2.2.2.2.2.2.2.2.1, z_4.2.2.2.2.2.2.2.2.2.2.1, z_4.2.2.2.2.2.2.2.2.2.2.2.1, z_4.2.2.2.2.2.2.2.2.2.2.2.2.1, z_4.2.2.2.2.2.2.2.2.2.2.2.2.2.1, z_4.2.2.2.2.2.2.2.2.2.2.2.2.2.2.1, z_4.2.2.2.2.2.2.2.2.2.2.2.2.2.2.2.1, z_4.2.2.2.2.2.2.2.2.2.2.2.2.2.2.2.2.1, z_4.2.2.2.2.2.2.2.2.2.2.2.2.2.2.2.2.2.1, z_4.2.2.2.2.2.2.2.2.2.2.2.2.2.2.2.2.2.2.1, z_4.2.2.2.2.2.2.2.2.2.2.2.2.2.2.2.2.2.2.2.1, z_4.2.2.2.2.2.2.2.2.2.2.2.2.2.2.2.2.2.2.2.2.1, z_4.2.2.2.2.2.2.2.2.2.2.2.2.2.2.2.2.2.2.2.2.2.1, z_4.2.2.2.2.2.2.2.2.2.2.2.2.2.2.2.2.2.2.2.2.2.2.1, z_4.2.2.2.2.2.2.2.2.2.2.2.2.2.2.2.2.2.2.2.2.2.2.2.1, z_4.2.2.2.2.2.2.2.2.2.2.2.2.2.2.2.2.2.2.2.2.2.2.2.2.1, z_4.2.2.2.2.2.2.2.2.2.2.2.2.2.2.2.2.2.2.2.2.2.2.2.2.2)


def pX11_best_30 (F : gF) (w0o0 : Int32) (w0o1 : Int32) (w0o2 : Int32) (w0o3 : Int32) (w0o4 : Int32) (w0o5 : Int32) (w0o6 : Int32) (w0o7 : Int32) (w0a8 : (Nat → Int32)) (w0a9 : (Nat → Int32)) (w0a10 : (Nat → Int32)) (w0a11 : (Nat → Int32)) (w0a12 : (Nat → Int32)) (w0a14 : (Nat → Int32)) (w0a15 : (Nat → Int32)) (w0a16 : (Nat → Int32)) (w0a17 : (Nat → Int32)) (w0h : Nat) (w0c : (Nat → Option Nat)) : Nat → Int32 → Int32 → Int32 → Int32 → Int32 → Int32 → Int32 → Int32 → ((Nat → Int32)) → ((Nat → Int32)) → ((Nat → Int32)) → ((Nat → Int32)) → ((Nat → Int32)) → ((Nat → Int32)) → ((Nat → Int32)) → ((Nat → Int32)) → ((Nat → Int32)) → Nat → ((Nat → Option Nat)) → Int32 → ((Nat → Int32)) → ((Nat → Int32)) → ((Nat → Int32)) → ((Nat → Int32)) → ((Nat → Int32)) → Int32 → Int32 → Int32 → Int32 → Int32 → Option (Int32 × Int32 × Int32 × Int32 × Int32 × Int32 × Int32 × Int32 × Int32 × ((Nat → Int32)) × ((Nat → Int32)) × ((Nat → Int32)) × ((Nat → Int32)) × ((Nat → Int32)) × ((Nat → Int32)) × ((Nat → Int32)) × ((Nat → Int32)) × ((Nat → Int32)) × Nat × ((Nat → Option Nat)) × Int32 × ((Nat → Int32)) × ((Nat → Int32)) × ((Nat → Int32)) × ((Nat → Int32)) × ((Nat → Int32)))
  | 0, _, _, _, _, _, _, _, _, _, _, _, _, _, _, _, _, _, _, _, _, _, _, _, _, _, _, _, _, _, _ => none
  | n + 1, w1o0, w1o1, w1o2, w1o3, w1o4, w1o5, w1o6, w1o7, w1a8, w1a9, w1a10, w1a11, w1a12, w1a14, w1a15, w1a16, w1a17, w1h, w1c, gs, ga0, ga1, ga2, ga3, ga5, x1, x2, x3, x4, x5 =>
  if 4 ≤ x5 then
    if x2 = 0 then
      some (x3, w1o0, w1o1, w1o2, w1o3, w1o4, w1o5, w1o6, w1o7, w1a8, w1a9, w1a10, w1a11, w1a12, w1a14, w1a15, w1a16, w1a17, w1h, w1c, gs, ga0, ga1, ga2, ga3, ga5)
    else
      some (x4, w1o0, w1o1, w1o2, w1o3, w1o4, w1o5, w1o6, w1o7, w1a8, w1a9, w1a10, w1a11, w1a12, w1a14, w1a15, w1a16, w1a17, w1h, w1c, gs, ga0, ga1, ga2, ga3, ga5)
  else
    gbd (pX10_chiefAt_w0 w0o1 w0c x5) fun z_1 =>
    gmt z_1 (
      if (-1) ≤ x4 then
        pX11_best_30 F w0o0 w0o1 w0o2 w0o3 w0o4 w0o5 w0o6 w0o7 w0a8 w0a9 w0a10 w0a11 w0a12 w0a14 w0a15 w0a16 w0a17 w0h w0c n w1o0 w1o1 w1o2 w1o3 w1o4 w1o5 w1o6 w1o7 w1a8 w1a9 w1a10 w1a11 w1a12 w1a14 w1a15 w1a16 w1a17 w1h w1c gs ga0 ga1 ga2 ga3 ga5 x1 x2 x3 x4 (x5 + 1)
      else
        pX11_best_30 F w0o0 w0o1 w0o2 w0o3 w0o4 w0o5 w0o6 w0o7 w0a8 w0a9 w0a10 w0a11 w0a12 w0a14 w0a15 w0a16 w0a17 w0h w0c n w1o0 w1o1 w1o2 w1o3 w1o4 w1o5 w1o6 w1o7 w1a8 w1a9 w1a10 w1a11 w1a12 w1a14 w1a15 w1a16 w1a17 w1h w1c gs ga0 ga1 ga2 ga3 ga5 x1 x2 x5 (-1) (x5 + 1)
    ) fun b_z1 =>
      gbd (pX11_gradeUnder F w0o0 w0o1 w0o2 w0o3 w0o4 w0o5 w0o6 w0o7 w0a8 w0a9 w0a10 w0a11 w0a12 w0a14 w0a15 w0a16 w0a17 w0h w0c w1o0 w1o1 w1o2 w1o3 w1o4 w1o5 w1o6 w1o7 w1a8 w1a9 w1a10 w1a11 w1a12 w1a14 w1a15 w1a16 w1a17 w1h w1c gs ga0 ga1 ga2 ga3 ga5 x1 b_z1) fun z_2 =>
      gnm z_2.1 fun v_3 =>
      if v_3 ≤ x4 then
        pX11_best_30 F w0o0 w0o1 w0o2 w0o3 w0o4 w0o5 w0o6 w0o7 w0a8 w0a9 w0a10 w0a11 w0a12 w0a14 w0a15 w0a16 w0a17 w0h w0c n z_2.2.1 z_2.2.2.1 z_2.2.2.2.1 z_2.2.2.2.2.1 z_2.2.2.2.2.2.1 z_2.2.2.2.2.2.2.1 z_2.2.2.2.2.2.2.2.1 z_2.2.2.2.2.2.2.2.2.1 z_2.2.2.2.2.2.2.2.2.2.1 z_2.2.2.2.2.2.2.2.2.2.2.1 z_2.2.2.2.2.2.2.2.2.2.2.2.1 z_2.2.2.2.2.2.2.2.2.2.2.2.2.1 z_2.2.2.2.2.2.2.2.2.2.2.2.2.2.1 z_2.2.2.2.2.2.2.2.2.2.2.2.2.2.2.1 z_2.2.2.2.2.2.2.2.2.2.2.2.2.2.2.2.1 z_2.2.2.2.2.2.2.2.2.2.2.2.2.2.2.2.2.1 z_2.2.2.2.2.2.2.2.2.2.2.2.2.2.2.2.2.2.1 z_2.2.2.2.2.2.2.2.2.2.2.2.2.2.2.2.2.2.2.1 z_2.2.2.2.2.2.2.2.2.2.2.2.2.2.2.2.2.2.2.2.1 z_2.2.2.2.2.2.2.2.2.2.2.2.2.2.2.2.2.2.2.2.2.1 z_2.2.2.2.2.2.2.2.2.2.2.2.2.2.2.2.2.2.2.2.2.2.1 z_2.2.2.2.2.2.2.2.2.2.2.2.2.2.2.2.2.2.2.2.2.2.2.1 z_2.2.2.2.2.2.2.2.2.2.2.2.2.2.2.2.2.2.2.2.2.2.2.2.1 z_2.2.2.2.2.2.2.2.2.2.2.2.2.2.2.2.2.2.2.2.2.2.2.2.2.1 z_2.2.2.2.2.2.2.2.2.2.2.2.2.2.2.2.2.2.2.2.2.2.2.2.2.2 x1 x2 x3 x4 (x5 + 1)
      else
        pX11_best_30 F w0o0 w0o1 w0o2 w0o3 w0o4 w0o5 w0o6 w0o7 w0a8 w0a9 w0a10 w0a11 w0a12 w0a14 w0a15 w0a16 w0a17 w0h w0c n z_2.2.1 z_2.2.2.1 z_2.2.2.2.1 z_2.2.2.2.2.1 z_2.2.2.2.2.2.1 z_2.2.2.2.2.2.2.1 z_2.2.2.2.2.2.2.2.1 z_2.2.2.2.2.2.2.2.2.1 z_2.2.2.2.2.2.2.2.2.2.1 z_2.2.2.2.2.2.2.2.2.2.2.1 z_2.2.2.2.2.2.2.2.2.2.2.2.1 z_2.2.2.2.2.2.2.2.2.2.2.2.2.1 z_2.2.2.2.2.2.2.2.2.2.2.2.2.2.1 z_2.2.2.2.2.2.2.2.2.2.2.2.2.2.2.1 z_2.2.2.2.2.2.2.2.2.2.2.2.2.2.2.2.1 z_2.2.2.2.2.2.2.2.2.2.2.2.2.2.2.2.2.1 z_2.2.2.2.2.2.2.2.2.2.2.2.2.2.2.2.2.2.1 z_2.2.2.2.2.2.2.2.2.2.2.2.2.2.2.2.2.2.2.1 z_2.2.2.2.2.2.2.2.2.2.2.2.2.2.2.2.2.2.2.2.1 z_2.2.2.2.2.2.2.2.2.2.2.2.2.2.2.2.2.2.2.2.2.1 z_2.2.2.2.2.2.2.2.2.2.2.2.2.2.2.2.2.2.2.2.2.2.1 z_2.2.2.2.2.2.2.2.2.2.2.2.2.2.2.2.2.2.2.2.2.2.2.1 z_2.2.2.2.2.2.2.2.2.2.2.2.2.2.2.2.2.2.2.2.2.2.2.2.1 z_2.2.2.2.2.2.2.2.2.2.2.2.2.2.2.2.2.2.2.2.2.2.2.2.2.1 z_2.2.2.2.2.2.2.2.2.2.2.2.2.2.2.2.2.2.2.2.2.2.2.2.2.2 x1 x2 x5 v_3 (x5 + 1)


def pX11_best (F : gF) (w0o0 : Int32) (w0o1 : Int32) (w0o2 : Int32) (w0o3 : Int32) (w0o4 : Int32) (w0o5 : Int32) (w0o6 : Int32) (w0o7 : Int32) (w0a8 : (Nat → Int32)) (w0a9 : (Nat → Int32)) (w0a10 : (Nat → Int32)) (w0a11 : (Nat → Int32)) (w0a12 : (Nat → Int32)) (w0a14 : (Nat → Int32)) (w0a15 : (Nat → Int32)) (w0a16 : (Nat → Int32)) (w0a17 : (Nat → Int32)) (w0h : Nat) (w0c : (Nat → Option Nat)) (w1o0 : Int32) (w1o1 : Int32) (w1o2 : Int32) (w1o3 : Int32) (w1o4 : Int32) (w1o5 : Int32) (w1o6 : Int32) (w1o7 : Int32) (w1a8 : (Nat → Int32)) (w1a9 : (Nat → Int32)) (w1a10 : (Nat → Int32)) (w1a11 : (Nat → Int32)) (w1a12 : (Nat → Int32)) (w1a14 : (Nat → Int32)) (w1a15 : (Nat → Int32)) (w1a16 : (Nat → Int32)) (w1a17 : (Nat → Int32)) (w1h : Nat) (w1c : (Nat → Option Nat)) (gs : Int32) (ga0 : (Nat → Int32)) (ga1 : (Nat → Int32)) (ga2 : (Nat → Int32)) (ga3 : (Nat → Int32)) (ga5 : (Nat → Int32)) (x1 : Int32) (x2 : Int32) : Option (Int32 × Int32 × Int32 × Int32 × Int32 × Int32 × Int32 × Int32 × Int32 × ((Nat → Int32)) × ((Nat → Int32)) × ((Nat → Int32)) × ((Nat → Int32)) × ((Nat → Int32)) × ((Nat → Int32)) × ((Nat → Int32)) × ((Nat → Int32)) × ((Nat → Int32)) × Nat × ((Nat → Option Nat)) × Int32 × ((Nat → Int32)) × ((Nat → Int32)) × ((Nat → Int32)) × ((Nat → Int32)) × ((Nat → Int32))) :=
  gbd (pX10_hasWorker_w0 w0o0 x1) fun z_1 =>
  if z_1 = 0 then
    some ((-1), w1o0, w1o1, w1o2, w1o3, w1o4, w1o5, w1o6, w1o7, w1a8, w1a9, w1a10, w1a11, w1a12, w1a14, w1a15, w1a16, w1a17, w1h, w1c, gs, ga0, ga1, ga2, ga3, ga5)
  else
    if x2 < 0 then
      some ((-1), w1o0, w1o1, w1o2, w1o3, w1o4, w1o5, w1o6, w1o7, w1a8, w1a9, w1a10, w1a11, w1a12, w1a14, w1a15, w1a16, w1a17, w1h, w1c, gs, ga0, ga1, ga2, ga3, ga5)
    else
      if x2 ≤ 1 then
        pX11_best_30 F w0o0 w0o1 w0o2 w0o3 w0o4 w0o5 w0o6 w0o7 w0a8 w0a9 w0a10 w0a11 w0a12 w0a14 w0a15 w0a16 w0a17 w0h w0c 1000 w1o0 w1o1 w1o2 w1o3 w1o4 w1o5 w1o6 w1o7 w1a8 w1a9 w1a10 w1a11 w1a12 w1a14 w1a15 w1a16 w1a17 w1h w1c gs ga0 ga1 ga2 ga3 ga5 x1 x2 (-1) (-1) 0
      else
        some ((-1), w1o0, w1o1, w1o2, w1o3, w1o4, w1o5, w1o6, w1o7, w1a8, w1a9, w1a10, w1a11, w1a12, w1a14, w1a15, w1a16, w1a17, w1h, w1c, gs, ga0, ga1, ga2, ga3, ga5)


def pX10_exchange_w1 (w1a10 : (Nat → Int32)) (w1a11 : (Nat → Int32)) (x1 : Int32) (x2 : Int32) : Option (((Nat → Int32)) × ((Nat → Int32))) :=
  gck (ginb x1 10) <|
  gnm (w1a10 (Int32.toNatClampNeg x1)) fun v_2 =>
  gck (ginb x1 10) <|
  gnm (w1a11 (Int32.toNatClampNeg x1)) fun v_4 =>
  gck (ginb x2 10) <|
  gck (ginb x1 10) <|
  gnm (upd w1a10 (Int32.toNatClampNeg x1) (w1a10 (Int32.toNatClampNeg x2))) fun f_7 =>
  gck (ginb x2 10) <|
  gck (ginb x1 10) <|
  gnm (upd w1a11 (Int32.toNatClampNeg x1) (w1a11 (Int32.toNatClampNeg x2))) fun f_10 =>
  gck (ginb x2 10) <|
  gnm (upd f_7 (Int32.toNatClampNeg x2) v_2) fun f_12 =>
  gck (ginb x2 10) <|
  gnm (upd f_10 (Int32.toNatClampNeg x2) v_4) fun f_14 =>
  some (f_12, f_14)


def pX11_bothGain (F : gF) (w1o0 : Int32) (w1o1 : Int32) (w1o5 : Int32) (w1a8 : (Nat → Int32)) (w1a9 : (Nat → Int32)) (w1h : Nat) (w1c : (Nat → Option Nat)) (bf : (Nat → Int32)) (w1a10 : (Nat → Int32)) (w1a11 : (Nat → Int32)) (gs : Int32) (ga0 : (Nat → Int32)) (ga1 : (Nat → Int32)) (ga2 : (Nat → Int32)) (ga3 : (Nat → Int32)) (ga5 : (Nat → Int32)) (x1 : Int32) (x2 : Int32) : Option (Int32 × ((Nat → Int32)) × ((Nat → Int32)) × Int32 × ((Nat → Int32)) × ((Nat → Int32)) × ((Nat → Int32)) × ((Nat → Int32)) × ((Nat → Int32))) :=
  gbd (pX10_hasWorker_w1 w1o0 x1) fun z_1 =>
  if z_1 = 0 then
    some (0, w1a10, w1a11, gs, ga0, ga1, ga2, ga3, ga5)
  else
    gbd (pX10_hasWorker_w1 w1o0 x2) fun z_2 =>
    if z_2 = 0 then
      some (0, w1a10, w1a11, gs, ga0, ga1, ga2, ga3, ga5)
    else
      gck (ginb x1 10) <|
      gck (ginb x2 10) <|
      if (w1a10 (Int32.toNatClampNeg x1)) = (w1a10 (Int32.toNatClampNeg x2)) then
        some (0, w1a10, w1a11, gs, ga0, ga1, ga2, ga3, ga5)
      else
        gbd (pX10_exchange_w1 w1a10 w1a11 x1 x2) fun z_5 =>
        gbd (pX1_gradeHad_w1 F w1o0 w1o1 w1o5 w1a8 w1a9 z_5.1 z_5.2 w1h w1c gs ga0 ga1 ga2 ga3 ga5 x1) fun z_6 =>
        gck (ginb x1 10) <|
        if z_6.1 ≤ (bf (Int32.toNatClampNeg x1)) then
          gbd (pX10_exchange_w1 z_5.1 z_5.2 x1 x2) fun z_8 =>
          some (0, z_8.1, z_8.2, z_6.2.1, z_6.2.2.1, z_6.2.2.2.1, z_6.2.2.2.2.1, z_6.2.2.2.2.2.1, z_6.2.2.2.2.2.2)
        else
          gbd (pX1_gradeHad_w1 F w1o0 w1o1 w1o5 w1a8 w1a9 z_5.1 z_5.2 w1h w1c z_6.2.1 z_6.2.2.1 z_6.2.2.2.1 z_6.2.2.2.2.1 z_6.2.2.2.2.2.1 z_6.2.2.2.2.2.2 x2) fun z_9 =>
          gck (ginb x2 10) <|
          if z_9.1 ≤ (bf (Int32.toNatClampNeg x2)) then
            gbd (pX10_exchange_w1 z_5.1 z_5.2 x1 x2) fun z_11 =>
            some (0, z_11.1, z_11.2, z_9.2.1, z_9.2.2.1, z_9.2.2.2.1, z_9.2.2.2.2.1, z_9.2.2.2.2.2.1, z_9.2.2.2.2.2.2)
          else
            gbd (pX10_exchange_w1 z_5.1 z_5.2 x1 x2) fun z_12 =>
            some (1, z_12.1, z_12.2, z_9.2.1, z_9.2.2.1, z_9.2.2.2.1, z_9.2.2.2.2.1, z_9.2.2.2.2.2.1, z_9.2.2.2.2.2.2)


def pX11_swap_72 (F : gF) (k59 : Int32 → Int32 → Int32 → Int32 → Int32 → Int32 → Int32 → Int32 → (Nat → Int32) → (Nat → Int32) → (Nat → Int32) → (Nat → Int32) → (Nat → Int32) → (Nat → Int32) → (Nat → Int32) → (Nat → Int32) → (Nat → Int32) → Nat → (Nat → Option Nat) → Int32 → (Nat → Int32) → (Nat → Int32) → (Nat → Int32) → (Nat → Int32) → (Nat → Int32) → (Nat → Int32) → Int32 → Int32 → Int32 → Int32 → Option (Int32 × Int32 × Int32 × Int32 × Int32 × Int32 × Int32 × Int32 × Int32 × ((Nat → Int32)) × ((Nat → Int32)) × ((Nat → Int32)) × ((Nat → Int32)) × ((Nat → Int32)) × ((Nat → Int32)) × ((Nat → Int32)) × ((Nat → Int32)) × ((Nat → Int32)) × Nat × ((Nat → Option Nat)) × Int32 × ((Nat → Int32)) × ((Nat → Int32)) × ((Nat → Int32)) × ((Nat → Int32)) × ((Nat → Int32)) × ((Nat → Int32)))) (w0o0 : Int32) (w0o1 : Int32) (w0o2 : Int32) (w0o3 : Int32) (w0o4 : Int32) (w0o5 : Int32) (w0o6 : Int32) (w0o7 : Int32) (w0a8 : (Nat → Int32)) (w0a9 : (Nat → Int32)) (w0a10 : (Nat → Int32)) (w0a11 : (Nat → Int32)) (w0a12 : (Nat → Int32)) (w0a14 : (Nat → Int32)) (w0a15 : (Nat → Int32)) (w0a16 : (Nat → Int32)) (w0a17 : (Nat → Int32)) (w0h : Nat) (w0c : (Nat → Option Nat)) : Nat → Int32 → Int32 → Int32 → Int32 → Int32 → Int32 → Int32 → Int32 → ((Nat → Int32)) → ((Nat → Int32)) → ((Nat → Int32)) → ((Nat → Int32)) → ((Nat → Int32)) → ((Nat → Int32)) → ((Nat → Int32)) → ((Nat → Int32)) → ((Nat → Int32)) → Nat → ((Nat → Option Nat)) → Int32 → ((Nat → Int32)) → ((Nat → Int32)) → ((Nat → Int32)) → ((Nat → Int32)) → ((Nat → Int32)) → ((Nat → Int32)) → Int32 → Int32 → Int32 → Int32 → Int32 → Option (Int32 × Int32 × Int32 × Int32 × Int32 × Int32 × Int32 × Int32 × Int32 × ((Nat → Int32)) × ((Nat → Int32)) × ((Nat → Int32)) × ((Nat → Int32)) × ((Nat → Int32)) × ((Nat → Int32)) × ((Nat → Int32)) × ((Nat → Int32)) × ((Nat → Int32)) × Nat × ((Nat → Option Nat)) × Int32 × ((Nat → Int32)) × ((Nat → Int32)) × ((Nat → Int32)) × ((Nat → Int32)) × ((Nat → Int32)) × ((Nat → Int32)))
  | 0, _, _, _, _, _, _, _, _, _, _, _, _, _, _, _, _, _, _, _, _, _, _, _, _, _, _, _, _, _, _, _ => none
  | n + 1, w1o0, w1o1, w1o2, w1o3, w1o4, w1o5, w1o6, w1o7, w1a8, w1a9, w1a10, w1a11, w1a12, w1a14, w1a15, w1a16, w1a17, w1h, w1c, gs, ga0, ga1, ga2, ga3, ga5, bf, x1, x2, x3, x4, x5 =>
  if 10 ≤ x5 then
    k59 w1o0 w1o1 w1o2 w1o3 w1o4 w1o5 w1o6 w1o7 w1a8 w1a9 w1a10 w1a11 w1a12 w1a14 w1a15 w1a16 w1a17 w1h w1c gs ga0 ga1 ga2 ga3 ga5 bf x1 x2 x3 (x4 + 1)
  else
    gbd (pX11_bothGain F w1o0 w1o1 w1o5 w1a8 w1a9 w1h w1c bf w1a10 w1a11 gs ga0 ga1 ga2 ga3 ga5 x4 x5) fun z_1 =>
    if z_1.1 = 0 then
      pX11_swap_72 F k59 w0o0 w0o1 w0o2 w0o3 w0o4 w0o5 w0o6 w0o7 w0a8 w0a9 w0a10 w0a11 w0a12 w0a14 w0a15 w0a16 w0a17 w0h w0c n w1o0 w1o1 w1o2 w1o3 w1o4 w1o5 w1o6 w1o7 w1a8 w1a9 z_1.2.1 z_1.2.2.1 w1a12 w1a14 w1a15 w1a16 w1a17 w1h w1c z_1.2.2.2.1 z_1.2.2.2.2.1 z_1.2.2.2.2.2.1 z_1.2.2.2.2.2.2.1 z_1.2.2.2.2.2.2.2.1 z_1.2.2.2.2.2.2.2.2 bf x1 x2 x3 x4 (x5 + 1)
    else
      if x2 = 0 then
        gnm ((10 * x4) + x5) fun v_2 =>
        pX11_swap_72 F k59 w0o0 w0o1 w0o2 w0o3 w0o4 w0o5 w0o6 w0o7 w0a8 w0a9 w0a10 w0a11 w0a12 w0a14 w0a15 w0a16 w0a17 w0h w0c n w1o0 w1o1 w1o2 w1o3 w1o4 w1o5 w1o6 w1o7 w1a8 w1a9 z_1.2.1 z_1.2.2.1 w1a12 w1a14 w1a15 w1a16 w1a17 w1h w1c z_1.2.2.2.1 z_1.2.2.2.2.1 z_1.2.2.2.2.2.1 z_1.2.2.2.2.2.2.1 z_1.2.2.2.2.2.2.2.1 z_1.2.2.2.2.2.2.2.2 bf x1 (x2 + 1) v_2 x4 (x5 + 1)
      else
        pX11_swap_72 F k59 w0o0 w0o1 w0o2 w0o3 w0o4 w0o5 w0o6 w0o7 w0a8 w0a9 w0a10 w0a11 w0a12 w0a14 w0a15 w0a16 w0a17 w0h w0c n w1o0 w1o1 w1o2 w1o3 w1o4 w1o5 w1o6 w1o7 w1a8 w1a9 z_1.2.1 z_1.2.2.1 w1a12 w1a14 w1a15 w1a16 w1a17 w1h w1c z_1.2.2.2.1 z_1.2.2.2.2.1 z_1.2.2.2.2.2.1 z_1.2.2.2.2.2.2.1 z_1.2.2.2.2.2.2.2.1 z_1.2.2.2.2.2.2.2.2 bf x1 (x2 + 1) x3 x4 (x5 + 1)


def pX11_swap_59 (F : gF) (w0o0 : Int32) (w0o1 : Int32) (w0o2 : Int32) (w0o3 : Int32) (w0o4 : Int32) (w0o5 : Int32) (w0o6 : Int32) (w0o7 : Int32) (w0a8 : (Nat → Int32)) (w0a9 : (Nat → Int32)) (w0a10 : (Nat → Int32)) (w0a11 : (Nat → Int32)) (w0a12 : (Nat → Int32)) (w0a14 : (Nat → Int32)) (w0a15 : (Nat → Int32)) (w0a16 : (Nat → Int32)) (w0a17 : (Nat → Int32)) (w0h : Nat) (w0c : (Nat → Option Nat)) : Nat → Int32 → Int32 → Int32 → Int32 → Int32 → Int32 → Int32 → Int32 → ((Nat → Int32)) → ((Nat → Int32)) → ((Nat → Int32)) → ((Nat → Int32)) → ((Nat → Int32)) → ((Nat → Int32)) → ((Nat → Int32)) → ((Nat → Int32)) → ((Nat → Int32)) → Nat → ((Nat → Option Nat)) → Int32 → ((Nat → Int32)) → ((Nat → Int32)) → ((Nat → Int32)) → ((Nat → Int32)) → ((Nat → Int32)) → ((Nat → Int32)) → Int32 → Int32 → Int32 → Int32 → Option (Int32 × Int32 × Int32 × Int32 × Int32 × Int32 × Int32 × Int32 × Int32 × ((Nat → Int32)) × ((Nat → Int32)) × ((Nat → Int32)) × ((Nat → Int32)) × ((Nat → Int32)) × ((Nat → Int32)) × ((Nat → Int32)) × ((Nat → Int32)) × ((Nat → Int32)) × Nat × ((Nat → Option Nat)) × Int32 × ((Nat → Int32)) × ((Nat → Int32)) × ((Nat → Int32)) × ((Nat → Int32)) × ((Nat → Int32)) × ((Nat → Int32)))
  | 0, _, _, _, _, _, _, _, _, _, _, _, _, _, _, _, _, _, _, _, _, _, _, _, _, _, _, _, _, _, _ => none
  | n + 1, w1o0, w1o1, w1o2, w1o3, w1o4, w1o5, w1o6, w1o7, w1a8, w1a9, w1a10, w1a11, w1a12, w1a14, w1a15, w1a16, w1a17, w1h, w1c, gs, ga0, ga1, ga2, ga3, ga5, bf, x1, x2, x3, x4 =>
  if 10 ≤ x4 then
    if x1 = 0 then
      some (x2, w1o0, w1o1, w1o2, w1o3, w1o4, w1o5, w1o6, w1o7, w1a8, w1a9, w1a10, w1a11, w1a12, w1a14, w1a15, w1a16, w1a17, w1h, w1c, gs, ga0, ga1, ga2, ga3, ga5, bf)
    else
      some (x3, w1o0, w1o1, w1o2, w1o3, w1o4, w1o5, w1o6, w1o7, w1a8, w1a9, w1a10, w1a11, w1a12, w1a14, w1a15, w1a16, w1a17, w1h, w1c, gs, ga0, ga1, ga2, ga3, ga5, bf)
  else
    gnm (x4 + 1) fun v_1 =>
    pX11_swap_72 F (pX11_swap_59 F w0o0 w0o1 w0o2 w0o3 w0o4 w0o5 w0o6 w0o7 w0a8 w0a9 w0a10 w0a11 w0a12 w0a14 w0a15 w0a16 w0a17 w0h w0c n) w0o0 w0o1 w0o2 w0o3 w0o4 w0o5 w0o6 w0o7 w0a8 w0a9 w0a10 w0a11 w0a12 w0a14 w0a15 w0a16 w0a17 w0h w0c 1000 w1o0 w1o1 w1o2 w1o3 w1o4 w1o5 w1o6 w1o7 w1a8 w1a9 w1a10 w1a11 w1a12 w1a14 w1a15 w1a16 w1a17 w1h w1c gs ga0 ga1 ga2 ga3 ga5 bf x1 x2 x3 x4 v_1


def pX11_swap (F : gF) (w0o0 : Int32) (w0o1 : Int32) (w0o2 : Int32) (w0o3 : Int32) (w0o4 : Int32) (w0o5 : Int32) (w0o6 : Int32) (w0o7 : Int32) (w0a8 : (Nat → Int32)) (w0a9 : (Nat → Int32)) (w0a10 : (Nat → Int32)) (w0a11 : (Nat → Int32)) (w0a12 : (Nat → Int32)) (w0a14 : (Nat → Int32)) (w0a15 : (Nat → Int32)) (w0a16 : (Nat → Int32)) (w0a17 : (Nat → Int32)) (w0h : Nat) (w0c : (Nat → Option Nat)) (w1o0 : Int32) (w1o1 : Int32) (w1o2 : Int32) (w1o3 : Int32) (w1o4 : Int32) (w1o5 : Int32) (w1o6 : Int32) (w1o7 : Int32) (w1a8 : (Nat → Int32)) (w1a9 : (Nat → Int32)) (w1a10 : (Nat → Int32)) (w1a11 : (Nat → Int32)) (w1a12 : (Nat → Int32)) (w1a14 : (Nat → Int32)) (w1a15 : (Nat → Int32)) (w1a16 : (Nat → Int32)) (w1a17 : (Nat → Int32)) (w1h : Nat) (w1c : (Nat → Option Nat)) (gs : Int32) (ga0 : (Nat → Int32)) (ga1 : (Nat → Int32)) (ga2 : (Nat → Int32)) (ga3 : (Nat → Int32)) (ga5 : (Nat → Int32)) (bf : (Nat → Int32)) (x1 : Int32) : Option (Int32 × Int32 × Int32 × Int32 × Int32 × Int32 × Int32 × Int32 × Int32 × ((Nat → Int32)) × ((Nat → Int32)) × ((Nat → Int32)) × ((Nat → Int32)) × ((Nat → Int32)) × ((Nat → Int32)) × ((Nat → Int32)) × ((Nat → Int32)) × ((Nat → Int32)) × Nat × ((Nat → Option Nat)) × Int32 × ((Nat → Int32)) × ((Nat → Int32)) × ((Nat → Int32)) × ((Nat → Int32)) × ((Nat → Int32)) × ((Nat → Int32))) :=
  if x1 < 0 then
    some ((-1), w1o0, w1o1, w1o2, w1o3, w1o4, w1o5, w1o6, w1o7, w1a8, w1a9, w1a10, w1a11, w1a12, w1a14, w1a15, w1a16, w1a17, w1h, w1c, gs, ga0, ga1, ga2, ga3, ga5, bf)
  else
    if x1 ≤ 1 then
      gbd (pX1_gradeAll_w0 F w0o0 w0o1 w0o5 w0a8 w0a9 w0a10 w0a11 w0h w0c gs ga0 ga1 ga2 ga3 ga5) fun z_1 =>
      gnm (va_cpy z_1.2.1 bf 0 0 10) fun f_2 =>
      gbd (pX10_become_w1_w0 F w0o0 w0o1 w0o2 w0o3 w0o4 w0o5 w0o6 w0o7 w0a8 w0a9 w0a10 w0a11 w0a12 w0a14 w0a15 w0a16 w0a17 w0h w0c w1o0 w1o1 w1o2 w1o3 w1o4 w1o5 w1o6 w1o7 w1a8 w1a9 w1a10 w1a11 w1a12 w1a14 w1a15 w1a16 w1a17 w1h w1c) fun z_3 =>
      pX11_swap_59 F w0o0 w0o1 w0o2 w0o3 w0o4 w0o5 w0o6 w0o7 w0a8 w0a9 w0a10 w0a11 w0a12 w0a14 w0a15 w0a16 w0a17 w0h w0c 1000 z_3.1 z_3.2.1 z_3.2.2.1 z_3.2.2.2.1 z_3.2.2.2.2.1 z_3.2.2.2.2.2.1 z_3.2.2.2.2.2.2.1 z_3.2.2.2.2.2.2.2.1 z_3.2.2.2.2.2.2.2.2.1 z_3.2.2.2.2.2.2.2.2.2.1 z_3.2.2.2.2.2.2.2.2.2.2.1 z_3.2.2.2.2.2.2.2.2.2.2.2.1 z_3.2.2.2.2.2.2.2.2.2.2.2.2.1 z_3.2.2.2.2.2.2.2.2.2.2.2.2.2.1 z_3.2.2.2.2.2.2.2.2.2.2.2.2.2.2.1 z_3.2.2.2.2.2.2.2.2.2.2.2.2.2.2.2.1 z_3.2.2.2.2.2.2.2.2.2.2.2.2.2.2.2.2.1 z_3.2.2.2.2.2.2.2.2.2.2.2.2.2.2.2.2.2.1 z_3.2.2.2.2.2.2.2.2.2.2.2.2.2.2.2.2.2.2 z_1.1 z_1.2.1 z_1.2.2.1 z_1.2.2.2.1 z_1.2.2.2.2.1 z_1.2.2.2.2.2 f_2 x1 0 (-5) 0
    else
      some ((-1), w1o0, w1o1, w1o2, w1o3, w1o4, w1o5, w1o6, w1o7, w1a8, w1a9, w1a10, w1a11, w1a12, w1a14, w1a15, w1a16, w1a17, w1h, w1c, gs, ga0, ga1, ga2, ga3, ga5, bf)


def pX10_replace_w0 (w0o0 : Int32) (w0o6 : Int32) (w0o7 : Int32) (w0a8 : (Nat → Int32)) (w0a9 : (Nat → Int32)) (w0a12 : (Nat → Int32)) (x1 : Int32) : Option (((Nat → Int32)) × ((Nat → Int32)) × ((Nat → Int32))) :=
  gbd (pX10_hasWorker_w0 w0o0 x1) fun z_1 =>
  if z_1 = 0 then
    some (w0a8, w0a9, w0a12)
  else
    gck (ginb x1 10) <|
    gnm (upd w0a8 (Int32.toNatClampNeg x1) w0o6) fun f_3 =>
    gck (ginb x1 10) <|
    gnm (upd w0a9 (Int32.toNatClampNeg x1) w0o7) fun f_5 =>
    gck (ginb x1 10) <|
    gnm (upd w0a12 (Int32.toNatClampNeg x1) 0) fun f_7 =>
    some (f_3, f_5, f_7)


def pX11_outByGrade_w0_2 (w0o0 : Int32) (w0o6 : Int32) (w0o7 : Int32) (ga0 : (Nat → Int32)) : Nat → ((Nat → Int32)) → ((Nat → Int32)) → ((Nat → Int32)) → Int32 → Option (((Nat → Int32)) × ((Nat → Int32)) × ((Nat → Int32)))
  | 0, _, _, _, _ => none
  | n + 1, w0a8, w0a9, w0a12, x2 =>
  if w0o0 ≤ x2 then
    some (w0a8, w0a9, w0a12)
  else
    gck (ginb x2 10) <|
    if (ga0 (Int32.toNatClampNeg x2)) = 1 then
      gbd (pX10_replace_w0 w0o0 w0o6 w0o7 w0a8 w0a9 w0a12 x2) fun z_2 =>
      pX11_outByGrade_w0_2 w0o0 w0o6 w0o7 ga0 n z_2.1 z_2.2.1 z_2.2.2 (x2 + 1)
    else
      pX11_outByGrade_w0_2 w0o0 w0o6 w0o7 ga0 n w0a8 w0a9 w0a12 (x2 + 1)


def pX11_outByGrade_w0 (w0o0 : Int32) (w0o6 : Int32) (w0o7 : Int32) (ga0 : (Nat → Int32)) (w0a8 : (Nat → Int32)) (w0a9 : (Nat → Int32)) (w0a12 : (Nat → Int32)) : Option (((Nat → Int32)) × ((Nat → Int32)) × ((Nat → Int32))) :=
  pX11_outByGrade_w0_2 w0o0 w0o6 w0o7 ga0 1000 w0a8 w0a9 w0a12 0


def pX11_outByLot_w0_10 (w0o0 : Int32) (w0o5 : Int32) (w0o6 : Int32) (w0o7 : Int32) : Nat → ((Nat → Int32)) → ((Nat → Int32)) → ((Nat → Int32)) → Int32 → Int32 → Option (((Nat → Int32)) × ((Nat → Int32)) × ((Nat → Int32)))
  | 0, _, _, _, _, _ => none
  | n + 1, w0a8, w0a9, w0a12, x1, x2 =>
  if x1 ≤ x2 then
    some (w0a8, w0a9, w0a12)
  else
    gck (¬ w0o0 = 0) <|
    gbd (pX10_replace_w0 w0o0 w0o6 w0o7 w0a8 w0a9 w0a12 (((w0o5 * 7) + x2) - ((w0o5 * 7) + x2) / w0o0 * w0o0)) fun z_2 =>
    pX11_outByLot_w0_10 w0o0 w0o5 w0o6 w0o7 n z_2.1 z_2.2.1 z_2.2.2 x1 (x2 + 1)


def pX11_outByLot_w0 (w0o0 : Int32) (w0o5 : Int32) (w0o6 : Int32) (w0o7 : Int32) (w0a8 : (Nat → Int32)) (w0a9 : (Nat → Int32)) (w0a12 : (Nat → Int32)) (x1 : Int32) : Option (((Nat → Int32)) × ((Nat → Int32)) × ((Nat → Int32))) :=
  if w0o0 = 0 then
    some (w0a8, w0a9, w0a12)
  else
    pX11_outByLot_w0_10 w0o0 w0o5 w0o6 w0o7 1000 w0a8 w0a9 w0a12 x1 0


def pX11_goYear_w0_96 (F : gF) (w0o0 : Int32) (w0o1 : Int32) (w0o6 : Int32) (w0o7 : Int32) (w0a10 : (Nat → Int32)) (w0a11 : (Nat → Int32)) (w0h : Nat) (w0c : (Nat → Option Nat)) (w0o5 : Int32) (w0a8 : (Nat → Int32)) (w0a9 : (Nat → Int32)) (w0a12 : (Nat → Int32)) (gs : Int32) (ga0 : (Nat → Int32)) (ga1 : (Nat → Int32)) (ga2 : (Nat → Int32)) (ga3 : (Nat → Int32)) (ga5 : (Nat → Int32)) (x2 : Int32) (x3 : Int32) : Option (Int32 × Int32 × ((Nat → Int32)) × ((Nat → Int32)) × ((Nat → Int32)) × Int32 × ((Nat → Int32)) × ((Nat → Int32)) × ((Nat → Int32)) × ((Nat → Int32)) × ((Nat → Int32))) :=
  if x2 = 1 then
    some (0, (w0o5 + 1), w0a8, w0a9, w0a12, gs, ga0, ga1, ga2, ga3, ga5)
  else
    if x2 = 2 then
      gbd (pX11_outByLot_w0 w0o0 w0o5 w0o6 w0o7 w0a8 w0a9 w0a12 x3) fun z_2 =>
      some (x3, (w0o5 + 1), z_2.1, z_2.2.1, z_2.2.2, gs, ga0, ga1, ga2, ga3, ga5)
    else
      gbd (pX11_outByGrade_w0 w0o0 w0o6 w0o7 ga0 w0a8 w0a9 w0a12) fun z_1 =>
      some (x3, (w0o5 + 1), z_1.1, z_1.2.1, z_1.2.2, gs, ga0, ga1, ga2, ga3, ga5)


def pX11_goYear_w0_29 (F : gF) (w0o0 : Int32) (w0o1 : Int32) (w0o6 : Int32) (w0o7 : Int32) (w0a10 : (Nat → Int32)) (w0a11 : (Nat → Int32)) (w0h : Nat) (w0c : (Nat → Option Nat)) : Nat → Int32 → ((Nat → Int32)) → ((Nat → Int32)) → ((Nat → Int32)) → Int32 → ((Nat → Int32)) → ((Nat → Int32)) → ((Nat → Int32)) → ((Nat → Int32)) → ((Nat → Int32)) → Int32 → Int32 → Int32 → Option (Int32 × Int32 × ((Nat → Int32)) × ((Nat → Int32)) × ((Nat → Int32)) × Int32 × ((Nat → Int32)) × ((Nat → Int32)) × ((Nat → Int32)) × ((Nat → Int32)) × ((Nat → Int32)))
  | 0, _, _, _, _, _, _, _, _, _, _, _, _, _ => none
  | n + 1, w0o5, w0a8, w0a9, w0a12, gs, ga0, ga1, ga2, ga3, ga5, x2, x3, x4 =>
  if w0o0 ≤ x4 then
    pX11_goYear_w0_96 F w0o0 w0o1 w0o6 w0o7 w0a10 w0a11 w0h w0c w0o5 w0a8 w0a9 w0a12 gs ga0 ga1 ga2 ga3 ga5 x2 x3
  else
    gck (ginb x4 10) <|
    gnm (ga0 (Int32.toNatClampNeg x4)) fun v_2 =>
    gck (ginb x4 10) <|
    gck (hsv F w0h = true) <|
    gnm (if ((w0a12 (Int32.toNatClampNeg x4)) + ((hI F w0h 2) * v_2)) < 9999 then ((w0a12 (Int32.toNatClampNeg x4)) + ((hI F w0h 2) * v_2)) else 9999) fun v_5 =>
    gck (ginb x4 10) <|
    gnm (upd w0a12 (Int32.toNatClampNeg x4) v_5) fun f_7 =>
    if v_2 = 1 then
      pX11_goYear_w0_29 F w0o0 w0o1 w0o6 w0o7 w0a10 w0a11 w0h w0c n w0o5 w0a8 w0a9 f_7 gs ga0 ga1 ga2 ga3 ga5 x2 (x3 + 1) (x4 + 1)
    else
      pX11_goYear_w0_29 F w0o0 w0o1 w0o6 w0o7 w0a10 w0a11 w0h w0c n w0o5 w0a8 w0a9 f_7 gs ga0 ga1 ga2 ga3 ga5 x2 x3 (x4 + 1)


def pX11_goYear_w0 (F : gF) (w0o0 : Int32) (w0o1 : Int32) (w0o6 : Int32) (w0o7 : Int32) (w0a10 : (Nat → Int32)) (w0a11 : (Nat → Int32)) (w0h : Nat) (w0c : (Nat → Option Nat)) (w0o5 : Int32) (w0a8 : (Nat → Int32)) (w0a9 : (Nat → Int32)) (w0a12 : (Nat → Int32)) (gs : Int32) (ga0 : (Nat → Int32)) (ga1 : (Nat → Int32)) (ga2 : (Nat → Int32)) (ga3 : (Nat → Int32)) (ga5 : (Nat → Int32)) (x2 : Int32) : Option (Int32 × Int32 × ((Nat → Int32)) × ((Nat → Int32)) × ((Nat → Int32)) × Int32 × ((Nat → Int32)) × ((Nat → Int32)) × ((Nat → Int32)) × ((Nat → Int32)) × ((Nat → Int32))) :=
  if x2 = 3 then
    gbd (pX1_gradeDue_w0 F w0o0 w0o5 w0a8 w0h gs ga0 ga1 ga2 ga3) fun z_2 =>
    pX11_goYear_w0_29 F w0o0 w0o1 w0o6 w0o7 w0a10 w0a11 w0h w0c 1000 w0o5 w0a8 w0a9 w0a12 z_2.1 z_2.2.1 z_2.2.2.1 z_2.2.2.2.1 z_2.2.2.2.2 ga5 x2 0 0
  else
    gbd (pX1_gradeAll_w0 F w0o0 w0o1 w0o5 w0a8 w0a9 w0a10 w0a11 w0h w0c gs ga0 ga1 ga2 ga3 ga5) fun z_1 =>
    pX11_goYear_w0_29 F w0o0 w0o1 w0o6 w0o7 w0a10 w0a11 w0h w0c 1000 w0o5 w0a8 w0a9 w0a12 z_1.1 z_1.2.1 z_1.2.2.1 z_1.2.2.2.1 z_1.2.2.2.2.1 z_1.2.2.2.2.2 x2 0 0


def pX11_year (F : gF) (w0o0 : Int32) (w0o1 : Int32) (w0o6 : Int32) (w0o7 : Int32) (w0a10 : (Nat → Int32)) (w0a11 : (Nat → Int32)) (w0h : Nat) (w0c : (Nat → Option Nat)) (w0o5 : Int32) (w0a8 : (Nat → Int32)) (w0a9 : (Nat → Int32)) (w0a12 : (Nat → Int32)) (gs : Int32) (ga0 : (Nat → Int32)) (ga1 : (Nat → Int32)) (ga2 : (Nat → Int32)) (ga3 : (Nat → Int32)) (ga5 : (Nat → Int32)) : Option (Int32 × Int32 × ((Nat → Int32)) × ((Nat → Int32)) × ((Nat → Int32)) × Int32 × ((Nat → Int32)) × ((Nat → Int32)) × ((Nat → Int32)) × ((Nat → Int32)) × ((Nat → Int32))) :=
  if w0o5 < 99 then
    gbd (pX11_goYear_w0 F w0o0 w0o1 w0o6 w0o7 w0a10 w0a11 w0h w0c w0o5 w0a8 w0a9 w0a12 gs ga0 ga1 ga2 ga3 ga5 0) fun z_1 =>
    some (z_1.1, z_1.2.1, z_1.2.2.1, z_1.2.2.2.1, z_1.2.2.2.2.1, z_1.2.2.2.2.2.1, z_1.2.2.2.2.2.2.1, z_1.2.2.2.2.2.2.2.1, z_1.2.2.2.2.2.2.2.2.1, z_1.2.2.2.2.2.2.2.2.2.1, z_1.2.2.2.2.2.2.2.2.2.2)
  else
    some ((-3), w0o5, w0a8, w0a9, w0a12, gs, ga0, ga1, ga2, ga3, ga5)


def pX10_worthTogether_w1_4 (w1o0 : Int32) (w1a8 : (Nat → Int32)) : Nat → Int32 → Int32 → Option (Int32)
  | 0, _, _ => none
  | n + 1, x1, x2 =>
  if w1o0 ≤ x2 then
    some (x1)
  else
    gck (ginb x2 10) <|
    gnm (x1 + (w1a8 (Int32.toNatClampNeg x2))) fun v_2 =>
    pX10_worthTogether_w1_4 w1o0 w1a8 n v_2 (x2 + 1)


def pX10_worthTogether_w1 (w1o0 : Int32) (w1a8 : (Nat → Int32)) : Option (Int32) :=
  pX10_worthTogether_w1_4 w1o0 w1a8 1000 0 0


def pX1_gradeAll_w1_2 (F : gF) (w1o0 : Int32) (w1o1 : Int32) (w1o5 : Int32) (w1a8 : (Nat → Int32)) (w1a9 : (Nat → Int32)) (w1a10 : (Nat → Int32)) (w1a11 : (Nat → Int32)) (w1h : Nat) (w1c : (Nat → Option Nat)) : Nat → Int32 → ((Nat → Int32)) → ((Nat → Int32)) → ((Nat → Int32)) → ((Nat → Int32)) → ((Nat → Int32)) → Int32 → Option (Int32 × ((Nat → Int32)) × ((Nat → Int32)) × ((Nat → Int32)) × ((Nat → Int32)) × ((Nat → Int32)))
  | 0, _, _, _, _, _, _, _ => none
  | n + 1, gs, ga0, ga1, ga2, ga3, ga5, x2 =>
  if w1o1 ≤ x2 then
    some (gs, ga0, ga1, ga2, ga3, ga5)
  else
    gbd (pX10_chiefAt_w1 w1o1 w1c x2) fun z_1 =>
    gmt z_1 (
      pX1_gradeAll_w1_2 F w1o0 w1o1 w1o5 w1a8 w1a9 w1a10 w1a11 w1h w1c n gs ga0 ga1 ga2 ga3 ga5 (x2 + 1)
    ) fun b_z1 =>
      gbd (pX1_gradeTeam_w1 F w1o0 w1o5 w1a8 w1a9 w1a10 w1a11 w1h gs ga0 ga1 ga2 ga3 ga5 b_z1) fun z_2 =>
      pX1_gradeAll_w1_2 F w1o0 w1o1 w1o5 w1a8 w1a9 w1a10 w1a11 w1h w1c n z_2.2.1 z_2.2.2.1 z_2.2.2.2.1 z_2.2.2.2.2.1 z_2.2.2.2.2.2.1 z_2.2.2.2.2.2.2 (x2 + 1)


def pX1_gradeAll_w1 (F : gF) (w1o0 : Int32) (w1o1 : Int32) (w1o5 : Int32) (w1a8 : (Nat → Int32)) (w1a9 : (Nat → Int32)) (w1a10 : (Nat → Int32)) (w1a11 : (Nat → Int32)) (w1h : Nat) (w1c : (Nat → Option Nat)) (gs : Int32) (ga0 : (Nat → Int32)) (ga1 : (Nat → Int32)) (ga2 : (Nat → Int32)) (ga3 : (Nat → Int32)) (ga5 : (Nat → Int32)) : Option (Int32 × ((Nat → Int32)) × ((Nat → Int32)) × ((Nat → Int32)) × ((Nat → Int32)) × ((Nat → Int32))) :=
  pX1_gradeAll_w1_2 F w1o0 w1o1 w1o5 w1a8 w1a9 w1a10 w1a11 w1h w1c 1000 gs ga0 ga1 ga2 ga3 ga5 0


def pX10_replace_w1 (w1o0 : Int32) (w1o6 : Int32) (w1o7 : Int32) (w1a8 : (Nat → Int32)) (w1a9 : (Nat → Int32)) (w1a12 : (Nat → Int32)) (x1 : Int32) : Option (((Nat → Int32)) × ((Nat → Int32)) × ((Nat → Int32))) :=
  gbd (pX10_hasWorker_w1 w1o0 x1) fun z_1 =>
  if z_1 = 0 then
    some (w1a8, w1a9, w1a12)
  else
    gck (ginb x1 10) <|
    gnm (upd w1a8 (Int32.toNatClampNeg x1) w1o6) fun f_3 =>
    gck (ginb x1 10) <|
    gnm (upd w1a9 (Int32.toNatClampNeg x1) w1o7) fun f_5 =>
    gck (ginb x1 10) <|
    gnm (upd w1a12 (Int32.toNatClampNeg x1) 0) fun f_7 =>
    some (f_3, f_5, f_7)


def pX11_outByGrade_w1_2 (w1o0 : Int32) (w1o6 : Int32) (w1o7 : Int32) (ga0 : (Nat → Int32)) : Nat → ((Nat → Int32)) → ((Nat → Int32)) → ((Nat → Int32)) → Int32 → Option (((Nat → Int32)) × ((Nat → Int32)) × ((Nat → Int32)))
  | 0, _, _, _, _ => none
  | n + 1, w1a8, w1a9, w1a12, x2 =>
  if w1o0 ≤ x2 then
    some (w1a8, w1a9, w1a12)
  else
    gck (ginb x2 10) <|
    if (ga0 (Int32.toNatClampNeg x2)) = 1 then
      gbd (pX10_replace_w1 w1o0 w1o6 w1o7 w1a8 w1a9 w1a12 x2) fun z_2 =>
      pX11_outByGrade_w1_2 w1o0 w1o6 w1o7 ga0 n z_2.1 z_2.2.1 z_2.2.2 (x2 + 1)
    else
      pX11_outByGrade_w1_2 w1o0 w1o6 w1o7 ga0 n w1a8 w1a9 w1a12 (x2 + 1)


def pX11_outByGrade_w1 (w1o0 : Int32) (w1o6 : Int32) (w1o7 : Int32) (ga0 : (Nat → Int32)) (w1a8 : (Nat → Int32)) (w1a9 : (Nat → Int32)) (w1a12 : (Nat → Int32)) : Option (((Nat → Int32)) × ((Nat → Int32)) × ((Nat → Int32))) :=
  pX11_outByGrade_w1_2 w1o0 w1o6 w1o7 ga0 1000 w1a8 w1a9 w1a12 0


def pX11_outByLot_w1_10 (w1o0 : Int32) (w1o5 : Int32) (w1o6 : Int32) (w1o7 : Int32) : Nat → ((Nat → Int32)) → ((Nat → Int32)) → ((Nat → Int32)) → Int32 → Int32 → Option (((Nat → Int32)) × ((Nat → Int32)) × ((Nat → Int32)))
  | 0, _, _, _, _, _ => none
  | n + 1, w1a8, w1a9, w1a12, x1, x2 =>
  if x1 ≤ x2 then
    some (w1a8, w1a9, w1a12)
  else
    gck (¬ w1o0 = 0) <|
    gbd (pX10_replace_w1 w1o0 w1o6 w1o7 w1a8 w1a9 w1a12 (((w1o5 * 7) + x2) - ((w1o5 * 7) + x2) / w1o0 * w1o0)) fun z_2 =>
    pX11_outByLot_w1_10 w1o0 w1o5 w1o6 w1o7 n z_2.1 z_2.2.1 z_2.2.2 x1 (x2 + 1)


def pX11_outByLot_w1 (w1o0 : Int32) (w1o5 : Int32) (w1o6 : Int32) (w1o7 : Int32) (w1a8 : (Nat → Int32)) (w1a9 : (Nat → Int32)) (w1a12 : (Nat → Int32)) (x1 : Int32) : Option (((Nat → Int32)) × ((Nat → Int32)) × ((Nat → Int32))) :=
  if w1o0 = 0 then
    some (w1a8, w1a9, w1a12)
  else
    pX11_outByLot_w1_10 w1o0 w1o5 w1o6 w1o7 1000 w1a8 w1a9 w1a12 x1 0


def pX1_gradeDue_w1_14 (F : gF) (w1o0 : Int32) (w1o5 : Int32) (w1a8 : (Nat → Int32)) (w1h : Nat) : Nat → Int32 → ((Nat → Int32)) → ((Nat → Int32)) → ((Nat → Int32)) → ((Nat → Int32)) → Int32 → Option (Int32 × ((Nat → Int32)) × ((Nat → Int32)) × ((Nat → Int32)) × ((Nat → Int32)))
  | 0, _, _, _, _, _, _ => none
  | n + 1, gs, ga0, ga1, ga2, ga3, x2 =>
  if gs ≤ x2 then
    gbd (pX1_share_w1 F w1o5 w1h gs ga1 ga2 ga0 ga3 (gpl F)) fun z_1 =>
    some (gs, z_1.2.1, ga1, ga2, z_1.2.2)
  else
    gck (ginb x2 10) <|
    gck (ginb x2 10) <|
    gck (ginb (ga2 (Int32.toNatClampNeg x2)) 10) <|
    gck (ginb (ga2 (Int32.toNatClampNeg x2)) 10) <|
    gnm (upd ga1 (Int32.toNatClampNeg (ga2 (Int32.toNatClampNeg x2))) (w1a8 (Int32.toNatClampNeg (ga2 (Int32.toNatClampNeg x2))))) fun f_6 =>
    pX1_gradeDue_w1_14 F w1o0 w1o5 w1a8 w1h n gs ga0 f_6 ga2 ga3 (x2 + 1)


def pX1_gradeDue_w1 (F : gF) (w1o0 : Int32) (w1o5 : Int32) (w1a8 : (Nat → Int32)) (w1h : Nat) (gs : Int32) (ga0 : (Nat → Int32)) (ga1 : (Nat → Int32)) (ga2 : (Nat → Int32)) (ga3 : (Nat → Int32)) : Option (Int32 × ((Nat → Int32)) × ((Nat → Int32)) × ((Nat → Int32)) × ((Nat → Int32))) :=
  gbd (pX1_gather gs ga2 ((1 <<< (w1o0 &&& 31)) - 1)) fun z_1 =>
  pX1_gradeDue_w1_14 F w1o0 w1o5 w1a8 w1h 1000 z_1.1 ga0 ga1 z_1.2 ga3 0


def pX11_goYear_w1_96 (F : gF) (w1o0 : Int32) (w1o1 : Int32) (w1o6 : Int32) (w1o7 : Int32) (w1a10 : (Nat → Int32)) (w1a11 : (Nat → Int32)) (w1h : Nat) (w1c : (Nat → Option Nat)) (w1o5 : Int32) (w1a8 : (Nat → Int32)) (w1a9 : (Nat → Int32)) (w1a12 : (Nat → Int32)) (gs : Int32) (ga0 : (Nat → Int32)) (ga1 : (Nat → Int32)) (ga2 : (Nat → Int32)) (ga3 : (Nat → Int32)) (ga5 : (Nat → Int32)) (x2 : Int32) (x3 : Int32) : Option (Int32 × Int32 × ((Nat → Int32)) × ((Nat → Int32)) × ((Nat → Int32)) × Int32 × ((Nat → Int32)) × ((Nat → Int32)) × ((Nat → Int32)) × ((Nat → Int32)) × ((Nat → Int32))) :=
  if x2 = 1 then
    some (0, (w1o5 + 1), w1a8, w1a9, w1a12, gs, ga0, ga1, ga2, ga3, ga5)
  else
    if x2 = 2 then
      gbd (pX11_outByLot_w1 w1o0 w1o5 w1o6 w1o7 w1a8 w1a9 w1a12 x3) fun z_2 =>
      some (x3, (w1o5 + 1), z_2.1, z_2.2.1, z_2.2.2, gs, ga0, ga1, ga2, ga3, ga5)
    else
      gbd (pX11_outByGrade_w1 w1o0 w1o6 w1o7 ga0 w1a8 w1a9 w1a12) fun z_1 =>
      some (x3, (w1o5 + 1), z_1.1, z_1.2.1, z_1.2.2, gs, ga0, ga1, ga2, ga3, ga5)


def pX11_goYear_w1_29 (F : gF) (w1o0 : Int32) (w1o1 : Int32) (w1o6 : Int32) (w1o7 : Int32) (w1a10 : (Nat → Int32)) (w1a11 : (Nat → Int32)) (w1h : Nat) (w1c : (Nat → Option Nat)) : Nat → Int32 → ((Nat → Int32)) → ((Nat → Int32)) → ((Nat → Int32)) → Int32 → ((Nat → Int32)) → ((Nat → Int32)) → ((Nat → Int32)) → ((Nat → Int32)) → ((Nat → Int32)) → Int32 → Int32 → Int32 → Option (Int32 × Int32 × ((Nat → Int32)) × ((Nat → Int32)) × ((Nat → Int32)) × Int32 × ((Nat → Int32)) × ((Nat → Int32)) × ((Nat → Int32)) × ((Nat → Int32)) × ((Nat → Int32)))
  | 0, _, _, _, _, _, _, _, _, _, _, _, _, _ => none
  | n + 1, w1o5, w1a8, w1a9, w1a12, gs, ga0, ga1, ga2, ga3, ga5, x2, x3, x4 =>
  if w1o0 ≤ x4 then
    pX11_goYear_w1_96 F w1o0 w1o1 w1o6 w1o7 w1a10 w1a11 w1h w1c w1o5 w1a8 w1a9 w1a12 gs ga0 ga1 ga2 ga3 ga5 x2 x3
  else
    gck (ginb x4 10) <|
    gnm (ga0 (Int32.toNatClampNeg x4)) fun v_2 =>
    gck (ginb x4 10) <|
    gck (hsv F w1h = true) <|
    gnm (if ((w1a12 (Int32.toNatClampNeg x4)) + ((hI F w1h 2) * v_2)) < 9999 then ((w1a12 (Int32.toNatClampNeg x4)) + ((hI F w1h 2) * v_2)) else 9999) fun v_5 =>
    gck (ginb x4 10) <|
    gnm (upd w1a12 (Int32.toNatClampNeg x4) v_5) fun f_7 =>
    if v_2 = 1 then
      pX11_goYear_w1_29 F w1o0 w1o1 w1o6 w1o7 w1a10 w1a11 w1h w1c n w1o5 w1a8 w1a9 f_7 gs ga0 ga1 ga2 ga3 ga5 x2 (x3 + 1) (x4 + 1)
    else
      pX11_goYear_w1_29 F w1o0 w1o1 w1o6 w1o7 w1a10 w1a11 w1h w1c n w1o5 w1a8 w1a9 f_7 gs ga0 ga1 ga2 ga3 ga5 x2 x3 (x4 + 1)


def pX11_goYear_w1 (F : gF) (w1o0 : Int32) (w1o1 : Int32) (w1o6 : Int32) (w1o7 : Int32) (w1a10 : (Nat → Int32)) (w1a11 : (Nat → Int32)) (w1h : Nat) (w1c : (Nat → Option Nat)) (w1o5 : Int32) (w1a8 : (Nat → Int32)) (w1a9 : (Nat → Int32)) (w1a12 : (Nat → Int32)) (gs : Int32) (ga0 : (Nat → Int32)) (ga1 : (Nat → Int32)) (ga2 : (Nat → Int32)) (ga3 : (Nat → Int32)) (ga5 : (Nat → Int32)) (x2 : Int32) : Option (Int32 × Int32 × ((Nat → Int32)) × ((Nat → Int32)) × ((Nat → Int32)) × Int32 × ((Nat → Int32)) × ((Nat → Int32)) × ((Nat → Int32)) × ((Nat → Int32)) × ((Nat → Int32))) :=
  if x2 = 3 then
    gbd (pX1_gradeDue_w1 F w1o0 w1o5 w1a8 w1h gs ga0 ga1 ga2 ga3) fun z_2 =>
    pX11_goYear_w1_29 F w1o0 w1o1 w1o6 w1o7 w1a10 w1a11 w1h w1c 1000 w1o5 w1a8 w1a9 w1a12 z_2.1 z_2.2.1 z_2.2.2.1 z_2.2.2.2.1 z_2.2.2.2.2 ga5 x2 0 0
  else
    gbd (pX1_gradeAll_w1 F w1o0 w1o1 w1o5 w1a8 w1a9 w1a10 w1a11 w1h w1c gs ga0 ga1 ga2 ga3 ga5) fun z_1 =>
    pX11_goYear_w1_29 F w1o0 w1o1 w1o6 w1o7 w1a10 w1a11 w1h w1c 1000 w1o5 w1a8 w1a9 w1a12 z_1.1 z_1.2.1 z_1.2.2.1 z_1.2.2.2.1 z_1.2.2.2.2.1 z_1.2.2.2.2.2 x2 0 0


def pX11_years_102 (F : gF) (w0o0 : Int32) (w0o1 : Int32) (w0o2 : Int32) (w0o3 : Int32) (w0o4 : Int32) (w0o5 : Int32) (w0o6 : Int32) (w0o7 : Int32) (w0a8 : (Nat → Int32)) (w0a9 : (Nat → Int32)) (w0a10 : (Nat → Int32)) (w0a11 : (Nat → Int32)) (w0a12 : (Nat → Int32)) (w0a14 : (Nat → Int32)) (w0a15 : (Nat → Int32)) (w0a16 : (Nat → Int32)) (w0a17 : (Nat → Int32)) (w0h : Nat) (w0c : (Nat → Option Nat)) (w1o0 : Int32) (w1o1 : Int32) (w1o2 : Int32) (w1o3 : Int32) (w1o4 : Int32) (w1o5 : Int32) (w1o6 : Int32) (w1o7 : Int32) (w1a8 : (Nat → Int32)) (w1a9 : (Nat → Int32)) (w1a10 : (Nat → Int32)) (w1a11 : (Nat → Int32)) (w1a12 : (Nat → Int32)) (w1a14 : (Nat → Int32)) (w1a15 : (Nat → Int32)) (w1a16 : (Nat → Int32)) (w1a17 : (Nat → Int32)) (w1h : Nat) (w1c : (Nat → Option Nat)) (gs : Int32) (ga0 : (Nat → Int32)) (ga1 : (Nat → Int32)) (ga2 : (Nat → Int32)) (ga3 : (Nat → Int32)) (ga5 : (Nat → Int32)) (x3 : Int32) (x4 : Int32) : Option (Int32 × Int32 × Int32 × Int32 × Int32 × Int32 × Int32 × Int32 × Int32 × ((Nat → Int32)) × ((Nat → Int32)) × ((Nat → Int32)) × ((Nat → Int32)) × ((Nat → Int32)) × ((Nat → Int32)) × ((Nat → Int32)) × ((Nat → Int32)) × ((Nat → Int32)) × Nat × ((Nat → Option Nat)) × Int32 × ((Nat → Int32)) × ((Nat → Int32)) × ((Nat → Int32)) × ((Nat → Int32)) × ((Nat → Int32))) :=
  if x3 = 1 then
    some (x4, w1o0, w1o1, w1o2, w1o3, w1o4, w1o5, w1o6, w1o7, w1a8, w1a9, w1a10, w1a11, w1a12, w1a14, w1a15, w1a16, w1a17, w1h, w1c, gs, ga0, ga1, ga2, ga3, ga5)
  else
    if x3 = 0 then
      gbd (pX10_worthTogether_w1 w1o0 w1a8) fun z_2 =>
      some (z_2, w1o0, w1o1, w1o2, w1o3, w1o4, w1o5, w1o6, w1o7, w1a8, w1a9, w1a10, w1a11, w1a12, w1a14, w1a15, w1a16, w1a17, w1h, w1c, gs, ga0, ga1, ga2, ga3, ga5)
    else
      gck (ginb (x3 - 10) 10) <|
      some ((w1a12 (Int32.toNatClampNeg (x3 - 10))), w1o0, w1o1, w1o2, w1o3, w1o4, w1o5, w1o6, w1o7, w1a8, w1a9, w1a10, w1a11, w1a12, w1a14, w1a15, w1a16, w1a17, w1h, w1c, gs, ga0, ga1, ga2, ga3, ga5)


def pX11_years_76 (F : gF) (w0o0 : Int32) (w0o1 : Int32) (w0o2 : Int32) (w0o3 : Int32) (w0o4 : Int32) (w0o5 : Int32) (w0o6 : Int32) (w0o7 : Int32) (w0a8 : (Nat → Int32)) (w0a9 : (Nat → Int32)) (w0a10 : (Nat → Int32)) (w0a11 : (Nat → Int32)) (w0a12 : (Nat → Int32)) (w0a14 : (Nat → Int32)) (w0a15 : (Nat → Int32)) (w0a16 : (Nat → Int32)) (w0a17 : (Nat → Int32)) (w0h : Nat) (w0c : (Nat → Option Nat)) : Nat → Int32 → Int32 → Int32 → Int32 → Int32 → Int32 → Int32 → Int32 → ((Nat → Int32)) → ((Nat → Int32)) → ((Nat → Int32)) → ((Nat → Int32)) → ((Nat → Int32)) → ((Nat → Int32)) → ((Nat → Int32)) → ((Nat → Int32)) → ((Nat → Int32)) → Nat → ((Nat → Option Nat)) → Int32 → ((Nat → Int32)) → ((Nat → Int32)) → ((Nat → Int32)) → ((Nat → Int32)) → ((Nat → Int32)) → Int32 → Int32 → Int32 → Int32 → Int32 → Option (Int32 × Int32 × Int32 × Int32 × Int32 × Int32 × Int32 × Int32 × Int32 × ((Nat → Int32)) × ((Nat → Int32)) × ((Nat → Int32)) × ((Nat → Int32)) × ((Nat → Int32)) × ((Nat → Int32)) × ((Nat → Int32)) × ((Nat → Int32)) × ((Nat → Int32)) × Nat × ((Nat → Option Nat)) × Int32 × ((Nat → Int32)) × ((Nat → Int32)) × ((Nat → Int32)) × ((Nat → Int32)) × ((Nat → Int32)))
  | 0, _, _, _, _, _, _, _, _, _, _, _, _, _, _, _, _, _, _, _, _, _, _, _, _, _, _, _, _, _, _ => none
  | n + 1, w1o0, w1o1, w1o2, w1o3, w1o4, w1o5, w1o6, w1o7, w1a8, w1a9, w1a10, w1a11, w1a12, w1a14, w1a15, w1a16, w1a17, w1h, w1c, gs, ga0, ga1, ga2, ga3, ga5, x1, x2, x3, x4, x5 =>
  if x1 ≤ x5 then
    pX11_years_102 F w0o0 w0o1 w0o2 w0o3 w0o4 w0o5 w0o6 w0o7 w0a8 w0a9 w0a10 w0a11 w0a12 w0a14 w0a15 w0a16 w0a17 w0h w0c w1o0 w1o1 w1o2 w1o3 w1o4 w1o5 w1o6 w1o7 w1a8 w1a9 w1a10 w1a11 w1a12 w1a14 w1a15 w1a16 w1a17 w1h w1c gs ga0 ga1 ga2 ga3 ga5 x3 x4
  else
    gbd (pX11_goYear_w1 F w1o0 w1o1 w1o6 w1o7 w1a10 w1a11 w1h w1c w1o5 w1a8 w1a9 w1a12 gs ga0 ga1 ga2 ga3 ga5 x2) fun z_1 =>
    gnm (x4 + z_1.1) fun v_2 =>
    pX11_years_76 F w0o0 w0o1 w0o2 w0o3 w0o4 w0o5 w0o6 w0o7 w0a8 w0a9 w0a10 w0a11 w0a12 w0a14 w0a15 w0a16 w0a17 w0h w0c n w1o0 w1o1 w1o2 w1o3 w1o4 z_1.2.1 w1o6 w1o7 z_1.2.2.1 z_1.2.2.2.1 w1a10 w1a11 z_1.2.2.2.2.1 w1a14 w1a15 w1a16 w1a17 w1h w1c z_1.2.2.2.2.2.1 z_1.2.2.2.2.2.2.1 z_1.2.2.2.2.2.2.2.1 z_1.2.2.2.2.2.2.2.2.1 z_1.2.2.2.2.2.2.2.2.2.1 z_1.2.2.2.2.2.2.2.2.2.2 x1 x2 x3 v_2 (x5 + 1)


def pX11_years_46 (F : gF) (w0o0 : Int32) (w0o1 : Int32) (w0o2 : Int32) (w0o3 : Int32) (w0o4 : Int32) (w0o5 : Int32) (w0o6 : Int32) (w0o7 : Int32) (w0a8 : (Nat → Int32)) (w0a9 : (Nat → Int32)) (w0a10 : (Nat → Int32)) (w0a11 : (Nat → Int32)) (w0a12 : (Nat → Int32)) (w0a14 : (Nat → Int32)) (w0a15 : (Nat → Int32)) (w0a16 : (Nat → Int32)) (w0a17 : (Nat → Int32)) (w0h : Nat) (w0c : (Nat → Option Nat)) (w1o0 : Int32) (w1o1 : Int32) (w1o2 : Int32) (w1o3 : Int32) (w1o4 : Int32) (w1o5 : Int32) (w1o6 : Int32) (w1o7 : Int32) (w1a8 : (Nat → Int32)) (w1a9 : (Nat → Int32)) (w1a10 : (Nat → Int32)) (w1a11 : (Nat → Int32)) (w1a12 : (Nat → Int32)) (w1a14 : (Nat → Int32)) (w1a15 : (Nat → Int32)) (w1a16 : (Nat → Int32)) (w1a17 : (Nat → Int32)) (w1h : Nat) (w1c : (Nat → Option Nat)) (gs : Int32) (ga0 : (Nat → Int32)) (ga1 : (Nat → Int32)) (ga2 : (Nat → Int32)) (ga3 : (Nat → Int32)) (ga5 : (Nat → Int32)) (x1 : Int32) (x2 : Int32) (x3 : Int32) : Option (Int32 × Int32 × Int32 × Int32 × Int32 × Int32 × Int32 × Int32 × Int32 × ((Nat → Int32)) × ((Nat → Int32)) × ((Nat → Int32)) × ((Nat → Int32)) × ((Nat → Int32)) × ((Nat → Int32)) × ((Nat → Int32)) × ((Nat → Int32)) × ((Nat → Int32)) × Nat × ((Nat → Option Nat)) × Int32 × ((Nat → Int32)) × ((Nat → Int32)) × ((Nat → Int32)) × ((Nat → Int32)) × ((Nat → Int32))) :=
  gbd (pX11_isWithin x1 20) fun z_1 =>
  if z_1 = 0 then
    some ((-1002), w1o0, w1o1, w1o2, w1o3, w1o4, w1o5, w1o6, w1o7, w1a8, w1a9, w1a10, w1a11, w1a12, w1a14, w1a15, w1a16, w1a17, w1h, w1c, gs, ga0, ga1, ga2, ga3, ga5)
  else
    gbd (pX10_become_w1_w0 F w0o0 w0o1 w0o2 w0o3 w0o4 w0o5 w0o6 w0o7 w0a8 w0a9 w0a10 w0a11 w0a12 w0a14 w0a15 w0a16 w0a17 w0h w0c w1o0 w1o1 w1o2 w1o3 w1o4 w1o5 w1o6 w1o7 w1a8 w1a9 w1a10 w1a11 w1a12 w1a14 w1a15 w1a16 w1a17 w1h w1c) fun z_2 =>
    pX11_years_76 F w0o0 w0o1 w0o2 w0o3 w0o4 w0o5 w0o6 w0o7 w0a8 w0a9 w0a10 w0a11 w0a12 w0a14 w0a15 w0a16 w0a17 w0h w0c 1000 z_2.1 z_2.2.1 z_2.2.2.1 z_2.2.2.2.1 z_2.2.2.2.2.1 z_2.2.2.2.2.2.1 z_2.2.2.2.2.2.2.1 z_2.2.2.2.2.2.2.2.1 z_2.2.2.2.2.2.2.2.2.1 z_2.2.2.2.2.2.2.2.2.2.1 z_2.2.2.2.2.2.2.2.2.2.2.1 z_2.2.2.2.2.2.2.2.2.2.2.2.1 z_2.2.2.2.2.2.2.2.2.2.2.2.2.1 z_2.2.2.2.2.2.2.2.2.2.2.2.2.2.1 z_2.2.2.2.2.2.2.2.2.2.2.2.2.2.2.1 z_2.2.2.2.2.2.2.2.2.2.2.2.2.2.2.2.1 z_2.2.2.2.2.2.2.2.2.2.2.2.2.2.2.2.2.1 z_2.2.2.2.2.2.2.2.2.2.2.2.2.2.2.2.2.2.1 z_2.2.2.2.2.2.2.2.2.2.2.2.2.2.2.2.2.2.2 gs ga0 ga1 ga2 ga3 ga5 x1 x2 x3 0 0


def pX11_years (F : gF) (w0o0 : Int32) (w0o1 : Int32) (w0o2 : Int32) (w0o3 : Int32) (w0o4 : Int32) (w0o5 : Int32) (w0o6 : Int32) (w0o7 : Int32) (w0a8 : (Nat → Int32)) (w0a9 : (Nat → Int32)) (w0a10 : (Nat → Int32)) (w0a11 : (Nat → Int32)) (w0a12 : (Nat → Int32)) (w0a14 : (Nat → Int32)) (w0a15 : (Nat → Int32)) (w0a16 : (Nat → Int32)) (w0a17 : (Nat → Int32)) (w0h : Nat) (w0c : (Nat → Option Nat)) (w1o0 : Int32) (w1o1 : Int32) (w1o2 : Int32) (w1o3 : Int32) (w1o4 : Int32) (w1o5 : Int32) (w1o6 : Int32) (w1o7 : Int32) (w1a8 : (Nat → Int32)) (w1a9 : (Nat → Int32)) (w1a10 : (Nat → Int32)) (w1a11 : (Nat → Int32)) (w1a12 : (Nat → Int32)) (w1a14 : (Nat → Int32)) (w1a15 : (Nat → Int32)) (w1a16 : (Nat → Int32)) (w1a17 : (Nat → Int32)) (w1h : Nat) (w1c : (Nat → Option Nat)) (gs : Int32) (ga0 : (Nat → Int32)) (ga1 : (Nat → Int32)) (ga2 : (Nat → Int32)) (ga3 : (Nat → Int32)) (ga5 : (Nat → Int32)) (x1 : Int32) (x2 : Int32) (x3 : Int32) : Option (Int32 × Int32 × Int32 × Int32 × Int32 × Int32 × Int32 × Int32 × Int32 × ((Nat → Int32)) × ((Nat → Int32)) × ((Nat → Int32)) × ((Nat → Int32)) × ((Nat → Int32)) × ((Nat → Int32)) × ((Nat → Int32)) × ((Nat → Int32)) × ((Nat → Int32)) × Nat × ((Nat → Option Nat)) × Int32 × ((Nat → Int32)) × ((Nat → Int32)) × ((Nat → Int32)) × ((Nat → Int32)) × ((Nat → Int32))) :=
  if x2 < 0 then
    some ((-1001), w1o0, w1o1, w1o2, w1o3, w1o4, w1o5, w1o6, w1o7, w1a8, w1a9, w1a10, w1a11, w1a12, w1a14, w1a15, w1a16, w1a17, w1h, w1c, gs, ga0, ga1, ga2, ga3, ga5)
  else
    if x2 ≤ 3 then
      if x3 < 0 then
        some ((-1001), w1o0, w1o1, w1o2, w1o3, w1o4, w1o5, w1o6, w1o7, w1a8, w1a9, w1a10, w1a11, w1a12, w1a14, w1a15, w1a16, w1a17, w1h, w1c, gs, ga0, ga1, ga2, ga3, ga5)
      else
        if x3 ≤ 1 then
          pX11_years_46 F w0o0 w0o1 w0o2 w0o3 w0o4 w0o5 w0o6 w0o7 w0a8 w0a9 w0a10 w0a11 w0a12 w0a14 w0a15 w0a16 w0a17 w0h w0c w1o0 w1o1 w1o2 w1o3 w1o4 w1o5 w1o6 w1o7 w1a8 w1a9 w1a10 w1a11 w1a12 w1a14 w1a15 w1a16 w1a17 w1h w1c gs ga0 ga1 ga2 ga3 ga5 x1 x2 x3
        else
          if x3 < 10 then
            some ((-1001), w1o0, w1o1, w1o2, w1o3, w1o4, w1o5, w1o6, w1o7, w1a8, w1a9, w1a10, w1a11, w1a12, w1a14, w1a15, w1a16, w1a17, w1h, w1c, gs, ga0, ga1, ga2, ga3, ga5)
          else
            gbd (pX10_hasWorker_w0 w0o0 (x3 - 10)) fun z_1 =>
            if z_1 = 0 then
              some ((-1001), w1o0, w1o1, w1o2, w1o3, w1o4, w1o5, w1o6, w1o7, w1a8, w1a9, w1a10, w1a11, w1a12, w1a14, w1a15, w1a16, w1a17, w1h, w1c, gs, ga0, ga1, ga2, ga3, ga5)
            else
              pX11_years_46 F w0o0 w0o1 w0o2 w0o3 w0o4 w0o5 w0o6 w0o7 w0a8 w0a9 w0a10 w0a11 w0a12 w0a14 w0a15 w0a16 w0a17 w0h w0c w1o0 w1o1 w1o2 w1o3 w1o4 w1o5 w1o6 w1o7 w1a8 w1a9 w1a10 w1a11 w1a12 w1a14 w1a15 w1a16 w1a17 w1h w1c gs ga0 ga1 ga2 ga3 ga5 x1 x2 x3
    else
      some ((-1001), w1o0, w1o1, w1o2, w1o3, w1o4, w1o5, w1o6, w1o7, w1a8, w1a9, w1a10, w1a11, w1a12, w1a14, w1a15, w1a16, w1a17, w1h, w1c, gs, ga0, ga1, ga2, ga3, ga5)


def pX11_choices_16 : Nat → Int32 → Int32 → Int64 → Int32 → Option (Int64)
  | 0, _, _, _, _ => none
  | n + 1, x0, x1, x2, x4 =>
  if x1 ≤ x4 then
    some (x2)
  else
    gck (¬ (Int32.toInt64 (x4 + 1)) = 0) <|
    gnm ((x2 * (Int32.toInt64 (x0 - x4))) / (Int32.toInt64 (x4 + 1))) fun v_2 =>
    pX11_choices_16 n x0 x1 v_2 (x4 + 1)


def pX11_choices (x0 : Int32) (x1 : Int32) : Option (Int64) :=
  if x1 < 0 then
    some (0)
  else
    if x1 ≤ x0 then
      pX11_choices_16 1000 x0 x1 1 0
    else
      some (0)


def pX11_lowest_33 : Nat → Int64 → Int64 → Int32 → Int64 → Int64 → Int32 → Option (Int64)
  | 0, _, _, _, _, _, _ => none
  | n + 1, x0, x2, x4, x5, x7, x9 =>
  if 100 ≤ x9 then
    if x4 = 0 then
      gck (¬ x7 = 0) <|
      some ((x0 / x7))
    else
      gck (¬ x7 = 0) <|
      some ((x2 / x7))
  else
    if (lg_cmp x5 0) = 0 then
      if x4 = 0 then
        gck (¬ x7 = 0) <|
        some ((x0 / x7))
      else
        gck (¬ x7 = 0) <|
        some ((x2 / x7))
    else
      gck (¬ x5 = 0) <|
      gnm (x7 - x7 / x5 * x5) fun v_6 =>
      pX11_lowest_33 n x0 x2 x4 v_6 x5 (x9 + 1)


def pX11_lowest (x0 : Int64) (x2 : Int64) (x4 : Int32) : Option (Int64) :=
  if (lg_cmp x2 0) ≤ 0 then
    some ((-9223372036854775808))
  else
    if x4 < 0 then
      some ((-9223372036854775808))
    else
      if x4 ≤ 1 then
        gnm (if 0 < x0 then x0 else -x0) fun v_1 =>
        pX11_lowest_33 1000 x0 x2 x4 v_1 x2 0
      else
        some ((-9223372036854775808))


def pX11_chance (x1 : Int32) (x2 : Int32) (x3 : Int32) (x4 : Int32) (x5 : Int32) : Option (Int64) :=
  if x1 < 1 then
    some ((-9223372036854775808))
  else
    if x1 ≤ 30 then
      gbd (pX11_isWithin x2 x1) fun z_1 =>
      if z_1 = 0 then
        some ((-9223372036854775808))
      else
        gbd (pX11_isWithin x3 x1) fun z_2 =>
        if z_2 = 0 then
          some ((-9223372036854775808))
        else
          gbd (pX11_isWithin x4 x3) fun z_3 =>
          if z_3 = 0 then
            some ((-9223372036854775808))
          else
            gbd (pX11_choices x2 x4) fun z_4 =>
            gbd (pX11_choices (x1 - x2) (x3 - x4)) fun z_5 =>
            gbd (pX11_choices x1 x3) fun z_6 =>
            gbd (pX11_lowest (z_4 * z_5) z_6 x5) fun z_7 =>
            some (z_7)
    else
      some ((-9223372036854775808))


def pX11_book (w0o0 : Int32) (w0o1 : Int32) (w0c : (Nat → Option Nat)) (w0o3 : Int32) (w0a14 : (Nat → Int32)) (w0a15 : (Nat → Int32)) (w0a16 : (Nat → Int32)) (x1 : Int32) (x2 : Int32) (x3 : Int32) : Option (Int32 × Int32 × ((Nat → Int32)) × ((Nat → Int32)) × ((Nat → Int32))) :=
  gbd (pX10_hasWorker_w0 w0o0 x1) fun z_1 =>
  if z_1 = 0 then
    some ((-1), w0o3, w0a14, w0a15, w0a16)
  else
    gbd (pX10_chiefAt_w0 w0o1 w0c x2) fun z_2 =>
    gmt z_2 (
      some ((-1), w0o3, w0a14, w0a15, w0a16)
    ) fun b_z2 =>
      if x3 < 1 then
        some ((-2), w0o3, w0a14, w0a15, w0a16)
      else
        if x3 ≤ 5 then
          if w0o3 < 20 then
            gck (ginb w0o3 20) <|
            gnm (upd w0a14 (Int32.toNatClampNeg w0o3) x1) fun f_4 =>
            gck (ginb w0o3 20) <|
            gnm (upd w0a15 (Int32.toNatClampNeg w0o3) x2) fun f_6 =>
            gck (ginb w0o3 20) <|
            gnm (upd w0a16 (Int32.toNatClampNeg w0o3) x3) fun f_8 =>
            some ((w0o3 + 1), (w0o3 + 1), f_4, f_6, f_8)
          else
            some ((-4), w0o3, w0a14, w0a15, w0a16)
        else
          some ((-2), w0o3, w0a14, w0a15, w0a16)


def pX11_clear (w0o3 : Int32) : Option (Int32 × Int32) :=
  some (w0o3, 0)


def pX11_neighbours_37 (k4 : Int32 → Int32 → Int32 → Option (Int32)) (w0o3 : Int32) (w0a14 : (Nat → Int32)) (w0a15 : (Nat → Int32)) : Nat → Int32 → Int32 → Int32 → Int32 → Option (Int32)
  | 0, _, _, _, _ => none
  | n + 1, x1, x2, x3, x4 =>
  if w0o3 ≤ x4 then
    k4 x1 x2 (x3 + 1)
  else
    gck (ginb x4 20) <|
    gck (ginb x3 20) <|
    if (w0a14 (Int32.toNatClampNeg x4)) = (w0a14 (Int32.toNatClampNeg x3)) then
      gck (ginb x4 20) <|
      gnm (x2 ||| (1 <<< ((w0a15 (Int32.toNatClampNeg x4)) &&& 31))) fun v_4 =>
      pX11_neighbours_37 k4 w0o3 w0a14 w0a15 n x1 v_4 x3 (x4 + 1)
    else
      pX11_neighbours_37 k4 w0o3 w0a14 w0a15 n x1 x2 x3 (x4 + 1)


def pX11_neighbours_4 (w0o3 : Int32) (w0a14 : (Nat → Int32)) (w0a15 : (Nat → Int32)) : Nat → Int32 → Int32 → Int32 → Option (Int32)
  | 0, _, _, _ => none
  | n + 1, x1, x2, x3 =>
  if w0o3 ≤ x3 then
    some (x2)
  else
    gck (ginb x3 20) <|
    if (x1 &&& (1 <<< ((w0a15 (Int32.toNatClampNeg x3)) &&& 31))) = 0 then
      pX11_neighbours_4 w0o3 w0a14 w0a15 n x1 x2 (x3 + 1)
    else
      pX11_neighbours_37 (pX11_neighbours_4 w0o3 w0a14 w0a15 n) w0o3 w0a14 w0a15 1000 x1 x2 x3 0


def pX11_neighbours (w0o3 : Int32) (w0a14 : (Nat → Int32)) (w0a15 : (Nat → Int32)) (x1 : Int32) : Option (Int32) :=
  pX11_neighbours_4 w0o3 w0a14 w0a15 1000 x1 0 0


def pX11_netOf_6 (w0o3 : Int32) (w0a14 : (Nat → Int32)) (w0a15 : (Nat → Int32)) : Nat → Int32 → Int32 → Option (Int32)
  | 0, _, _ => none
  | n + 1, x2, x3 =>
  if 4 ≤ x3 then
    some (x2)
  else
    gbd (pX11_neighbours w0o3 w0a14 w0a15 x2) fun z_1 =>
    gnm (x2 ||| z_1) fun v_2 =>
    pX11_netOf_6 w0o3 w0a14 w0a15 n v_2 (x3 + 1)


def pX11_netOf (w0o3 : Int32) (w0a14 : (Nat → Int32)) (w0a15 : (Nat → Int32)) (x1 : Int32) : Option (Int32) :=
  gnm (1 <<< (x1 &&& 31)) fun v_1 =>
  pX11_netOf_6 w0o3 w0a14 w0a15 1000 v_1 1


def pX11_howManyNets_4 (w0o1 : Int32) (w0o3 : Int32) (w0a14 : (Nat → Int32)) (w0a15 : (Nat → Int32)) : Nat → Int32 → Int32 → Option (Int32)
  | 0, _, _ => none
  | n + 1, x1, x2 =>
  if w0o1 ≤ x2 then
    some (x1)
  else
    gbd (pX11_netOf w0o3 w0a14 w0a15 x2) fun z_1 =>
    if (z_1 &&& ((1 <<< (x2 &&& 31)) - 1)) = 0 then
      pX11_howManyNets_4 w0o1 w0o3 w0a14 w0a15 n (x1 + 1) (x2 + 1)
    else
      pX11_howManyNets_4 w0o1 w0o3 w0a14 w0a15 n x1 (x2 + 1)


def pX11_howManyNets (w0o1 : Int32) (w0o3 : Int32) (w0a14 : (Nat → Int32)) (w0a15 : (Nat → Int32)) : Option (Int32) :=
  pX11_howManyNets_4 w0o1 w0o3 w0a14 w0a15 1000 0 0


def pX11_nets (w0o1 : Int32) (w0o3 : Int32) (w0a14 : (Nat → Int32)) (w0a15 : (Nat → Int32)) (w0c : (Nat → Option Nat)) (x1 : Int32) : Option (Int32) :=
  if x1 = (-1) then
    gbd (pX11_howManyNets w0o1 w0o3 w0a14 w0a15) fun z_3 =>
    some (z_3)
  else
    gbd (pX10_chiefAt_w0 w0o1 w0c x1) fun z_1 =>
    gmt z_1 (
      some ((-1))
    ) fun b_z1 =>
      gbd (pX11_netOf w0o3 w0a14 w0a15 x1) fun z_2 =>
      some (z_2)


def pX10_firstGrade_w0_2 (w0o3 : Int32) (w0a14 : (Nat → Int32)) (w0a15 : (Nat → Int32)) (w0a16 : (Nat → Int32)) : Nat → Int32 → Int32 → Int32 → Option (Int32)
  | 0, _, _, _ => none
  | n + 1, x1, x2, x3 =>
  if w0o3 ≤ x3 then
    some (0)
  else
    gck (ginb x3 20) <|
    if (w0a14 (Int32.toNatClampNeg x3)) = x1 then
      gck (ginb x3 20) <|
      if (w0a15 (Int32.toNatClampNeg x3)) = x2 then
        gck (ginb x3 20) <|
        some ((w0a16 (Int32.toNatClampNeg x3)))
      else
        pX10_firstGrade_w0_2 w0o3 w0a14 w0a15 w0a16 n x1 x2 (x3 + 1)
    else
      pX10_firstGrade_w0_2 w0o3 w0a14 w0a15 w0a16 n x1 x2 (x3 + 1)


def pX10_firstGrade_w0 (w0o3 : Int32) (w0a14 : (Nat → Int32)) (w0a15 : (Nat → Int32)) (w0a16 : (Nat → Int32)) (x1 : Int32) (x2 : Int32) : Option (Int32) :=
  pX10_firstGrade_w0_2 w0o3 w0a14 w0a15 w0a16 1000 x1 x2 0


def pX11_leans_40 (w0o0 : Int32) (w0o1 : Int32) (w0o3 : Int32) (w0a14 : (Nat → Int32)) (w0a15 : (Nat → Int32)) (w0a16 : (Nat → Int32)) (w0c : (Nat → Option Nat)) : Nat → Int32 → Int32 → Int32 → Int32 → Int32 → Int32 → Option (Int64)
  | 0, _, _, _, _, _, _ => none
  | n + 1, x1, x2, x3, x4, x5, x6 =>
  if w0o0 ≤ x6 then
    gbd (pX11_lowest (Int32.toInt64 x4) (Int32.toInt64 x5) x3) fun z_1 =>
    some (z_1)
  else
    gbd (pX10_firstGrade_w0 w0o3 w0a14 w0a15 w0a16 x6 x1) fun z_2 =>
    gbd (pX10_firstGrade_w0 w0o3 w0a14 w0a15 w0a16 x6 x2) fun z_3 =>
    if z_2 = 0 then
      pX11_leans_40 w0o0 w0o1 w0o3 w0a14 w0a15 w0a16 w0c n x1 x2 x3 x4 x5 (x6 + 1)
    else
      if z_3 = 0 then
        pX11_leans_40 w0o0 w0o1 w0o3 w0a14 w0a15 w0a16 w0c n x1 x2 x3 x4 x5 (x6 + 1)
      else
        gnm (x4 + (z_2 - z_3)) fun v_4 =>
        pX11_leans_40 w0o0 w0o1 w0o3 w0a14 w0a15 w0a16 w0c n x1 x2 x3 v_4 (x5 + 1) (x6 + 1)


def pX11_leans (w0o0 : Int32) (w0o1 : Int32) (w0o3 : Int32) (w0a14 : (Nat → Int32)) (w0a15 : (Nat → Int32)) (w0a16 : (Nat → Int32)) (w0c : (Nat → Option Nat)) (x1 : Int32) (x2 : Int32) (x3 : Int32) : Option (Int64) :=
  gbd (pX10_chiefAt_w0 w0o1 w0c x1) fun z_1 =>
  gmt z_1 (
    some ((-9223372036854775808))
  ) fun b_z1 =>
    gbd (pX10_chiefAt_w0 w0o1 w0c x2) fun z_2 =>
    gmt z_2 (
      some ((-9223372036854775808))
    ) fun b_z2 =>
      if x1 = x2 then
        some ((-9223372036854775808))
      else
        pX11_leans_40 w0o0 w0o1 w0o3 w0a14 w0a15 w0a16 w0c 1000 x1 x2 x3 0 0 0


def pX11_looked_2 (F : gF) (w0o0 : Int32) (w0o1 : Int32) (w0o2 : Int32) (w0o3 : Int32) (w0o4 : Int32) (w0o5 : Int32) (w0o6 : Int32) (w0o7 : Int32) (w0a8 : (Nat → Int32)) (w0a9 : (Nat → Int32)) (w0a10 : (Nat → Int32)) (w0a11 : (Nat → Int32)) (w0a12 : (Nat → Int32)) (w0a14 : (Nat → Int32)) (w0a15 : (Nat → Int32)) (w0a16 : (Nat → Int32)) (w0a17 : (Nat → Int32)) (w0h : Nat) (w0c : (Nat → Option Nat)) : Nat → Int32 → Int32 → Int32 → Int32 → Int32 → Int32 → Int32 → Int32 → ((Nat → Int32)) → ((Nat → Int32)) → ((Nat → Int32)) → ((Nat → Int32)) → ((Nat → Int32)) → ((Nat → Int32)) → ((Nat → Int32)) → ((Nat → Int32)) → ((Nat → Int32)) → Nat → ((Nat → Option Nat)) → Int32 → ((Nat → Int32)) → ((Nat → Int32)) → ((Nat → Int32)) → ((Nat → Int32)) → ((Nat → Int32)) → Int32 → Option (Int32 × Int32 × Int32 × Int32 × Int32 × Int32 × Int32 × Int32 × Int32 × ((Nat → Int32)) × ((Nat → Int32)) × ((Nat → Int32)) × ((Nat → Int32)) × ((Nat → Int32)) × ((Nat → Int32)) × ((Nat → Int32)) × ((Nat → Int32)) × ((Nat → Int32)) × Nat × ((Nat → Option Nat)) × Int32 × ((Nat → Int32)) × ((Nat → Int32)) × ((Nat → Int32)) × ((Nat → Int32)) × ((Nat → Int32)))
  | 0, _, _, _, _, _, _, _, _, _, _, _, _, _, _, _, _, _, _, _, _, _, _, _, _, _, _ => none
  | n + 1, w1o0, w1o1, w1o2, w1o3, w1o4, w1o5, w1o6, w1o7, w1a8, w1a9, w1a10, w1a11, w1a12, w1a14, w1a15, w1a16, w1a17, w1h, w1c, gs, ga0, ga1, ga2, ga3, ga5, x1 =>
  if w0o3 ≤ x1 then
    some ((-5), w1o0, w1o1, w1o2, w1o3, w1o4, w1o5, w1o6, w1o7, w1a8, w1a9, w1a10, w1a11, w1a12, w1a14, w1a15, w1a16, w1a17, w1h, w1c, gs, ga0, ga1, ga2, ga3, ga5)
  else
    if 20 ≤ x1 then
      some ((-5), w1o0, w1o1, w1o2, w1o3, w1o4, w1o5, w1o6, w1o7, w1a8, w1a9, w1a10, w1a11, w1a12, w1a14, w1a15, w1a16, w1a17, w1h, w1c, gs, ga0, ga1, ga2, ga3, ga5)
    else
      gck (ginb x1 20) <|
      gbd (pX10_chiefAt_w0 w0o1 w0c (w0a15 (Int32.toNatClampNeg x1))) fun z_2 =>
      gmt z_2 (
        pX11_looked_2 F w0o0 w0o1 w0o2 w0o3 w0o4 w0o5 w0o6 w0o7 w0a8 w0a9 w0a10 w0a11 w0a12 w0a14 w0a15 w0a16 w0a17 w0h w0c n w1o0 w1o1 w1o2 w1o3 w1o4 w1o5 w1o6 w1o7 w1a8 w1a9 w1a10 w1a11 w1a12 w1a14 w1a15 w1a16 w1a17 w1h w1c gs ga0 ga1 ga2 ga3 ga5 (x1 + 1)
      ) fun b_z2 =>
        gck (ginb x1 20) <|
        gbd (pX11_gradeUnder F w0o0 w0o1 w0o2 w0o3 w0o4 w0o5 w0o6 w0o7 w0a8 w0a9 w0a10 w0a11 w0a12 w0a14 w0a15 w0a16 w0a17 w0h w0c w1o0 w1o1 w1o2 w1o3 w1o4 w1o5 w1o6 w1o7 w1a8 w1a9 w1a10 w1a11 w1a12 w1a14 w1a15 w1a16 w1a17 w1h w1c gs ga0 ga1 ga2 ga3 ga5 (w0a14 (Int32.toNatClampNeg x1)) b_z2) fun z_4 =>
        gck (ginb x1 20) <|
        if z_4.1 = (w0a16 (Int32.toNatClampNeg x1)) then
          pX11_looked_2 F w0o0 w0o1 w0o2 w0o3 w0o4 w0o5 w0o6 w0o7 w0a8 w0a9 w0a10 w0a11 w0a12 w0a14 w0a15 w0a16 w0a17 w0h w0c n z_4.2.1 z_4.2.2.1 z_4.2.2.2.1 z_4.2.2.2.2.1 z_4.2.2.2.2.2.1 z_4.2.2.2.2.2.2.1 z_4.2.2.2.2.2.2.2.1 z_4.2.2.2.2.2.2.2.2.1 z_4.2.2.2.2.2.2.2.2.2.1 z_4.2.2.2.2.2.2.2.2.2.2.1 z_4.2.2.2.2.2.2.2.2.2.2.2.1 z_4.2.2.2.2.2.2.2.2.2.2.2.2.1 z_4.2.2.2.2.2.2.2.2.2.2.2.2.2.1 z_4.2.2.2.2.2.2.2.2.2.2.2.2.2.2.1 z_4.2.2.2.2.2.2.2.2.2.2.2.2.2.2.2.1 z_4.2.2.2.2.2.2.2.2.2.2.2.2.2.2.2.2.1 z_4.2.2.2.2.2.2.2.2.2.2.2.2.2.2.2.2.2.1 z_4.2.2.2.2.2.2.2.2.2.2.2.2.2.2.2.2.2.2.1 z_4.2.2.2.2.2.2.2.2.2.2.2.2.2.2.2.2.2.2.2.1 z_4.2.2.2.2.2.2.2.2.2.2.2.2.2.2.2.2.2.2.2.2.1 z_4.2.2.2.2.2.2.2.2.2.2.2.2.2.2.2.2.2.2.2.2.2.1 z_4.2.2.2.2.2.2.2.2.2.2.2.2.2.2.2.2.2.2.2.2.2.2.1 z_4.2.2.2.2.2.2.2.2.2.2.2.2.2.2.2.2.2.2.2.2.2.2.2.1 z_4.2.2.2.2.2.2.2.2.2.2.2.2.2.2.2.2.2.2.2.2.2.2.2.2.1 z_4.2.2.2.2.2.2.2.2.2.2.2.2.2.2.2.2.2.2.2.2.2.2.2.2.2 (x1 + 1)
        else
          some (x1, z_4.2.1, z_4.2.2.1, z_4.2.2.2.1, z_4.2.2.2.2.1, z_4.2.2.2.2.2.1, z_4.2.2.2.2.2.2.1, z_4.2.2.2.2.2.2.2.1, z_4.2.2.2.2.2.2.2.2.1, z_4.2.2.2.2.2.2.2.2.2.1, z_4.2.2.2.2.2.2.2.2.2.2.1, z_4.2.2.2.2.2.2.2.2.2.2.2.1, z_4.2.2.2.2.2.2.2.2.2.2.2.2.1, z_4.2.2.2.2.2.2.2.2.2.2.2.2.2.1, z_4.2.2.2.2.2.2.2.2.2.2.2.2.2.2.1, z_4.2.2.2.2.2.2.2.2.2.2.2.2.2.2.2.1, z_4.2.2.2.2.2.2.2.2.2.2.2.2.2.2.2.2.1, z_4.2.2.2.2.2.2.2.2.2.2.2.2.2.2.2.2.2.1, z_4.2.2.2.2.2.2.2.2.2.2.2.2.2.2.2.2.2.2.1, z_4.2.2.2.2.2.2.2.2.2.2.2.2.2.2.2.2.2.2.2.1, z_4.2.2.2.2.2.2.2.2.2.2.2.2.2.2.2.2.2.2.2.2.1, z_4.2.2.2.2.2.2.2.2.2.2.2.2.2.2.2.2.2.2.2.2.2.1, z_4.2.2.2.2.2.2.2.2.2.2.2.2.2.2.2.2.2.2.2.2.2.2.1, z_4.2.2.2.2.2.2.2.2.2.2.2.2.2.2.2.2.2.2.2.2.2.2.2.1, z_4.2.2.2.2.2.2.2.2.2.2.2.2.2.2.2.2.2.2.2.2.2.2.2.2.1, z_4.2.2.2.2.2.2.2.2.2.2.2.2.2.2.2.2.2.2.2.2.2.2.2.2.2)


def pX11_looked (F : gF) (w0o0 : Int32) (w0o1 : Int32) (w0o2 : Int32) (w0o3 : Int32) (w0o4 : Int32) (w0o5 : Int32) (w0o6 : Int32) (w0o7 : Int32) (w0a8 : (Nat → Int32)) (w0a9 : (Nat → Int32)) (w0a10 : (Nat → Int32)) (w0a11 : (Nat → Int32)) (w0a12 : (Nat → Int32)) (w0a14 : (Nat → Int32)) (w0a15 : (Nat → Int32)) (w0a16 : (Nat → Int32)) (w0a17 : (Nat → Int32)) (w0h : Nat) (w0c : (Nat → Option Nat)) (w1o0 : Int32) (w1o1 : Int32) (w1o2 : Int32) (w1o3 : Int32) (w1o4 : Int32) (w1o5 : Int32) (w1o6 : Int32) (w1o7 : Int32) (w1a8 : (Nat → Int32)) (w1a9 : (Nat → Int32)) (w1a10 : (Nat → Int32)) (w1a11 : (Nat → Int32)) (w1a12 : (Nat → Int32)) (w1a14 : (Nat → Int32)) (w1a15 : (Nat → Int32)) (w1a16 : (Nat → Int32)) (w1a17 : (Nat → Int32)) (w1h : Nat) (w1c : (Nat → Option Nat)) (gs : Int32) (ga0 : (Nat → Int32)) (ga1 : (Nat → Int32)) (ga2 : (Nat → Int32)) (ga3 : (Nat → Int32)) (ga5 : (Nat → Int32)) : Option (Int32 × Int32 × Int32 × Int32 × Int32 × Int32 × Int32 × Int32 × Int32 × ((Nat → Int32)) × ((Nat → Int32)) × ((Nat → Int32)) × ((Nat → Int32)) × ((Nat → Int32)) × ((Nat → Int32)) × ((Nat → Int32)) × ((Nat → Int32)) × ((Nat → Int32)) × Nat × ((Nat → Option Nat)) × Int32 × ((Nat → Int32)) × ((Nat → Int32)) × ((Nat → Int32)) × ((Nat → Int32)) × ((Nat → Int32))) :=
  pX11_looked_2 F w0o0 w0o1 w0o2 w0o3 w0o4 w0o5 w0o6 w0o7 w0a8 w0a9 w0a10 w0a11 w0a12 w0a14 w0a15 w0a16 w0a17 w0h w0c 1000 w1o0 w1o1 w1o2 w1o3 w1o4 w1o5 w1o6 w1o7 w1a8 w1a9 w1a10 w1a11 w1a12 w1a14 w1a15 w1a16 w1a17 w1h w1c gs ga0 ga1 ga2 ga3 ga5 0


def pX11_trace (tb : Int32) (ta : (Nat → Int32)) (x1 : Int32) : Option (Int32) :=
  if x1 < 0 then
    some ((-1))
  else
    if tb ≤ x1 then
      some ((-1))
    else
      if x1 < 20 then
        gck (ginb x1 20) <|
        some ((ta (Int32.toNatClampNeg x1)))
      else
        some ((-1))


def pX8_begin (tb : Int32) (ta : (Nat → Int32)) (x1 : Int32) : Option (Int32 × ((Nat → Int32))) :=
  if tb < 0 then
    some ((tb + 1), ta)
  else
    if 20 ≤ tb then
      some ((tb + 1), ta)
    else
      gck (ginb tb 20) <|
      gnm (upd ta (Int32.toNatClampNeg tb) x1) fun f_2 =>
      some ((tb + 1), f_2)


def pX0_works_k0 (F : gF) (b0 : Nat) (tb : Int32) (ta : (Nat → Int32)) (x1 : Int32) : Option (Int32 × Int32 × ((Nat → Int32))) :=
  gbd (pX8_begin tb ta 1) fun z_1 =>
  some ((x1 + (cn F b0)), z_1.1, z_1.2)


def pX0_grades_k0 (F : gF) (b0 : Nat) (tb : Int32) (ta : (Nat → Int32)) (x1 : Int32) : Option (Int32 × Int32 × ((Nat → Int32))) :=
  gbd (pX8_begin tb ta 2) fun z_1 =>
  gbd (pX0_works_k0 F b0 z_1.1 z_1.2 x1) fun z_2 =>
  some ((z_2.1 - (cv F b0)), z_2.2.1, z_2.2.2)


def pX0_levels_k0 (F : gF) (b0 : Nat) (tb : Int32) (ta : (Nat → Int32)) (x1 : Int32) : Option (Int32 × Int32 × ((Nat → Int32))) :=
  gbd (pX8_begin tb ta 3) fun z_1 =>
  gbd (pX0_grades_k0 F b0 z_1.1 z_1.2 x1) fun z_2 =>
  some ((z_2.1 * 2), z_2.2.1, z_2.2.2)


def pX0_works_k1 (F : gF) (b0 : Nat) (tb : Int32) (ta : (Nat → Int32)) (x1 : Int32) : Option (Int32 × Int32 × ((Nat → Int32))) :=
  gbd (pX8_begin tb ta 1) fun z_1 =>
  some ((x1 + (cn F b0)), z_1.1, z_1.2)


def pX5_works_k1 (F : gF) (b0 : Nat) (tb : Int32) (ta : (Nat → Int32)) (x1 : Int32) : Option (Int32 × Int32 × ((Nat → Int32))) :=
  gbd (pX8_begin tb ta 11) fun z_1 =>
  gbd (pX0_works_k1 F b0 z_1.1 z_1.2 (x1 * 3)) fun z_2 =>
  some (z_2.1, z_2.2.1, z_2.2.2)


def pX0_grades_k1 (F : gF) (b0 : Nat) (tb : Int32) (ta : (Nat → Int32)) (x1 : Int32) : Option (Int32 × Int32 × ((Nat → Int32))) :=
  gbd (pX8_begin tb ta 2) fun z_1 =>
  gbd (pX5_works_k1 F b0 z_1.1 z_1.2 x1) fun z_2 =>
  some ((z_2.1 - (cv F b0)), z_2.2.1, z_2.2.2)


def pX0_levels_k1 (F : gF) (b0 : Nat) (tb : Int32) (ta : (Nat → Int32)) (x1 : Int32) : Option (Int32 × Int32 × ((Nat → Int32))) :=
  gbd (pX8_begin tb ta 3) fun z_1 =>
  gbd (pX0_grades_k1 F b0 z_1.1 z_1.2 x1) fun z_2 =>
  some ((z_2.1 * 2), z_2.2.1, z_2.2.2)


def pX0_works_k2 (F : gF) (b0 : Nat) (tb : Int32) (ta : (Nat → Int32)) (x1 : Int32) : Option (Int32 × Int32 × ((Nat → Int32))) :=
  gbd (pX8_begin tb ta 1) fun z_1 =>
  some ((x1 + (cn F b0)), z_1.1, z_1.2)


def pX0_grades_k2 (F : gF) (b0 : Nat) (tb : Int32) (ta : (Nat → Int32)) (x1 : Int32) : Option (Int32 × Int32 × ((Nat → Int32))) :=
  gbd (pX8_begin tb ta 2) fun z_1 =>
  gbd (pX0_works_k2 F b0 z_1.1 z_1.2 x1) fun z_2 =>
  some ((z_2.1 - (cv F b0)), z_2.2.1, z_2.2.2)


def pX9_grades_k2 (F : gF) (b0 : Nat) (tb : Int32) (ta : (Nat → Int32)) (x1 : Int32) : Option (Int32 × Int32 × ((Nat → Int32))) :=
  gbd (pX8_begin tb ta 21) fun z_1 =>
  gbd (pX0_grades_k2 F b0 z_1.1 z_1.2 x1) fun z_2 =>
  some ((-z_2.1), z_2.2.1, z_2.2.2)


def pX0_levels_k2 (F : gF) (b0 : Nat) (tb : Int32) (ta : (Nat → Int32)) (x1 : Int32) : Option (Int32 × Int32 × ((Nat → Int32))) :=
  gbd (pX8_begin tb ta 3) fun z_1 =>
  gbd (pX9_grades_k2 F b0 z_1.1 z_1.2 x1) fun z_2 =>
  some ((z_2.1 * 2), z_2.2.1, z_2.2.2)


def pX0_works_k3 (F : gF) (b0 : Nat) (tb : Int32) (ta : (Nat → Int32)) (x1 : Int32) : Option (Int32 × Int32 × ((Nat → Int32))) :=
  gbd (pX8_begin tb ta 1) fun z_1 =>
  some ((x1 + (cn F b0)), z_1.1, z_1.2)


def pX0_grades_k3 (F : gF) (b0 : Nat) (tb : Int32) (ta : (Nat → Int32)) (x1 : Int32) : Option (Int32 × Int32 × ((Nat → Int32))) :=
  gbd (pX8_begin tb ta 2) fun z_1 =>
  gbd (pX0_works_k3 F b0 z_1.1 z_1.2 x1) fun z_2 =>
  some ((z_2.1 - (cv F b0)), z_2.2.1, z_2.2.2)


def pX0_levels_k3 (F : gF) (b0 : Nat) (tb : Int32) (ta : (Nat → Int32)) (x1 : Int32) : Option (Int32 × Int32 × ((Nat → Int32))) :=
  gbd (pX8_begin tb ta 3) fun z_1 =>
  gbd (pX0_grades_k3 F b0 z_1.1 z_1.2 x1) fun z_2 =>
  some ((z_2.1 * 2), z_2.2.1, z_2.2.2)


def pX4_levels_k3 (F : gF) (b0 : Nat) (tb : Int32) (ta : (Nat → Int32)) (x1 : Int32) : Option (Int32 × Int32 × ((Nat → Int32))) :=
  gbd (pX8_begin tb ta 31) fun z_1 =>
  gbd (pX0_levels_k3 F b0 z_1.1 z_1.2 x1) fun z_2 =>
  some ((z_2.1 ^^^ 7), z_2.2.1, z_2.2.2)


def pX0_works_k4 (F : gF) (b0 : Nat) (tb : Int32) (ta : (Nat → Int32)) (x1 : Int32) : Option (Int32 × Int32 × ((Nat → Int32))) :=
  gbd (pX8_begin tb ta 1) fun z_1 =>
  some ((x1 + (cn F b0)), z_1.1, z_1.2)


def pX5_works_k4 (F : gF) (b0 : Nat) (tb : Int32) (ta : (Nat → Int32)) (x1 : Int32) : Option (Int32 × Int32 × ((Nat → Int32))) :=
  gbd (pX8_begin tb ta 11) fun z_1 =>
  gbd (pX0_works_k4 F b0 z_1.1 z_1.2 (x1 * 3)) fun z_2 =>
  some (z_2.1, z_2.2.1, z_2.2.2)


def pX0_grades_k4 (F : gF) (b0 : Nat) (tb : Int32) (ta : (Nat → Int32)) (x1 : Int32) : Option (Int32 × Int32 × ((Nat → Int32))) :=
  gbd (pX8_begin tb ta 2) fun z_1 =>
  gbd (pX5_works_k4 F b0 z_1.1 z_1.2 x1) fun z_2 =>
  some ((z_2.1 - (cv F b0)), z_2.2.1, z_2.2.2)


def pX0_levels_k4 (F : gF) (b0 : Nat) (tb : Int32) (ta : (Nat → Int32)) (x1 : Int32) : Option (Int32 × Int32 × ((Nat → Int32))) :=
  gbd (pX8_begin tb ta 3) fun z_1 =>
  gbd (pX0_grades_k4 F b0 z_1.1 z_1.2 x1) fun z_2 =>
  some ((z_2.1 * 2), z_2.2.1, z_2.2.2)


def pX6_levels_k4 (F : gF) (b0 : Nat) (tb : Int32) (ta : (Nat → Int32)) (x1 : Int32) : Option (Int32 × Int32 × ((Nat → Int32))) :=
  gbd (pX8_begin tb ta 41) fun z_1 =>
  gbd (pX0_levels_k4 F b0 z_1.1 z_1.2 (x1 - 1)) fun z_2 =>
  gbd (pX5_works_k4 F b0 z_2.2.1 z_2.2.2 2) fun z_3 =>
  some ((z_2.1 + z_3.1), z_3.2.1, z_3.2.2)


def pX0_works_k5 (F : gF) (b0 : Nat) (tb : Int32) (ta : (Nat → Int32)) (x1 : Int32) : Option (Int32 × Int32 × ((Nat → Int32))) :=
  gbd (pX8_begin tb ta 1) fun z_1 =>
  some ((x1 + (cn F b0)), z_1.1, z_1.2)


def pX3_works_k5 (F : gF) (b0 : Nat) (tb : Int32) (ta : (Nat → Int32)) (x1 : Int32) : Option (Int32 × Int32 × ((Nat → Int32))) :=
  gbd (pX8_begin tb ta 51) fun z_1 =>
  gbd (pX0_works_k5 F b0 z_1.1 z_1.2 x1) fun z_2 =>
  some ((z_2.1 ^^^ (cn F b0)), z_2.2.1, z_2.2.2)


def pX0_grades_k5 (F : gF) (b0 : Nat) (tb : Int32) (ta : (Nat → Int32)) (x1 : Int32) : Option (Int32 × Int32 × ((Nat → Int32))) :=
  gbd (pX8_begin tb ta 2) fun z_1 =>
  gbd (pX3_works_k5 F b0 z_1.1 z_1.2 x1) fun z_2 =>
  some ((z_2.1 - (cv F b0)), z_2.2.1, z_2.2.2)


def pX9_grades_k5 (F : gF) (b0 : Nat) (tb : Int32) (ta : (Nat → Int32)) (x1 : Int32) : Option (Int32 × Int32 × ((Nat → Int32))) :=
  gbd (pX8_begin tb ta 21) fun z_1 =>
  gbd (pX0_grades_k5 F b0 z_1.1 z_1.2 x1) fun z_2 =>
  some ((-z_2.1), z_2.2.1, z_2.2.2)


def pX0_levels_k5 (F : gF) (b0 : Nat) (tb : Int32) (ta : (Nat → Int32)) (x1 : Int32) : Option (Int32 × Int32 × ((Nat → Int32))) :=
  gbd (pX8_begin tb ta 3) fun z_1 =>
  gbd (pX9_grades_k5 F b0 z_1.1 z_1.2 x1) fun z_2 =>
  some ((z_2.1 * 2), z_2.2.1, z_2.2.2)


def pX0_works_k6 (F : gF) (b0 : Nat) (tb : Int32) (ta : (Nat → Int32)) (x1 : Int32) : Option (Int32 × Int32 × ((Nat → Int32))) :=
  gbd (pX8_begin tb ta 1) fun z_1 =>
  some ((x1 + (cn F b0)), z_1.1, z_1.2)


def pX0_grades_k6 (F : gF) (b0 : Nat) (tb : Int32) (ta : (Nat → Int32)) (x1 : Int32) : Option (Int32 × Int32 × ((Nat → Int32))) :=
  gbd (pX8_begin tb ta 2) fun z_1 =>
  gbd (pX0_works_k6 F b0 z_1.1 z_1.2 x1) fun z_2 =>
  some ((z_2.1 - (cv F b0)), z_2.2.1, z_2.2.2)


def pX7_grades_k6 (F : gF) (b0 : Nat) (tb : Int32) (ta : (Nat → Int32)) (x1 : Int32) : Option (Int32 × Int32 × ((Nat → Int32))) :=
  gbd (pX8_begin tb ta 61) fun z_1 =>
  gbd (pX0_grades_k6 F b0 z_1.1 z_1.2 x1) fun z_2 =>
  some ((z_2.1 + (cv F b0)), z_2.2.1, z_2.2.2)


def pX0_levels_k6 (F : gF) (b0 : Nat) (tb : Int32) (ta : (Nat → Int32)) (x1 : Int32) : Option (Int32 × Int32 × ((Nat → Int32))) :=
  gbd (pX8_begin tb ta 3) fun z_1 =>
  gbd (pX7_grades_k6 F b0 z_1.1 z_1.2 x1) fun z_2 =>
  some ((z_2.1 * 2), z_2.2.1, z_2.2.2)


def pX4_levels_k6 (F : gF) (b0 : Nat) (tb : Int32) (ta : (Nat → Int32)) (x1 : Int32) : Option (Int32 × Int32 × ((Nat → Int32))) :=
  gbd (pX8_begin tb ta 31) fun z_1 =>
  gbd (pX0_levels_k6 F b0 z_1.1 z_1.2 x1) fun z_2 =>
  some ((z_2.1 ^^^ 7), z_2.2.1, z_2.2.2)


def pX11_act (F : gF) (w0o1 : Int32) (w0c : (Nat → Option Nat)) (tb : Int32) (ta : (Nat → Int32)) (x1 : Int32) (x2 : Int32) (x3 : Int32) : Option (Int32 × Int32 × ((Nat → Int32))) :=
  gbd (pX10_chiefAt_w0 w0o1 w0c x1) fun z_1 =>
  gmt z_1 (
    some (0, 0, ta)
  ) fun b_z1 =>
    if x2 = 0 then
      gck (chv F b_z1 = true) <|
      if ck F b_z1 = 0 then
        gbd (pX0_works_k0 F b_z1 0 ta x3) fun z_10 =>
        some (z_10.1, z_10.2.1, z_10.2.2)
      else
      if ck F b_z1 = 1 then
        gbd (pX5_works_k1 F b_z1 0 ta x3) fun z_11 =>
        some (z_11.1, z_11.2.1, z_11.2.2)
      else
      if ck F b_z1 = 2 then
        gbd (pX0_works_k2 F b_z1 0 ta x3) fun z_12 =>
        some (z_12.1, z_12.2.1, z_12.2.2)
      else
      if ck F b_z1 = 3 then
        gbd (pX0_works_k3 F b_z1 0 ta x3) fun z_13 =>
        some (z_13.1, z_13.2.1, z_13.2.2)
      else
      if ck F b_z1 = 4 then
        gbd (pX5_works_k4 F b_z1 0 ta x3) fun z_14 =>
        some (z_14.1, z_14.2.1, z_14.2.2)
      else
      if ck F b_z1 = 5 then
        gbd (pX3_works_k5 F b_z1 0 ta x3) fun z_15 =>
        some (z_15.1, z_15.2.1, z_15.2.2)
      else
      gbd (pX0_works_k6 F b_z1 0 ta x3) fun z_16 =>
      some (z_16.1, z_16.2.1, z_16.2.2)
    else
    if x2 = 1 then
      gck (chv F b_z1 = true) <|
      if ck F b_z1 = 0 then
        gbd (pX0_grades_k0 F b_z1 0 ta x3) fun z_25 =>
        some (z_25.1, z_25.2.1, z_25.2.2)
      else
      if ck F b_z1 = 1 then
        gbd (pX0_grades_k1 F b_z1 0 ta x3) fun z_26 =>
        some (z_26.1, z_26.2.1, z_26.2.2)
      else
      if ck F b_z1 = 2 then
        gbd (pX9_grades_k2 F b_z1 0 ta x3) fun z_27 =>
        some (z_27.1, z_27.2.1, z_27.2.2)
      else
      if ck F b_z1 = 3 then
        gbd (pX0_grades_k3 F b_z1 0 ta x3) fun z_28 =>
        some (z_28.1, z_28.2.1, z_28.2.2)
      else
      if ck F b_z1 = 4 then
        gbd (pX0_grades_k4 F b_z1 0 ta x3) fun z_29 =>
        some (z_29.1, z_29.2.1, z_29.2.2)
      else
      if ck F b_z1 = 5 then
        gbd (pX9_grades_k5 F b_z1 0 ta x3) fun z_30 =>
        some (z_30.1, z_30.2.1, z_30.2.2)
      else
      gbd (pX7_grades_k6 F b_z1 0 ta x3) fun z_31 =>
      some (z_31.1, z_31.2.1, z_31.2.2)
    else
    if x2 = 2 then
      gck (chv F b_z1 = true) <|
      if ck F b_z1 = 0 then
        gbd (pX0_levels_k0 F b_z1 0 ta x3) fun z_40 =>
        some (z_40.1, z_40.2.1, z_40.2.2)
      else
      if ck F b_z1 = 1 then
        gbd (pX0_levels_k1 F b_z1 0 ta x3) fun z_41 =>
        some (z_41.1, z_41.2.1, z_41.2.2)
      else
      if ck F b_z1 = 2 then
        gbd (pX0_levels_k2 F b_z1 0 ta x3) fun z_42 =>
        some (z_42.1, z_42.2.1, z_42.2.2)
      else
      if ck F b_z1 = 3 then
        gbd (pX4_levels_k3 F b_z1 0 ta x3) fun z_43 =>
        some (z_43.1, z_43.2.1, z_43.2.2)
      else
      if ck F b_z1 = 4 then
        gbd (pX6_levels_k4 F b_z1 0 ta x3) fun z_44 =>
        some (z_44.1, z_44.2.1, z_44.2.2)
      else
      if ck F b_z1 = 5 then
        gbd (pX0_levels_k5 F b_z1 0 ta x3) fun z_45 =>
        some (z_45.1, z_45.2.1, z_45.2.2)
      else
      gbd (pX4_levels_k6 F b_z1 0 ta x3) fun z_46 =>
      some (z_46.1, z_46.2.1, z_46.2.2)
    else
    some (0, 0, ta)


def pX0_isOfKind_k0 (x1 : Int32) : Option (Int32) :=
  if x1 = 0 then
    some (1)
  else
  if x1 = 1 then
    some (0)
  else
  if x1 = 2 then
    some (0)
  else
  if x1 = 3 then
    some (0)
  else
  if x1 = 4 then
    some (0)
  else
  if x1 = 5 then
    some (0)
  else
  if x1 = 6 then
    some (0)
  else
  some (0)


def pX0_isOfKind_k1 (x1 : Int32) : Option (Int32) :=
  if x1 = 0 then
    some (1)
  else
  if x1 = 1 then
    some (1)
  else
  if x1 = 2 then
    some (0)
  else
  if x1 = 3 then
    some (0)
  else
  if x1 = 4 then
    some (0)
  else
  if x1 = 5 then
    some (0)
  else
  if x1 = 6 then
    some (0)
  else
  some (0)


def pX0_isOfKind_k2 (x1 : Int32) : Option (Int32) :=
  if x1 = 0 then
    some (1)
  else
  if x1 = 1 then
    some (0)
  else
  if x1 = 2 then
    some (1)
  else
  if x1 = 3 then
    some (0)
  else
  if x1 = 4 then
    some (0)
  else
  if x1 = 5 then
    some (0)
  else
  if x1 = 6 then
    some (0)
  else
  some (0)


def pX0_isOfKind_k3 (x1 : Int32) : Option (Int32) :=
  if x1 = 0 then
    some (1)
  else
  if x1 = 1 then
    some (0)
  else
  if x1 = 2 then
    some (0)
  else
  if x1 = 3 then
    some (1)
  else
  if x1 = 4 then
    some (0)
  else
  if x1 = 5 then
    some (0)
  else
  if x1 = 6 then
    some (0)
  else
  some (0)


def pX0_isOfKind_k4 (x1 : Int32) : Option (Int32) :=
  if x1 = 0 then
    some (1)
  else
  if x1 = 1 then
    some (1)
  else
  if x1 = 2 then
    some (0)
  else
  if x1 = 3 then
    some (0)
  else
  if x1 = 4 then
    some (1)
  else
  if x1 = 5 then
    some (0)
  else
  if x1 = 6 then
    some (0)
  else
  some (0)


def pX0_isOfKind_k5 (x1 : Int32) : Option (Int32) :=
  if x1 = 0 then
    some (1)
  else
  if x1 = 1 then
    some (0)
  else
  if x1 = 2 then
    some (1)
  else
  if x1 = 3 then
    some (0)
  else
  if x1 = 4 then
    some (0)
  else
  if x1 = 5 then
    some (1)
  else
  if x1 = 6 then
    some (0)
  else
  some (0)


def pX0_isOfKind_k6 (x1 : Int32) : Option (Int32) :=
  if x1 = 0 then
    some (1)
  else
  if x1 = 1 then
    some (0)
  else
  if x1 = 2 then
    some (0)
  else
  if x1 = 3 then
    some (1)
  else
  if x1 = 4 then
    some (0)
  else
  if x1 = 5 then
    some (0)
  else
  if x1 = 6 then
    some (1)
  else
  some (0)


def pX11_as (F : gF) (w0o1 : Int32) (w0c : (Nat → Option Nat)) (x1 : Int32) (x2 : Int32) : Option (Int32) :=
  gbd (pX10_chiefAt_w0 w0o1 w0c x1) fun z_1 =>
  gmt z_1 (
    some ((-1))
  ) fun b_z1 =>
    if x2 < 0 then
      some ((-1))
    else
      if x2 < 7 then
        gck (chv F b_z1 = true) <|
        if ck F b_z1 = 0 then
          gbd (pX0_isOfKind_k0 x2) fun z_10 =>
          if z_10 = 0 then
            some ((-6))
          else
            some ((cv F b_z1))
        else
        if ck F b_z1 = 1 then
          gbd (pX0_isOfKind_k1 x2) fun z_11 =>
          if z_11 = 0 then
            some ((-6))
          else
            some ((cv F b_z1))
        else
        if ck F b_z1 = 2 then
          gbd (pX0_isOfKind_k2 x2) fun z_12 =>
          if z_12 = 0 then
            some ((-6))
          else
            some ((cv F b_z1))
        else
        if ck F b_z1 = 3 then
          gbd (pX0_isOfKind_k3 x2) fun z_13 =>
          if z_13 = 0 then
            some ((-6))
          else
            some ((cv F b_z1))
        else
        if ck F b_z1 = 4 then
          gbd (pX0_isOfKind_k4 x2) fun z_14 =>
          if z_14 = 0 then
            some ((-6))
          else
            some ((cv F b_z1))
        else
        if ck F b_z1 = 5 then
          gbd (pX0_isOfKind_k5 x2) fun z_15 =>
          if z_15 = 0 then
            some ((-6))
          else
            some ((cv F b_z1))
        else
        gbd (pX0_isOfKind_k6 x2) fun z_16 =>
        if z_16 = 0 then
          some ((-6))
        else
          some ((cv F b_z1))
      else
        some ((-1))


def pX10_become_w2_w0_209 (F : gF) (w0o0 : Int32) (w0o1 : Int32) (w0o2 : Int32) (w0o3 : Int32) (w0o4 : Int32) (w0o5 : Int32) (w0o6 : Int32) (w0o7 : Int32) (w0a8 : (Nat → Int32)) (w0a9 : (Nat → Int32)) (w0a10 : (Nat → Int32)) (w0a11 : (Nat → Int32)) (w0a12 : (Nat → Int32)) (w0a14 : (Nat → Int32)) (w0a15 : (Nat → Int32)) (w0a16 : (Nat → Int32)) (w0a17 : (Nat → Int32)) (w0h : Nat) (w0c : (Nat → Option Nat)) : Nat → Int32 → Int32 → Int32 → Int32 → Int32 → Int32 → Int32 → Int32 → ((Nat → Int32)) → ((Nat → Int32)) → ((Nat → Int32)) → ((Nat → Int32)) → ((Nat → Int32)) → ((Nat → Int32)) → ((Nat → Int32)) → ((Nat → Int32)) → ((Nat → Int32)) → Nat → ((Nat → Option Nat)) → Int32 → Option (Int32 × Int32 × Int32 × Int32 × Int32 × Int32 × Int32 × Int32 × ((Nat → Int32)) × ((Nat → Int32)) × ((Nat → Int32)) × ((Nat → Int32)) × ((Nat → Int32)) × ((Nat → Int32)) × ((Nat → Int32)) × ((Nat → Int32)) × ((Nat → Int32)) × Nat × ((Nat → Option Nat)))
  | 0, _, _, _, _, _, _, _, _, _, _, _, _, _, _, _, _, _, _, _, _ => none
  | n + 1, w2o0, w2o1, w2o2, w2o3, w2o4, w2o5, w2o6, w2o7, w2a8, w2a9, w2a10, w2a11, w2a12, w2a14, w2a15, w2a16, w2a17, w2h, w2c, x2 =>
  if 4 ≤ x2 then
    some (w2o0, w2o1, w2o2, w2o3, w2o4, w2o5, w2o6, w2o7, w2a8, w2a9, w2a10, w2a11, w2a12, w2a14, w2a15, w2a16, w2a17, w2h, w2c)
  else
    gck (ginb x2 4) <|
    gck (ginb x2 4) <|
    gck (gqok F (w0c (Int32.toNatClampNeg x2)) = true) <|
    gnm (va_up w2c (Int32.toNatClampNeg x2) (w0c (Int32.toNatClampNeg x2))) fun f_4 =>
    pX10_become_w2_w0_209 F w0o0 w0o1 w0o2 w0o3 w0o4 w0o5 w0o6 w0o7 w0a8 w0a9 w0a10 w0a11 w0a12 w0a14 w0a15 w0a16 w0a17 w0h w0c n w2o0 w2o1 w2o2 w2o3 w2o4 w2o5 w2o6 w2o7 w2a8 w2a9 w2a10 w2a11 w2a12 w2a14 w2a15 w2a16 w2a17 w2h f_4 (x2 + 1)


def pX10_become_w2_w0 (F : gF) (w0o0 : Int32) (w0o1 : Int32) (w0o2 : Int32) (w0o3 : Int32) (w0o4 : Int32) (w0o5 : Int32) (w0o6 : Int32) (w0o7 : Int32) (w0a8 : (Nat → Int32)) (w0a9 : (Nat → Int32)) (w0a10 : (Nat → Int32)) (w0a11 : (Nat → Int32)) (w0a12 : (Nat → Int32)) (w0a14 : (Nat → Int32)) (w0a15 : (Nat → Int32)) (w0a16 : (Nat → Int32)) (w0a17 : (Nat → Int32)) (w0h : Nat) (w0c : (Nat → Option Nat)) (w2o0 : Int32) (w2o1 : Int32) (w2o2 : Int32) (w2o3 : Int32) (w2o4 : Int32) (w2o5 : Int32) (w2o6 : Int32) (w2o7 : Int32) (w2a8 : (Nat → Int32)) (w2a9 : (Nat → Int32)) (w2a10 : (Nat → Int32)) (w2a11 : (Nat → Int32)) (w2a12 : (Nat → Int32)) (w2a14 : (Nat → Int32)) (w2a15 : (Nat → Int32)) (w2a16 : (Nat → Int32)) (w2a17 : (Nat → Int32)) (w2h : Nat) (w2c : (Nat → Option Nat)) : Option (Int32 × Int32 × Int32 × Int32 × Int32 × Int32 × Int32 × Int32 × ((Nat → Int32)) × ((Nat → Int32)) × ((Nat → Int32)) × ((Nat → Int32)) × ((Nat → Int32)) × ((Nat → Int32)) × ((Nat → Int32)) × ((Nat → Int32)) × ((Nat → Int32)) × Nat × ((Nat → Option Nat))) :=
  gnm (va_cpy w0a8 w2a8 0 0 10) fun f_1 =>
  gnm (va_cpy w0a9 w2a9 0 0 10) fun f_2 =>
  gnm (va_cpy w0a10 w2a10 0 0 10) fun f_3 =>
  gnm (va_cpy w0a11 w2a11 0 0 10) fun f_4 =>
  gnm (va_cpy w0a12 w2a12 0 0 10) fun f_5 =>
  gnm (va_cpy w0a14 w2a14 0 0 20) fun f_6 =>
  gnm (va_cpy w0a15 w2a15 0 0 20) fun f_7 =>
  gnm (va_cpy w0a16 w2a16 0 0 20) fun f_8 =>
  gck (gfitC w0a17 100 = true) <|
  gnm (va_cpy w0a17 w2a17 0 0 100) fun f_10 =>
  pX10_become_w2_w0_209 F w0o0 w0o1 w0o2 w0o3 w0o4 w0o5 w0o6 w0o7 w0a8 w0a9 w0a10 w0a11 w0a12 w0a14 w0a15 w0a16 w0a17 w0h w0c 1000 w0o0 w0o1 w0o2 w0o3 w0o4 w0o5 w0o6 w0o7 f_1 f_2 f_3 f_4 f_5 f_6 f_7 f_8 f_10 w0h w2c 0


def pX11_image (F : gF) (w0o0 : Int32) (w0o1 : Int32) (w0o2 : Int32) (w0o3 : Int32) (w0o4 : Int32) (w0o5 : Int32) (w0o6 : Int32) (w0o7 : Int32) (w0a8 : (Nat → Int32)) (w0a9 : (Nat → Int32)) (w0a10 : (Nat → Int32)) (w0a11 : (Nat → Int32)) (w0a12 : (Nat → Int32)) (w0a14 : (Nat → Int32)) (w0a15 : (Nat → Int32)) (w0a16 : (Nat → Int32)) (w0a17 : (Nat → Int32)) (w0h : Nat) (w0c : (Nat → Option Nat)) (w2o0 : Int32) (w2o1 : Int32) (w2o2 : Int32) (w2o3 : Int32) (w2o4 : Int32) (w2o5 : Int32) (w2o6 : Int32) (w2o7 : Int32) (w2a8 : (Nat → Int32)) (w2a9 : (Nat → Int32)) (w2a10 : (Nat → Int32)) (w2a11 : (Nat → Int32)) (w2a12 : (Nat → Int32)) (w2a14 : (Nat → Int32)) (w2a15 : (Nat → Int32)) (w2a16 : (Nat → Int32)) (w2a17 : (Nat → Int32)) (w2h : Nat) (w2c : (Nat → Option Nat)) (hi : Int32) : Option (Int32 × Int32 × Int32 × Int32 × Int32 × Int32 × Int32 × Int32 × Int32 × ((Nat → Int32)) × ((Nat → Int32)) × ((Nat → Int32)) × ((Nat → Int32)) × ((Nat → Int32)) × ((Nat → Int32)) × ((Nat → Int32)) × ((Nat → Int32)) × ((Nat → Int32)) × Nat × ((Nat → Option Nat)) × Int32) :=
  gbd (pX10_become_w2_w0 F w0o0 w0o1 w0o2 w0o3 w0o4 w0o5 w0o6 w0o7 w0a8 w0a9 w0a10 w0a11 w0a12 w0a14 w0a15 w0a16 w0a17 w0h w0c w2o0 w2o1 w2o2 w2o3 w2o4 w2o5 w2o6 w2o7 w2a8 w2a9 w2a10 w2a11 w2a12 w2a14 w2a15 w2a16 w2a17 w2h w2c) fun z_1 =>
  some (w0o0, z_1.1, z_1.2.1, z_1.2.2.1, z_1.2.2.2.1, z_1.2.2.2.2.1, z_1.2.2.2.2.2.1, z_1.2.2.2.2.2.2.1, z_1.2.2.2.2.2.2.2.1, z_1.2.2.2.2.2.2.2.2.1, z_1.2.2.2.2.2.2.2.2.2.1, z_1.2.2.2.2.2.2.2.2.2.2.1, z_1.2.2.2.2.2.2.2.2.2.2.2.1, z_1.2.2.2.2.2.2.2.2.2.2.2.2.1, z_1.2.2.2.2.2.2.2.2.2.2.2.2.2.1, z_1.2.2.2.2.2.2.2.2.2.2.2.2.2.2.1, z_1.2.2.2.2.2.2.2.2.2.2.2.2.2.2.2.1, z_1.2.2.2.2.2.2.2.2.2.2.2.2.2.2.2.2.1, z_1.2.2.2.2.2.2.2.2.2.2.2.2.2.2.2.2.2.1, z_1.2.2.2.2.2.2.2.2.2.2.2.2.2.2.2.2.2.2, 1)


def pX10_become_w0_w2_209 (F : gF) (w2o0 : Int32) (w2o1 : Int32) (w2o2 : Int32) (w2o3 : Int32) (w2o4 : Int32) (w2o5 : Int32) (w2o6 : Int32) (w2o7 : Int32) (w2a8 : (Nat → Int32)) (w2a9 : (Nat → Int32)) (w2a10 : (Nat → Int32)) (w2a11 : (Nat → Int32)) (w2a12 : (Nat → Int32)) (w2a14 : (Nat → Int32)) (w2a15 : (Nat → Int32)) (w2a16 : (Nat → Int32)) (w2a17 : (Nat → Int32)) (w2h : Nat) (w2c : (Nat → Option Nat)) : Nat → Int32 → Int32 → Int32 → Int32 → Int32 → Int32 → Int32 → Int32 → ((Nat → Int32)) → ((Nat → Int32)) → ((Nat → Int32)) → ((Nat → Int32)) → ((Nat → Int32)) → ((Nat → Int32)) → ((Nat → Int32)) → ((Nat → Int32)) → ((Nat → Int32)) → Nat → ((Nat → Option Nat)) → Int32 → Option (Int32 × Int32 × Int32 × Int32 × Int32 × Int32 × Int32 × Int32 × ((Nat → Int32)) × ((Nat → Int32)) × ((Nat → Int32)) × ((Nat → Int32)) × ((Nat → Int32)) × ((Nat → Int32)) × ((Nat → Int32)) × ((Nat → Int32)) × ((Nat → Int32)) × Nat × ((Nat → Option Nat)))
  | 0, _, _, _, _, _, _, _, _, _, _, _, _, _, _, _, _, _, _, _, _ => none
  | n + 1, w0o0, w0o1, w0o2, w0o3, w0o4, w0o5, w0o6, w0o7, w0a8, w0a9, w0a10, w0a11, w0a12, w0a14, w0a15, w0a16, w0a17, w0h, w0c, x2 =>
  if 4 ≤ x2 then
    some (w0o0, w0o1, w0o2, w0o3, w0o4, w0o5, w0o6, w0o7, w0a8, w0a9, w0a10, w0a11, w0a12, w0a14, w0a15, w0a16, w0a17, w0h, w0c)
  else
    gck (ginb x2 4) <|
    gck (ginb x2 4) <|
    gck (gqok F (w2c (Int32.toNatClampNeg x2)) = true) <|
    gnm (va_up w0c (Int32.toNatClampNeg x2) (w2c (Int32.toNatClampNeg x2))) fun f_4 =>
    pX10_become_w0_w2_209 F w2o0 w2o1 w2o2 w2o3 w2o4 w2o5 w2o6 w2o7 w2a8 w2a9 w2a10 w2a11 w2a12 w2a14 w2a15 w2a16 w2a17 w2h w2c n w0o0 w0o1 w0o2 w0o3 w0o4 w0o5 w0o6 w0o7 w0a8 w0a9 w0a10 w0a11 w0a12 w0a14 w0a15 w0a16 w0a17 w0h f_4 (x2 + 1)


def pX10_become_w0_w2 (F : gF) (w2o0 : Int32) (w2o1 : Int32) (w2o2 : Int32) (w2o3 : Int32) (w2o4 : Int32) (w2o5 : Int32) (w2o6 : Int32) (w2o7 : Int32) (w2a8 : (Nat → Int32)) (w2a9 : (Nat → Int32)) (w2a10 : (Nat → Int32)) (w2a11 : (Nat → Int32)) (w2a12 : (Nat → Int32)) (w2a14 : (Nat → Int32)) (w2a15 : (Nat → Int32)) (w2a16 : (Nat → Int32)) (w2a17 : (Nat → Int32)) (w2h : Nat) (w2c : (Nat → Option Nat)) (w0o0 : Int32) (w0o1 : Int32) (w0o2 : Int32) (w0o3 : Int32) (w0o4 : Int32) (w0o5 : Int32) (w0o6 : Int32) (w0o7 : Int32) (w0a8 : (Nat → Int32)) (w0a9 : (Nat → Int32)) (w0a10 : (Nat → Int32)) (w0a11 : (Nat → Int32)) (w0a12 : (Nat → Int32)) (w0a14 : (Nat → Int32)) (w0a15 : (Nat → Int32)) (w0a16 : (Nat → Int32)) (w0a17 : (Nat → Int32)) (w0h : Nat) (w0c : (Nat → Option Nat)) : Option (Int32 × Int32 × Int32 × Int32 × Int32 × Int32 × Int32 × Int32 × ((Nat → Int32)) × ((Nat → Int32)) × ((Nat → Int32)) × ((Nat → Int32)) × ((Nat → Int32)) × ((Nat → Int32)) × ((Nat → Int32)) × ((Nat → Int32)) × ((Nat → Int32)) × Nat × ((Nat → Option Nat))) :=
  gnm (va_cpy w2a8 w0a8 0 0 10) fun f_1 =>
  gnm (va_cpy w2a9 w0a9 0 0 10) fun f_2 =>
  gnm (va_cpy w2a10 w0a10 0 0 10) fun f_3 =>
  gnm (va_cpy w2a11 w0a11 0 0 10) fun f_4 =>
  gnm (va_cpy w2a12 w0a12 0 0 10) fun f_5 =>
  gnm (va_cpy w2a14 w0a14 0 0 20) fun f_6 =>
  gnm (va_cpy w2a15 w0a15 0 0 20) fun f_7 =>
  gnm (va_cpy w2a16 w0a16 0 0 20) fun f_8 =>
  gck (gfitC w2a17 100 = true) <|
  gnm (va_cpy w2a17 w0a17 0 0 100) fun f_10 =>
  pX10_become_w0_w2_209 F w2o0 w2o1 w2o2 w2o3 w2o4 w2o5 w2o6 w2o7 w2a8 w2a9 w2a10 w2a11 w2a12 w2a14 w2a15 w2a16 w2a17 w2h w2c 1000 w2o0 w2o1 w2o2 w2o3 w2o4 w2o5 w2o6 w2o7 f_1 f_2 f_3 f_4 f_5 f_6 f_7 f_8 f_10 w2h w0c 0


def pX11_undo (F : gF) (w2o0 : Int32) (w2o1 : Int32) (w2o2 : Int32) (w2o3 : Int32) (w2o4 : Int32) (w2o5 : Int32) (w2o6 : Int32) (w2o7 : Int32) (w2a8 : (Nat → Int32)) (w2a9 : (Nat → Int32)) (w2a10 : (Nat → Int32)) (w2a11 : (Nat → Int32)) (w2a12 : (Nat → Int32)) (w2a14 : (Nat → Int32)) (w2a15 : (Nat → Int32)) (w2a16 : (Nat → Int32)) (w2a17 : (Nat → Int32)) (w2h : Nat) (w2c : (Nat → Option Nat)) (hi : Int32) (w0o0 : Int32) (w0o1 : Int32) (w0o2 : Int32) (w0o3 : Int32) (w0o4 : Int32) (w0o5 : Int32) (w0o6 : Int32) (w0o7 : Int32) (w0a8 : (Nat → Int32)) (w0a9 : (Nat → Int32)) (w0a10 : (Nat → Int32)) (w0a11 : (Nat → Int32)) (w0a12 : (Nat → Int32)) (w0a14 : (Nat → Int32)) (w0a15 : (Nat → Int32)) (w0a16 : (Nat → Int32)) (w0a17 : (Nat → Int32)) (w0h : Nat) (w0c : (Nat → Option Nat)) : Option (Int32 × Int32 × Int32 × Int32 × Int32 × Int32 × Int32 × Int32 × Int32 × ((Nat → Int32)) × ((Nat → Int32)) × ((Nat → Int32)) × ((Nat → Int32)) × ((Nat → Int32)) × ((Nat → Int32)) × ((Nat → Int32)) × ((Nat → Int32)) × ((Nat → Int32)) × Nat × ((Nat → Option Nat))) :=
  if hi = 0 then
    some ((-3), w0o0, w0o1, w0o2, w0o3, w0o4, w0o5, w0o6, w0o7, w0a8, w0a9, w0a10, w0a11, w0a12, w0a14, w0a15, w0a16, w0a17, w0h, w0c)
  else
    gbd (pX10_become_w0_w2 F w2o0 w2o1 w2o2 w2o3 w2o4 w2o5 w2o6 w2o7 w2a8 w2a9 w2a10 w2a11 w2a12 w2a14 w2a15 w2a16 w2a17 w2h w2c w0o0 w0o1 w0o2 w0o3 w0o4 w0o5 w0o6 w0o7 w0a8 w0a9 w0a10 w0a11 w0a12 w0a14 w0a15 w0a16 w0a17 w0h w0c) fun z_1 =>
    some (z_1.1, z_1.1, z_1.2.1, z_1.2.2.1, z_1.2.2.2.1, z_1.2.2.2.2.1, z_1.2.2.2.2.2.1, z_1.2.2.2.2.2.2.1, z_1.2.2.2.2.2.2.2.1, z_1.2.2.2.2.2.2.2.2.1, z_1.2.2.2.2.2.2.2.2.2.1, z_1.2.2.2.2.2.2.2.2.2.2.1, z_1.2.2.2.2.2.2.2.2.2.2.2.1, z_1.2.2.2.2.2.2.2.2.2.2.2.2.1, z_1.2.2.2.2.2.2.2.2.2.2.2.2.2.1, z_1.2.2.2.2.2.2.2.2.2.2.2.2.2.2.1, z_1.2.2.2.2.2.2.2.2.2.2.2.2.2.2.2.1, z_1.2.2.2.2.2.2.2.2.2.2.2.2.2.2.2.2.1, z_1.2.2.2.2.2.2.2.2.2.2.2.2.2.2.2.2.2.1, z_1.2.2.2.2.2.2.2.2.2.2.2.2.2.2.2.2.2.2)


def pX11_count (w0o0 : Int32) (w0o1 : Int32) (w0o2 : Int32) (w0o3 : Int32) (w0o4 : Int32) (tb : Int32) (x1 : Int32) : Option (Int32) :=
  if x1 = 0 then
    some (w0o0)
  else
  if x1 = 1 then
    some (w0o1)
  else
  if x1 = 2 then
    some (w0o2)
  else
  if x1 = 3 then
    some (w0o3)
  else
  if x1 = 4 then
    some (w0o4)
  else
  if x1 = 5 then
    some (tb)
  else
  some ((-1))

