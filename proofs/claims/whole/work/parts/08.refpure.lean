def pX12_in (x0 : Int32) (x1 : Int32) (x2 : Int32) : Option (Int32) :=
  if x0 < x1 then
    some (0)
  else
    if x2 < x0 then
      some (0)
    else
      some (1)


def pX12_feed (a1 : (Nat → Int32)) (x1 : Int32) : Option (Int32 × ((Nat → Int32))) :=
  gbd (pX12_in x1 0 127) fun z_1 =>
  if z_1 = 0 then
    some ((-2), a1)
  else
    gck (ginb 55 952) <|
    if (a1 (Int32.toNatClampNeg 55)) = 100 then
      some ((-4), a1)
    else
      gck (ginb 55 952) <|
      gck (ginb (132 + (a1 (Int32.toNatClampNeg 55))) 952) <|
      gnm (upd a1 (Int32.toNatClampNeg (132 + (a1 (Int32.toNatClampNeg 55)))) x1) fun f_5 =>
      gck (ginb 55 952) <|
      gck (ginb 55 952) <|
      gnm (upd f_5 (Int32.toNatClampNeg 55) ((f_5 (Int32.toNatClampNeg 55)) + 1)) fun f_8 =>
      gck (ginb 55 952) <|
      some ((f_8 (Int32.toNatClampNeg 55)), f_8)


def pX12_tellsOf (a1 : (Nat → Int32)) (x1 : Int32) (x2 : Int32) : Option (Int32) :=
  gck (ginb 56 952) <|
  if (a1 (Int32.toNatClampNeg 56)) = (-1) then
    some (x2)
  else
    gck (ginb 56 952) <|
    gck (ginb (x1 + (a1 (Int32.toNatClampNeg 56))) 952) <|
    some ((a1 (Int32.toNatClampNeg (x1 + (a1 (Int32.toNatClampNeg 56))))))


def pX12_told (a1 : (Nat → Int32)) (x1 : Int32) : Option (Int32) :=
  if x1 = 0 then
    gbd (pX12_tellsOf a1 232 10) fun z_1 =>
    some (z_1)
  else
  if x1 = 1 then
    gbd (pX12_tellsOf a1 237 0) fun z_2 =>
    some (z_2)
  else
  if x1 = 2 then
    gbd (pX12_tellsOf a1 242 10) fun z_3 =>
    some (z_3)
  else
  if x1 = 3 then
    gck (ginb 0 952) <|
    some ((a1 (Int32.toNatClampNeg 0)))
  else
  if x1 = 4 then
    gck (ginb 57 952) <|
    some ((a1 (Int32.toNatClampNeg 57)))
  else
  if x1 = 5 then
    gck (ginb 58 952) <|
    some ((a1 (Int32.toNatClampNeg 58)))
  else
  some ((-1))


def pX12_chief (a1 : (Nat → Int32)) (x1 : Int32) (x2 : Int32) (x3 : Int32) : Option (Int32 × ((Nat → Int32))) :=
  gbd (pX12_in x1 0 6) fun z_1 =>
  if z_1 = 0 then
    some ((-1), a1)
  else
    gbd (pX12_in x2 0 9) fun z_2 =>
    if z_2 = 0 then
      some ((-2), a1)
    else
      gbd (pX12_in x3 0 9) fun z_3 =>
      if z_3 = 0 then
        some ((-2), a1)
      else
        gck (ginb 52 952) <|
        if (a1 (Int32.toNatClampNeg 52)) = 4 then
          some ((-4), a1)
        else
          gck (ginb 52 952) <|
          gnm (a1 (Int32.toNatClampNeg 52)) fun v_6 =>
          gck (ginb (60 + v_6) 952) <|
          gnm (upd a1 (Int32.toNatClampNeg (60 + v_6)) x1) fun f_8 =>
          gck (ginb (64 + v_6) 952) <|
          gnm (upd f_8 (Int32.toNatClampNeg (64 + v_6)) x2) fun f_10 =>
          gck (ginb (68 + v_6) 952) <|
          gnm (upd f_10 (Int32.toNatClampNeg (68 + v_6)) x3) fun f_12 =>
          gck (ginb 52 952) <|
          gck (ginb 52 952) <|
          gnm (upd f_12 (Int32.toNatClampNeg 52) ((f_12 (Int32.toNatClampNeg 52)) + 1)) fun f_15 =>
          some (v_6, f_15)


def pX12_isChief (a1 : (Nat → Int32)) (x1 : Int32) : Option (Int32) :=
  gck (ginb 52 952) <|
  gbd (pX12_in x1 0 ((a1 (Int32.toNatClampNeg 52)) - 1)) fun z_2 =>
  gck (gbool z_2) <|
  some (z_2)


def pX12_worker (a1 : (Nat → Int32)) (x1 : Int32) (x2 : Int32) (x3 : Int32) (x4 : Int32) : Option (Int32 × ((Nat → Int32))) :=
  gbd (pX12_isChief a1 x1) fun z_1 =>
  if z_1 = 0 then
    some ((-1), a1)
  else
    gbd (pX12_in x2 0 99) fun z_2 =>
    if z_2 = 0 then
      some ((-2), a1)
    else
      gbd (pX12_in x3 0 99) fun z_3 =>
      if z_3 = 0 then
        some ((-2), a1)
      else
        gbd (pX12_in x4 0 9) fun z_4 =>
        if z_4 = 0 then
          some ((-2), a1)
        else
          gck (ginb 51 952) <|
          if (a1 (Int32.toNatClampNeg 51)) = 10 then
            some ((-4), a1)
          else
            gck (ginb 51 952) <|
            gnm (a1 (Int32.toNatClampNeg 51)) fun v_7 =>
            gck (ginb (31 + v_7) 952) <|
            gnm (upd a1 (Int32.toNatClampNeg (31 + v_7)) x1) fun f_9 =>
            gck (ginb (1 + v_7) 952) <|
            gnm (upd f_9 (Int32.toNatClampNeg (1 + v_7)) x2) fun f_11 =>
            gck (ginb (11 + v_7) 952) <|
            gnm (upd f_11 (Int32.toNatClampNeg (11 + v_7)) x3) fun f_13 =>
            gck (ginb (41 + v_7) 952) <|
            gnm (upd f_13 (Int32.toNatClampNeg (41 + v_7)) x4) fun f_15 =>
            gck (ginb (21 + v_7) 952) <|
            gnm (upd f_15 (Int32.toNatClampNeg (21 + v_7)) 0) fun f_17 =>
            gck (ginb 51 952) <|
            gck (ginb 51 952) <|
            gnm (upd f_17 (Int32.toNatClampNeg 51) ((f_17 (Int32.toNatClampNeg 51)) + 1)) fun f_20 =>
            some (v_7, f_20)


def pX12_isWorker (a1 : (Nat → Int32)) (x1 : Int32) : Option (Int32) :=
  gck (ginb 51 952) <|
  gbd (pX12_in x1 0 ((a1 (Int32.toNatClampNeg 51)) - 1)) fun z_2 =>
  gck (gbool z_2) <|
  some (z_2)


def pX12_meanOf_62 (k7 : Int32 → Int32 → Int32 → Int32 → Option (Int32)) (a1 : (Nat → Int32)) (a12 : (Nat → Int32)) (x1 : Int32) (x3 : Int32) (x4 : Int32) (x5 : Int32) (y0 : Int32) (y1 : Int32) : Option (Int32) :=
  gnm (y0 + y1) fun v_1 =>
  if x5 = 0 then
    gnm (x3 + 0) fun v_2 =>
    k7 x1 v_1 v_2 (x4 + 1)
  else
    gnm (x3 + 1) fun v_3 =>
    k7 x1 v_1 v_3 (x4 + 1)


def pX12_meanOf_7 (a1 : (Nat → Int32)) (a12 : (Nat → Int32)) : Nat → Int32 → Int32 → Int32 → Int32 → Option (Int32)
  | 0, _, _, _, _ => none
  | n + 1, x1, x2, x3, x4 =>
  gck (ginb 51 952) <|
  if (a1 (Int32.toNatClampNeg 51)) ≤ x4 then
    if x3 = 0 then
      some (0)
    else
      gck (¬ x3 = 0) <|
      some ((x2 / x3))
  else
    if x1 = (-1) then
      gck (ginb x4 10) <|
      pX12_meanOf_62 (pX12_meanOf_7 a1 a12 n) a1 a12 x1 x3 x4 1 x2 (a12 (Int32.toNatClampNeg x4))
    else
      gck (ginb (31 + x4) 952) <|
      if (a1 (Int32.toNatClampNeg (31 + x4))) = x1 then
        gck (ginb x4 10) <|
        pX12_meanOf_62 (pX12_meanOf_7 a1 a12 n) a1 a12 x1 x3 x4 1 x2 (a12 (Int32.toNatClampNeg x4))
      else
        pX12_meanOf_62 (pX12_meanOf_7 a1 a12 n) a1 a12 x1 x3 x4 0 x2 0


def pX12_meanOf (a1 : (Nat → Int32)) (a12 : (Nat → Int32)) (x1 : Int32) : Option (Int32) :=
  pX12_meanOf_7 a1 a12 1000 x1 0 0 0


def pX12_inTeam_4 (a1 : (Nat → Int32)) (a15 : (Nat → Int32)) : Nat → Int32 → Int32 → Option (Int32)
  | 0, _, _ => none
  | n + 1, x1, x2 =>
  gck (ginb 51 952) <|
  if (a1 (Int32.toNatClampNeg 51)) ≤ x2 then
    some (x1)
  else
    gck (ginb x2 10) <|
    if (a15 (Int32.toNatClampNeg x2)) = 0 then
      gnm (x1 + 0) fun v_3 =>
      pX12_inTeam_4 a1 a15 n v_3 (x2 + 1)
    else
      gnm (x1 + 1) fun v_4 =>
      pX12_inTeam_4 a1 a15 n v_4 (x2 + 1)


def pX12_inTeam (a1 : (Nat → Int32)) (a15 : (Nat → Int32)) : Option (Int32) :=
  pX12_inTeam_4 a1 a15 1000 0 0


def pX12_shareOf (a1 : (Nat → Int32)) (a15 : (Nat → Int32)) (x1 : Int32) : Option (Int32) :=
  gbd (pX12_inTeam a1 a15) fun z_1 =>
  some (((x1 * z_1) / 10))


def pX12_gradeBy (x0 : Int32) : Option (Int32) :=
  if x0 < 80 then
    if x0 < 60 then
      if x0 < 40 then
        if x0 < 20 then
          some (1)
        else
          some (2)
      else
        some (3)
    else
      some (4)
  else
    some (5)


def pX12_givesFives_at13_137 (k2 : (Nat → Int32) → Int32 → Int32 → Option (((Nat → Int32)))) (a1 : (Nat → Int32)) (a12 : (Nat → Int32)) (a15 : (Nat → Int32)) (a13 : (Nat → Int32)) (x2 : Int32) (x3 : Int32) (x4 : Int32) : Option (((Nat → Int32))) :=
  if x2 ≤ x4 then
    gck (ginb x3 10) <|
    gnm (upd a13 (Int32.toNatClampNeg x3) 4) fun f_2 =>
    k2 f_2 x2 (x3 + 1)
  else
    gck (ginb x3 10) <|
    gnm (upd a13 (Int32.toNatClampNeg x3) 5) fun f_4 =>
    k2 f_4 x2 (x3 + 1)


def pX12_givesFives_at13_76 (k2 : (Nat → Int32) → Int32 → Int32 → Option (((Nat → Int32)))) (k35 : (Nat → Int32) → Int32 → Int32 → Int32 → Int32 → Option (((Nat → Int32)))) (a1 : (Nat → Int32)) (a12 : (Nat → Int32)) (a15 : (Nat → Int32)) (a13 : (Nat → Int32)) (x2 : Int32) (x3 : Int32) (x4 : Int32) (x5 : Int32) (y0 : Int32) : Option (((Nat → Int32))) :=
  if y0 = 0 then
    gnm (x4 + 0) fun v_1 =>
    k35 a13 x2 x3 v_1 (x5 + 1)
  else
    gck (ginb x5 10) <|
    gck (ginb x3 10) <|
    if (a12 (Int32.toNatClampNeg x3)) < (a12 (Int32.toNatClampNeg x5)) then
      gnm (x4 + 1) fun v_4 =>
      k35 a13 x2 x3 v_4 (x5 + 1)
    else
      gck (ginb x5 10) <|
      gck (ginb x3 10) <|
      if (a12 (Int32.toNatClampNeg x5)) = (a12 (Int32.toNatClampNeg x3)) then
        if x3 ≤ x5 then
          gnm (x4 + 0) fun v_8 =>
          k35 a13 x2 x3 v_8 (x5 + 1)
        else
          gnm (x4 + 1) fun v_9 =>
          k35 a13 x2 x3 v_9 (x5 + 1)
      else
        gnm (x4 + 0) fun v_7 =>
        k35 a13 x2 x3 v_7 (x5 + 1)


def pX12_givesFives_at13_35 (k2 : (Nat → Int32) → Int32 → Int32 → Option (((Nat → Int32)))) (a1 : (Nat → Int32)) (a12 : (Nat → Int32)) (a15 : (Nat → Int32)) : Nat → ((Nat → Int32)) → Int32 → Int32 → Int32 → Int32 → Option (((Nat → Int32)))
  | 0, _, _, _, _, _ => none
  | n + 1, a13, x2, x3, x4, x5 =>
  gck (ginb 51 952) <|
  if (a1 (Int32.toNatClampNeg 51)) ≤ x5 then
    pX12_givesFives_at13_137 k2 a1 a12 a15 a13 x2 x3 x4
  else
    gck (ginb x5 10) <|
    if (a15 (Int32.toNatClampNeg x5)) = 0 then
      pX12_givesFives_at13_76 k2 (pX12_givesFives_at13_35 k2 a1 a12 a15 n) a1 a12 a15 a13 x2 x3 x4 x5 0
    else
      gck (ginb x5 10) <|
      gbd (pX12_gradeBy (a12 (Int32.toNatClampNeg x5))) fun z_4 =>
      if z_4 = 5 then
        pX12_givesFives_at13_76 k2 (pX12_givesFives_at13_35 k2 a1 a12 a15 n) a1 a12 a15 a13 x2 x3 x4 x5 1
      else
        pX12_givesFives_at13_76 k2 (pX12_givesFives_at13_35 k2 a1 a12 a15 n) a1 a12 a15 a13 x2 x3 x4 x5 0


def pX12_givesFives_at13_2 (a1 : (Nat → Int32)) (a12 : (Nat → Int32)) (a15 : (Nat → Int32)) : Nat → ((Nat → Int32)) → Int32 → Int32 → Option (((Nat → Int32)))
  | 0, _, _, _ => none
  | n + 1, a13, x2, x3 =>
  gck (ginb 51 952) <|
  if (a1 (Int32.toNatClampNeg 51)) ≤ x3 then
    some (a13)
  else
    gck (ginb x3 10) <|
    if (a15 (Int32.toNatClampNeg x3)) = 0 then
      pX12_givesFives_at13_2 a1 a12 a15 n a13 x2 (x3 + 1)
    else
      gck (ginb x3 10) <|
      if (a13 (Int32.toNatClampNeg x3)) = 5 then
        pX12_givesFives_at13_35 (pX12_givesFives_at13_2 a1 a12 a15 n) a1 a12 a15 1000 a13 x2 x3 0 0
      else
        pX12_givesFives_at13_2 a1 a12 a15 n a13 x2 (x3 + 1)


def pX12_givesFives_at13 (a1 : (Nat → Int32)) (a12 : (Nat → Int32)) (a15 : (Nat → Int32)) (a13 : (Nat → Int32)) (x2 : Int32) : Option (((Nat → Int32))) :=
  pX12_givesFives_at13_2 a1 a12 a15 1000 a13 x2 0


def pX12_turnsOnes_at13_23 (a1 : (Nat → Int32)) (a15 : (Nat → Int32)) : Nat → ((Nat → Int32)) → Int32 → Int32 → Int32 → Int32 → Int32 → Option (((Nat → Int32)))
  | 0, _, _, _, _, _, _ => none
  | n + 1, a13, x2, x3, x4, x5, x6 =>
  gck (ginb 51 952) <|
  if (a1 (Int32.toNatClampNeg 51)) ≤ x6 then
    some (a13)
  else
    gck (ginb x6 10) <|
    if (a15 (Int32.toNatClampNeg x6)) = 0 then
      pX12_turnsOnes_at13_23 a1 a15 n a13 x2 x3 x4 x5 (x6 + 1)
    else
      if x6 = x3 then
        pX12_turnsOnes_at13_23 a1 a15 n a13 x2 x3 x4 x5 (x6 + 1)
      else
        gck (ginb 0 952) <|
        gck (¬ x4 = 0) <|
        gck (¬ x4 = 0) <|
        gnm (((x5 - ((a1 (Int32.toNatClampNeg 0)) - (a1 (Int32.toNatClampNeg 0)) / x4 * x4)) + x4) - ((x5 - ((a1 (Int32.toNatClampNeg 0)) - (a1 (Int32.toNatClampNeg 0)) / x4 * x4)) + x4) / x4 * x4) fun v_6 =>
        if x2 ≤ v_6 then
          gck (ginb x6 10) <|
          gck (ginb x6 10) <|
          gnm (upd a13 (Int32.toNatClampNeg x6) (a13 (Int32.toNatClampNeg x6))) fun f_9 =>
          pX12_turnsOnes_at13_23 a1 a15 n f_9 x2 x3 x4 (x5 + 1) (x6 + 1)
        else
          gck (ginb x6 10) <|
          gnm (upd a13 (Int32.toNatClampNeg x6) 1) fun f_11 =>
          pX12_turnsOnes_at13_23 a1 a15 n f_11 x2 x3 x4 (x5 + 1) (x6 + 1)


def pX12_turnsOnes_at13 (a1 : (Nat → Int32)) (a15 : (Nat → Int32)) (a13 : (Nat → Int32)) (x2 : Int32) (x3 : Int32) : Option (((Nat → Int32))) :=
  gbd (pX12_inTeam a1 a15) fun z_1 =>
  if x3 = (-1) then
    gnm (z_1 - 0) fun v_3 =>
    pX12_turnsOnes_at13_23 a1 a15 1000 a13 x2 x3 v_3 0 0
  else
    gnm (z_1 - 1) fun v_2 =>
    pX12_turnsOnes_at13_23 a1 a15 1000 a13 x2 x3 v_2 0 0


def pX12_givesOnes_at13_104 (k2 : (Nat → Int32) → Int32 → Int32 → Option (((Nat → Int32)))) (a1 : (Nat → Int32)) (a12 : (Nat → Int32)) (a15 : (Nat → Int32)) (a13 : (Nat → Int32)) (x2 : Int32) (x3 : Int32) (x4 : Int32) : Option (((Nat → Int32))) :=
  if x2 ≤ x4 then
    gck (ginb x3 10) <|
    gck (ginb x3 10) <|
    gnm (upd a13 (Int32.toNatClampNeg x3) (a13 (Int32.toNatClampNeg x3))) fun f_3 =>
    k2 f_3 x2 (x3 + 1)
  else
    gck (ginb x3 10) <|
    gnm (upd a13 (Int32.toNatClampNeg x3) 1) fun f_5 =>
    k2 f_5 x2 (x3 + 1)


def pX12_givesOnes_at13_28 (k2 : (Nat → Int32) → Int32 → Int32 → Option (((Nat → Int32)))) (a1 : (Nat → Int32)) (a12 : (Nat → Int32)) (a15 : (Nat → Int32)) : Nat → ((Nat → Int32)) → Int32 → Int32 → Int32 → Int32 → Option (((Nat → Int32)))
  | 0, _, _, _, _, _ => none
  | n + 1, a13, x2, x3, x4, x5 =>
  gck (ginb 51 952) <|
  if (a1 (Int32.toNatClampNeg 51)) ≤ x5 then
    pX12_givesOnes_at13_104 k2 a1 a12 a15 a13 x2 x3 x4
  else
    gck (ginb x5 10) <|
    if (a15 (Int32.toNatClampNeg x5)) = 0 then
      gnm (x4 + 0) fun v_3 =>
      pX12_givesOnes_at13_28 k2 a1 a12 a15 n a13 x2 x3 v_3 (x5 + 1)
    else
      gck (ginb x5 10) <|
      gck (ginb x3 10) <|
      if (a12 (Int32.toNatClampNeg x5)) < (a12 (Int32.toNatClampNeg x3)) then
        gnm (x4 + 1) fun v_6 =>
        pX12_givesOnes_at13_28 k2 a1 a12 a15 n a13 x2 x3 v_6 (x5 + 1)
      else
        gck (ginb x5 10) <|
        gck (ginb x3 10) <|
        if (a12 (Int32.toNatClampNeg x5)) = (a12 (Int32.toNatClampNeg x3)) then
          if x5 ≤ x3 then
            gnm (x4 + 0) fun v_10 =>
            pX12_givesOnes_at13_28 k2 a1 a12 a15 n a13 x2 x3 v_10 (x5 + 1)
          else
            gnm (x4 + 1) fun v_11 =>
            pX12_givesOnes_at13_28 k2 a1 a12 a15 n a13 x2 x3 v_11 (x5 + 1)
        else
          gnm (x4 + 0) fun v_9 =>
          pX12_givesOnes_at13_28 k2 a1 a12 a15 n a13 x2 x3 v_9 (x5 + 1)


def pX12_givesOnes_at13_2 (a1 : (Nat → Int32)) (a12 : (Nat → Int32)) (a15 : (Nat → Int32)) : Nat → ((Nat → Int32)) → Int32 → Int32 → Option (((Nat → Int32)))
  | 0, _, _, _ => none
  | n + 1, a13, x2, x3 =>
  gck (ginb 51 952) <|
  if (a1 (Int32.toNatClampNeg 51)) ≤ x3 then
    some (a13)
  else
    gck (ginb x3 10) <|
    if (a15 (Int32.toNatClampNeg x3)) = 0 then
      pX12_givesOnes_at13_2 a1 a12 a15 n a13 x2 (x3 + 1)
    else
      pX12_givesOnes_at13_28 (pX12_givesOnes_at13_2 a1 a12 a15 n) a1 a12 a15 1000 a13 x2 x3 0 0


def pX12_givesOnes_at13 (a1 : (Nat → Int32)) (a12 : (Nat → Int32)) (a15 : (Nat → Int32)) (a13 : (Nat → Int32)) (x2 : Int32) : Option (((Nat → Int32))) :=
  pX12_givesOnes_at13_2 a1 a12 a15 1000 a13 x2 0


def pX12_onesBy_78 (a1 : (Nat → Int32)) (a12 : (Nat → Int32)) (a15 : (Nat → Int32)) (a13 : (Nat → Int32)) (x1 : Int32) (x2 : Int32) : Option (((Nat → Int32))) :=
  gck (ginb (60 + x1) 952) <|
  if (a1 (Int32.toNatClampNeg (60 + x1))) = 2 then
    gbd (pX12_turnsOnes_at13 a1 a15 a13 x2 (-1)) fun z_2 =>
    some (z_2)
  else
    gck (ginb (60 + x1) 952) <|
    if (a1 (Int32.toNatClampNeg (60 + x1))) = 5 then
      gbd (pX12_turnsOnes_at13 a1 a15 a13 x2 (-1)) fun z_5 =>
      some (z_5)
    else
      gbd (pX12_givesOnes_at13 a1 a12 a15 a13 x2) fun z_4 =>
      some (z_4)


def pX12_onesBy (a1 : (Nat → Int32)) (a12 : (Nat → Int32)) (a15 : (Nat → Int32)) (a13 : (Nat → Int32)) (x1 : Int32) (x2 : Int32) : Option (((Nat → Int32))) :=
  gck (ginb (64 + x1) 952) <|
  gnm (a1 (Int32.toNatClampNeg (64 + x1))) fun v_2 =>
  if x2 = 0 then
    some (a13)
  else
    gck (ginb (60 + x1) 952) <|
    if (a1 (Int32.toNatClampNeg (60 + x1))) = 5 then
      gck (ginb 51 952) <|
      if (a1 (Int32.toNatClampNeg 51)) ≤ v_2 then
        pX12_onesBy_78 a1 a12 a15 a13 x1 x2
      else
        gck (ginb v_2 10) <|
        if (a15 (Int32.toNatClampNeg v_2)) = 0 then
          pX12_onesBy_78 a1 a12 a15 a13 x1 x2
        else
          gck (ginb v_2 10) <|
          gnm (upd a13 (Int32.toNatClampNeg v_2) 1) fun f_7 =>
          gbd (pX12_inTeam a1 a15) fun z_8 =>
          if z_8 ≤ 1 then
            some (f_7)
          else
            gbd (pX12_turnsOnes_at13 a1 a15 f_7 (x2 - 1) v_2) fun z_9 =>
            some (z_9)
    else
      pX12_onesBy_78 a1 a12 a15 a13 x1 x2


def pX12_gradesTeam_76 (a1 : (Nat → Int32)) (a12 : (Nat → Int32)) (a13 : (Nat → Int32)) (a15 : (Nat → Int32)) (x1 : Int32) : Option (((Nat → Int32)) × ((Nat → Int32))) :=
  gbd (pX12_told a1 0) fun z_1 =>
  gbd (pX12_shareOf a1 a15 z_1) fun z_2 =>
  gbd (pX12_givesFives_at13 a1 a12 a15 a13 z_2) fun z_3 =>
  gbd (pX12_told a1 1) fun z_4 =>
  gbd (pX12_shareOf a1 a15 z_4) fun z_5 =>
  gbd (pX12_onesBy a1 a12 a15 z_3 x1 z_5) fun z_6 =>
  some (z_6, a15)


def pX12_gradesTeam_36 (k2 : (Nat → Int32) → (Nat → Int32) → Int32 → Int32 → Option (((Nat → Int32)) × ((Nat → Int32)))) (a1 : (Nat → Int32)) (a12 : (Nat → Int32)) (a13 : (Nat → Int32)) (a15 : (Nat → Int32)) (x1 : Int32) (x2 : Int32) (y1 : Int32) (y2 : Int32) : Option (((Nat → Int32)) × ((Nat → Int32))) :=
  gck (ginb y1 10) <|
  gnm (upd a15 (Int32.toNatClampNeg y1) (vp_nar .boolean y2)) fun f_2 =>
  gck (ginb x2 10) <|
  if (f_2 (Int32.toNatClampNeg x2)) = 0 then
    gck (ginb x2 10) <|
    gck (ginb x2 10) <|
    gnm (upd a13 (Int32.toNatClampNeg x2) (a13 (Int32.toNatClampNeg x2))) fun f_6 =>
    k2 f_6 f_2 x1 (x2 + 1)
  else
    gck (ginb x2 10) <|
    gbd (pX12_gradeBy (a12 (Int32.toNatClampNeg x2))) fun z_8 =>
    gck (ginb x2 10) <|
    gnm (upd a13 (Int32.toNatClampNeg x2) z_8) fun f_10 =>
    k2 f_10 f_2 x1 (x2 + 1)


def pX12_gradesTeam_2 (a1 : (Nat → Int32)) (a12 : (Nat → Int32)) : Nat → ((Nat → Int32)) → ((Nat → Int32)) → Int32 → Int32 → Option (((Nat → Int32)) × ((Nat → Int32)))
  | 0, _, _, _, _ => none
  | n + 1, a13, a15, x1, x2 =>
  gck (ginb 51 952) <|
  if (a1 (Int32.toNatClampNeg 51)) ≤ x2 then
    pX12_gradesTeam_76 a1 a12 a13 a15 x1
  else
    gck (ginb (31 + x2) 952) <|
    if (a1 (Int32.toNatClampNeg (31 + x2))) = x1 then
      pX12_gradesTeam_36 (pX12_gradesTeam_2 a1 a12 n) a1 a12 a13 a15 x1 x2 x2 1
    else
      pX12_gradesTeam_36 (pX12_gradesTeam_2 a1 a12 n) a1 a12 a13 a15 x1 x2 x2 0


def pX12_gradesTeam (a1 : (Nat → Int32)) (a12 : (Nat → Int32)) (a13 : (Nat → Int32)) (a15 : (Nat → Int32)) (x1 : Int32) : Option (((Nat → Int32)) × ((Nat → Int32))) :=
  pX12_gradesTeam_2 a1 a12 1000 a13 a15 x1 0


def pX12_teamOf_4 (a1 : (Nat → Int32)) : Nat → Int32 → Int32 → Int32 → Option (Int32)
  | 0, _, _, _ => none
  | n + 1, x1, x2, x3 =>
  gck (ginb 51 952) <|
  if (a1 (Int32.toNatClampNeg 51)) ≤ x3 then
    some (x2)
  else
    gck (ginb (31 + x3) 952) <|
    if (a1 (Int32.toNatClampNeg (31 + x3))) = x1 then
      gnm (x2 + 1) fun v_4 =>
      pX12_teamOf_4 a1 n x1 v_4 (x3 + 1)
    else
      gnm (x2 + 0) fun v_3 =>
      pX12_teamOf_4 a1 n x1 v_3 (x3 + 1)


def pX12_teamOf (a1 : (Nat → Int32)) (x1 : Int32) : Option (Int32) :=
  pX12_teamOf_4 a1 1000 x1 0 0


def pX12_moreOf_108 (a1 : (Nat → Int32)) : Nat → ((Nat → Int32)) → ((Nat → Int32)) → Int32 → Int32 → Int32 → Int32 → Int32 → Option (Int32 × ((Nat → Int32)) × ((Nat → Int32)))
  | 0, _, _, _, _, _, _, _ => none
  | n + 1, a10, a11, x3, x4, x5, x6, x7 =>
  if (x5 + x4) ≤ x7 then
    some (x3, a10, a11)
  else
    gck (ginb x7 952) <|
    gnm (a1 (Int32.toNatClampNeg x7)) fun v_2 =>
    if v_2 < 0 then
      if v_2 = (-1) then
        gck (ginb (x6 - 1) 64) <|
        if (a11 (Int32.toNatClampNeg (x6 - 1))) = 0 then
          gck (ginb (x6 - 1) 64) <|
          gnm (upd a11 (Int32.toNatClampNeg (x6 - 1)) (vp_nar .boolean 1)) fun f_27 =>
          pX12_moreOf_108 a1 n a10 f_27 x3 x4 x5 x6 (x7 + 1)
        else
          gck (ginb (x6 - 1) 64) <|
          gnm (upd a11 (Int32.toNatClampNeg (x6 - 1)) (vp_nar .boolean 0)) fun f_25 =>
          pX12_moreOf_108 a1 n a10 f_25 x3 x4 x5 x6 (x7 + 1)
      else
        if v_2 ≤ (-10) then
          gck (ginb 0 64) <|
          if (a11 (Int32.toNatClampNeg 0)) = 0 then
            gnm (x3 + 0) fun v_6 =>
            pX12_moreOf_108 a1 n a10 a11 v_6 x4 x5 0 (x7 + 1)
          else
            if v_2 ≤ (-200) then
              gnm (x3 + (v_2 - (-200))) fun v_4 =>
              pX12_moreOf_108 a1 n a10 a11 v_4 x4 x5 0 (x7 + 1)
            else
              gnm (x3 + ((-10) - v_2)) fun v_5 =>
              pX12_moreOf_108 a1 n a10 a11 v_5 x4 x5 0 (x7 + 1)
        else
          if v_2 = (-2) then
            gck (ginb ((x6 + (-1)) - 1) 64) <|
            if (a11 (Int32.toNatClampNeg ((x6 + (-1)) - 1))) = 0 then
              gck (ginb ((x6 + (-1)) - 1) 64) <|
              gnm (upd a11 (Int32.toNatClampNeg ((x6 + (-1)) - 1)) (vp_nar .boolean 0)) fun f_17 =>
              pX12_moreOf_108 a1 n a10 f_17 x3 x4 x5 (x6 + (-1)) (x7 + 1)
            else
              gck (ginb (x6 + (-1)) 64) <|
              if (a11 (Int32.toNatClampNeg (x6 + (-1)))) = 0 then
                gck (ginb ((x6 + (-1)) - 1) 64) <|
                gnm (upd a11 (Int32.toNatClampNeg ((x6 + (-1)) - 1)) (vp_nar .boolean 0)) fun f_20 =>
                pX12_moreOf_108 a1 n a10 f_20 x3 x4 x5 (x6 + (-1)) (x7 + 1)
              else
                gck (ginb ((x6 + (-1)) - 1) 64) <|
                gnm (upd a11 (Int32.toNatClampNeg ((x6 + (-1)) - 1)) (vp_nar .boolean 1)) fun f_22 =>
                pX12_moreOf_108 a1 n a10 f_22 x3 x4 x5 (x6 + (-1)) (x7 + 1)
          else
            gck (ginb ((x6 + (-1)) - 1) 64) <|
            if (a11 (Int32.toNatClampNeg ((x6 + (-1)) - 1))) = 0 then
              gck (ginb (x6 + (-1)) 64) <|
              if (a11 (Int32.toNatClampNeg (x6 + (-1)))) = 0 then
                gck (ginb ((x6 + (-1)) - 1) 64) <|
                gnm (upd a11 (Int32.toNatClampNeg ((x6 + (-1)) - 1)) (vp_nar .boolean 0)) fun f_12 =>
                pX12_moreOf_108 a1 n a10 f_12 x3 x4 x5 (x6 + (-1)) (x7 + 1)
              else
                gck (ginb ((x6 + (-1)) - 1) 64) <|
                gnm (upd a11 (Int32.toNatClampNeg ((x6 + (-1)) - 1)) (vp_nar .boolean 1)) fun f_14 =>
                pX12_moreOf_108 a1 n a10 f_14 x3 x4 x5 (x6 + (-1)) (x7 + 1)
            else
              gck (ginb ((x6 + (-1)) - 1) 64) <|
              gnm (upd a11 (Int32.toNatClampNeg ((x6 + (-1)) - 1)) (vp_nar .boolean 1)) fun f_9 =>
              pX12_moreOf_108 a1 n a10 f_9 x3 x4 x5 (x6 + (-1)) (x7 + 1)
    else
      gck (ginb (v_2 - v_2 / 8 * 8) 6) <|
      gnm (a10 (Int32.toNatClampNeg (v_2 - v_2 / 8 * 8))) fun v_30 =>
      gnm ((v_2 / 8) - (v_2 / 8) / 4 * 4) fun v_33 =>
      gnm (v_2 / 32) fun v_35 =>
      if v_33 = 0 then
        if v_35 ≤ v_30 then
          gck (ginb x6 64) <|
          gnm (upd a11 (Int32.toNatClampNeg x6) (vp_nar .boolean 0)) fun f_45 =>
          pX12_moreOf_108 a1 n a10 f_45 x3 x4 x5 (x6 + 1) (x7 + 1)
        else
          gck (ginb x6 64) <|
          gnm (upd a11 (Int32.toNatClampNeg x6) (vp_nar .boolean 1)) fun f_47 =>
          pX12_moreOf_108 a1 n a10 f_47 x3 x4 x5 (x6 + 1) (x7 + 1)
      else
        if v_33 = 1 then
          if v_30 = v_35 then
            gck (ginb x6 64) <|
            gnm (upd a11 (Int32.toNatClampNeg x6) (vp_nar .boolean 1)) fun f_43 =>
            pX12_moreOf_108 a1 n a10 f_43 x3 x4 x5 (x6 + 1) (x7 + 1)
          else
            gck (ginb x6 64) <|
            gnm (upd a11 (Int32.toNatClampNeg x6) (vp_nar .boolean 0)) fun f_41 =>
            pX12_moreOf_108 a1 n a10 f_41 x3 x4 x5 (x6 + 1) (x7 + 1)
        else
          if v_30 ≤ v_35 then
            gck (ginb x6 64) <|
            gnm (upd a11 (Int32.toNatClampNeg x6) (vp_nar .boolean 0)) fun f_37 =>
            pX12_moreOf_108 a1 n a10 f_37 x3 x4 x5 (x6 + 1) (x7 + 1)
          else
            gck (ginb x6 64) <|
            gnm (upd a11 (Int32.toNatClampNeg x6) (vp_nar .boolean 1)) fun f_39 =>
            pX12_moreOf_108 a1 n a10 f_39 x3 x4 x5 (x6 + 1) (x7 + 1)


def pX12_moreOf (a1 : (Nat → Int32)) (a10 : (Nat → Int32)) (a11 : (Nat → Int32)) (x1 : Int32) (x2 : Int32) : Option (Int32 × ((Nat → Int32)) × ((Nat → Int32))) :=
  gck (ginb 0 6) <|
  gnm (upd a10 (Int32.toNatClampNeg 0) x1) fun f_2 =>
  gck (ginb 1 6) <|
  gnm (upd f_2 (Int32.toNatClampNeg 1) x2) fun f_4 =>
  gck (ginb (60 + x2) 952) <|
  gck (ginb 2 6) <|
  gnm (upd f_4 (Int32.toNatClampNeg 2) (a1 (Int32.toNatClampNeg (60 + x2)))) fun f_7 =>
  gck (ginb (1 + x1) 952) <|
  gck (ginb 3 6) <|
  gnm (upd f_7 (Int32.toNatClampNeg 3) ((a1 (Int32.toNatClampNeg (1 + x1))) / 10)) fun f_11 =>
  gck (ginb 0 952) <|
  gck (ginb 4 6) <|
  gnm (upd f_11 (Int32.toNatClampNeg 4) ((a1 (Int32.toNatClampNeg 0)) - (a1 (Int32.toNatClampNeg 0)) / 10 * 10)) fun f_15 =>
  gbd (pX12_teamOf a1 x2) fun z_16 =>
  gck (ginb 5 6) <|
  gnm (upd f_15 (Int32.toNatClampNeg 5) z_16) fun f_18 =>
  gbd (pX12_tellsOf a1 247 0) fun z_19 =>
  gck (ginb 56 952) <|
  gnm (252 + (140 * (a1 (Int32.toNatClampNeg 56)))) fun v_21 =>
  pX12_moreOf_108 a1 1000 f_18 a11 0 z_19 v_21 0 v_21


def pX12_size (x0 : Int32) : Option (Int32) :=
  if 0 ≤ x0 then
    some (x0)
  else
    some ((-x0))


def pX12_markOf_117 (a1 : (Nat → Int32)) (a10 : (Nat → Int32)) (a11 : (Nat → Int32)) (x1 : Int32) (x2 : Int32) (x4 : Int32) (y0 : Int32) (y1 : Int32) : Option (Int32 × ((Nat → Int32)) × ((Nat → Int32))) :=
  gnm (y0 + y1) fun v_1 =>
  gck (ginb (41 + x1) 952) <|
  gck (ginb (68 + x2) 952) <|
  gbd (pX12_size ((a1 (Int32.toNatClampNeg (41 + x1))) - (a1 (Int32.toNatClampNeg (68 + x2))))) fun z_4 =>
  gnm (9 - z_4) fun v_5 =>
  if x4 = 4 then
    if v_5 ≤ 0 then
      some ((v_1 + 0), a10, a11)
    else
      some ((v_1 + v_5), a10, a11)
  else
    some ((v_1 + 0), a10, a11)


def pX12_markOf_74 (a1 : (Nat → Int32)) (a10 : (Nat → Int32)) (a11 : (Nat → Int32)) (x1 : Int32) (x2 : Int32) (x3 : Int32) (x4 : Int32) (x5 : Int32) : Option (Int32 × ((Nat → Int32)) × ((Nat → Int32))) :=
  gbd (pX12_moreOf a1 a10 a11 x1 x2) fun z_1 =>
  gnm (x5 + z_1.1) fun v_2 =>
  if x4 = 1 then
    pX12_markOf_117 a1 z_1.2.1 z_1.2.2 x1 x2 x4 v_2 x3
  else
    if x4 = 4 then
      pX12_markOf_117 a1 z_1.2.1 z_1.2.2 x1 x2 x4 v_2 x3
    else
      if x4 = 6 then
        pX12_markOf_117 a1 z_1.2.1 z_1.2.2 x1 x2 x4 v_2 (2 * x3)
      else
        pX12_markOf_117 a1 z_1.2.1 z_1.2.2 x1 x2 x4 v_2 0


def pX12_markOf_44 (a1 : (Nat → Int32)) (a10 : (Nat → Int32)) (a11 : (Nat → Int32)) (x1 : Int32) (x2 : Int32) (x3 : Int32) (x4 : Int32) : Option (Int32 × ((Nat → Int32)) × ((Nat → Int32))) :=
  gck (ginb (1 + x1) 952) <|
  gck (ginb (11 + x1) 952) <|
  gnm ((((a1 (Int32.toNatClampNeg (1 + x1))) * (10 - x3)) + ((a1 (Int32.toNatClampNeg (11 + x1))) * x3)) / 10) fun v_4 =>
  pX12_markOf_74 a1 a10 a11 x1 x2 x3 x4 v_4


def pX12_markOf (a1 : (Nat → Int32)) (a10 : (Nat → Int32)) (a11 : (Nat → Int32)) (x1 : Int32) (x2 : Int32) : Option (Int32 × ((Nat → Int32)) × ((Nat → Int32))) :=
  gck (ginb (64 + x2) 952) <|
  gnm (a1 (Int32.toNatClampNeg (64 + x2))) fun v_2 =>
  gck (ginb (60 + x2) 952) <|
  gnm (a1 (Int32.toNatClampNeg (60 + x2))) fun v_4 =>
  gck (ginb (1 + x1) 952) <|
  gnm (a1 (Int32.toNatClampNeg (1 + x1))) fun v_6 =>
  if v_4 = 3 then
    pX12_markOf_44 a1 a10 a11 x1 x2 v_2 v_4
  else
    if v_4 = 6 then
      pX12_markOf_44 a1 a10 a11 x1 x2 v_2 v_4
    else
      pX12_markOf_74 a1 a10 a11 x1 x2 v_2 v_4 v_6


def pX12_levelsAll_121 (a1 : (Nat → Int32)) : Nat → ((Nat → Int32)) → ((Nat → Int32)) → ((Nat → Int32)) → ((Nat → Int32)) → ((Nat → Int32)) → ((Nat → Int32)) → Int32 → Option (((Nat → Int32)) × ((Nat → Int32)) × ((Nat → Int32)) × ((Nat → Int32)) × ((Nat → Int32)) × ((Nat → Int32)))
  | 0, _, _, _, _, _, _, _ => none
  | n + 1, a10, a11, a12, a13, a15, a16, x2 =>
  gck (ginb 52 952) <|
  if (a1 (Int32.toNatClampNeg 52)) ≤ x2 then
    some (a10, a11, a12, a13, a15, a16)
  else
    gbd (pX12_gradesTeam a1 a12 a13 a15 x2) fun z_2 =>
    pX12_levelsAll_121 a1 n a10 a11 a12 z_2.1 z_2.2 a16 (x2 + 1)


def pX12_levelsAll_77 (a1 : (Nat → Int32)) : Nat → ((Nat → Int32)) → ((Nat → Int32)) → ((Nat → Int32)) → ((Nat → Int32)) → ((Nat → Int32)) → ((Nat → Int32)) → Int32 → Int32 → Option (((Nat → Int32)) × ((Nat → Int32)) × ((Nat → Int32)) × ((Nat → Int32)) × ((Nat → Int32)) × ((Nat → Int32)))
  | 0, _, _, _, _, _, _, _, _ => none
  | n + 1, a10, a11, a12, a13, a15, a16, x1, x2 =>
  gck (ginb 51 952) <|
  if (a1 (Int32.toNatClampNeg 51)) ≤ x2 then
    pX12_levelsAll_121 a1 1000 a10 a11 a12 a13 a15 a16 0
  else
    gck (ginb x2 10) <|
    gck (ginb (31 + x2) 952) <|
    gck (ginb (a1 (Int32.toNatClampNeg (31 + x2))) 4) <|
    gck (ginb x2 10) <|
    gnm (upd a12 (Int32.toNatClampNeg x2) ((a12 (Int32.toNatClampNeg x2)) + (x1 - (a16 (Int32.toNatClampNeg (a1 (Int32.toNatClampNeg (31 + x2)))))))) fun f_6 =>
    pX12_levelsAll_77 a1 n a10 a11 f_6 a13 a15 a16 x1 (x2 + 1)


def pX12_levelsAll_47 (a1 : (Nat → Int32)) : Nat → ((Nat → Int32)) → ((Nat → Int32)) → ((Nat → Int32)) → ((Nat → Int32)) → ((Nat → Int32)) → ((Nat → Int32)) → Int32 → Int32 → Option (((Nat → Int32)) × ((Nat → Int32)) × ((Nat → Int32)) × ((Nat → Int32)) × ((Nat → Int32)) × ((Nat → Int32)))
  | 0, _, _, _, _, _, _, _, _ => none
  | n + 1, a10, a11, a12, a13, a15, a16, x1, x2 =>
  gck (ginb 52 952) <|
  if (a1 (Int32.toNatClampNeg 52)) ≤ x2 then
    pX12_levelsAll_77 a1 1000 a10 a11 a12 a13 a15 a16 x1 0
  else
    gbd (pX12_meanOf a1 a12 x2) fun z_2 =>
    gck (ginb x2 4) <|
    gnm (upd a16 (Int32.toNatClampNeg x2) z_2) fun f_4 =>
    pX12_levelsAll_47 a1 n a10 a11 a12 a13 a15 f_4 x1 (x2 + 1)


def pX12_levelsAll_2 (a1 : (Nat → Int32)) : Nat → ((Nat → Int32)) → ((Nat → Int32)) → ((Nat → Int32)) → ((Nat → Int32)) → ((Nat → Int32)) → ((Nat → Int32)) → Int32 → Option (((Nat → Int32)) × ((Nat → Int32)) × ((Nat → Int32)) × ((Nat → Int32)) × ((Nat → Int32)) × ((Nat → Int32)))
  | 0, _, _, _, _, _, _, _ => none
  | n + 1, a10, a11, a12, a13, a15, a16, x1 =>
  gck (ginb 51 952) <|
  if (a1 (Int32.toNatClampNeg 51)) ≤ x1 then
    gbd (pX12_meanOf a1 a12 (-1)) fun z_2 =>
    pX12_levelsAll_47 a1 1000 a10 a11 a12 a13 a15 a16 z_2 0
  else
    gck (ginb (31 + x1) 952) <|
    gbd (pX12_markOf a1 a10 a11 x1 (a1 (Int32.toNatClampNeg (31 + x1)))) fun z_4 =>
    gck (ginb x1 10) <|
    gnm (upd a12 (Int32.toNatClampNeg x1) z_4.1) fun f_6 =>
    pX12_levelsAll_2 a1 n z_4.2.1 z_4.2.2 f_6 a13 a15 a16 (x1 + 1)


def pX12_levelsAll (a1 : (Nat → Int32)) (a10 : (Nat → Int32)) (a11 : (Nat → Int32)) (a12 : (Nat → Int32)) (a13 : (Nat → Int32)) (a15 : (Nat → Int32)) (a16 : (Nat → Int32)) : Option (((Nat → Int32)) × ((Nat → Int32)) × ((Nat → Int32)) × ((Nat → Int32)) × ((Nat → Int32)) × ((Nat → Int32))) :=
  pX12_levelsAll_2 a1 1000 a10 a11 a12 a13 a15 a16 0


def pX12_givesFives_at14_137 (k2 : (Nat → Int32) → Int32 → Int32 → Option (((Nat → Int32)))) (a1 : (Nat → Int32)) (a12 : (Nat → Int32)) (a15 : (Nat → Int32)) (a14 : (Nat → Int32)) (x2 : Int32) (x3 : Int32) (x4 : Int32) : Option (((Nat → Int32))) :=
  if x2 ≤ x4 then
    gck (ginb x3 10) <|
    gnm (upd a14 (Int32.toNatClampNeg x3) 4) fun f_2 =>
    k2 f_2 x2 (x3 + 1)
  else
    gck (ginb x3 10) <|
    gnm (upd a14 (Int32.toNatClampNeg x3) 5) fun f_4 =>
    k2 f_4 x2 (x3 + 1)


def pX12_givesFives_at14_76 (k2 : (Nat → Int32) → Int32 → Int32 → Option (((Nat → Int32)))) (k35 : (Nat → Int32) → Int32 → Int32 → Int32 → Int32 → Option (((Nat → Int32)))) (a1 : (Nat → Int32)) (a12 : (Nat → Int32)) (a15 : (Nat → Int32)) (a14 : (Nat → Int32)) (x2 : Int32) (x3 : Int32) (x4 : Int32) (x5 : Int32) (y0 : Int32) : Option (((Nat → Int32))) :=
  if y0 = 0 then
    gnm (x4 + 0) fun v_1 =>
    k35 a14 x2 x3 v_1 (x5 + 1)
  else
    gck (ginb x5 10) <|
    gck (ginb x3 10) <|
    if (a12 (Int32.toNatClampNeg x3)) < (a12 (Int32.toNatClampNeg x5)) then
      gnm (x4 + 1) fun v_4 =>
      k35 a14 x2 x3 v_4 (x5 + 1)
    else
      gck (ginb x5 10) <|
      gck (ginb x3 10) <|
      if (a12 (Int32.toNatClampNeg x5)) = (a12 (Int32.toNatClampNeg x3)) then
        if x3 ≤ x5 then
          gnm (x4 + 0) fun v_8 =>
          k35 a14 x2 x3 v_8 (x5 + 1)
        else
          gnm (x4 + 1) fun v_9 =>
          k35 a14 x2 x3 v_9 (x5 + 1)
      else
        gnm (x4 + 0) fun v_7 =>
        k35 a14 x2 x3 v_7 (x5 + 1)


def pX12_givesFives_at14_35 (k2 : (Nat → Int32) → Int32 → Int32 → Option (((Nat → Int32)))) (a1 : (Nat → Int32)) (a12 : (Nat → Int32)) (a15 : (Nat → Int32)) : Nat → ((Nat → Int32)) → Int32 → Int32 → Int32 → Int32 → Option (((Nat → Int32)))
  | 0, _, _, _, _, _ => none
  | n + 1, a14, x2, x3, x4, x5 =>
  gck (ginb 51 952) <|
  if (a1 (Int32.toNatClampNeg 51)) ≤ x5 then
    pX12_givesFives_at14_137 k2 a1 a12 a15 a14 x2 x3 x4
  else
    gck (ginb x5 10) <|
    if (a15 (Int32.toNatClampNeg x5)) = 0 then
      pX12_givesFives_at14_76 k2 (pX12_givesFives_at14_35 k2 a1 a12 a15 n) a1 a12 a15 a14 x2 x3 x4 x5 0
    else
      gck (ginb x5 10) <|
      gbd (pX12_gradeBy (a12 (Int32.toNatClampNeg x5))) fun z_4 =>
      if z_4 = 5 then
        pX12_givesFives_at14_76 k2 (pX12_givesFives_at14_35 k2 a1 a12 a15 n) a1 a12 a15 a14 x2 x3 x4 x5 1
      else
        pX12_givesFives_at14_76 k2 (pX12_givesFives_at14_35 k2 a1 a12 a15 n) a1 a12 a15 a14 x2 x3 x4 x5 0


def pX12_givesFives_at14_2 (a1 : (Nat → Int32)) (a12 : (Nat → Int32)) (a15 : (Nat → Int32)) : Nat → ((Nat → Int32)) → Int32 → Int32 → Option (((Nat → Int32)))
  | 0, _, _, _ => none
  | n + 1, a14, x2, x3 =>
  gck (ginb 51 952) <|
  if (a1 (Int32.toNatClampNeg 51)) ≤ x3 then
    some (a14)
  else
    gck (ginb x3 10) <|
    if (a15 (Int32.toNatClampNeg x3)) = 0 then
      pX12_givesFives_at14_2 a1 a12 a15 n a14 x2 (x3 + 1)
    else
      gck (ginb x3 10) <|
      if (a14 (Int32.toNatClampNeg x3)) = 5 then
        pX12_givesFives_at14_35 (pX12_givesFives_at14_2 a1 a12 a15 n) a1 a12 a15 1000 a14 x2 x3 0 0
      else
        pX12_givesFives_at14_2 a1 a12 a15 n a14 x2 (x3 + 1)


def pX12_givesFives_at14 (a1 : (Nat → Int32)) (a12 : (Nat → Int32)) (a15 : (Nat → Int32)) (a14 : (Nat → Int32)) (x2 : Int32) : Option (((Nat → Int32))) :=
  pX12_givesFives_at14_2 a1 a12 a15 1000 a14 x2 0


def pX12_givesOnes_at14_104 (k2 : (Nat → Int32) → Int32 → Int32 → Option (((Nat → Int32)))) (a1 : (Nat → Int32)) (a12 : (Nat → Int32)) (a15 : (Nat → Int32)) (a14 : (Nat → Int32)) (x2 : Int32) (x3 : Int32) (x4 : Int32) : Option (((Nat → Int32))) :=
  if x2 ≤ x4 then
    gck (ginb x3 10) <|
    gck (ginb x3 10) <|
    gnm (upd a14 (Int32.toNatClampNeg x3) (a14 (Int32.toNatClampNeg x3))) fun f_3 =>
    k2 f_3 x2 (x3 + 1)
  else
    gck (ginb x3 10) <|
    gnm (upd a14 (Int32.toNatClampNeg x3) 1) fun f_5 =>
    k2 f_5 x2 (x3 + 1)


def pX12_givesOnes_at14_28 (k2 : (Nat → Int32) → Int32 → Int32 → Option (((Nat → Int32)))) (a1 : (Nat → Int32)) (a12 : (Nat → Int32)) (a15 : (Nat → Int32)) : Nat → ((Nat → Int32)) → Int32 → Int32 → Int32 → Int32 → Option (((Nat → Int32)))
  | 0, _, _, _, _, _ => none
  | n + 1, a14, x2, x3, x4, x5 =>
  gck (ginb 51 952) <|
  if (a1 (Int32.toNatClampNeg 51)) ≤ x5 then
    pX12_givesOnes_at14_104 k2 a1 a12 a15 a14 x2 x3 x4
  else
    gck (ginb x5 10) <|
    if (a15 (Int32.toNatClampNeg x5)) = 0 then
      gnm (x4 + 0) fun v_3 =>
      pX12_givesOnes_at14_28 k2 a1 a12 a15 n a14 x2 x3 v_3 (x5 + 1)
    else
      gck (ginb x5 10) <|
      gck (ginb x3 10) <|
      if (a12 (Int32.toNatClampNeg x5)) < (a12 (Int32.toNatClampNeg x3)) then
        gnm (x4 + 1) fun v_6 =>
        pX12_givesOnes_at14_28 k2 a1 a12 a15 n a14 x2 x3 v_6 (x5 + 1)
      else
        gck (ginb x5 10) <|
        gck (ginb x3 10) <|
        if (a12 (Int32.toNatClampNeg x5)) = (a12 (Int32.toNatClampNeg x3)) then
          if x5 ≤ x3 then
            gnm (x4 + 0) fun v_10 =>
            pX12_givesOnes_at14_28 k2 a1 a12 a15 n a14 x2 x3 v_10 (x5 + 1)
          else
            gnm (x4 + 1) fun v_11 =>
            pX12_givesOnes_at14_28 k2 a1 a12 a15 n a14 x2 x3 v_11 (x5 + 1)
        else
          gnm (x4 + 0) fun v_9 =>
          pX12_givesOnes_at14_28 k2 a1 a12 a15 n a14 x2 x3 v_9 (x5 + 1)


def pX12_givesOnes_at14_2 (a1 : (Nat → Int32)) (a12 : (Nat → Int32)) (a15 : (Nat → Int32)) : Nat → ((Nat → Int32)) → Int32 → Int32 → Option (((Nat → Int32)))
  | 0, _, _, _ => none
  | n + 1, a14, x2, x3 =>
  gck (ginb 51 952) <|
  if (a1 (Int32.toNatClampNeg 51)) ≤ x3 then
    some (a14)
  else
    gck (ginb x3 10) <|
    if (a15 (Int32.toNatClampNeg x3)) = 0 then
      pX12_givesOnes_at14_2 a1 a12 a15 n a14 x2 (x3 + 1)
    else
      pX12_givesOnes_at14_28 (pX12_givesOnes_at14_2 a1 a12 a15 n) a1 a12 a15 1000 a14 x2 x3 0 0


def pX12_givesOnes_at14 (a1 : (Nat → Int32)) (a12 : (Nat → Int32)) (a15 : (Nat → Int32)) (a14 : (Nat → Int32)) (x2 : Int32) : Option (((Nat → Int32))) :=
  pX12_givesOnes_at14_2 a1 a12 a15 1000 a14 x2 0


def pX12_duesAll_55 (a1 : (Nat → Int32)) (a12 : (Nat → Int32)) (a14 : (Nat → Int32)) (a15 : (Nat → Int32)) : Option (((Nat → Int32)) × ((Nat → Int32)) × ((Nat → Int32))) :=
  gbd (pX12_told a1 0) fun z_1 =>
  gbd (pX12_shareOf a1 a15 z_1) fun z_2 =>
  gbd (pX12_givesFives_at14 a1 a12 a15 a14 z_2) fun z_3 =>
  gbd (pX12_told a1 1) fun z_4 =>
  gbd (pX12_shareOf a1 a15 z_4) fun z_5 =>
  gbd (pX12_givesOnes_at14 a1 a12 a15 z_3 z_5) fun z_6 =>
  some (a12, z_6, a15)


def pX12_duesAll_2 (a1 : (Nat → Int32)) : Nat → ((Nat → Int32)) → ((Nat → Int32)) → ((Nat → Int32)) → Int32 → Option (((Nat → Int32)) × ((Nat → Int32)) × ((Nat → Int32)))
  | 0, _, _, _, _ => none
  | n + 1, a12, a14, a15, x1 =>
  gck (ginb 51 952) <|
  if (a1 (Int32.toNatClampNeg 51)) ≤ x1 then
    pX12_duesAll_55 a1 a12 a14 a15
  else
    gck (ginb x1 10) <|
    gnm (upd a15 (Int32.toNatClampNeg x1) (vp_nar .boolean 1)) fun f_3 =>
    gck (ginb (1 + x1) 952) <|
    gck (ginb x1 10) <|
    gnm (upd a12 (Int32.toNatClampNeg x1) (a1 (Int32.toNatClampNeg (1 + x1)))) fun f_6 =>
    gck (ginb x1 10) <|
    gbd (pX12_gradeBy (f_6 (Int32.toNatClampNeg x1))) fun z_8 =>
    gck (ginb x1 10) <|
    gnm (upd a14 (Int32.toNatClampNeg x1) z_8) fun f_10 =>
    pX12_duesAll_2 a1 n f_6 f_10 f_3 (x1 + 1)


def pX12_duesAll (a1 : (Nat → Int32)) (a12 : (Nat → Int32)) (a14 : (Nat → Int32)) (a15 : (Nat → Int32)) : Option (((Nat → Int32)) × ((Nat → Int32)) × ((Nat → Int32))) :=
  pX12_duesAll_2 a1 1000 a12 a14 a15 0


def pX12_gradesAll_41 (a1 : (Nat → Int32)) : Nat → ((Nat → Int32)) → ((Nat → Int32)) → ((Nat → Int32)) → ((Nat → Int32)) → ((Nat → Int32)) → Int32 → Option (((Nat → Int32)) × ((Nat → Int32)) × ((Nat → Int32)) × ((Nat → Int32)) × ((Nat → Int32)))
  | 0, _, _, _, _, _, _ => none
  | n + 1, a10, a11, a12, a13, a15, x1 =>
  gck (ginb 52 952) <|
  if (a1 (Int32.toNatClampNeg 52)) ≤ x1 then
    some (a10, a11, a12, a13, a15)
  else
    gbd (pX12_gradesTeam a1 a12 a13 a15 x1) fun z_2 =>
    pX12_gradesAll_41 a1 n a10 a11 a12 z_2.1 z_2.2 (x1 + 1)


def pX12_gradesAll_2 (a1 : (Nat → Int32)) : Nat → ((Nat → Int32)) → ((Nat → Int32)) → ((Nat → Int32)) → ((Nat → Int32)) → ((Nat → Int32)) → Int32 → Option (((Nat → Int32)) × ((Nat → Int32)) × ((Nat → Int32)) × ((Nat → Int32)) × ((Nat → Int32)))
  | 0, _, _, _, _, _, _ => none
  | n + 1, a10, a11, a12, a13, a15, x1 =>
  gck (ginb 51 952) <|
  if (a1 (Int32.toNatClampNeg 51)) ≤ x1 then
    pX12_gradesAll_41 a1 1000 a10 a11 a12 a13 a15 0
  else
    gck (ginb (31 + x1) 952) <|
    gbd (pX12_markOf a1 a10 a11 x1 (a1 (Int32.toNatClampNeg (31 + x1)))) fun z_3 =>
    gck (ginb x1 10) <|
    gnm (upd a12 (Int32.toNatClampNeg x1) z_3.1) fun f_5 =>
    pX12_gradesAll_2 a1 n z_3.2.1 z_3.2.2 f_5 a13 a15 (x1 + 1)


def pX12_gradesAll (a1 : (Nat → Int32)) (a10 : (Nat → Int32)) (a11 : (Nat → Int32)) (a12 : (Nat → Int32)) (a13 : (Nat → Int32)) (a15 : (Nat → Int32)) : Option (((Nat → Int32)) × ((Nat → Int32)) × ((Nat → Int32)) × ((Nat → Int32)) × ((Nat → Int32))) :=
  pX12_gradesAll_2 a1 1000 a10 a11 a12 a13 a15 0


def pX12_of (a1 : (Nat → Int32)) (a10 : (Nat → Int32)) (a11 : (Nat → Int32)) (a12 : (Nat → Int32)) (a13 : (Nat → Int32)) (a14 : (Nat → Int32)) (a15 : (Nat → Int32)) (a16 : (Nat → Int32)) (x1 : Int32) (x2 : Int32) : Option (Int32 × ((Nat → Int32)) × ((Nat → Int32)) × ((Nat → Int32)) × ((Nat → Int32)) × ((Nat → Int32)) × ((Nat → Int32)) × ((Nat → Int32))) :=
  gbd (pX12_isWorker a1 x1) fun z_1 =>
  if z_1 = 0 then
    some ((-1001), a10, a11, a12, a13, a14, a15, a16)
  else
    if x2 = 0 then
      gck (ginb (1 + x1) 952) <|
      some ((a1 (Int32.toNatClampNeg (1 + x1))), a10, a11, a12, a13, a14, a15, a16)
    else
    if x2 = 1 then
      gck (ginb (11 + x1) 952) <|
      some ((a1 (Int32.toNatClampNeg (11 + x1))), a10, a11, a12, a13, a14, a15, a16)
    else
    if x2 = 2 then
      gck (ginb (31 + x1) 952) <|
      some ((a1 (Int32.toNatClampNeg (31 + x1))), a10, a11, a12, a13, a14, a15, a16)
    else
    if x2 = 3 then
      gck (ginb (41 + x1) 952) <|
      some ((a1 (Int32.toNatClampNeg (41 + x1))), a10, a11, a12, a13, a14, a15, a16)
    else
    if x2 = 4 then
      gck (ginb (21 + x1) 952) <|
      some ((a1 (Int32.toNatClampNeg (21 + x1))), a10, a11, a12, a13, a14, a15, a16)
    else
    if x2 = 5 then
      gck (ginb (31 + x1) 952) <|
      gbd (pX12_markOf a1 a10 a11 x1 (a1 (Int32.toNatClampNeg (31 + x1)))) fun z_8 =>
      some (z_8.1, z_8.2.1, z_8.2.2, a12, a13, a14, a15, a16)
    else
    if x2 = 6 then
      gbd (pX12_gradesAll a1 a10 a11 a12 a13 a15) fun z_9 =>
      gck (ginb x1 10) <|
      some ((z_9.2.2.2.1 (Int32.toNatClampNeg x1)), z_9.1, z_9.2.1, z_9.2.2.1, z_9.2.2.2.1, a14, z_9.2.2.2.2, a16)
    else
    if x2 = 7 then
      gbd (pX12_duesAll a1 a12 a14 a15) fun z_11 =>
      gck (ginb x1 10) <|
      some ((z_11.2.1 (Int32.toNatClampNeg x1)), a10, a11, z_11.1, a13, z_11.2.1, z_11.2.2, a16)
    else
    if x2 = 8 then
      gbd (pX12_levelsAll a1 a10 a11 a12 a13 a15 a16) fun z_13 =>
      gck (ginb x1 10) <|
      some ((z_13.2.2.2.1 (Int32.toNatClampNeg x1)), z_13.1, z_13.2.1, z_13.2.2.1, z_13.2.2.2.1, a14, z_13.2.2.2.2.1, z_13.2.2.2.2.2)
    else
    some ((-1001), a10, a11, a12, a13, a14, a15, a16)


def pX12_by_86 (a1 : (Nat → Int32)) (x1 : Int32) (x2 : Int32) (x3 : Int32) : Option (Int32) :=
  if x2 = 3 then
    gbd (pX12_teamOf a1 x1) fun z_1 =>
    some (z_1)
  else
    some (x3)


def pX12_by_43 (a1 : (Nat → Int32)) : Nat → Int32 → Int32 → Int32 → Int32 → Option (Int32)
  | 0, _, _, _, _ => none
  | n + 1, x1, x2, x3, x4 =>
  gck (ginb 51 952) <|
  if (a1 (Int32.toNatClampNeg 51)) ≤ x4 then
    pX12_by_86 a1 x1 x2 x3
  else
    gck (ginb (31 + x4) 952) <|
    if (a1 (Int32.toNatClampNeg (31 + x4))) = x1 then
      gnm (x3 ||| (1 <<< (x4 &&& 31))) fun v_4 =>
      pX12_by_43 a1 n x1 x2 v_4 (x4 + 1)
    else
      gnm (x3 ||| 0) fun v_3 =>
      pX12_by_43 a1 n x1 x2 v_3 (x4 + 1)


def pX12_by (a1 : (Nat → Int32)) (x1 : Int32) (x2 : Int32) : Option (Int32) :=
  gbd (pX12_isChief a1 x1) fun z_1 =>
  if z_1 = 0 then
    some ((-1))
  else
    gbd (pX12_in x2 0 4) fun z_2 =>
    if z_2 = 0 then
      some ((-1))
    else
      if 3 ≤ x2 then
        pX12_by_43 a1 1000 x1 x2 0 0
      else
        gck (ginb ((60 + (4 * x2)) + x1) 952) <|
        some ((a1 (Int32.toNatClampNeg ((60 + (4 * x2)) + x1))))


def pX12_move (a1 : (Nat → Int32)) (x1 : Int32) (x2 : Int32) : Option (Int32 × ((Nat → Int32))) :=
  gbd (pX12_isWorker a1 x1) fun z_1 =>
  if z_1 = 0 then
    some ((-1), a1)
  else
    gbd (pX12_isChief a1 x2) fun z_2 =>
    if z_2 = 0 then
      some ((-1), a1)
    else
      gck (ginb (31 + x1) 952) <|
      gnm (a1 (Int32.toNatClampNeg (31 + x1))) fun v_4 =>
      gck (ginb (31 + x1) 952) <|
      gnm (upd a1 (Int32.toNatClampNeg (31 + x1)) x2) fun f_6 =>
      some (v_4, f_6)


def pX12_set_62 (a1 : (Nat → Int32)) (x1 : Int32) (x3 : Int32) (y0 : Int32) : Option (Int32 × ((Nat → Int32))) :=
  gnm (y0 + x1) fun v_1 =>
  gck (ginb v_1 952) <|
  gnm (a1 (Int32.toNatClampNeg v_1)) fun v_3 =>
  gck (ginb v_1 952) <|
  gnm (upd a1 (Int32.toNatClampNeg v_1) x3) fun f_5 =>
  some (v_3, f_5)


def pX12_set_33 (a1 : (Nat → Int32)) (x1 : Int32) (x2 : Int32) (x3 : Int32) (y0 : Int32) (y1 : Int32) (y2 : Int32) : Option (Int32 × ((Nat → Int32))) :=
  gbd (pX12_in y0 y1 y2) fun z_1 =>
  if z_1 = 0 then
    some ((-2), a1)
  else
    if x2 = 0 then
      pX12_set_62 a1 x1 x3 1
    else
      if x2 = 1 then
        pX12_set_62 a1 x1 x3 11
      else
        pX12_set_62 a1 x1 x3 41


def pX12_set (a1 : (Nat → Int32)) (x1 : Int32) (x2 : Int32) (x3 : Int32) : Option (Int32 × ((Nat → Int32))) :=
  gbd (pX12_isWorker a1 x1) fun z_1 =>
  if z_1 = 0 then
    some ((-1), a1)
  else
    gbd (pX12_in x2 0 2) fun z_2 =>
    if z_2 = 0 then
      some ((-1), a1)
    else
      if x2 = 2 then
        pX12_set_33 a1 x1 x2 x3 x3 0 9
      else
        pX12_set_33 a1 x1 x2 x3 x3 0 99


def pX12_fresh (a1 : (Nat → Int32)) (x1 : Int32) (x2 : Int32) : Option (Int32 × ((Nat → Int32))) :=
  gbd (pX12_in x1 0 99) fun z_1 =>
  if z_1 = 0 then
    some ((-2), a1)
  else
    gbd (pX12_in x2 0 99) fun z_2 =>
    if z_2 = 0 then
      some ((-2), a1)
    else
      gck (ginb 57 952) <|
      gnm (a1 (Int32.toNatClampNeg 57)) fun v_4 =>
      gck (ginb 57 952) <|
      gnm (upd a1 (Int32.toNatClampNeg 57) x1) fun f_6 =>
      gck (ginb 58 952) <|
      gnm (upd f_6 (Int32.toNatClampNeg 58) x2) fun f_8 =>
      some (v_4, f_8)


def pX12_mark (a1 : (Nat → Int32)) (a10 : (Nat → Int32)) (a11 : (Nat → Int32)) (x1 : Int32) (x2 : Int32) : Option (Int32 × ((Nat → Int32)) × ((Nat → Int32))) :=
  gbd (pX12_isWorker a1 x1) fun z_1 =>
  if z_1 = 0 then
    some ((-1001), a10, a11)
  else
    gbd (pX12_isChief a1 x2) fun z_2 =>
    if z_2 = 0 then
      some ((-1001), a10, a11)
    else
      gbd (pX12_markOf a1 a10 a11 x1 x2) fun z_3 =>
      some (z_3.1, z_3.2.1, z_3.2.2)


def pX12_wrong_89 (k26 : (Nat → Int32) → (Nat → Int32) → (Nat → Int32) → (Nat → Int32) → (Nat → Int32) → (Nat → Int32) → Int32 → Int32 → Int32 → Int32 → Option (Int32 × ((Nat → Int32)) × ((Nat → Int32)) × ((Nat → Int32)) × ((Nat → Int32)) × ((Nat → Int32)) × ((Nat → Int32)))) (a1 : (Nat → Int32)) (a10 : (Nat → Int32)) (a11 : (Nat → Int32)) (a12 : (Nat → Int32)) (a13 : (Nat → Int32)) (a14 : (Nat → Int32)) (a15 : (Nat → Int32)) (x1 : Int32) (x2 : Int32) (x3 : Int32) (x4 : Int32) (y0 : Int32) : Option (Int32 × ((Nat → Int32)) × ((Nat → Int32)) × ((Nat → Int32)) × ((Nat → Int32)) × ((Nat → Int32)) × ((Nat → Int32))) :=
  if y0 = 0 then
    gnm (x2 ||| 0) fun v_1 =>
    gck (ginb x4 10) <|
    gnm (x3 + (a13 (Int32.toNatClampNeg x4))) fun v_3 =>
    k26 a10 a11 a12 a13 a14 a15 x1 v_1 v_3 (x4 + 1)
  else
    gnm (x2 ||| (1 <<< (x4 &&& 31))) fun v_4 =>
    gck (ginb x4 10) <|
    gnm (x3 + (a13 (Int32.toNatClampNeg x4))) fun v_6 =>
    k26 a10 a11 a12 a13 a14 a15 x1 v_4 v_6 (x4 + 1)


def pX12_wrong_26 (a1 : (Nat → Int32)) : Nat → ((Nat → Int32)) → ((Nat → Int32)) → ((Nat → Int32)) → ((Nat → Int32)) → ((Nat → Int32)) → ((Nat → Int32)) → Int32 → Int32 → Int32 → Int32 → Option (Int32 × ((Nat → Int32)) × ((Nat → Int32)) × ((Nat → Int32)) × ((Nat → Int32)) × ((Nat → Int32)) × ((Nat → Int32)))
  | 0, _, _, _, _, _, _, _, _, _, _ => none
  | n + 1, a10, a11, a12, a13, a14, a15, x1, x2, x3, x4 =>
  gck (ginb 51 952) <|
  if (a1 (Int32.toNatClampNeg 51)) ≤ x4 then
    if x1 = 2 then
      some (x3, a10, a11, a12, a13, a14, a15)
    else
      some (x2, a10, a11, a12, a13, a14, a15)
  else
    if x1 = 0 then
      gck (ginb x4 10) <|
      gck (ginb x4 10) <|
      if (a13 (Int32.toNatClampNeg x4)) = (a14 (Int32.toNatClampNeg x4)) then
        pX12_wrong_89 (pX12_wrong_26 a1 n) a1 a10 a11 a12 a13 a14 a15 x1 x2 x3 x4 0
      else
        pX12_wrong_89 (pX12_wrong_26 a1 n) a1 a10 a11 a12 a13 a14 a15 x1 x2 x3 x4 1
    else
      gck (ginb x4 10) <|
      gck (ginb x4 10) <|
      if (a14 (Int32.toNatClampNeg x4)) ≤ (a13 (Int32.toNatClampNeg x4)) then
        pX12_wrong_89 (pX12_wrong_26 a1 n) a1 a10 a11 a12 a13 a14 a15 x1 x2 x3 x4 0
      else
        pX12_wrong_89 (pX12_wrong_26 a1 n) a1 a10 a11 a12 a13 a14 a15 x1 x2 x3 x4 1


def pX12_wrong (a1 : (Nat → Int32)) (a10 : (Nat → Int32)) (a11 : (Nat → Int32)) (a12 : (Nat → Int32)) (a13 : (Nat → Int32)) (a14 : (Nat → Int32)) (a15 : (Nat → Int32)) (x1 : Int32) : Option (Int32 × ((Nat → Int32)) × ((Nat → Int32)) × ((Nat → Int32)) × ((Nat → Int32)) × ((Nat → Int32)) × ((Nat → Int32))) :=
  gbd (pX12_in x1 0 2) fun z_1 =>
  if z_1 = 0 then
    some ((-1), a10, a11, a12, a13, a14, a15)
  else
    gbd (pX12_duesAll a1 a12 a14 a15) fun z_2 =>
    gbd (pX12_gradesAll a1 a10 a11 z_2.1 a13 z_2.2.2) fun z_3 =>
    pX12_wrong_26 a1 1000 z_3.1 z_3.2.1 z_3.2.2.1 z_3.2.2.2.1 z_2.2.1 z_3.2.2.2.2 x1 0 0 0


def pX12_movedOf (a1 : (Nat → Int32)) (a10 : (Nat → Int32)) (a11 : (Nat → Int32)) (a12 : (Nat → Int32)) (a13 : (Nat → Int32)) (a15 : (Nat → Int32)) (x1 : Int32) (x2 : Int32) : Option (Int32 × ((Nat → Int32)) × ((Nat → Int32)) × ((Nat → Int32)) × ((Nat → Int32)) × ((Nat → Int32)) × ((Nat → Int32))) :=
  gck (ginb (31 + x1) 952) <|
  gnm (a1 (Int32.toNatClampNeg (31 + x1))) fun v_2 =>
  gck (ginb (31 + x1) 952) <|
  gnm (upd a1 (Int32.toNatClampNeg (31 + x1)) x2) fun f_4 =>
  gbd (pX12_gradesAll f_4 a10 a11 a12 a13 a15) fun z_5 =>
  gck (ginb (31 + x1) 952) <|
  gnm (upd f_4 (Int32.toNatClampNeg (31 + x1)) v_2) fun f_7 =>
  gck (ginb x1 10) <|
  some ((z_5.2.2.2.1 (Int32.toNatClampNeg x1)), f_7, z_5.1, z_5.2.1, z_5.2.2.1, z_5.2.2.2.1, z_5.2.2.2.2)


def pX12_moved (a1 : (Nat → Int32)) (a10 : (Nat → Int32)) (a11 : (Nat → Int32)) (a12 : (Nat → Int32)) (a13 : (Nat → Int32)) (a15 : (Nat → Int32)) (x1 : Int32) (x2 : Int32) : Option (Int32 × ((Nat → Int32)) × ((Nat → Int32)) × ((Nat → Int32)) × ((Nat → Int32)) × ((Nat → Int32)) × ((Nat → Int32))) :=
  gbd (pX12_isWorker a1 x1) fun z_1 =>
  if z_1 = 0 then
    some ((-1), a1, a10, a11, a12, a13, a15)
  else
    gbd (pX12_isChief a1 x2) fun z_2 =>
    if z_2 = 0 then
      some ((-1), a1, a10, a11, a12, a13, a15)
    else
      gbd (pX12_movedOf a1 a10 a11 a12 a13 a15 x1 x2) fun z_3 =>
      some (z_3.1, z_3.2.1, z_3.2.2.1, z_3.2.2.2.1, z_3.2.2.2.2.1, z_3.2.2.2.2.2.1, z_3.2.2.2.2.2.2)


def pX12_best_61 (k27 : (Nat → Int32) → (Nat → Int32) → (Nat → Int32) → (Nat → Int32) → (Nat → Int32) → (Nat → Int32) → Int32 → Int32 → Int32 → Int32 → Int32 → Option (Int32 × ((Nat → Int32)) × ((Nat → Int32)) × ((Nat → Int32)) × ((Nat → Int32)) × ((Nat → Int32)) × ((Nat → Int32)))) (a1 : (Nat → Int32)) (a10 : (Nat → Int32)) (a11 : (Nat → Int32)) (a12 : (Nat → Int32)) (a13 : (Nat → Int32)) (a15 : (Nat → Int32)) (x1 : Int32) (x2 : Int32) (x4 : Int32) (x5 : Int32) (x6 : Int32) (y0 : Int32) : Option (Int32 × ((Nat → Int32)) × ((Nat → Int32)) × ((Nat → Int32)) × ((Nat → Int32)) × ((Nat → Int32)) × ((Nat → Int32))) :=
  if x6 ≤ x4 then
    k27 a1 a10 a11 a12 a13 a15 x1 x2 y0 x4 (x5 + 1)
  else
    k27 a1 a10 a11 a12 a13 a15 x1 x2 y0 x6 (x5 + 1)


def pX12_best_27 : Nat → ((Nat → Int32)) → ((Nat → Int32)) → ((Nat → Int32)) → ((Nat → Int32)) → ((Nat → Int32)) → ((Nat → Int32)) → Int32 → Int32 → Int32 → Int32 → Int32 → Option (Int32 × ((Nat → Int32)) × ((Nat → Int32)) × ((Nat → Int32)) × ((Nat → Int32)) × ((Nat → Int32)) × ((Nat → Int32)))
  | 0, _, _, _, _, _, _, _, _, _, _, _ => none
  | n + 1, a1, a10, a11, a12, a13, a15, x1, x2, x3, x4, x5 =>
  gck (ginb 52 952) <|
  if (a1 (Int32.toNatClampNeg 52)) ≤ x5 then
    if x2 = 0 then
      some (x3, a1, a10, a11, a12, a13, a15)
    else
      some (x4, a1, a10, a11, a12, a13, a15)
  else
    gbd (pX12_movedOf a1 a10 a11 a12 a13 a15 x1 x5) fun z_2 =>
    gnm z_2.1 fun v_3 =>
    if v_3 ≤ x4 then
      pX12_best_61 (pX12_best_27 n) z_2.2.1 z_2.2.2.1 z_2.2.2.2.1 z_2.2.2.2.2.1 z_2.2.2.2.2.2.1 z_2.2.2.2.2.2.2 x1 x2 x4 x5 v_3 x3
    else
      pX12_best_61 (pX12_best_27 n) z_2.2.1 z_2.2.2.1 z_2.2.2.2.1 z_2.2.2.2.2.1 z_2.2.2.2.2.2.1 z_2.2.2.2.2.2.2 x1 x2 x4 x5 v_3 x5


def pX12_best (a1 : (Nat → Int32)) (a10 : (Nat → Int32)) (a11 : (Nat → Int32)) (a12 : (Nat → Int32)) (a13 : (Nat → Int32)) (a15 : (Nat → Int32)) (x1 : Int32) (x2 : Int32) : Option (Int32 × ((Nat → Int32)) × ((Nat → Int32)) × ((Nat → Int32)) × ((Nat → Int32)) × ((Nat → Int32)) × ((Nat → Int32))) :=
  gbd (pX12_isWorker a1 x1) fun z_1 =>
  if z_1 = 0 then
    some ((-1), a1, a10, a11, a12, a13, a15)
  else
    gbd (pX12_in x2 0 1) fun z_2 =>
    if z_2 = 0 then
      some ((-1), a1, a10, a11, a12, a13, a15)
    else
      pX12_best_27 1000 a1 a10 a11 a12 a13 a15 x1 x2 0 0 0


def pX12_asked_79 (k40 : (Nat → Int32) → (Nat → Int32) → (Nat → Int32) → (Nat → Int32) → (Nat → Int32) → (Nat → Int32) → Int32 → Int32 → Int32 → Int32 → Int32 → Option (Int32 × ((Nat → Int32)) × ((Nat → Int32)) × ((Nat → Int32)) × ((Nat → Int32)) × ((Nat → Int32)) × ((Nat → Int32)))) : Nat → ((Nat → Int32)) → ((Nat → Int32)) → ((Nat → Int32)) → ((Nat → Int32)) → ((Nat → Int32)) → ((Nat → Int32)) → Int32 → Int32 → Int32 → Int32 → Int32 → Int32 → Int32 → Option (Int32 × ((Nat → Int32)) × ((Nat → Int32)) × ((Nat → Int32)) × ((Nat → Int32)) × ((Nat → Int32)) × ((Nat → Int32)))
  | 0, _, _, _, _, _, _, _, _, _, _, _, _, _ => none
  | n + 1, a1, a10, a11, a12, a13, a15, x1, x2, x3, x4, x5, x6, x7 =>
  gck (ginb 51 952) <|
  if (a1 (Int32.toNatClampNeg 51)) ≤ x7 then
    if x6 < x2 then
      k40 a1 a10 a11 a12 a13 a15 x1 x2 x3 x4 (x5 + 1)
    else
      k40 a1 a10 a11 a12 a13 a15 x1 x2 x3 x5 (x5 + 1)
  else
    gck (ginb (31 + x7) 952) <|
    if (a1 (Int32.toNatClampNeg (31 + x7))) = x1 then
      gck (ginb x7 10) <|
      gnm (x6 + (a13 (Int32.toNatClampNeg x7))) fun v_5 =>
      pX12_asked_79 k40 n a1 a10 a11 a12 a13 a15 x1 x2 x3 x4 x5 v_5 (x7 + 1)
    else
      gnm (x6 + 0) fun v_3 =>
      pX12_asked_79 k40 n a1 a10 a11 a12 a13 a15 x1 x2 x3 x4 x5 v_3 (x7 + 1)


def pX12_asked_40 : Nat → ((Nat → Int32)) → ((Nat → Int32)) → ((Nat → Int32)) → ((Nat → Int32)) → ((Nat → Int32)) → ((Nat → Int32)) → Int32 → Int32 → Int32 → Int32 → Int32 → Option (Int32 × ((Nat → Int32)) × ((Nat → Int32)) × ((Nat → Int32)) × ((Nat → Int32)) × ((Nat → Int32)) × ((Nat → Int32)))
  | 0, _, _, _, _, _, _, _, _, _, _, _ => none
  | n + 1, a1, a10, a11, a12, a13, a15, x1, x2, x3, x4, x5 =>
  if (9 - x3) < x5 then
    gck (ginb (64 + x1) 952) <|
    gnm (upd a1 (Int32.toNatClampNeg (64 + x1)) x3) fun f_2 =>
    some (x4, f_2, a10, a11, a12, a13, a15)
  else
    if x4 = (-5) then
      gck (ginb (64 + x1) 952) <|
      gnm (upd a1 (Int32.toNatClampNeg (64 + x1)) (x3 + x5)) fun f_6 =>
      gbd (pX12_gradesAll f_6 a10 a11 a12 a13 a15) fun z_7 =>
      pX12_asked_79 (pX12_asked_40 n) 1000 f_6 z_7.1 z_7.2.1 z_7.2.2.1 z_7.2.2.2.1 z_7.2.2.2.2 x1 x2 x3 x4 x5 0 0
    else
      gck (ginb (64 + x1) 952) <|
      gnm (upd a1 (Int32.toNatClampNeg (64 + x1)) x3) fun f_4 =>
      some (x4, f_4, a10, a11, a12, a13, a15)


def pX12_asked (a1 : (Nat → Int32)) (a10 : (Nat → Int32)) (a11 : (Nat → Int32)) (a12 : (Nat → Int32)) (a13 : (Nat → Int32)) (a15 : (Nat → Int32)) (x1 : Int32) (x2 : Int32) : Option (Int32 × ((Nat → Int32)) × ((Nat → Int32)) × ((Nat → Int32)) × ((Nat → Int32)) × ((Nat → Int32)) × ((Nat → Int32))) :=
  gbd (pX12_isChief a1 x1) fun z_1 =>
  if z_1 = 0 then
    some ((-1), a1, a10, a11, a12, a13, a15)
  else
    gbd (pX12_in x2 0 50) fun z_2 =>
    if z_2 = 0 then
      some ((-2), a1, a10, a11, a12, a13, a15)
    else
      gck (ginb (64 + x1) 952) <|
      gnm (a1 (Int32.toNatClampNeg (64 + x1))) fun v_4 =>
      pX12_asked_40 1000 a1 a10 a11 a12 a13 a15 x1 x2 v_4 (-5) 0


def pX12_changes (a1 : (Nat → Int32)) (x1 : Int32) (x2 : Int32) : Option (((Nat → Int32))) :=
  gck (ginb (31 + x1) 952) <|
  gnm (a1 (Int32.toNatClampNeg (31 + x1))) fun v_2 =>
  gck (ginb (41 + x1) 952) <|
  gnm (a1 (Int32.toNatClampNeg (41 + x1))) fun v_4 =>
  gck (ginb (31 + x2) 952) <|
  gck (ginb (31 + x1) 952) <|
  gnm (upd a1 (Int32.toNatClampNeg (31 + x1)) (a1 (Int32.toNatClampNeg (31 + x2)))) fun f_7 =>
  gck (ginb (41 + x2) 952) <|
  gck (ginb (41 + x1) 952) <|
  gnm (upd f_7 (Int32.toNatClampNeg (41 + x1)) (f_7 (Int32.toNatClampNeg (41 + x2)))) fun f_10 =>
  gck (ginb (31 + x2) 952) <|
  gnm (upd f_10 (Int32.toNatClampNeg (31 + x2)) v_2) fun f_12 =>
  gck (ginb (41 + x2) 952) <|
  gnm (upd f_12 (Int32.toNatClampNeg (41 + x2)) v_4) fun f_14 =>
  some (f_14)


def pX12_swap_156 (k19 : (Nat → Int32) → (Nat → Int32) → (Nat → Int32) → (Nat → Int32) → (Nat → Int32) → (Nat → Int32) → Int32 → Int32 → Int32 → Int32 → Option (Int32 × ((Nat → Int32)) × ((Nat → Int32)) × ((Nat → Int32)) × ((Nat → Int32)) × ((Nat → Int32)) × ((Nat → Int32)))) (k37 : (Nat → Int32) → (Nat → Int32) → (Nat → Int32) → (Nat → Int32) → (Nat → Int32) → (Nat → Int32) → Int32 → Int32 → Int32 → Int32 → Int32 → Option (Int32 × ((Nat → Int32)) × ((Nat → Int32)) × ((Nat → Int32)) × ((Nat → Int32)) × ((Nat → Int32)) × ((Nat → Int32)))) (a1 : (Nat → Int32)) (a10 : (Nat → Int32)) (a11 : (Nat → Int32)) (a12 : (Nat → Int32)) (a13 : (Nat → Int32)) (a15 : (Nat → Int32)) (x1 : Int32) (x3 : Int32) (x4 : Int32) (x5 : Int32) (x8 : Int32) (y0 : Int32) (y1 : Int32) : Option (Int32 × ((Nat → Int32)) × ((Nat → Int32)) × ((Nat → Int32)) × ((Nat → Int32)) × ((Nat → Int32)) × ((Nat → Int32))) :=
  gnm (y0 + y1) fun v_1 =>
  if x8 = 0 then
    k37 a1 a10 a11 a12 a13 a15 x1 v_1 x3 x4 (x5 + 1)
  else
    if x3 = (-5) then
      gnm ((10 * x4) + x5) fun v_2 =>
      k37 a1 a10 a11 a12 a13 a15 x1 v_1 v_2 x4 (x5 + 1)
    else
      k37 a1 a10 a11 a12 a13 a15 x1 v_1 x3 x4 (x5 + 1)


def pX12_swap_135 (k19 : (Nat → Int32) → (Nat → Int32) → (Nat → Int32) → (Nat → Int32) → (Nat → Int32) → (Nat → Int32) → Int32 → Int32 → Int32 → Int32 → Option (Int32 × ((Nat → Int32)) × ((Nat → Int32)) × ((Nat → Int32)) × ((Nat → Int32)) × ((Nat → Int32)) × ((Nat → Int32)))) (k37 : (Nat → Int32) → (Nat → Int32) → (Nat → Int32) → (Nat → Int32) → (Nat → Int32) → (Nat → Int32) → Int32 → Int32 → Int32 → Int32 → Int32 → Option (Int32 × ((Nat → Int32)) × ((Nat → Int32)) × ((Nat → Int32)) × ((Nat → Int32)) × ((Nat → Int32)) × ((Nat → Int32)))) (a1 : (Nat → Int32)) (a10 : (Nat → Int32)) (a11 : (Nat → Int32)) (a12 : (Nat → Int32)) (a13 : (Nat → Int32)) (a15 : (Nat → Int32)) (x1 : Int32) (x2 : Int32) (x3 : Int32) (x4 : Int32) (x5 : Int32) (y0 : Int32) : Option (Int32 × ((Nat → Int32)) × ((Nat → Int32)) × ((Nat → Int32)) × ((Nat → Int32)) × ((Nat → Int32)) × ((Nat → Int32))) :=
  gbd (pX12_changes a1 x4 x5) fun z_1 =>
  if y0 = 0 then
    pX12_swap_156 k19 k37 z_1 a10 a11 a12 a13 a15 x1 x3 x4 x5 y0 x2 0
  else
    pX12_swap_156 k19 k37 z_1 a10 a11 a12 a13 a15 x1 x3 x4 x5 y0 x2 1


def pX12_swap_37 (k19 : (Nat → Int32) → (Nat → Int32) → (Nat → Int32) → (Nat → Int32) → (Nat → Int32) → (Nat → Int32) → Int32 → Int32 → Int32 → Int32 → Option (Int32 × ((Nat → Int32)) × ((Nat → Int32)) × ((Nat → Int32)) × ((Nat → Int32)) × ((Nat → Int32)) × ((Nat → Int32)))) : Nat → ((Nat → Int32)) → ((Nat → Int32)) → ((Nat → Int32)) → ((Nat → Int32)) → ((Nat → Int32)) → ((Nat → Int32)) → Int32 → Int32 → Int32 → Int32 → Int32 → Option (Int32 × ((Nat → Int32)) × ((Nat → Int32)) × ((Nat → Int32)) × ((Nat → Int32)) × ((Nat → Int32)) × ((Nat → Int32)))
  | 0, _, _, _, _, _, _, _, _, _, _, _ => none
  | n + 1, a1, a10, a11, a12, a13, a15, x1, x2, x3, x4, x5 =>
  gck (ginb 51 952) <|
  if (a1 (Int32.toNatClampNeg 51)) ≤ x5 then
    k19 a1 a10 a11 a12 a13 a15 x1 x2 x3 (x4 + 1)
  else
    gck (ginb (31 + x4) 952) <|
    gck (ginb (31 + x5) 952) <|
    if (a1 (Int32.toNatClampNeg (31 + x4))) = (a1 (Int32.toNatClampNeg (31 + x5))) then
      pX12_swap_37 k19 n a1 a10 a11 a12 a13 a15 x1 x2 x3 x4 (x5 + 1)
    else
      gbd (pX12_gradesAll a1 a10 a11 a12 a13 a15) fun z_4 =>
      gck (ginb x4 10) <|
      gnm (z_4.2.2.2.1 (Int32.toNatClampNeg x4)) fun v_6 =>
      gck (ginb x5 10) <|
      gnm (z_4.2.2.2.1 (Int32.toNatClampNeg x5)) fun v_8 =>
      gbd (pX12_changes a1 x4 x5) fun z_9 =>
      gbd (pX12_gradesAll z_9 z_4.1 z_4.2.1 z_4.2.2.1 z_4.2.2.2.1 z_4.2.2.2.2) fun z_10 =>
      gck (ginb x4 10) <|
      if (z_10.2.2.2.1 (Int32.toNatClampNeg x4)) ≤ v_6 then
        pX12_swap_135 k19 (pX12_swap_37 k19 n) z_9 z_10.1 z_10.2.1 z_10.2.2.1 z_10.2.2.2.1 z_10.2.2.2.2 x1 x2 x3 x4 x5 0
      else
        gck (ginb x5 10) <|
        if (z_10.2.2.2.1 (Int32.toNatClampNeg x5)) ≤ v_8 then
          pX12_swap_135 k19 (pX12_swap_37 k19 n) z_9 z_10.1 z_10.2.1 z_10.2.2.1 z_10.2.2.2.1 z_10.2.2.2.2 x1 x2 x3 x4 x5 0
        else
          pX12_swap_135 k19 (pX12_swap_37 k19 n) z_9 z_10.1 z_10.2.1 z_10.2.2.1 z_10.2.2.2.1 z_10.2.2.2.2 x1 x2 x3 x4 x5 1


def pX12_swap_19 : Nat → ((Nat → Int32)) → ((Nat → Int32)) → ((Nat → Int32)) → ((Nat → Int32)) → ((Nat → Int32)) → ((Nat → Int32)) → Int32 → Int32 → Int32 → Int32 → Option (Int32 × ((Nat → Int32)) × ((Nat → Int32)) × ((Nat → Int32)) × ((Nat → Int32)) × ((Nat → Int32)) × ((Nat → Int32)))
  | 0, _, _, _, _, _, _, _, _, _, _ => none
  | n + 1, a1, a10, a11, a12, a13, a15, x1, x2, x3, x4 =>
  gck (ginb 51 952) <|
  if (a1 (Int32.toNatClampNeg 51)) ≤ x4 then
    if x1 = 0 then
      some (x2, a1, a10, a11, a12, a13, a15)
    else
      some (x3, a1, a10, a11, a12, a13, a15)
  else
    gnm (x4 + 1) fun v_2 =>
    pX12_swap_37 (pX12_swap_19 n) 1000 a1 a10 a11 a12 a13 a15 x1 x2 x3 x4 v_2


def pX12_swap (a1 : (Nat → Int32)) (a10 : (Nat → Int32)) (a11 : (Nat → Int32)) (a12 : (Nat → Int32)) (a13 : (Nat → Int32)) (a15 : (Nat → Int32)) (x1 : Int32) : Option (Int32 × ((Nat → Int32)) × ((Nat → Int32)) × ((Nat → Int32)) × ((Nat → Int32)) × ((Nat → Int32)) × ((Nat → Int32))) :=
  gbd (pX12_in x1 0 1) fun z_1 =>
  if z_1 = 0 then
    some ((-1), a1, a10, a11, a12, a13, a15)
  else
    pX12_swap_19 1000 a1 a10 a11 a12 a13 a15 x1 0 (-5) 0


def pX12_newOne (a1 : (Nat → Int32)) (x1 : Int32) : Option (((Nat → Int32))) :=
  gck (ginb 57 952) <|
  gck (ginb (1 + x1) 952) <|
  gnm (upd a1 (Int32.toNatClampNeg (1 + x1)) (a1 (Int32.toNatClampNeg 57))) fun f_3 =>
  gck (ginb 58 952) <|
  gck (ginb (11 + x1) 952) <|
  gnm (upd f_3 (Int32.toNatClampNeg (11 + x1)) (f_3 (Int32.toNatClampNeg 58))) fun f_6 =>
  gck (ginb (21 + x1) 952) <|
  gnm (upd f_6 (Int32.toNatClampNeg (21 + x1)) 0) fun f_8 =>
  some (f_8)


def pX12_yearGoes_234 (k132 : (Nat → Int32) → (Nat → Int32) → (Nat → Int32) → (Nat → Int32) → (Nat → Int32) → (Nat → Int32) → (Nat → Int32) → Int32 → Int32 → Int32 → Int32 → Option (Int32 × ((Nat → Int32)) × ((Nat → Int32)) × ((Nat → Int32)) × ((Nat → Int32)) × ((Nat → Int32)) × ((Nat → Int32)) × ((Nat → Int32)))) (a1 : (Nat → Int32)) (a10 : (Nat → Int32)) (a11 : (Nat → Int32)) (a12 : (Nat → Int32)) (a13 : (Nat → Int32)) (a14 : (Nat → Int32)) (a15 : (Nat → Int32)) (x1 : Int32) (x2 : Int32) (x3 : Int32) (x4 : Int32) (y0 : Int32) : Option (Int32 × ((Nat → Int32)) × ((Nat → Int32)) × ((Nat → Int32)) × ((Nat → Int32)) × ((Nat → Int32)) × ((Nat → Int32)) × ((Nat → Int32))) :=
  if y0 = 0 then
    k132 a1 a10 a11 a12 a13 a14 a15 x1 x2 x3 (x4 + 1)
  else
    gbd (pX12_newOne a1 x4) fun z_1 =>
    k132 z_1 a10 a11 a12 a13 a14 a15 x1 x2 x3 (x4 + 1)


def pX12_yearGoes_178 (k132 : (Nat → Int32) → (Nat → Int32) → (Nat → Int32) → (Nat → Int32) → (Nat → Int32) → (Nat → Int32) → (Nat → Int32) → Int32 → Int32 → Int32 → Int32 → Option (Int32 × ((Nat → Int32)) × ((Nat → Int32)) × ((Nat → Int32)) × ((Nat → Int32)) × ((Nat → Int32)) × ((Nat → Int32)) × ((Nat → Int32)))) (a1 : (Nat → Int32)) (a10 : (Nat → Int32)) (a11 : (Nat → Int32)) (a12 : (Nat → Int32)) (a13 : (Nat → Int32)) (a14 : (Nat → Int32)) (a15 : (Nat → Int32)) (x1 : Int32) (x2 : Int32) (x3 : Int32) (x4 : Int32) (y0 : Int32) : Option (Int32 × ((Nat → Int32)) × ((Nat → Int32)) × ((Nat → Int32)) × ((Nat → Int32)) × ((Nat → Int32)) × ((Nat → Int32)) × ((Nat → Int32))) :=
  gck (ginb 0 952) <|
  gck (¬ x2 = 0) <|
  gck (¬ x2 = 0) <|
  gnm (((x4 - ((7 * (a1 (Int32.toNatClampNeg 0))) - (7 * (a1 (Int32.toNatClampNeg 0))) / x2 * x2)) + x2) - ((x4 - ((7 * (a1 (Int32.toNatClampNeg 0))) - (7 * (a1 (Int32.toNatClampNeg 0))) / x2 * x2)) + x2) / x2 * x2) fun v_4 =>
  if x1 = 2 then
    if x3 ≤ v_4 then
      pX12_yearGoes_234 k132 a1 a10 a11 a12 a13 a14 a15 x1 x2 x3 x4 0
    else
      pX12_yearGoes_234 k132 a1 a10 a11 a12 a13 a14 a15 x1 x2 x3 x4 1
  else
    if y0 = 0 then
      pX12_yearGoes_234 k132 a1 a10 a11 a12 a13 a14 a15 x1 x2 x3 x4 0
    else
      if x1 = 1 then
        pX12_yearGoes_234 k132 a1 a10 a11 a12 a13 a14 a15 x1 x2 x3 x4 0
      else
        pX12_yearGoes_234 k132 a1 a10 a11 a12 a13 a14 a15 x1 x2 x3 x4 1


def pX12_yearGoes_132 : Nat → ((Nat → Int32)) → ((Nat → Int32)) → ((Nat → Int32)) → ((Nat → Int32)) → ((Nat → Int32)) → ((Nat → Int32)) → ((Nat → Int32)) → Int32 → Int32 → Int32 → Int32 → Option (Int32 × ((Nat → Int32)) × ((Nat → Int32)) × ((Nat → Int32)) × ((Nat → Int32)) × ((Nat → Int32)) × ((Nat → Int32)) × ((Nat → Int32)))
  | 0, _, _, _, _, _, _, _, _, _, _, _ => none
  | n + 1, a1, a10, a11, a12, a13, a14, a15, x1, x2, x3, x4 =>
  if x2 ≤ x4 then
    gck (ginb 0 952) <|
    gck (ginb 0 952) <|
    gnm (upd a1 (Int32.toNatClampNeg 0) ((a1 (Int32.toNatClampNeg 0)) + 1)) fun f_3 =>
    some (x3, f_3, a10, a11, a12, a13, a14, a15)
  else
    if x1 = 3 then
      gck (ginb x4 10) <|
      if (a14 (Int32.toNatClampNeg x4)) = 1 then
        pX12_yearGoes_178 (pX12_yearGoes_132 n) a1 a10 a11 a12 a13 a14 a15 x1 x2 x3 x4 1
      else
        pX12_yearGoes_178 (pX12_yearGoes_132 n) a1 a10 a11 a12 a13 a14 a15 x1 x2 x3 x4 0
    else
      gck (ginb x4 10) <|
      if (a13 (Int32.toNatClampNeg x4)) = 1 then
        pX12_yearGoes_178 (pX12_yearGoes_132 n) a1 a10 a11 a12 a13 a14 a15 x1 x2 x3 x4 1
      else
        pX12_yearGoes_178 (pX12_yearGoes_132 n) a1 a10 a11 a12 a13 a14 a15 x1 x2 x3 x4 0


def pX12_yearGoes_97 (k21 : (Nat → Int32) → (Nat → Int32) → (Nat → Int32) → (Nat → Int32) → (Nat → Int32) → (Nat → Int32) → (Nat → Int32) → Int32 → Int32 → Int32 → Int32 → Option (Int32 × ((Nat → Int32)) × ((Nat → Int32)) × ((Nat → Int32)) × ((Nat → Int32)) × ((Nat → Int32)) × ((Nat → Int32)) × ((Nat → Int32)))) (a1 : (Nat → Int32)) (a10 : (Nat → Int32)) (a11 : (Nat → Int32)) (a12 : (Nat → Int32)) (a13 : (Nat → Int32)) (a14 : (Nat → Int32)) (a15 : (Nat → Int32)) (x1 : Int32) (x2 : Int32) (x3 : Int32) (x4 : Int32) (x5 : Int32) (y1 : Int32) (y2 : Int32) : Option (Int32 × ((Nat → Int32)) × ((Nat → Int32)) × ((Nat → Int32)) × ((Nat → Int32)) × ((Nat → Int32)) × ((Nat → Int32)) × ((Nat → Int32))) :=
  gck (ginb y1 952) <|
  gnm (upd a1 (Int32.toNatClampNeg y1) y2) fun f_2 =>
  if x5 = 1 then
    gnm (x3 + 1) fun v_4 =>
    k21 f_2 a10 a11 a12 a13 a14 a15 x1 x2 v_4 (x4 + 1)
  else
    gnm (x3 + 0) fun v_3 =>
    k21 f_2 a10 a11 a12 a13 a14 a15 x1 x2 v_3 (x4 + 1)


def pX12_yearGoes_49 (k21 : (Nat → Int32) → (Nat → Int32) → (Nat → Int32) → (Nat → Int32) → (Nat → Int32) → (Nat → Int32) → (Nat → Int32) → Int32 → Int32 → Int32 → Int32 → Option (Int32 × ((Nat → Int32)) × ((Nat → Int32)) × ((Nat → Int32)) × ((Nat → Int32)) × ((Nat → Int32)) × ((Nat → Int32)) × ((Nat → Int32)))) (a1 : (Nat → Int32)) (a10 : (Nat → Int32)) (a11 : (Nat → Int32)) (a12 : (Nat → Int32)) (a13 : (Nat → Int32)) (a14 : (Nat → Int32)) (a15 : (Nat → Int32)) (x1 : Int32) (x2 : Int32) (x3 : Int32) (x4 : Int32) (y0 : Int32) : Option (Int32 × ((Nat → Int32)) × ((Nat → Int32)) × ((Nat → Int32)) × ((Nat → Int32)) × ((Nat → Int32)) × ((Nat → Int32)) × ((Nat → Int32))) :=
  gck (ginb (21 + x4) 952) <|
  gbd (pX12_told a1 2) fun z_2 =>
  gnm ((a1 (Int32.toNatClampNeg (21 + x4))) + (z_2 * y0)) fun v_3 =>
  if v_3 ≤ 9999 then
    pX12_yearGoes_97 k21 a1 a10 a11 a12 a13 a14 a15 x1 x2 x3 x4 y0 (21 + x4) v_3
  else
    pX12_yearGoes_97 k21 a1 a10 a11 a12 a13 a14 a15 x1 x2 x3 x4 y0 (21 + x4) 9999


def pX12_yearGoes_21 : Nat → ((Nat → Int32)) → ((Nat → Int32)) → ((Nat → Int32)) → ((Nat → Int32)) → ((Nat → Int32)) → ((Nat → Int32)) → ((Nat → Int32)) → Int32 → Int32 → Int32 → Int32 → Option (Int32 × ((Nat → Int32)) × ((Nat → Int32)) × ((Nat → Int32)) × ((Nat → Int32)) × ((Nat → Int32)) × ((Nat → Int32)) × ((Nat → Int32)))
  | 0, _, _, _, _, _, _, _, _, _, _, _ => none
  | n + 1, a1, a10, a11, a12, a13, a14, a15, x1, x2, x3, x4 =>
  if x2 ≤ x4 then
    if x1 = 1 then
      pX12_yearGoes_132 1000 a1 a10 a11 a12 a13 a14 a15 x1 x2 0 0
    else
      pX12_yearGoes_132 1000 a1 a10 a11 a12 a13 a14 a15 x1 x2 x3 0
  else
    if x1 = 3 then
      gck (ginb x4 10) <|
      pX12_yearGoes_49 (pX12_yearGoes_21 n) a1 a10 a11 a12 a13 a14 a15 x1 x2 x3 x4 (a14 (Int32.toNatClampNeg x4))
    else
      gck (ginb x4 10) <|
      pX12_yearGoes_49 (pX12_yearGoes_21 n) a1 a10 a11 a12 a13 a14 a15 x1 x2 x3 x4 (a13 (Int32.toNatClampNeg x4))


def pX12_yearGoes (a1 : (Nat → Int32)) (a10 : (Nat → Int32)) (a11 : (Nat → Int32)) (a12 : (Nat → Int32)) (a13 : (Nat → Int32)) (a14 : (Nat → Int32)) (a15 : (Nat → Int32)) (x1 : Int32) : Option (Int32 × ((Nat → Int32)) × ((Nat → Int32)) × ((Nat → Int32)) × ((Nat → Int32)) × ((Nat → Int32)) × ((Nat → Int32)) × ((Nat → Int32))) :=
  gbd (pX12_duesAll a1 a12 a14 a15) fun z_1 =>
  gbd (pX12_gradesAll a1 a10 a11 z_1.1 a13 z_1.2.2) fun z_2 =>
  gck (ginb 51 952) <|
  gnm (a1 (Int32.toNatClampNeg 51)) fun v_4 =>
  pX12_yearGoes_21 1000 a1 z_2.1 z_2.2.1 z_2.2.2.1 z_2.2.2.2.1 z_1.2.1 z_2.2.2.2.2 x1 v_4 0 0


def pX12_year (a1 : (Nat → Int32)) (a10 : (Nat → Int32)) (a11 : (Nat → Int32)) (a12 : (Nat → Int32)) (a13 : (Nat → Int32)) (a14 : (Nat → Int32)) (a15 : (Nat → Int32)) : Option (Int32 × ((Nat → Int32)) × ((Nat → Int32)) × ((Nat → Int32)) × ((Nat → Int32)) × ((Nat → Int32)) × ((Nat → Int32)) × ((Nat → Int32))) :=
  gck (ginb 0 952) <|
  if (a1 (Int32.toNatClampNeg 0)) = 99 then
    some ((-3), a1, a10, a11, a12, a13, a14, a15)
  else
    gbd (pX12_yearGoes a1 a10 a11 a12 a13 a14 a15 0) fun z_2 =>
    some (z_2.1, z_2.2.1, z_2.2.2.1, z_2.2.2.2.1, z_2.2.2.2.2.1, z_2.2.2.2.2.2.1, z_2.2.2.2.2.2.2.1, z_2.2.2.2.2.2.2.2)


def pX12_keeps_2 (a1 : (Nat → Int32)) : Nat → ((Nat → Int32)) → Int32 → Option (((Nat → Int32)))
  | 0, _, _ => none
  | n + 1, a3, x1 =>
  if 51 ≤ x1 then
    some (a3)
  else
    gck (ginb x1 952) <|
    gck (ginb x1 51) <|
    gnm (upd a3 (Int32.toNatClampNeg x1) (a1 (Int32.toNatClampNeg x1))) fun f_3 =>
    pX12_keeps_2 a1 n f_3 (x1 + 1)


def pX12_keeps (a1 : (Nat → Int32)) (a3 : (Nat → Int32)) : Option (((Nat → Int32))) :=
  pX12_keeps_2 a1 1000 a3 0


def pX12_goesBack_2 (a3 : (Nat → Int32)) : Nat → ((Nat → Int32)) → Int32 → Option (((Nat → Int32)))
  | 0, _, _ => none
  | n + 1, a1, x1 =>
  if 51 ≤ x1 then
    some (a1)
  else
    gck (ginb x1 51) <|
    gck (ginb x1 952) <|
    gnm (upd a1 (Int32.toNatClampNeg x1) (a3 (Int32.toNatClampNeg x1))) fun f_3 =>
    pX12_goesBack_2 a3 n f_3 (x1 + 1)


def pX12_goesBack (a3 : (Nat → Int32)) (a1 : (Nat → Int32)) : Option (((Nat → Int32))) :=
  pX12_goesBack_2 a3 1000 a1 0


def pX12_years_123 (a1 : (Nat → Int32)) (a3 : (Nat → Int32)) (a10 : (Nat → Int32)) (a11 : (Nat → Int32)) (a12 : (Nat → Int32)) (a13 : (Nat → Int32)) (a14 : (Nat → Int32)) (a15 : (Nat → Int32)) (x3 : Int32) (x4 : Int32) (x5 : Int32) : Option (Int32 × ((Nat → Int32)) × ((Nat → Int32)) × ((Nat → Int32)) × ((Nat → Int32)) × ((Nat → Int32)) × ((Nat → Int32)) × ((Nat → Int32)) × ((Nat → Int32))) :=
  if x3 = 0 then
    gbd (pX12_goesBack a3 a1) fun z_5 =>
    some (x5, z_5, a3, a10, a11, a12, a13, a14, a15)
  else
    if x3 = 1 then
      gbd (pX12_goesBack a3 a1) fun z_4 =>
      some (x4, z_4, a3, a10, a11, a12, a13, a14, a15)
    else
      gck (ginb ((21 + x3) - 10) 952) <|
      gnm (a1 (Int32.toNatClampNeg ((21 + x3) - 10))) fun v_2 =>
      gbd (pX12_goesBack a3 a1) fun z_3 =>
      some (v_2, z_3, a3, a10, a11, a12, a13, a14, a15)


def pX12_years_91 : Nat → ((Nat → Int32)) → ((Nat → Int32)) → ((Nat → Int32)) → ((Nat → Int32)) → ((Nat → Int32)) → ((Nat → Int32)) → ((Nat → Int32)) → ((Nat → Int32)) → Int32 → Int32 → Int32 → Int32 → Option (Int32 × ((Nat → Int32)) × ((Nat → Int32)) × ((Nat → Int32)) × ((Nat → Int32)) × ((Nat → Int32)) × ((Nat → Int32)) × ((Nat → Int32)) × ((Nat → Int32)))
  | 0, _, _, _, _, _, _, _, _, _, _, _, _ => none
  | n + 1, a1, a3, a10, a11, a12, a13, a14, a15, x3, x4, x5, x6 =>
  gck (ginb 51 952) <|
  if (a1 (Int32.toNatClampNeg 51)) ≤ x6 then
    pX12_years_123 a1 a3 a10 a11 a12 a13 a14 a15 x3 x4 x5
  else
    gck (ginb (1 + x6) 952) <|
    gnm (x5 + (a1 (Int32.toNatClampNeg (1 + x6)))) fun v_3 =>
    pX12_years_91 n a1 a3 a10 a11 a12 a13 a14 a15 x3 x4 v_3 (x6 + 1)


def pX12_years_63 : Nat → ((Nat → Int32)) → ((Nat → Int32)) → ((Nat → Int32)) → ((Nat → Int32)) → ((Nat → Int32)) → ((Nat → Int32)) → ((Nat → Int32)) → ((Nat → Int32)) → Int32 → Int32 → Int32 → Int32 → Int32 → Option (Int32 × ((Nat → Int32)) × ((Nat → Int32)) × ((Nat → Int32)) × ((Nat → Int32)) × ((Nat → Int32)) × ((Nat → Int32)) × ((Nat → Int32)) × ((Nat → Int32)))
  | 0, _, _, _, _, _, _, _, _, _, _, _, _, _ => none
  | n + 1, a1, a3, a10, a11, a12, a13, a14, a15, x1, x2, x3, x4, x5 =>
  if x1 ≤ x5 then
    pX12_years_91 1000 a1 a3 a10 a11 a12 a13 a14 a15 x3 x4 0 0
  else
    gbd (pX12_yearGoes a1 a10 a11 a12 a13 a14 a15 x2) fun z_1 =>
    gnm (x4 + z_1.1) fun v_2 =>
    pX12_years_63 n z_1.2.1 a3 z_1.2.2.1 z_1.2.2.2.1 z_1.2.2.2.2.1 z_1.2.2.2.2.2.1 z_1.2.2.2.2.2.2.1 z_1.2.2.2.2.2.2.2 x1 x2 x3 v_2 (x5 + 1)


def pX12_years_39 (a1 : (Nat → Int32)) (a3 : (Nat → Int32)) (a10 : (Nat → Int32)) (a11 : (Nat → Int32)) (a12 : (Nat → Int32)) (a13 : (Nat → Int32)) (a14 : (Nat → Int32)) (a15 : (Nat → Int32)) (x1 : Int32) (x2 : Int32) (x3 : Int32) : Option (Int32 × ((Nat → Int32)) × ((Nat → Int32)) × ((Nat → Int32)) × ((Nat → Int32)) × ((Nat → Int32)) × ((Nat → Int32)) × ((Nat → Int32)) × ((Nat → Int32))) :=
  gbd (pX12_in x1 0 20) fun z_1 =>
  if z_1 = 0 then
    some ((-1002), a1, a3, a10, a11, a12, a13, a14, a15)
  else
    gbd (pX12_keeps a1 a3) fun z_2 =>
    pX12_years_63 1000 a1 z_2 a10 a11 a12 a13 a14 a15 x1 x2 x3 0 0


def pX12_years (a1 : (Nat → Int32)) (a3 : (Nat → Int32)) (a10 : (Nat → Int32)) (a11 : (Nat → Int32)) (a12 : (Nat → Int32)) (a13 : (Nat → Int32)) (a14 : (Nat → Int32)) (a15 : (Nat → Int32)) (x1 : Int32) (x2 : Int32) (x3 : Int32) : Option (Int32 × ((Nat → Int32)) × ((Nat → Int32)) × ((Nat → Int32)) × ((Nat → Int32)) × ((Nat → Int32)) × ((Nat → Int32)) × ((Nat → Int32)) × ((Nat → Int32))) :=
  gbd (pX12_in x2 0 3) fun z_1 =>
  if z_1 = 0 then
    some ((-1001), a1, a3, a10, a11, a12, a13, a14, a15)
  else
    gbd (pX12_in x3 0 1) fun z_2 =>
    if z_2 = 0 then
      if x3 < 10 then
        some ((-1001), a1, a3, a10, a11, a12, a13, a14, a15)
      else
        gbd (pX12_isWorker a1 (x3 - 10)) fun z_3 =>
        if z_3 = 0 then
          some ((-1001), a1, a3, a10, a11, a12, a13, a14, a15)
        else
          pX12_years_39 a1 a3 a10 a11 a12 a13 a14 a15 x1 x2 x3
    else
      pX12_years_39 a1 a3 a10 a11 a12 a13 a14 a15 x1 x2 x3


def pX12_chooses_16 : Nat → Int32 → Int32 → Int64 → Int32 → Option (Int64)
  | 0, _, _, _, _ => none
  | n + 1, x0, x1, x2, x4 =>
  if x1 < x4 then
    some (x2)
  else
    gck (¬ (Int32.toInt64 x4) = 0) <|
    gnm ((x2 * (Int32.toInt64 ((x0 - x1) + x4))) / (Int32.toInt64 x4)) fun v_2 =>
    pX12_chooses_16 n x0 x1 v_2 (x4 + 1)


def pX12_chooses (x0 : Int32) (x1 : Int32) : Option (Int64) :=
  if x1 < 0 then
    some (0)
  else
    if x1 ≤ x0 then
      pX12_chooses_16 1000 x0 x1 1 1
    else
      some (0)


def pX12_divisor_17 : Nat → Int64 → Int64 → Option (Int64)
  | 0, _, _ => none
  | n + 1, x4, x6 =>
  if (lg_cmp x6 0) = 0 then
    some (x4)
  else
    gck (¬ x6 = 0) <|
    gnm (x4 - x4 / x6 * x6) fun v_2 =>
    pX12_divisor_17 n x6 v_2


def pX12_divisor (x0 : Int64) (x2 : Int64) : Option (Int64) :=
  if 0 ≤ (lg_cmp x0 0) then
    pX12_divisor_17 1000 x0 x2
  else
    gnm (-x0) fun v_1 =>
    pX12_divisor_17 1000 v_1 x2


def pX12_lowest (x0 : Int64) (x2 : Int64) (x4 : Int32) : Option (Int64) :=
  if x4 = 0 then
    gbd (pX12_divisor x0 x2) fun z_3 =>
    gck (¬ z_3 = 0) <|
    some ((x0 / z_3))
  else
    gbd (pX12_divisor x0 x2) fun z_1 =>
    gck (¬ z_1 = 0) <|
    some ((x2 / z_1))


def pX12_chance (x1 : Int32) (x2 : Int32) (x3 : Int32) (x4 : Int32) (x5 : Int32) : Option (Int64) :=
  gbd (pX12_in x1 1 30) fun z_1 =>
  if z_1 = 0 then
    some ((-9223372036854775808))
  else
    gbd (pX12_in x2 0 x1) fun z_2 =>
    if z_2 = 0 then
      some ((-9223372036854775808))
    else
      gbd (pX12_in x3 0 x1) fun z_3 =>
      if z_3 = 0 then
        some ((-9223372036854775808))
      else
        gbd (pX12_in x4 0 x3) fun z_4 =>
        if z_4 = 0 then
          some ((-9223372036854775808))
        else
          gbd (pX12_in x5 0 1) fun z_5 =>
          if z_5 = 0 then
            some ((-9223372036854775808))
          else
            gbd (pX12_chooses x2 x4) fun z_6 =>
            gbd (pX12_chooses (x1 - x2) (x3 - x4)) fun z_7 =>
            gbd (pX12_chooses x1 x3) fun z_8 =>
            gbd (pX12_lowest (z_6 * z_7) z_8 x5) fun z_9 =>
            some (z_9)


def pX12_book (a1 : (Nat → Int32)) (x1 : Int32) (x2 : Int32) (x3 : Int32) : Option (Int32 × ((Nat → Int32))) :=
  gbd (pX12_isWorker a1 x1) fun z_1 =>
  if z_1 = 0 then
    some ((-1), a1)
  else
    gbd (pX12_isChief a1 x2) fun z_2 =>
    if z_2 = 0 then
      some ((-1), a1)
    else
      gbd (pX12_in x3 1 5) fun z_3 =>
      if z_3 = 0 then
        some ((-2), a1)
      else
        gck (ginb 54 952) <|
        if (a1 (Int32.toNatClampNeg 54)) = 20 then
          some ((-4), a1)
        else
          gck (ginb 54 952) <|
          gnm (a1 (Int32.toNatClampNeg 54)) fun v_6 =>
          gck (ginb (72 + v_6) 952) <|
          gnm (upd a1 (Int32.toNatClampNeg (72 + v_6)) x1) fun f_8 =>
          gck (ginb (92 + v_6) 952) <|
          gnm (upd f_8 (Int32.toNatClampNeg (92 + v_6)) x2) fun f_10 =>
          gck (ginb (112 + v_6) 952) <|
          gnm (upd f_10 (Int32.toNatClampNeg (112 + v_6)) x3) fun f_12 =>
          gck (ginb 54 952) <|
          gck (ginb 54 952) <|
          gnm (upd f_12 (Int32.toNatClampNeg 54) ((f_12 (Int32.toNatClampNeg 54)) + 1)) fun f_15 =>
          gck (ginb 54 952) <|
          some ((f_15 (Int32.toNatClampNeg 54)), f_15)


def pX12_clear (a1 : (Nat → Int32)) : Option (Int32 × ((Nat → Int32))) :=
  gck (ginb 54 952) <|
  gnm (a1 (Int32.toNatClampNeg 54)) fun v_2 =>
  gck (ginb 54 952) <|
  gnm (upd a1 (Int32.toNatClampNeg 54) 0) fun f_4 =>
  some (v_2, f_4)


def pX12_firstRow_2 (a1 : (Nat → Int32)) : Nat → Int32 → Int32 → Int32 → Option (Int32)
  | 0, _, _, _ => none
  | n + 1, x1, x2, x3 =>
  gck (ginb 54 952) <|
  if (a1 (Int32.toNatClampNeg 54)) ≤ x3 then
    some ((-1))
  else
    gck (ginb (92 + x3) 952) <|
    if (a1 (Int32.toNatClampNeg (92 + x3))) = x1 then
      gck (ginb (72 + x3) 952) <|
      if (a1 (Int32.toNatClampNeg (72 + x3))) = x2 then
        some (x3)
      else
        pX12_firstRow_2 a1 n x1 x2 (x3 + 1)
    else
      pX12_firstRow_2 a1 n x1 x2 (x3 + 1)


def pX12_firstRow (a1 : (Nat → Int32)) (x1 : Int32) (x2 : Int32) : Option (Int32) :=
  pX12_firstRow_2 a1 1000 x1 x2 0


def pX12_haveBoth_5 (a1 : (Nat → Int32)) : Nat → Int32 → Int32 → Int32 → Int32 → Option (Int32)
  | 0, _, _, _, _ => none
  | n + 1, x1, x2, x3, x4 =>
  gck (ginb 51 952) <|
  if (a1 (Int32.toNatClampNeg 51)) ≤ x4 then
    gck (gbool x3) <|
    some (x3)
  else
    if x3 = 0 then
      gbd (pX12_firstRow a1 x1 x4) fun z_3 =>
      if z_3 = (-1) then
        pX12_haveBoth_5 a1 n x1 x2 0 (x4 + 1)
      else
        gbd (pX12_firstRow a1 x2 x4) fun z_4 =>
        if z_4 = (-1) then
          pX12_haveBoth_5 a1 n x1 x2 0 (x4 + 1)
        else
          pX12_haveBoth_5 a1 n x1 x2 1 (x4 + 1)
    else
      pX12_haveBoth_5 a1 n x1 x2 1 (x4 + 1)


def pX12_haveBoth (a1 : (Nat → Int32)) (x1 : Int32) (x2 : Int32) : Option (Int32) :=
  pX12_haveBoth_5 a1 1000 x1 x2 0 0


def pX12_netOf_29 (k6 : Int32 → Int32 → Option (Int32)) (k14 : Int32 → Int32 → Int32 → Option (Int32)) (a1 : (Nat → Int32)) : Nat → Int32 → Int32 → Int32 → Int32 → Option (Int32)
  | 0, _, _, _, _ => none
  | n + 1, x2, x3, x4, x5 =>
  gck (ginb 52 952) <|
  if (a1 (Int32.toNatClampNeg 52)) ≤ x5 then
    k14 x2 x3 (x4 + 1)
  else
    if ((x2 >>> (x4 &&& 31)) &&& 1) = 1 then
      gbd (pX12_haveBoth a1 x4 x5) fun z_3 =>
      if z_3 = 0 then
        gnm (x2 ||| 0) fun v_4 =>
        pX12_netOf_29 k6 k14 a1 n v_4 x3 x4 (x5 + 1)
      else
        gnm (x2 ||| (1 <<< (x5 &&& 31))) fun v_5 =>
        pX12_netOf_29 k6 k14 a1 n v_5 x3 x4 (x5 + 1)
    else
      gnm (x2 ||| 0) fun v_2 =>
      pX12_netOf_29 k6 k14 a1 n v_2 x3 x4 (x5 + 1)


def pX12_netOf_14 (k6 : Int32 → Int32 → Option (Int32)) (a1 : (Nat → Int32)) : Nat → Int32 → Int32 → Int32 → Option (Int32)
  | 0, _, _, _ => none
  | n + 1, x2, x3, x4 =>
  gck (ginb 52 952) <|
  if (a1 (Int32.toNatClampNeg 52)) ≤ x4 then
    k6 x2 (x3 + 1)
  else
    pX12_netOf_29 k6 (pX12_netOf_14 k6 a1 n) a1 1000 x2 x3 x4 0


def pX12_netOf_6 (a1 : (Nat → Int32)) : Nat → Int32 → Int32 → Option (Int32)
  | 0, _, _ => none
  | n + 1, x2, x3 =>
  if 4 ≤ x3 then
    some (x2)
  else
    pX12_netOf_14 (pX12_netOf_6 a1 n) a1 1000 x2 x3 0


def pX12_netOf (a1 : (Nat → Int32)) (x1 : Int32) : Option (Int32) :=
  gnm (1 <<< (x1 &&& 31)) fun v_1 =>
  pX12_netOf_6 a1 1000 v_1 0


def pX12_nets_34 (a1 : (Nat → Int32)) : Nat → Int32 → Int32 → Option (Int32)
  | 0, _, _ => none
  | n + 1, x2, x3 =>
  gck (ginb 52 952) <|
  if (a1 (Int32.toNatClampNeg 52)) ≤ x3 then
    some (x2)
  else
    gbd (pX12_netOf a1 x3) fun z_2 =>
    if (z_2 &&& ((1 <<< (x3 &&& 31)) - 1)) = 0 then
      gnm (x2 + 1) fun v_4 =>
      pX12_nets_34 a1 n v_4 (x3 + 1)
    else
      gnm (x2 + 0) fun v_3 =>
      pX12_nets_34 a1 n v_3 (x3 + 1)


def pX12_nets (a1 : (Nat → Int32)) (x1 : Int32) : Option (Int32) :=
  gck (ginb 52 952) <|
  gbd (pX12_in x1 (-1) ((a1 (Int32.toNatClampNeg 52)) - 1)) fun z_2 =>
  if z_2 = 0 then
    some ((-1))
  else
    if x1 = (-1) then
      pX12_nets_34 a1 1000 0 0
    else
      gbd (pX12_netOf a1 x1) fun z_3 =>
      some (z_3)


def pX12_leans_120 (a1 : (Nat → Int32)) (x3 : Int32) (x4 : Int32) (x5 : Int32) : Option (Int64) :=
  if x5 = 0 then
    some ((-9223372036854775808))
  else
    gbd (pX12_lowest (Int32.toInt64 x4) (Int32.toInt64 x5) x3) fun z_1 =>
    some (z_1)


def pX12_leans_43 (a1 : (Nat → Int32)) : Nat → Int32 → Int32 → Int32 → Int32 → Int32 → Int32 → Option (Int64)
  | 0, _, _, _, _, _, _ => none
  | n + 1, x1, x2, x3, x4, x5, x6 =>
  gck (ginb 51 952) <|
  if (a1 (Int32.toNatClampNeg 51)) ≤ x6 then
    pX12_leans_120 a1 x3 x4 x5
  else
    gbd (pX12_firstRow a1 x1 x6) fun z_2 =>
    gbd (pX12_firstRow a1 x2 x6) fun z_3 =>
    if z_2 = (-1) then
      pX12_leans_43 a1 n x1 x2 x3 x4 x5 (x6 + 1)
    else
      if z_3 = (-1) then
        pX12_leans_43 a1 n x1 x2 x3 x4 x5 (x6 + 1)
      else
        gck (ginb (112 + z_2) 952) <|
        gck (ginb (112 + z_3) 952) <|
        gnm (x4 + ((a1 (Int32.toNatClampNeg (112 + z_2))) - (a1 (Int32.toNatClampNeg (112 + z_3))))) fun v_6 =>
        pX12_leans_43 a1 n x1 x2 x3 v_6 (x5 + 1) (x6 + 1)


def pX12_leans (a1 : (Nat → Int32)) (x1 : Int32) (x2 : Int32) (x3 : Int32) : Option (Int64) :=
  gbd (pX12_isChief a1 x1) fun z_1 =>
  if z_1 = 0 then
    some ((-9223372036854775808))
  else
    gbd (pX12_isChief a1 x2) fun z_2 =>
    if z_2 = 0 then
      some ((-9223372036854775808))
    else
      if x1 = x2 then
        some ((-9223372036854775808))
      else
        gbd (pX12_in x3 0 1) fun z_3 =>
        if z_3 = 0 then
          some ((-9223372036854775808))
        else
          pX12_leans_43 a1 1000 x1 x2 x3 0 0 0


def pX12_looked_2 : Nat → ((Nat → Int32)) → ((Nat → Int32)) → ((Nat → Int32)) → ((Nat → Int32)) → ((Nat → Int32)) → ((Nat → Int32)) → Int32 → Option (Int32 × ((Nat → Int32)) × ((Nat → Int32)) × ((Nat → Int32)) × ((Nat → Int32)) × ((Nat → Int32)) × ((Nat → Int32)))
  | 0, _, _, _, _, _, _, _ => none
  | n + 1, a1, a10, a11, a12, a13, a15, x1 =>
  gck (ginb 54 952) <|
  if (a1 (Int32.toNatClampNeg 54)) ≤ x1 then
    some ((-5), a1, a10, a11, a12, a13, a15)
  else
    gck (ginb (72 + x1) 952) <|
    gck (ginb (92 + x1) 952) <|
    gbd (pX12_movedOf a1 a10 a11 a12 a13 a15 (a1 (Int32.toNatClampNeg (72 + x1))) (a1 (Int32.toNatClampNeg (92 + x1)))) fun z_4 =>
    gck (ginb (112 + x1) 952) <|
    if z_4.1 = (z_4.2.1 (Int32.toNatClampNeg (112 + x1))) then
      pX12_looked_2 n z_4.2.1 z_4.2.2.1 z_4.2.2.2.1 z_4.2.2.2.2.1 z_4.2.2.2.2.2.1 z_4.2.2.2.2.2.2 (x1 + 1)
    else
      some (x1, z_4.2.1, z_4.2.2.1, z_4.2.2.2.1, z_4.2.2.2.2.1, z_4.2.2.2.2.2.1, z_4.2.2.2.2.2.2)


def pX12_looked (a1 : (Nat → Int32)) (a10 : (Nat → Int32)) (a11 : (Nat → Int32)) (a12 : (Nat → Int32)) (a13 : (Nat → Int32)) (a15 : (Nat → Int32)) : Option (Int32 × ((Nat → Int32)) × ((Nat → Int32)) × ((Nat → Int32)) × ((Nat → Int32)) × ((Nat → Int32)) × ((Nat → Int32))) :=
  pX12_looked_2 1000 a1 a10 a11 a12 a13 a15 0


def pX12_isUnder (x0 : Int32) (x1 : Int32) : Option (Int32) :=
  if x1 = 0 then
    some (1)
  else
    if x1 = x0 then
      some (1)
    else
      if x1 ≤ 0 then
        some (0)
      else
        if 4 ≤ x1 then
          some (0)
        else
          if x0 = (x1 + 3) then
            some (1)
          else
            some (0)


def pX12_ranBody (a17 : (Nat → Int32)) (o18 : Int32) (x1 : Int32) : Option (((Nat → Int32)) × Int32) :=
  if 20 ≤ o18 then
    some (a17, (o18 + 1))
  else
    gck (ginb o18 20) <|
    gnm (upd a17 (Int32.toNatClampNeg o18) x1) fun f_2 =>
    some (f_2, (o18 + 1))


def pX12_plainWorks (o20 : Int32) (a17 : (Nat → Int32)) (o18 : Int32) (x1 : Int32) : Option (Int32 × ((Nat → Int32)) × Int32) :=
  gbd (pX12_ranBody a17 o18 1) fun z_1 =>
  some ((x1 + o20), z_1.1, z_1.2)


def pX12_worksActs (o19 : Int32) (o20 : Int32) (a17 : (Nat → Int32)) (o18 : Int32) (x1 : Int32) : Option (Int32 × ((Nat → Int32)) × Int32) :=
  gbd (pX12_isUnder o19 1) fun z_1 =>
  if z_1 = 0 then
    if o19 = 5 then
      gbd (pX12_ranBody a17 o18 51) fun z_3 =>
      gbd (pX12_plainWorks o20 z_3.1 z_3.2 x1) fun z_4 =>
      some ((z_4.1 ^^^ o20), z_4.2.1, z_4.2.2)
    else
      gbd (pX12_plainWorks o20 a17 o18 x1) fun z_2 =>
      some (z_2.1, z_2.2.1, z_2.2.2)
  else
    gbd (pX12_ranBody a17 o18 11) fun z_5 =>
    gbd (pX12_plainWorks o20 z_5.1 z_5.2 (x1 * 3)) fun z_6 =>
    some (z_6.1, z_6.2.1, z_6.2.2)


def pX12_plainGrades (o19 : Int32) (o20 : Int32) (o21 : Int32) (a17 : (Nat → Int32)) (o18 : Int32) (x1 : Int32) : Option (Int32 × ((Nat → Int32)) × Int32) :=
  gbd (pX12_ranBody a17 o18 2) fun z_1 =>
  gbd (pX12_worksActs o19 o20 z_1.1 z_1.2 x1) fun z_2 =>
  some ((z_2.1 - o21), z_2.2.1, z_2.2.2)


def pX12_gradesActs (o19 : Int32) (o20 : Int32) (o21 : Int32) (a17 : (Nat → Int32)) (o18 : Int32) (x1 : Int32) : Option (Int32 × ((Nat → Int32)) × Int32) :=
  gbd (pX12_isUnder o19 2) fun z_1 =>
  if z_1 = 0 then
    if o19 = 6 then
      gbd (pX12_ranBody a17 o18 61) fun z_3 =>
      gbd (pX12_plainGrades o19 o20 o21 z_3.1 z_3.2 x1) fun z_4 =>
      some ((z_4.1 + o21), z_4.2.1, z_4.2.2)
    else
      gbd (pX12_plainGrades o19 o20 o21 a17 o18 x1) fun z_2 =>
      some (z_2.1, z_2.2.1, z_2.2.2)
  else
    gbd (pX12_ranBody a17 o18 21) fun z_5 =>
    gbd (pX12_plainGrades o19 o20 o21 z_5.1 z_5.2 x1) fun z_6 =>
    some ((-z_6.1), z_6.2.1, z_6.2.2)


def pX12_plainLevels (o19 : Int32) (o20 : Int32) (o21 : Int32) (a17 : (Nat → Int32)) (o18 : Int32) (x1 : Int32) : Option (Int32 × ((Nat → Int32)) × Int32) :=
  gbd (pX12_ranBody a17 o18 3) fun z_1 =>
  gbd (pX12_gradesActs o19 o20 o21 z_1.1 z_1.2 x1) fun z_2 =>
  some ((z_2.1 * 2), z_2.2.1, z_2.2.2)


def pX12_levelsActs (o19 : Int32) (o20 : Int32) (o21 : Int32) (a17 : (Nat → Int32)) (o18 : Int32) (x1 : Int32) : Option (Int32 × ((Nat → Int32)) × Int32) :=
  gbd (pX12_isUnder o19 3) fun z_1 =>
  if z_1 = 0 then
    if o19 = 4 then
      gbd (pX12_ranBody a17 o18 41) fun z_3 =>
      gbd (pX12_plainLevels o19 o20 o21 z_3.1 z_3.2 (x1 - 1)) fun z_4 =>
      gnm z_4.1 fun v_5 =>
      gbd (pX12_worksActs o19 o20 z_4.2.1 z_4.2.2 2) fun z_6 =>
      some ((v_5 + z_6.1), z_6.2.1, z_6.2.2)
    else
      gbd (pX12_plainLevels o19 o20 o21 a17 o18 x1) fun z_2 =>
      some (z_2.1, z_2.2.1, z_2.2.2)
  else
    gbd (pX12_ranBody a17 o18 31) fun z_7 =>
    gbd (pX12_plainLevels o19 o20 o21 z_7.1 z_7.2 x1) fun z_8 =>
    some ((z_8.1 ^^^ 7), z_8.2.1, z_8.2.2)


def pX12_act (a1 : (Nat → Int32)) (a17 : (Nat → Int32)) (o18 : Int32) (o19 : Int32) (o20 : Int32) (o21 : Int32) (x1 : Int32) (x2 : Int32) (x3 : Int32) : Option (Int32 × ((Nat → Int32)) × Int32 × Int32 × Int32 × Int32) :=
  gbd (pX12_isChief a1 x1) fun z_1 =>
  if z_1 = 0 then
    some (0, a17, 0, o19, o20, o21)
  else
    gbd (pX12_in x2 0 2) fun z_2 =>
    if z_2 = 0 then
      some (0, a17, 0, o19, o20, o21)
    else
      gck (ginb (60 + x1) 952) <|
      gck (ginb (64 + x1) 952) <|
      if x2 = 0 then
        gbd (pX12_worksActs (a1 (Int32.toNatClampNeg (60 + x1))) x1 a17 0 x3) fun z_7 =>
        some (z_7.1, z_7.2.1, z_7.2.2, (a1 (Int32.toNatClampNeg (60 + x1))), x1, (a1 (Int32.toNatClampNeg (64 + x1))))
      else
        if x2 = 1 then
          gbd (pX12_gradesActs (a1 (Int32.toNatClampNeg (60 + x1))) x1 (a1 (Int32.toNatClampNeg (64 + x1))) a17 0 x3) fun z_6 =>
          some (z_6.1, z_6.2.1, z_6.2.2, (a1 (Int32.toNatClampNeg (60 + x1))), x1, (a1 (Int32.toNatClampNeg (64 + x1))))
        else
          gbd (pX12_levelsActs (a1 (Int32.toNatClampNeg (60 + x1))) x1 (a1 (Int32.toNatClampNeg (64 + x1))) a17 0 x3) fun z_5 =>
          some (z_5.1, z_5.2.1, z_5.2.2, (a1 (Int32.toNatClampNeg (60 + x1))), x1, (a1 (Int32.toNatClampNeg (64 + x1))))


def pX12_trace_20 (a17 : (Nat → Int32)) (o18 : Int32) (x1 : Int32) (y0 : Int32) (y1 : Int32) (y2 : Int32) : Option (Int32) :=
  gbd (pX12_in y0 y1 (y2 - 1)) fun z_1 =>
  if z_1 = 0 then
    some ((-1))
  else
    gck (ginb x1 20) <|
    some ((a17 (Int32.toNatClampNeg x1)))


def pX12_trace (a17 : (Nat → Int32)) (o18 : Int32) (x1 : Int32) : Option (Int32) :=
  if 20 ≤ o18 then
    pX12_trace_20 a17 o18 x1 x1 0 20
  else
    pX12_trace_20 a17 o18 x1 x1 0 o18


def pX12_as (a1 : (Nat → Int32)) (x1 : Int32) (x2 : Int32) : Option (Int32) :=
  gbd (pX12_isChief a1 x1) fun z_1 =>
  if z_1 = 0 then
    some ((-1))
  else
    gbd (pX12_in x2 0 6) fun z_2 =>
    if z_2 = 0 then
      some ((-1))
    else
      gck (ginb (60 + x1) 952) <|
      gbd (pX12_isUnder (a1 (Int32.toNatClampNeg (60 + x1))) x2) fun z_4 =>
      if z_4 = 0 then
        some ((-6))
      else
        gck (ginb (64 + x1) 952) <|
        some ((a1 (Int32.toNatClampNeg (64 + x1))))


def pX12_image_2 (a1 : (Nat → Int32)) : Nat → ((Nat → Int32)) → Int32 → Int32 → Option (Int32 × ((Nat → Int32)) × Int32)
  | 0, _, _, _ => none
  | n + 1, a2, o4, x1 =>
  if 952 ≤ x1 then
    gck (ginb 51 952) <|
    some ((a1 (Int32.toNatClampNeg 51)), a2, 1)
  else
    gck (ginb x1 952) <|
    gck (ginb x1 952) <|
    gnm (upd a2 (Int32.toNatClampNeg x1) (a1 (Int32.toNatClampNeg x1))) fun f_4 =>
    pX12_image_2 a1 n f_4 o4 (x1 + 1)


def pX12_image (a1 : (Nat → Int32)) (a2 : (Nat → Int32)) (o4 : Int32) : Option (Int32 × ((Nat → Int32)) × Int32) :=
  pX12_image_2 a1 1000 a2 o4 0


def pX12_undo_12 (a2 : (Nat → Int32)) (o4 : Int32) : Nat → ((Nat → Int32)) → Int32 → Option (Int32 × ((Nat → Int32)))
  | 0, _, _ => none
  | n + 1, a1, x1 =>
  if 952 ≤ x1 then
    gck (ginb 51 952) <|
    some ((a1 (Int32.toNatClampNeg 51)), a1)
  else
    gck (ginb x1 952) <|
    gck (ginb x1 952) <|
    gnm (upd a1 (Int32.toNatClampNeg x1) (a2 (Int32.toNatClampNeg x1))) fun f_4 =>
    pX12_undo_12 a2 o4 n f_4 (x1 + 1)


def pX12_undo (a2 : (Nat → Int32)) (o4 : Int32) (a1 : (Nat → Int32)) : Option (Int32 × ((Nat → Int32))) :=
  if o4 = 0 then
    some ((-3), a1)
  else
    pX12_undo_12 a2 o4 1000 a1 0


def pX12_count (a1 : (Nat → Int32)) (o18 : Int32) (x1 : Int32) : Option (Int32) :=
  if x1 = 0 then
    gck (ginb 51 952) <|
    some ((a1 (Int32.toNatClampNeg 51)))
  else
  if x1 = 1 then
    gck (ginb 52 952) <|
    some ((a1 (Int32.toNatClampNeg 52)))
  else
  if x1 = 2 then
    gck (ginb 53 952) <|
    some ((a1 (Int32.toNatClampNeg 53)))
  else
  if x1 = 3 then
    gck (ginb 54 952) <|
    some ((a1 (Int32.toNatClampNeg 54)))
  else
  if x1 = 4 then
    gck (ginb 55 952) <|
    some ((a1 (Int32.toNatClampNeg 55)))
  else
  if x1 = 5 then
    some (o18)
  else
  some ((-1))

