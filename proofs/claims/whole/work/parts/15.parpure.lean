theorem qv_X12_among : yX12_among.cls = RX12 ∧ yX12_among.cls ≠ "java/lang/invoke/MethodHandle" ∧ yX12_among.cls ≠ "java/lang/invoke/VarHandle" ∧ (parseMethodDescriptor yX12_among.desc).map (fun d => d.parameters.length) = some 1 := by decide +kernel
theorem qv_X12_clauseHere : yX12_clauseHere.cls = RX12 ∧ yX12_clauseHere.cls ≠ "java/lang/invoke/MethodHandle" ∧ yX12_clauseHere.cls ≠ "java/lang/invoke/VarHandle" ∧ (parseMethodDescriptor yX12_clauseHere.desc).map (fun d => d.parameters.length) = some 0 := by decide +kernel
theorem qv_X12_emits : yX12_emits.cls = RX12 ∧ yX12_emits.cls ≠ "java/lang/invoke/MethodHandle" ∧ yX12_emits.cls ≠ "java/lang/invoke/VarHandle" ∧ (parseMethodDescriptor yX12_emits.desc).map (fun d => d.parameters.length) = some 1 := by decide +kernel
theorem qv_X12_every : yX12_every.cls = RX12 ∧ yX12_every.cls ≠ "java/lang/invoke/MethodHandle" ∧ yX12_every.cls ≠ "java/lang/invoke/VarHandle" ∧ (parseMethodDescriptor yX12_every.desc).map (fun d => d.parameters.length) = some 0 := by decide +kernel
theorem qv_X12_factor : yX12_factor.cls = RX12 ∧ yX12_factor.cls ≠ "java/lang/invoke/MethodHandle" ∧ yX12_factor.cls ≠ "java/lang/invoke/VarHandle" ∧ (parseMethodDescriptor yX12_factor.desc).map (fun d => d.parameters.length) = some 0 := by decide +kernel
theorem qv_X12_figures : yX12_figures.cls = RX12 ∧ yX12_figures.cls ≠ "java/lang/invoke/MethodHandle" ∧ yX12_figures.cls ≠ "java/lang/invoke/VarHandle" ∧ (parseMethodDescriptor yX12_figures.desc).map (fun d => d.parameters.length) = some 0 := by decide +kernel
theorem qv_X12_here : yX12_here.cls = RX12 ∧ yX12_here.cls ≠ "java/lang/invoke/MethodHandle" ∧ yX12_here.cls ≠ "java/lang/invoke/VarHandle" ∧ (parseMethodDescriptor yX12_here.desc).map (fun d => d.parameters.length) = some 0 := by decide +kernel
theorem qv_X12_house : yX12_house.cls = RX12 ∧ yX12_house.cls ≠ "java/lang/invoke/MethodHandle" ∧ yX12_house.cls ≠ "java/lang/invoke/VarHandle" ∧ (parseMethodDescriptor yX12_house.desc).map (fun d => d.parameters.length) = some 0 := by decide +kernel
theorem qv_X12_much : yX12_much.cls = RX12 ∧ yX12_much.cls ≠ "java/lang/invoke/MethodHandle" ∧ yX12_much.cls ≠ "java/lang/invoke/VarHandle" ∧ (parseMethodDescriptor yX12_much.desc).map (fun d => d.parameters.length) = some 2 := by decide +kernel
theorem qv_X12_must : yX12_must.cls = RX12 ∧ yX12_must.cls ≠ "java/lang/invoke/MethodHandle" ∧ yX12_must.cls ≠ "java/lang/invoke/VarHandle" ∧ (parseMethodDescriptor yX12_must.desc).map (fun d => d.parameters.length) = some 1 := by decide +kernel
theorem qv_X12_some : yX12_some.cls = RX12 ∧ yX12_some.cls ≠ "java/lang/invoke/MethodHandle" ∧ yX12_some.cls ≠ "java/lang/invoke/VarHandle" ∧ (parseMethodDescriptor yX12_some.desc).map (fun d => d.parameters.length) = some 0 := by decide +kernel
theorem qv_X12_spells : yX12_spells.cls = RX12 ∧ yX12_spells.cls ≠ "java/lang/invoke/MethodHandle" ∧ yX12_spells.cls ≠ "java/lang/invoke/VarHandle" ∧ (parseMethodDescriptor yX12_spells.desc).map (fun d => d.parameters.length) = some 1 := by decide +kernel
theorem qv_X12_tellsHere : yX12_tellsHere.cls = RX12 ∧ yX12_tellsHere.cls ≠ "java/lang/invoke/MethodHandle" ∧ yX12_tellsHere.cls ≠ "java/lang/invoke/VarHandle" ∧ (parseMethodDescriptor yX12_tellsHere.desc).map (fun d => d.parameters.length) = some 2 := by decide +kernel
def pX12_here (a1 : (Nat → Int32)) (o6 : Int32) (o7 : Int32) : Option (Int32) :=
  if o7 ≤ o6 then
    some ((-1))
  else
    gck (ginb (132 + o6) 952) <|
    some ((a1 (Int32.toNatClampNeg (132 + o6))))


def pX12_must_21 (a1 : (Nat → Int32)) (o7 : Int32) (o6 : Int32) (o8 : Int32) (y1 : Int32) : Option (Int32 × Int32) :=
  gck (gbool y1) <|
  if y1 = 0 then
    some ((o6 + 1), y1)
  else
    some ((o6 + 0), y1)


def pX12_must (a1 : (Nat → Int32)) (o7 : Int32) (o6 : Int32) (o8 : Int32) (x1 : Int32) : Option (Int32 × Int32) :=
  if o8 = 0 then
    gbd (pX12_here a1 o6 o7) fun z_1 =>
    if z_1 = x1 then
      pX12_must_21 a1 o7 o6 o8 0
    else
      pX12_must_21 a1 o7 o6 o8 1
  else
    pX12_must_21 a1 o7 o6 o8 1


def pX12_spells_s5_2 (a1 : (Nat → Int32)) (o7 : Int32) : Nat → Int32 → Int32 → Int32 → Option (Int32 × Int32)
  | 0, _, _, _ => none
  | n + 1, o6, o8, x2 =>
  gbd (pJ0_length_8abf5 5) fun z_1 =>
  if z_1 ≤ x2 then
    some (o6, o8)
  else
    gbd (pJ0_charAt_5068e 5 x2) fun z_2 =>
    gbd (pX12_must a1 o7 o6 o8 z_2) fun z_3 =>
    pX12_spells_s5_2 a1 o7 n z_3.1 z_3.2 (x2 + 1)


def pX12_spells_s5 (a1 : (Nat → Int32)) (o7 : Int32) (o6 : Int32) (o8 : Int32) : Option (Int32 × Int32) :=
  pX12_spells_s5_2 a1 o7 1000 o6 o8 0


def pX12_figures_68 (k34 : Int32 → Int32 → Int32 → Int32 → Option (Int32 × Int32 × Int32)) (a1 : (Nat → Int32)) (o7 : Int32) (o6 : Int32) (o8 : Int32) (x1 : Int32) (x2 : Int32) : Option (Int32 × Int32 × Int32) :=
  gbd (pX12_here a1 o6 o7) fun z_1 =>
  gnm (((10 * x1) + z_1) - 48) fun v_2 =>
  k34 (o6 + 1) o8 v_2 (x2 + 1)


def pX12_figures_34 (a1 : (Nat → Int32)) (o7 : Int32) : Nat → Int32 → Int32 → Int32 → Int32 → Option (Int32 × Int32 × Int32)
  | 0, _, _, _, _ => none
  | n + 1, o6, o8, x1, x2 =>
  if 2 ≤ x2 then
    some (x1, o6, o8)
  else
    if o8 = 0 then
      gbd (pX12_here a1 o6 o7) fun z_1 =>
      gbd (pX12_in z_1 48 57) fun z_2 =>
      if z_2 = 0 then
        some (x1, o6, o8)
      else
        if x2 = 0 then
          pX12_figures_68 (pX12_figures_34 a1 o7 n) a1 o7 o6 o8 x1 x2
        else
          if x1 ≤ 0 then
            some (x1, o6, o8)
          else
            pX12_figures_68 (pX12_figures_34 a1 o7 n) a1 o7 o6 o8 x1 x2
    else
      some (x1, o6, o8)


def pX12_figures (a1 : (Nat → Int32)) (o7 : Int32) (o6 : Int32) (o8 : Int32) : Option (Int32 × Int32 × Int32) :=
  if o8 = 0 then
    gbd (pX12_here a1 o6 o7) fun z_1 =>
    gbd (pX12_in z_1 48 57) fun z_2 =>
    if z_2 = 0 then
      pX12_figures_34 a1 o7 1000 o6 1 0 0
    else
      pX12_figures_34 a1 o7 1000 o6 0 0 0
  else
    pX12_figures_34 a1 o7 1000 o6 1 0 0


def pX12_tellsHere_s5 (o5 : Int32) (o7 : Int32) (a1 : (Nat → Int32)) (o6 : Int32) (o8 : Int32) (x1 : Int32) : Option (((Nat → Int32)) × Int32 × Int32) :=
  gbd (pX12_spells_s5 a1 o7 o6 o8) fun z_1 =>
  gbd (pX12_figures a1 o7 z_1.1 z_1.2) fun z_2 =>
  gnm z_2.1 fun v_3 =>
  if z_2.2.2 = 0 then
    gck (ginb (x1 + o5) 952) <|
    gnm (upd a1 (Int32.toNatClampNeg (x1 + o5)) v_3) fun f_5 =>
    some (f_5, z_2.2.1, z_2.2.2)
  else
    some (a1, z_2.2.1, z_2.2.2)


def pX12_spells_s4_2 (a1 : (Nat → Int32)) (o7 : Int32) : Nat → Int32 → Int32 → Int32 → Option (Int32 × Int32)
  | 0, _, _, _ => none
  | n + 1, o6, o8, x2 =>
  gbd (pJ0_length_8abf5 4) fun z_1 =>
  if z_1 ≤ x2 then
    some (o6, o8)
  else
    gbd (pJ0_charAt_5068e 4 x2) fun z_2 =>
    gbd (pX12_must a1 o7 o6 o8 z_2) fun z_3 =>
    pX12_spells_s4_2 a1 o7 n z_3.1 z_3.2 (x2 + 1)


def pX12_spells_s4 (a1 : (Nat → Int32)) (o7 : Int32) (o6 : Int32) (o8 : Int32) : Option (Int32 × Int32) :=
  pX12_spells_s4_2 a1 o7 1000 o6 o8 0


def pX12_tellsHere_s4 (o5 : Int32) (o7 : Int32) (a1 : (Nat → Int32)) (o6 : Int32) (o8 : Int32) (x1 : Int32) : Option (((Nat → Int32)) × Int32 × Int32) :=
  gbd (pX12_spells_s4 a1 o7 o6 o8) fun z_1 =>
  gbd (pX12_figures a1 o7 z_1.1 z_1.2) fun z_2 =>
  gnm z_2.1 fun v_3 =>
  if z_2.2.2 = 0 then
    gck (ginb (x1 + o5) 952) <|
    gnm (upd a1 (Int32.toNatClampNeg (x1 + o5)) v_3) fun f_5 =>
    some (f_5, z_2.2.1, z_2.2.2)
  else
    some (a1, z_2.2.1, z_2.2.2)


def pX12_spells_s3_2 (a1 : (Nat → Int32)) (o7 : Int32) : Nat → Int32 → Int32 → Int32 → Option (Int32 × Int32)
  | 0, _, _, _ => none
  | n + 1, o6, o8, x2 =>
  gbd (pJ0_length_8abf5 3) fun z_1 =>
  if z_1 ≤ x2 then
    some (o6, o8)
  else
    gbd (pJ0_charAt_5068e 3 x2) fun z_2 =>
    gbd (pX12_must a1 o7 o6 o8 z_2) fun z_3 =>
    pX12_spells_s3_2 a1 o7 n z_3.1 z_3.2 (x2 + 1)


def pX12_spells_s3 (a1 : (Nat → Int32)) (o7 : Int32) (o6 : Int32) (o8 : Int32) : Option (Int32 × Int32) :=
  pX12_spells_s3_2 a1 o7 1000 o6 o8 0


def pX12_tellsHere_s3 (o5 : Int32) (o7 : Int32) (a1 : (Nat → Int32)) (o6 : Int32) (o8 : Int32) (x1 : Int32) : Option (((Nat → Int32)) × Int32 × Int32) :=
  gbd (pX12_spells_s3 a1 o7 o6 o8) fun z_1 =>
  gbd (pX12_figures a1 o7 z_1.1 z_1.2) fun z_2 =>
  gnm z_2.1 fun v_3 =>
  if z_2.2.2 = 0 then
    gck (ginb (x1 + o5) 952) <|
    gnm (upd a1 (Int32.toNatClampNeg (x1 + o5)) v_3) fun f_5 =>
    some (f_5, z_2.2.1, z_2.2.2)
  else
    some (a1, z_2.2.1, z_2.2.2)


def pX12_spells_s2_2 (a1 : (Nat → Int32)) (o7 : Int32) : Nat → Int32 → Int32 → Int32 → Option (Int32 × Int32)
  | 0, _, _, _ => none
  | n + 1, o6, o8, x2 =>
  gbd (pJ0_length_8abf5 2) fun z_1 =>
  if z_1 ≤ x2 then
    some (o6, o8)
  else
    gbd (pJ0_charAt_5068e 2 x2) fun z_2 =>
    gbd (pX12_must a1 o7 o6 o8 z_2) fun z_3 =>
    pX12_spells_s2_2 a1 o7 n z_3.1 z_3.2 (x2 + 1)


def pX12_spells_s2 (a1 : (Nat → Int32)) (o7 : Int32) (o6 : Int32) (o8 : Int32) : Option (Int32 × Int32) :=
  pX12_spells_s2_2 a1 o7 1000 o6 o8 0


def pX12_emits (o5 : Int32) (o8 : Int32) (a1 : (Nat → Int32)) (x1 : Int32) : Option (((Nat → Int32))) :=
  if o8 = 0 then
    gck (ginb (247 + o5) 952) <|
    gck (ginb ((252 + (140 * o5)) + (a1 (Int32.toNatClampNeg (247 + o5)))) 952) <|
    gnm (upd a1 (Int32.toNatClampNeg ((252 + (140 * o5)) + (a1 (Int32.toNatClampNeg (247 + o5))))) x1) fun f_3 =>
    gck (ginb (247 + o5) 952) <|
    gck (ginb (247 + o5) 952) <|
    gnm (upd f_3 (Int32.toNatClampNeg (247 + o5)) ((f_3 (Int32.toNatClampNeg (247 + o5))) + 1)) fun f_6 =>
    some (f_6)
  else
    some (a1)


def pX12_every_4 (kF : Int32 → Int32 → (Nat → Int32) → Int32 → Int32 → Int32 → Option (((Nat → Int32)) × Int32 × Int32 × Int32)) (o5 : Int32) (o7 : Int32) : Nat → ((Nat → Int32)) → Int32 → Int32 → Int32 → Option (((Nat → Int32)) × Int32 × Int32 × Int32)
  | 0, _, _, _, _ => none
  | n + 1, a1, o6, o8, o9 =>
  if o8 = 0 then
    gbd (pX12_here a1 o6 o7) fun z_1 =>
    if z_1 = 38 then
      gbd (kF o5 o7 a1 (o6 + 1) o8 o9) fun z_2 =>
      gbd (pX12_emits o5 z_2.2.2.1 z_2.1 (-2)) fun z_3 =>
      pX12_every_4 kF o5 o7 n z_3 z_2.2.1 z_2.2.2.1 z_2.2.2.2
    else
      some (a1, o6, o8, o9)
  else
    some (a1, o6, o8, o9)


def pX12_every (kF : Int32 → Int32 → (Nat → Int32) → Int32 → Int32 → Int32 → Option (((Nat → Int32)) × Int32 × Int32 × Int32)) (o5 : Int32) (o7 : Int32) (a1 : (Nat → Int32)) (o6 : Int32) (o8 : Int32) (o9 : Int32) : Option (((Nat → Int32)) × Int32 × Int32 × Int32) :=
  gbd (kF o5 o7 a1 o6 o8 o9) fun z_1 =>
  pX12_every_4 kF o5 o7 1000 z_1.1 z_1.2.1 z_1.2.2.1 z_1.2.2.2


def pX12_some_4 (kF : Int32 → Int32 → (Nat → Int32) → Int32 → Int32 → Int32 → Option (((Nat → Int32)) × Int32 × Int32 × Int32)) (o5 : Int32) (o7 : Int32) : Nat → ((Nat → Int32)) → Int32 → Int32 → Int32 → Option (((Nat → Int32)) × Int32 × Int32 × Int32)
  | 0, _, _, _, _ => none
  | n + 1, a1, o6, o8, o9 =>
  if o8 = 0 then
    gbd (pX12_here a1 o6 o7) fun z_1 =>
    if z_1 = 124 then
      gbd (pX12_every kF o5 o7 a1 (o6 + 1) o8 o9) fun z_2 =>
      gbd (pX12_emits o5 z_2.2.2.1 z_2.1 (-3)) fun z_3 =>
      pX12_some_4 kF o5 o7 n z_3 z_2.2.1 z_2.2.2.1 z_2.2.2.2
    else
      some (a1, o6, o8, o9)
  else
    some (a1, o6, o8, o9)


def pX12_some (kF : Int32 → Int32 → (Nat → Int32) → Int32 → Int32 → Int32 → Option (((Nat → Int32)) × Int32 × Int32 × Int32)) (o5 : Int32) (o7 : Int32) (a1 : (Nat → Int32)) (o6 : Int32) (o8 : Int32) (o9 : Int32) : Option (((Nat → Int32)) × Int32 × Int32 × Int32) :=
  gbd (pX12_every kF o5 o7 a1 o6 o8 o9) fun z_1 =>
  pX12_some_4 kF o5 o7 1000 z_1.1 z_1.2.1 z_1.2.2.1 z_1.2.2.2


def pX12_among_s1_2 (a1 : (Nat → Int32)) (o7 : Int32) : Nat → Int32 → Int32 → Option (Int32 × Int32)
  | 0, _, _ => none
  | n + 1, o6, x2 =>
  gbd (pJ0_length_8abf5 1) fun z_1 =>
  if z_1 ≤ x2 then
    some ((-1), o6)
  else
    gbd (pX12_here a1 o6 o7) fun z_2 =>
    gbd (pJ0_charAt_5068e 1 x2) fun z_3 =>
    if z_2 = z_3 then
      some (x2, (o6 + 1))
    else
      pX12_among_s1_2 a1 o7 n o6 (x2 + 1)


def pX12_among_s1 (a1 : (Nat → Int32)) (o7 : Int32) (o6 : Int32) : Option (Int32 × Int32) :=
  pX12_among_s1_2 a1 o7 1000 o6 0


def pX12_among_s6_2 (a1 : (Nat → Int32)) (o7 : Int32) : Nat → Int32 → Int32 → Option (Int32 × Int32)
  | 0, _, _ => none
  | n + 1, o6, x2 =>
  gbd (pJ0_length_8abf5 6) fun z_1 =>
  if z_1 ≤ x2 then
    some ((-1), o6)
  else
    gbd (pX12_here a1 o6 o7) fun z_2 =>
    gbd (pJ0_charAt_5068e 6 x2) fun z_3 =>
    if z_2 = z_3 then
      some (x2, (o6 + 1))
    else
      pX12_among_s6_2 a1 o7 n o6 (x2 + 1)


def pX12_among_s6 (a1 : (Nat → Int32)) (o7 : Int32) (o6 : Int32) : Option (Int32 × Int32) :=
  pX12_among_s6_2 a1 o7 1000 o6 0


def pX12_factorB_69 (kF : Int32 → Int32 → (Nat → Int32) → Int32 → Int32 → Int32 → Option (((Nat → Int32)) × Int32 × Int32 × Int32)) (o5 : Int32) (o7 : Int32) (a1 : (Nat → Int32)) (o6 : Int32) (o8 : Int32) (o9 : Int32) (x1 : Int32) (y1 : Int32) (y2 : Int32) : Option (((Nat → Int32)) × Int32 × Int32 × Int32) :=
  if x1 = 33 then
    gbd (kF o5 o7 a1 (y1 + y2) o8 o9) fun z_3 =>
    gbd (pX12_emits o5 z_3.2.2.1 z_3.1 (-1)) fun z_4 =>
    some (z_4, z_3.2.1, z_3.2.2.1, (z_3.2.2.2 - 1))
  else
    gbd (pX12_some kF o5 o7 a1 (y1 + y2) o8 o9) fun z_1 =>
    gbd (pX12_must z_1.1 o7 z_1.2.1 z_1.2.2.1 41) fun z_2 =>
    some (z_1.1, z_2.1, z_2.2, (z_1.2.2.2 - 1))


def pX12_factorB_39 (kF : Int32 → Int32 → (Nat → Int32) → Int32 → Int32 → Int32 → Option (((Nat → Int32)) × Int32 × Int32 × Int32)) (o5 : Int32) (o7 : Int32) (a1 : (Nat → Int32)) (o6 : Int32) (o8 : Int32) (o9 : Int32) (x1 : Int32) (y1 : Int32) : Option (((Nat → Int32)) × Int32 × Int32 × Int32) :=
  gck (gbool y1) <|
  if y1 = 0 then
    pX12_factorB_69 kF o5 o7 a1 o6 y1 (o9 + 1) x1 o6 1
  else
    pX12_factorB_69 kF o5 o7 a1 o6 y1 (o9 + 1) x1 o6 0


def pX12_factorB_169 (kF : Int32 → Int32 → (Nat → Int32) → Int32 → Int32 → Int32 → Option (((Nat → Int32)) × Int32 × Int32 × Int32)) (o5 : Int32) (o7 : Int32) (a1 : (Nat → Int32)) (o6 : Int32) (o8 : Int32) (o9 : Int32) (x2 : Int32) (x3 : Int32) (y1 : Int32) : Option (((Nat → Int32)) × Int32 × Int32 × Int32) :=
  gck (gbool y1) <|
  gbd (pX12_figures a1 o7 o6 y1) fun z_2 =>
  gnm z_2.1 fun v_3 =>
  gbd (pX12_emits o5 z_2.2.2 a1 ((x2 + (8 * x3)) + (32 * v_3))) fun z_4 =>
  some (z_4, z_2.2.1, z_2.2.2, o9)


def pX12_factorB_150 (kF : Int32 → Int32 → (Nat → Int32) → Int32 → Int32 → Int32 → Option (((Nat → Int32)) × Int32 × Int32 × Int32)) (o5 : Int32) (o7 : Int32) (a1 : (Nat → Int32)) (o6 : Int32) (o8 : Int32) (o9 : Int32) (x2 : Int32) (y0 : Int32) : Option (((Nat → Int32)) × Int32 × Int32 × Int32) :=
  if o8 = 0 then
    if y0 = (-1) then
      pX12_factorB_169 kF o5 o7 a1 o6 o8 o9 x2 y0 1
    else
      pX12_factorB_169 kF o5 o7 a1 o6 o8 o9 x2 y0 0
  else
    pX12_factorB_169 kF o5 o7 a1 o6 o8 o9 x2 y0 1


def pX12_factorB_130 (kF : Int32 → Int32 → (Nat → Int32) → Int32 → Int32 → Int32 → Option (((Nat → Int32)) × Int32 × Int32 × Int32)) (o5 : Int32) (o7 : Int32) (a1 : (Nat → Int32)) (o6 : Int32) (o8 : Int32) (o9 : Int32) (x2 : Int32) (y1 : Int32) : Option (((Nat → Int32)) × Int32 × Int32 × Int32) :=
  gck (gbool y1) <|
  if y1 = 0 then
    gbd (pX12_among_s6 a1 o7 o6) fun z_2 =>
    pX12_factorB_150 kF o5 o7 a1 z_2.2 y1 o9 x2 z_2.1
  else
    pX12_factorB_150 kF o5 o7 a1 o6 y1 o9 x2 0


def pX12_factorB (kF : Int32 → Int32 → (Nat → Int32) → Int32 → Int32 → Int32 → Option (((Nat → Int32)) × Int32 × Int32 × Int32)) (o5 : Int32) (o7 : Int32) (a1 : (Nat → Int32)) (o6 : Int32) (o8 : Int32) (o9 : Int32) : Option (((Nat → Int32)) × Int32 × Int32 × Int32) :=
  if o8 = 0 then
    gbd (pX12_here a1 o6 o7) fun z_1 =>
    if z_1 = 33 then
      if o9 = 5 then
        pX12_factorB_39 kF o5 o7 a1 o6 o8 o9 z_1 1
      else
        pX12_factorB_39 kF o5 o7 a1 o6 o8 o9 z_1 0
    else
      if z_1 = 40 then
        if o9 = 5 then
          pX12_factorB_39 kF o5 o7 a1 o6 o8 o9 z_1 1
        else
          pX12_factorB_39 kF o5 o7 a1 o6 o8 o9 z_1 0
      else
        gbd (pX12_among_s1 a1 o7 o6) fun z_2 =>
        gnm z_2.1 fun v_3 =>
        if v_3 = (-1) then
          pX12_factorB_130 kF o5 o7 a1 z_2.2 o8 o9 v_3 1
        else
          pX12_factorB_130 kF o5 o7 a1 z_2.2 o8 o9 v_3 0
  else
    some (a1, o6, o8, o9)


def pX12_factor : Nat → Int32 → Int32 → (Nat → Int32) → Int32 → Int32 → Int32 → Option (((Nat → Int32)) × Int32 × Int32 × Int32)
  | 0, _, _, _, _, _, _ => none
  | d + 1, o5, o7, a1, o6, o8, o9 => pX12_factorB (pX12_factor d) o5 o7 a1 o6 o8 o9

def pX12_much_s2 (o5 : Int32) (o7 : Int32) (a1 : (Nat → Int32)) (o6 : Int32) (o8 : Int32) (o9 : Int32) (x1 : Int32) : Option (((Nat → Int32)) × Int32 × Int32 × Int32) :=
  gbd (pX12_spells_s2 a1 o7 o6 o8) fun z_1 =>
  gbd (pX12_figures a1 o7 z_1.1 z_1.2) fun z_2 =>
  gnm z_2.1 fun v_3 =>
  gbd (pX12_must a1 o7 z_2.2.1 z_2.2.2 32) fun z_4 =>
  gbd (pX12_some (pX12_factor 8) o5 o7 a1 z_4.1 z_4.2 o9) fun z_5 =>
  gbd (pX12_emits o5 z_5.2.2.1 z_5.1 (x1 - v_3)) fun z_6 =>
  some (z_6, z_5.2.1, z_5.2.2.1, z_5.2.2.2)


def pX12_spells_s0_2 (a1 : (Nat → Int32)) (o7 : Int32) : Nat → Int32 → Int32 → Int32 → Option (Int32 × Int32)
  | 0, _, _, _ => none
  | n + 1, o6, o8, x2 =>
  gbd (pJ0_length_8abf5 0) fun z_1 =>
  if z_1 ≤ x2 then
    some (o6, o8)
  else
    gbd (pJ0_charAt_5068e 0 x2) fun z_2 =>
    gbd (pX12_must a1 o7 o6 o8 z_2) fun z_3 =>
    pX12_spells_s0_2 a1 o7 n z_3.1 z_3.2 (x2 + 1)


def pX12_spells_s0 (a1 : (Nat → Int32)) (o7 : Int32) (o6 : Int32) (o8 : Int32) : Option (Int32 × Int32) :=
  pX12_spells_s0_2 a1 o7 1000 o6 o8 0


def pX12_much_s0 (o5 : Int32) (o7 : Int32) (a1 : (Nat → Int32)) (o6 : Int32) (o8 : Int32) (o9 : Int32) (x1 : Int32) : Option (((Nat → Int32)) × Int32 × Int32 × Int32) :=
  gbd (pX12_spells_s0 a1 o7 o6 o8) fun z_1 =>
  gbd (pX12_figures a1 o7 z_1.1 z_1.2) fun z_2 =>
  gnm z_2.1 fun v_3 =>
  gbd (pX12_must a1 o7 z_2.2.1 z_2.2.2 32) fun z_4 =>
  gbd (pX12_some (pX12_factor 8) o5 o7 a1 z_4.1 z_4.2 o9) fun z_5 =>
  gbd (pX12_emits o5 z_5.2.2.1 z_5.1 (x1 - v_3)) fun z_6 =>
  some (z_6, z_5.2.1, z_5.2.2.1, z_5.2.2.2)


def pX12_clauseHere (o5 : Int32) (o7 : Int32) (a1 : (Nat → Int32)) (o6 : Int32) (o8 : Int32) (o9 : Int32) : Option (((Nat → Int32)) × Int32 × Int32 × Int32) :=
  gbd (pX12_here a1 o6 o7) fun z_1 =>
  if z_1 = 102 then
    gbd (pX12_tellsHere_s3 o5 o7 a1 o6 o8 232) fun z_2 =>
    some (z_2.1, z_2.2.1, z_2.2.2, o9)
  else
  if z_1 = 108 then
    gbd (pX12_much_s2 o5 o7 a1 o6 o8 o9 (-200)) fun z_3 =>
    some (z_3.1, z_3.2.1, z_3.2.2.1, z_3.2.2.2)
  else
  if z_1 = 109 then
    gbd (pX12_much_s0 o5 o7 a1 o6 o8 o9 (-10)) fun z_4 =>
    some (z_4.1, z_4.2.1, z_4.2.2.1, z_4.2.2.2)
  else
  if z_1 = 111 then
    gbd (pX12_tellsHere_s4 o5 o7 a1 o6 o8 237) fun z_5 =>
    some (z_5.1, z_5.2.1, z_5.2.2, o9)
  else
  if z_1 = 112 then
    gbd (pX12_tellsHere_s5 o5 o7 a1 o6 o8 242) fun z_6 =>
    some (z_6.1, z_6.2.1, z_6.2.2, o9)
  else
  some (a1, o6, 1, o9)


def pX12_house_165 (a1 : (Nat → Int32)) (o5 : Int32) (o6 : Int32) (o7 : Int32) (o8 : Int32) (o9 : Int32) : Option (Int32 × ((Nat → Int32)) × Int32 × Int32 × Int32 × Int32 × Int32) :=
  if o8 = 0 then
    if o6 = o7 then
      gck (ginb 53 952) <|
      gck (ginb 53 952) <|
      gnm (upd a1 (Int32.toNatClampNeg 53) ((a1 (Int32.toNatClampNeg 53)) + 1)) fun f_3 =>
      gck (ginb 56 952) <|
      gnm (upd f_3 (Int32.toNatClampNeg 56) o5) fun f_5 =>
      some (o5, f_5, o5, o6, o7, o8, o9)
    else
      some (((-10) - o6), a1, o5, o6, o7, o8, o9)
  else
    some (((-10) - o6), a1, o5, o6, o7, o8, o9)


def pX12_house_123 : Nat → ((Nat → Int32)) → Int32 → Int32 → Int32 → Int32 → Int32 → Int32 → Option (Int32 × ((Nat → Int32)) × Int32 × Int32 × Int32 × Int32 × Int32)
  | 0, _, _, _, _, _, _, _ => none
  | n + 1, a1, o5, o6, o7, o8, o9, x1 =>
  if o8 = 0 then
    if 10 ≤ x1 then
      pX12_house_165 a1 o5 o6 o7 o8 o9
    else
      gbd (pX12_here a1 o6 o7) fun z_1 =>
      if z_1 = 59 then
        gbd (pX12_clauseHere o5 o7 a1 (o6 + 1) o8 o9) fun z_2 =>
        pX12_house_123 n z_2.1 o5 z_2.2.1 o7 z_2.2.2.1 z_2.2.2.2 (x1 + 1)
      else
        pX12_house_165 a1 o5 o6 o7 o8 o9
  else
    pX12_house_165 a1 o5 o6 o7 o8 o9


def pX12_house (a1 : (Nat → Int32)) (o5 : Int32) (o6 : Int32) (o7 : Int32) (o8 : Int32) (o9 : Int32) : Option (Int32 × ((Nat → Int32)) × Int32 × Int32 × Int32 × Int32 × Int32) :=
  gck (ginb 53 952) <|
  if (a1 (Int32.toNatClampNeg 53)) = 5 then
    some ((-4), a1, o5, o6, o7, o8, o9)
  else
    gck (ginb 53 952) <|
    gck (ginb 55 952) <|
    gck (ginb 55 952) <|
    gnm (upd a1 (Int32.toNatClampNeg 55) 0) fun f_5 =>
    gck (ginb (232 + (a1 (Int32.toNatClampNeg 53))) 952) <|
    gnm (upd f_5 (Int32.toNatClampNeg (232 + (a1 (Int32.toNatClampNeg 53)))) 10) fun f_7 =>
    gck (ginb (237 + (a1 (Int32.toNatClampNeg 53))) 952) <|
    gnm (upd f_7 (Int32.toNatClampNeg (237 + (a1 (Int32.toNatClampNeg 53)))) 0) fun f_9 =>
    gck (ginb (242 + (a1 (Int32.toNatClampNeg 53))) 952) <|
    gnm (upd f_9 (Int32.toNatClampNeg (242 + (a1 (Int32.toNatClampNeg 53)))) 10) fun f_11 =>
    gck (ginb (247 + (a1 (Int32.toNatClampNeg 53))) 952) <|
    gnm (upd f_11 (Int32.toNatClampNeg (247 + (a1 (Int32.toNatClampNeg 53)))) 0) fun f_13 =>
    gbd (pX12_clauseHere (a1 (Int32.toNatClampNeg 53)) (a1 (Int32.toNatClampNeg 55)) f_13 0 0 0) fun z_14 =>
    pX12_house_123 1000 z_14.1 (a1 (Int32.toNatClampNeg 53)) z_14.2.1 (a1 (Int32.toNatClampNeg 55)) z_14.2.2.1 z_14.2.2.2 1

