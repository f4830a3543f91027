/-- the house that is being read: its object, the tape, its rows -/
def hw (E : gE) (hb tx : Nat) (rr : Nat → Nat) (N : Nat) (o : Nat → Int32) (A : Nat → Nat → Int32) : va_W := [(hb, .inr (2, [.int (o 0), .int (o 1), .int (o 2), .ref tx, .int (o 4), .int (o 5), .int (o 6), .ref (rr 7), .ref (rr 8), .ref (rr 9), .int (o 10)])), (tx, .inl (gCh E, 100, .inl (A 3))), (rr 7, .inl (gI E, N, .inl (A 7))), (rr 8, .inl (gI E, N, .inl (A 8))), (rr 9, .inl (gI E, N, .inl (A 9)))]
section HWR
variable {Γ : gT} {cc : ByteArray} {Ts : List Cond} {own : String} {cl sl pc index : Nat} {L : List (Nat × Value)} {st : List Value} {hb tx N : Nat} {rr : Nat → Nat} {o : Nat → Int32} {A : Nat → Nat → Int32}
theorem hg_0 {v : Int32} (K : gOK Γ cc Ts own) (hin : ∀ w ∈ wsX20, w ∈ Ts) (hl : Cond.fieldLink own index "ChiefGrades$House" "five" "I" ∈ Ts) (hv : o 0 = v) (hd : decode cc pc = .ok (.getfield index, 3)) (k : gGO Γ cl sl (pc + 3) L (.int v :: st) (hw (g_E Γ) hb tx rr N o A)) : gGO Γ cl sl pc L (.ref hb :: st) (hw (g_E Γ) hb tx rr N o A) := by
  subst hv
  exact g_get (T := TX2) (ref := "ChiefGrades$House") K hin 0 rfl rfl 0 (by decide) hl (Or.inl rfl) rfl hd k
theorem hp_0 {v : Int32} {w' : va_W} (K : gOK Γ cc Ts own) (hin : ∀ w ∈ wsX20, w ∈ Ts) (hl : Cond.fieldLink own index "ChiefGrades$House" "five" "I" ∈ Ts) (hn : narrow .int (.int v) = .int v) (hfit : fits .int (.int v) = true) (hd : decode cc pc = .ok (.putfield index, 3)) (hw9 : hw (g_E Γ) hb tx rr N (gu o 0 v) A = w') (k : gGO Γ cl sl (pc + 3) L st w') : gGO Γ cl sl pc L (.int v :: .ref hb :: st) (hw (g_E Γ) hb tx rr N o A) := by
  subst hw9
  exact g_put (T := TX2) (ref := "ChiefGrades$House") (ty := .int) K hin tyX2_ok nmX2 0 rfl rfl 0 (by decide) hl rfl rfl rfl hn hfit (Nat.le_of_ble_eq_true rfl) hd rfl k
theorem hg_1 {v : Int32} (K : gOK Γ cc Ts own) (hin : ∀ w ∈ wsX20, w ∈ Ts) (hl : Cond.fieldLink own index "ChiefGrades$House" "one" "I" ∈ Ts) (hv : o 1 = v) (hd : decode cc pc = .ok (.getfield index, 3)) (k : gGO Γ cl sl (pc + 3) L (.int v :: st) (hw (g_E Γ) hb tx rr N o A)) : gGO Γ cl sl pc L (.ref hb :: st) (hw (g_E Γ) hb tx rr N o A) := by
  subst hv
  exact g_get (T := TX2) (ref := "ChiefGrades$House") K hin 0 rfl rfl 1 (by decide) hl (Or.inl rfl) rfl hd k
theorem hp_1 {v : Int32} {w' : va_W} (K : gOK Γ cc Ts own) (hin : ∀ w ∈ wsX20, w ∈ Ts) (hl : Cond.fieldLink own index "ChiefGrades$House" "one" "I" ∈ Ts) (hn : narrow .int (.int v) = .int v) (hfit : fits .int (.int v) = true) (hd : decode cc pc = .ok (.putfield index, 3)) (hw9 : hw (g_E Γ) hb tx rr N (gu o 1 v) A = w') (k : gGO Γ cl sl (pc + 3) L st w') : gGO Γ cl sl pc L (.int v :: .ref hb :: st) (hw (g_E Γ) hb tx rr N o A) := by
  subst hw9
  exact g_put (T := TX2) (ref := "ChiefGrades$House") (ty := .int) K hin tyX2_ok nmX2 0 rfl rfl 1 (by decide) hl rfl rfl rfl hn hfit (Nat.le_of_ble_eq_true rfl) hd rfl k
theorem hg_2 {v : Int32} (K : gOK Γ cc Ts own) (hin : ∀ w ∈ wsX20, w ∈ Ts) (hl : Cond.fieldLink own index "ChiefGrades$House" "pay" "I" ∈ Ts) (hv : o 2 = v) (hd : decode cc pc = .ok (.getfield index, 3)) (k : gGO Γ cl sl (pc + 3) L (.int v :: st) (hw (g_E Γ) hb tx rr N o A)) : gGO Γ cl sl pc L (.ref hb :: st) (hw (g_E Γ) hb tx rr N o A) := by
  subst hv
  exact g_get (T := TX2) (ref := "ChiefGrades$House") K hin 0 rfl rfl 2 (by decide) hl (Or.inl rfl) rfl hd k
theorem hp_2 {v : Int32} {w' : va_W} (K : gOK Γ cc Ts own) (hin : ∀ w ∈ wsX20, w ∈ Ts) (hl : Cond.fieldLink own index "ChiefGrades$House" "pay" "I" ∈ Ts) (hn : narrow .int (.int v) = .int v) (hfit : fits .int (.int v) = true) (hd : decode cc pc = .ok (.putfield index, 3)) (hw9 : hw (g_E Γ) hb tx rr N (gu o 2 v) A = w') (k : gGO Γ cl sl (pc + 3) L st w') : gGO Γ cl sl pc L (.int v :: .ref hb :: st) (hw (g_E Γ) hb tx rr N o A) := by
  subst hw9
  exact g_put (T := TX2) (ref := "ChiefGrades$House") (ty := .int) K hin tyX2_ok nmX2 0 rfl rfl 2 (by decide) hl rfl rfl rfl hn hfit (Nat.le_of_ble_eq_true rfl) hd rfl k
theorem hg_3 (K : gOK Γ cc Ts own) (hin : ∀ w ∈ wsX20, w ∈ Ts) (hl : Cond.fieldLink own index "ChiefGrades$House" "text" "[C" ∈ Ts) (hd : decode cc pc = .ok (.getfield index, 3)) (k : gGO Γ cl sl (pc + 3) L (.ref tx :: st) (hw (g_E Γ) hb tx rr N o A)) : gGO Γ cl sl pc L (.ref hb :: st) (hw (g_E Γ) hb tx rr N o A) := g_get (T := TX2) (ref := "ChiefGrades$House") K hin 0 rfl rfl 3 (by decide) hl (Or.inl rfl) rfl hd k
theorem hg_4 {v : Int32} (K : gOK Γ cc Ts own) (hin : ∀ w ∈ wsX20, w ∈ Ts) (hl : Cond.fieldLink own index "ChiefGrades$House" "size" "I" ∈ Ts) (hv : o 4 = v) (hd : decode cc pc = .ok (.getfield index, 3)) (k : gGO Γ cl sl (pc + 3) L (.int v :: st) (hw (g_E Γ) hb tx rr N o A)) : gGO Γ cl sl pc L (.ref hb :: st) (hw (g_E Γ) hb tx rr N o A) := by
  subst hv
  exact g_get (T := TX2) (ref := "ChiefGrades$House") K hin 0 rfl rfl 4 (by decide) hl (Or.inl rfl) rfl hd k
theorem hg_5 {v : Int32} (K : gOK Γ cc Ts own) (hin : ∀ w ∈ wsX20, w ∈ Ts) (hl : Cond.fieldLink own index "ChiefGrades$House" "at" "I" ∈ Ts) (hv : o 5 = v) (hd : decode cc pc = .ok (.getfield index, 3)) (k : gGO Γ cl sl (pc + 3) L (.int v :: st) (hw (g_E Γ) hb tx rr N o A)) : gGO Γ cl sl pc L (.ref hb :: st) (hw (g_E Γ) hb tx rr N o A) := by
  subst hv
  exact g_get (T := TX2) (ref := "ChiefGrades$House") K hin 0 rfl rfl 5 (by decide) hl (Or.inl rfl) rfl hd k
theorem hp_5 {v : Int32} {w' : va_W} (K : gOK Γ cc Ts own) (hin : ∀ w ∈ wsX20, w ∈ Ts) (hl : Cond.fieldLink own index "ChiefGrades$House" "at" "I" ∈ Ts) (hn : narrow .int (.int v) = .int v) (hfit : fits .int (.int v) = true) (hd : decode cc pc = .ok (.putfield index, 3)) (hw9 : hw (g_E Γ) hb tx rr N (gu o 5 v) A = w') (k : gGO Γ cl sl (pc + 3) L st w') : gGO Γ cl sl pc L (.int v :: .ref hb :: st) (hw (g_E Γ) hb tx rr N o A) := by
  subst hw9
  exact g_put (T := TX2) (ref := "ChiefGrades$House") (ty := .int) K hin tyX2_ok nmX2 0 rfl rfl 5 (by decide) hl rfl rfl rfl hn hfit (Nat.le_of_ble_eq_true rfl) hd rfl k
theorem hg_6 {v : Int32} (K : gOK Γ cc Ts own) (hin : ∀ w ∈ wsX20, w ∈ Ts) (hl : Cond.fieldLink own index "ChiefGrades$House" "isFaulty" "Z" ∈ Ts) (hv : o 6 = v) (hd : decode cc pc = .ok (.getfield index, 3)) (k : gGO Γ cl sl (pc + 3) L (.int v :: st) (hw (g_E Γ) hb tx rr N o A)) : gGO Γ cl sl pc L (.ref hb :: st) (hw (g_E Γ) hb tx rr N o A) := by
  subst hv
  exact g_get (T := TX2) (ref := "ChiefGrades$House") K hin 0 rfl rfl 6 (by decide) hl (Or.inl rfl) rfl hd k
theorem hp_6 {v : Int32} {w' : va_W} (K : gOK Γ cc Ts own) (hin : ∀ w ∈ wsX20, w ∈ Ts) (hl : Cond.fieldLink own index "ChiefGrades$House" "isFaulty" "Z" ∈ Ts) (hn : narrow .boolean (.int v) = .int v) (hfit : fits .boolean (.int v) = true) (hd : decode cc pc = .ok (.putfield index, 3)) (hw9 : hw (g_E Γ) hb tx rr N (gu o 6 v) A = w') (k : gGO Γ cl sl (pc + 3) L st w') : gGO Γ cl sl pc L (.int v :: .ref hb :: st) (hw (g_E Γ) hb tx rr N o A) := by
  subst hw9
  exact g_put (T := TX2) (ref := "ChiefGrades$House") (ty := .boolean) K hin tyX2_ok nmX2 0 rfl rfl 6 (by decide) hl rfl rfl rfl hn hfit (Nat.le_of_ble_eq_true rfl) hd rfl k
theorem hg_7 (K : gOK Γ cc Ts own) (hin : ∀ w ∈ wsX20, w ∈ Ts) (hl : Cond.fieldLink own index "ChiefGrades$House" "step" "[I" ∈ Ts) (hd : decode cc pc = .ok (.getfield index, 3)) (k : gGO Γ cl sl (pc + 3) L (.ref (rr 7) :: st) (hw (g_E Γ) hb tx rr N o A)) : gGO Γ cl sl pc L (.ref hb :: st) (hw (g_E Γ) hb tx rr N o A) := g_get (T := TX2) (ref := "ChiefGrades$House") K hin 0 rfl rfl 7 (by decide) hl (Or.inl rfl) rfl hd k
theorem hg_8 (K : gOK Γ cc Ts own) (hin : ∀ w ∈ wsX20, w ∈ Ts) (hl : Cond.fieldLink own index "ChiefGrades$House" "least" "[I" ∈ Ts) (hd : decode cc pc = .ok (.getfield index, 3)) (k : gGO Γ cl sl (pc + 3) L (.ref (rr 8) :: st) (hw (g_E Γ) hb tx rr N o A)) : gGO Γ cl sl pc L (.ref hb :: st) (hw (g_E Γ) hb tx rr N o A) := g_get (T := TX2) (ref := "ChiefGrades$House") K hin 0 rfl rfl 8 (by decide) hl (Or.inl rfl) rfl hd k
theorem hg_9 (K : gOK Γ cc Ts own) (hin : ∀ w ∈ wsX20, w ∈ Ts) (hl : Cond.fieldLink own index "ChiefGrades$House" "most" "[I" ∈ Ts) (hd : decode cc pc = .ok (.getfield index, 3)) (k : gGO Γ cl sl (pc + 3) L (.ref (rr 9) :: st) (hw (g_E Γ) hb tx rr N o A)) : gGO Γ cl sl pc L (.ref hb :: st) (hw (g_E Γ) hb tx rr N o A) := g_get (T := TX2) (ref := "ChiefGrades$House") K hin 0 rfl rfl 9 (by decide) hl (Or.inl rfl) rfl hd k
theorem hg_10 {v : Int32} (K : gOK Γ cc Ts own) (hin : ∀ w ∈ wsX20, w ∈ Ts) (hl : Cond.fieldLink own index "ChiefGrades$House" "steps" "I" ∈ Ts) (hv : o 10 = v) (hd : decode cc pc = .ok (.getfield index, 3)) (k : gGO Γ cl sl (pc + 3) L (.int v :: st) (hw (g_E Γ) hb tx rr N o A)) : gGO Γ cl sl pc L (.ref hb :: st) (hw (g_E Γ) hb tx rr N o A) := by
  subst hv
  exact g_get (T := TX2) (ref := "ChiefGrades$House") K hin 0 rfl rfl 10 (by decide) hl (Or.inl rfl) rfl hd k
theorem hp_10 {v : Int32} {w' : va_W} (K : gOK Γ cc Ts own) (hin : ∀ w ∈ wsX20, w ∈ Ts) (hl : Cond.fieldLink own index "ChiefGrades$House" "steps" "I" ∈ Ts) (hn : narrow .int (.int v) = .int v) (hfit : fits .int (.int v) = true) (hd : decode cc pc = .ok (.putfield index, 3)) (hw9 : hw (g_E Γ) hb tx rr N (gu o 10 v) A = w') (k : gGO Γ cl sl (pc + 3) L st w') : gGO Γ cl sl pc L (.int v :: .ref hb :: st) (hw (g_E Γ) hb tx rr N o A) := by
  subst hw9
  exact g_put (T := TX2) (ref := "ChiefGrades$House") (ty := .int) K hin tyX2_ok nmX2 0 rfl rfl 10 (by decide) hl rfl rfl rfl hn hfit (Nat.le_of_ble_eq_true rfl) hd rfl k
end HWR
theorem qv_X2_add : yX2_add.cls = RX2 ∧ yX2_add.cls ≠ "java/lang/invoke/MethodHandle" ∧ yX2_add.cls ≠ "java/lang/invoke/VarHandle" ∧ (parseMethodDescriptor yX2_add.desc).map (fun d => d.parameters.length) = some 3 := by decide +kernel
theorem qv_X2_read : yX2_read.cls = RX2 ∧ yX2_read.cls ≠ "java/lang/invoke/MethodHandle" ∧ yX2_read.cls ≠ "java/lang/invoke/VarHandle" ∧ (parseMethodDescriptor yX2_read.desc).map (fun d => d.parameters.length) = some 0 := by decide +kernel
theorem qv_X2_readBoth : yX2_readBoth.cls = RX2 ∧ yX2_readBoth.cls ≠ "java/lang/invoke/MethodHandle" ∧ yX2_readBoth.cls ≠ "java/lang/invoke/VarHandle" ∧ (parseMethodDescriptor yX2_readBoth.desc).map (fun d => d.parameters.length) = some 1 := by decide +kernel
theorem qv_X2_readEither : yX2_readEither.cls = RX2 ∧ yX2_readEither.cls ≠ "java/lang/invoke/MethodHandle" ∧ yX2_readEither.cls ≠ "java/lang/invoke/VarHandle" ∧ (parseMethodDescriptor yX2_readEither.desc).map (fun d => d.parameters.length) = some 1 := by decide +kernel
theorem qv_X2_readGain : yX2_readGain.cls = RX2 ∧ yX2_readGain.cls ≠ "java/lang/invoke/MethodHandle" ∧ yX2_readGain.cls ≠ "java/lang/invoke/VarHandle" ∧ (parseMethodDescriptor yX2_readGain.desc).map (fun d => d.parameters.length) = some 2 := by decide +kernel
theorem qv_X2_readNumber : yX2_readNumber.cls = RX2 ∧ yX2_readNumber.cls ≠ "java/lang/invoke/MethodHandle" ∧ yX2_readNumber.cls ≠ "java/lang/invoke/VarHandle" ∧ (parseMethodDescriptor yX2_readNumber.desc).map (fun d => d.parameters.length) = some 0 := by decide +kernel
theorem qv_X2_readPart : yX2_readPart.cls = RX2 ∧ yX2_readPart.cls ≠ "java/lang/invoke/MethodHandle" ∧ yX2_readPart.cls ≠ "java/lang/invoke/VarHandle" ∧ (parseMethodDescriptor yX2_readPart.desc).map (fun d => d.parameters.length) = some 1 := by decide +kernel
theorem qv_X2_readShare : yX2_readShare.cls = RX2 ∧ yX2_readShare.cls ≠ "java/lang/invoke/MethodHandle" ∧ yX2_readShare.cls ≠ "java/lang/invoke/VarHandle" ∧ (parseMethodDescriptor yX2_readShare.desc).map (fun d => d.parameters.length) = some 1 := by decide +kernel
theorem qv_X2_sign : yX2_sign.cls = RX2 ∧ yX2_sign.cls ≠ "java/lang/invoke/MethodHandle" ∧ yX2_sign.cls ≠ "java/lang/invoke/VarHandle" ∧ (parseMethodDescriptor yX2_sign.desc).map (fun d => d.parameters.length) = some 0 := by decide +kernel
theorem qv_X2_take : yX2_take.cls = RX2 ∧ yX2_take.cls ≠ "java/lang/invoke/MethodHandle" ∧ yX2_take.cls ≠ "java/lang/invoke/VarHandle" ∧ (parseMethodDescriptor yX2_take.desc).map (fun d => d.parameters.length) = some 1 := by decide +kernel
theorem qv_X2_takeAll : yX2_takeAll.cls = RX2 ∧ yX2_takeAll.cls ≠ "java/lang/invoke/MethodHandle" ∧ yX2_takeAll.cls ≠ "java/lang/invoke/VarHandle" ∧ (parseMethodDescriptor yX2_takeAll.desc).map (fun d => d.parameters.length) = some 1 := by decide +kernel
def pX2_sign (N : Nat) (a3 : (Nat → Int32)) (o4 : Int32) (o5 : Int32) (o6 : Int32) : Option (Int32) :=
  if o6 = 0 then
    if o5 < 0 then
      some ((-1))
    else
      if o5 < o4 then
        gck (ginb o5 100) <|
        some ((a3 (Int32.toNatClampNeg o5)))
      else
        some ((-1))
  else
    some ((-1))


def pX2_take (N : Nat) (a3 : (Nat → Int32)) (o4 : Int32) (o5 : Int32) (o6 : Int32) (x1 : Int32) : Option (Int32 × Int32 × Int32) :=
  gbd (pX2_sign N a3 o4 o5 o6) fun z_1 =>
  if z_1 = x1 then
    if o6 = 0 then
      some (1, (o5 + 1), o6)
    else
      some (0, (o5 + 1), o6)
  else
    some (0, o5, 1)


def pX2_takeAll_s5_2 (N : Nat) (a3 : (Nat → Int32)) (o4 : Int32) : Nat → Int32 → Int32 → Int32 → Option (Int32 × Int32)
  | 0, _, _, _ => none
  | n + 1, o5, o6, x2 =>
  gbd (pJ0_length_8abf5 5) fun z_1 =>
  if z_1 ≤ x2 then
    some (o5, o6)
  else
    gbd (pJ0_charAt_5068e 5 x2) fun z_2 =>
    gbd (pX2_take N a3 o4 o5 o6 z_2) fun z_3 =>
    pX2_takeAll_s5_2 N a3 o4 n z_3.2.1 z_3.2.2 (x2 + 1)


def pX2_takeAll_s5 (N : Nat) (a3 : (Nat → Int32)) (o4 : Int32) (o5 : Int32) (o6 : Int32) : Option (Int32 × Int32) :=
  pX2_takeAll_s5_2 N a3 o4 1000 o5 o6 0


def pX2_readNumber (N : Nat) (a3 : (Nat → Int32)) (o4 : Int32) (o5 : Int32) (o6 : Int32) : Option (Int32 × Int32 × Int32) :=
  gbd (pX2_sign N a3 o4 o5 o6) fun z_1 =>
  if z_1 < 48 then
    some (0, o5, 1)
  else
    if z_1 ≤ 57 then
      gbd (pX2_sign N a3 o4 (o5 + 1) o6) fun z_2 =>
      if z_1 = 48 then
        some ((z_1 - 48), (o5 + 1), o6)
      else
        if z_2 < 48 then
          some ((z_1 - 48), (o5 + 1), o6)
        else
          if z_2 ≤ 57 then
            some ((((10 * (z_1 - 48)) + z_2) - 48), ((o5 + 1) + 1), o6)
          else
            some ((z_1 - 48), (o5 + 1), o6)
    else
      some (0, o5, 1)


def pX2_readShare_s5 (N : Nat) (a3 : (Nat → Int32)) (o4 : Int32) (o5 : Int32) (o6 : Int32) : Option (Int32 × Int32 × Int32) :=
  gbd (pX2_takeAll_s5 N a3 o4 o5 o6) fun z_1 =>
  gbd (pX2_readNumber N a3 o4 z_1.1 z_1.2) fun z_2 =>
  some (z_2.1, z_2.2.1, z_2.2.2)


def pX2_takeAll_s4_2 (N : Nat) (a3 : (Nat → Int32)) (o4 : Int32) : Nat → Int32 → Int32 → Int32 → Option (Int32 × Int32)
  | 0, _, _, _ => none
  | n + 1, o5, o6, x2 =>
  gbd (pJ0_length_8abf5 4) fun z_1 =>
  if z_1 ≤ x2 then
    some (o5, o6)
  else
    gbd (pJ0_charAt_5068e 4 x2) fun z_2 =>
    gbd (pX2_take N a3 o4 o5 o6 z_2) fun z_3 =>
    pX2_takeAll_s4_2 N a3 o4 n z_3.2.1 z_3.2.2 (x2 + 1)


def pX2_takeAll_s4 (N : Nat) (a3 : (Nat → Int32)) (o4 : Int32) (o5 : Int32) (o6 : Int32) : Option (Int32 × Int32) :=
  pX2_takeAll_s4_2 N a3 o4 1000 o5 o6 0


def pX2_readShare_s4 (N : Nat) (a3 : (Nat → Int32)) (o4 : Int32) (o5 : Int32) (o6 : Int32) : Option (Int32 × Int32 × Int32) :=
  gbd (pX2_takeAll_s4 N a3 o4 o5 o6) fun z_1 =>
  gbd (pX2_readNumber N a3 o4 z_1.1 z_1.2) fun z_2 =>
  some (z_2.1, z_2.2.1, z_2.2.2)


def pX2_takeAll_s3_2 (N : Nat) (a3 : (Nat → Int32)) (o4 : Int32) : Nat → Int32 → Int32 → Int32 → Option (Int32 × Int32)
  | 0, _, _, _ => none
  | n + 1, o5, o6, x2 =>
  gbd (pJ0_length_8abf5 3) fun z_1 =>
  if z_1 ≤ x2 then
    some (o5, o6)
  else
    gbd (pJ0_charAt_5068e 3 x2) fun z_2 =>
    gbd (pX2_take N a3 o4 o5 o6 z_2) fun z_3 =>
    pX2_takeAll_s3_2 N a3 o4 n z_3.2.1 z_3.2.2 (x2 + 1)


def pX2_takeAll_s3 (N : Nat) (a3 : (Nat → Int32)) (o4 : Int32) (o5 : Int32) (o6 : Int32) : Option (Int32 × Int32) :=
  pX2_takeAll_s3_2 N a3 o4 1000 o5 o6 0


def pX2_readShare_s3 (N : Nat) (a3 : (Nat → Int32)) (o4 : Int32) (o5 : Int32) (o6 : Int32) : Option (Int32 × Int32 × Int32) :=
  gbd (pX2_takeAll_s3 N a3 o4 o5 o6) fun z_1 =>
  gbd (pX2_readNumber N a3 o4 z_1.1 z_1.2) fun z_2 =>
  some (z_2.1, z_2.2.1, z_2.2.2)


def pX2_takeAll_s2_2 (N : Nat) (a3 : (Nat → Int32)) (o4 : Int32) : Nat → Int32 → Int32 → Int32 → Option (Int32 × Int32)
  | 0, _, _, _ => none
  | n + 1, o5, o6, x2 =>
  gbd (pJ0_length_8abf5 2) fun z_1 =>
  if z_1 ≤ x2 then
    some (o5, o6)
  else
    gbd (pJ0_charAt_5068e 2 x2) fun z_2 =>
    gbd (pX2_take N a3 o4 o5 o6 z_2) fun z_3 =>
    pX2_takeAll_s2_2 N a3 o4 n z_3.2.1 z_3.2.2 (x2 + 1)


def pX2_takeAll_s2 (N : Nat) (a3 : (Nat → Int32)) (o4 : Int32) (o5 : Int32) (o6 : Int32) : Option (Int32 × Int32) :=
  pX2_takeAll_s2_2 N a3 o4 1000 o5 o6 0


def pX2_add (N : Nat) (o4 : Int32) (o6 : Int32) (a7 : (Nat → Int32)) (a8 : (Nat → Int32)) (a9 : (Nat → Int32)) (o10 : Int32) (x1 : Int32) (x2 : Int32) (x3 : Int32) : Option (((Nat → Int32)) × ((Nat → Int32)) × ((Nat → Int32)) × Int32) :=
  if o6 = 0 then
    if o10 < o4 then
      gck (ginb o10 N) <|
      gnm (upd a7 (Int32.toNatClampNeg o10) x1) fun f_2 =>
      gck (ginb o10 N) <|
      gnm (upd a8 (Int32.toNatClampNeg o10) x2) fun f_4 =>
      gck (ginb o10 N) <|
      gnm (upd a9 (Int32.toNatClampNeg o10) x3) fun f_6 =>
      some (f_2, f_4, f_6, (o10 + 1))
    else
      some (a7, a8, a9, o10)
  else
    some (a7, a8, a9, o10)


def pX2_readBoth_7 (N : Nat) (kF : (Nat → Int32) → Int32 → (Nat → Int32) → (Nat → Int32) → (Nat → Int32) → Int32 → Int32 → Int32 → Int32 → Option (((Nat → Int32)) × ((Nat → Int32)) × ((Nat → Int32)) × Int32 × Int32 × Int32)) (a3 : (Nat → Int32)) (o4 : Int32) : Nat → ((Nat → Int32)) → ((Nat → Int32)) → ((Nat → Int32)) → Int32 → Int32 → Int32 → Int32 → Int32 → Option (((Nat → Int32)) × ((Nat → Int32)) × ((Nat → Int32)) × Int32 × Int32 × Int32)
  | 0, _, _, _, _, _, _, _, _ => none
  | n + 1, a7, a8, a9, o5, o6, o10, x1, x2 =>
  if o4 ≤ x2 then
    some (a7, a8, a9, o5, o6, o10)
  else
    gbd (pX2_sign N a3 o4 o5 o6) fun z_1 =>
    if z_1 = 38 then
      gbd (kF a3 o4 a7 a8 a9 (o5 + 1) o6 o10 x1) fun z_2 =>
      gbd (pX2_add N o4 z_2.2.2.2.2.1 z_2.1 z_2.2.1 z_2.2.2.1 z_2.2.2.2.2.2 (-2) 0 0) fun z_3 =>
      pX2_readBoth_7 N kF a3 o4 n z_3.1 z_3.2.1 z_3.2.2.1 z_2.2.2.2.1 z_2.2.2.2.2.1 z_3.2.2.2 x1 (x2 + 1)
    else
      some (a7, a8, a9, o5, o6, o10)


def pX2_readBoth (N : Nat) (kF : (Nat → Int32) → Int32 → (Nat → Int32) → (Nat → Int32) → (Nat → Int32) → Int32 → Int32 → Int32 → Int32 → Option (((Nat → Int32)) × ((Nat → Int32)) × ((Nat → Int32)) × Int32 × Int32 × Int32)) (a3 : (Nat → Int32)) (o4 : Int32) (a7 : (Nat → Int32)) (a8 : (Nat → Int32)) (a9 : (Nat → Int32)) (o5 : Int32) (o6 : Int32) (o10 : Int32) (x1 : Int32) : Option (((Nat → Int32)) × ((Nat → Int32)) × ((Nat → Int32)) × Int32 × Int32 × Int32) :=
  gbd (kF a3 o4 a7 a8 a9 o5 o6 o10 x1) fun z_1 =>
  pX2_readBoth_7 N kF a3 o4 1000 z_1.1 z_1.2.1 z_1.2.2.1 z_1.2.2.2.1 z_1.2.2.2.2.1 z_1.2.2.2.2.2 x1 0


def pX2_readEither_7 (N : Nat) (kF : (Nat → Int32) → Int32 → (Nat → Int32) → (Nat → Int32) → (Nat → Int32) → Int32 → Int32 → Int32 → Int32 → Option (((Nat → Int32)) × ((Nat → Int32)) × ((Nat → Int32)) × Int32 × Int32 × Int32)) (a3 : (Nat → Int32)) (o4 : Int32) : Nat → ((Nat → Int32)) → ((Nat → Int32)) → ((Nat → Int32)) → Int32 → Int32 → Int32 → Int32 → Int32 → Option (((Nat → Int32)) × ((Nat → Int32)) × ((Nat → Int32)) × Int32 × Int32 × Int32)
  | 0, _, _, _, _, _, _, _, _ => none
  | n + 1, a7, a8, a9, o5, o6, o10, x1, x2 =>
  if o4 ≤ x2 then
    some (a7, a8, a9, o5, o6, o10)
  else
    gbd (pX2_sign N a3 o4 o5 o6) fun z_1 =>
    if z_1 = 124 then
      gbd (pX2_readBoth N kF a3 o4 a7 a8 a9 (o5 + 1) o6 o10 x1) fun z_2 =>
      gbd (pX2_add N o4 z_2.2.2.2.2.1 z_2.1 z_2.2.1 z_2.2.2.1 z_2.2.2.2.2.2 (-3) 0 0) fun z_3 =>
      pX2_readEither_7 N kF a3 o4 n z_3.1 z_3.2.1 z_3.2.2.1 z_2.2.2.2.1 z_2.2.2.2.2.1 z_3.2.2.2 x1 (x2 + 1)
    else
      some (a7, a8, a9, o5, o6, o10)


def pX2_readEither (N : Nat) (kF : (Nat → Int32) → Int32 → (Nat → Int32) → (Nat → Int32) → (Nat → Int32) → Int32 → Int32 → Int32 → Int32 → Option (((Nat → Int32)) × ((Nat → Int32)) × ((Nat → Int32)) × Int32 × Int32 × Int32)) (a3 : (Nat → Int32)) (o4 : Int32) (a7 : (Nat → Int32)) (a8 : (Nat → Int32)) (a9 : (Nat → Int32)) (o5 : Int32) (o6 : Int32) (o10 : Int32) (x1 : Int32) : Option (((Nat → Int32)) × ((Nat → Int32)) × ((Nat → Int32)) × Int32 × Int32 × Int32) :=
  gbd (pX2_readBoth N kF a3 o4 a7 a8 a9 o5 o6 o10 x1) fun z_1 =>
  pX2_readEither_7 N kF a3 o4 1000 z_1.1 z_1.2.1 z_1.2.2.1 z_1.2.2.2.1 z_1.2.2.2.2.1 z_1.2.2.2.2.2 x1 0


def pX2_readPartB_156 (N : Nat) (kF : (Nat → Int32) → Int32 → (Nat → Int32) → (Nat → Int32) → (Nat → Int32) → Int32 → Int32 → Int32 → Int32 → Option (((Nat → Int32)) × ((Nat → Int32)) × ((Nat → Int32)) × Int32 × Int32 × Int32)) (a3 : (Nat → Int32)) (o4 : Int32) (a7 : (Nat → Int32)) (a8 : (Nat → Int32)) (a9 : (Nat → Int32)) (o5 : Int32) (o6 : Int32) (o10 : Int32) (x3 : Int32) (x4 : Int32) : Option (((Nat → Int32)) × ((Nat → Int32)) × ((Nat → Int32)) × Int32 × Int32 × Int32) :=
  gbd (pX2_readNumber N a3 o4 o5 o6) fun z_1 =>
  gnm z_1.1 fun v_2 =>
  if x4 = 60 then
    gbd (pX2_add N o4 z_1.2.2 a7 a8 a9 o10 x3 0 (v_2 - 1)) fun z_5 =>
    some (z_5.1, z_5.2.1, z_5.2.2.1, z_1.2.1, z_1.2.2, z_5.2.2.2)
  else
    if x4 = 61 then
      gbd (pX2_add N o4 z_1.2.2 a7 a8 a9 o10 x3 v_2 v_2) fun z_4 =>
      some (z_4.1, z_4.2.1, z_4.2.2.1, z_1.2.1, z_1.2.2, z_4.2.2.2)
    else
      gbd (pX2_add N o4 z_1.2.2 a7 a8 a9 o10 x3 (v_2 + 1) 1000) fun z_3 =>
      some (z_3.1, z_3.2.1, z_3.2.2.1, z_1.2.1, z_1.2.2, z_3.2.2.2)


def pX2_readPartB_97 (N : Nat) (kF : (Nat → Int32) → Int32 → (Nat → Int32) → (Nat → Int32) → (Nat → Int32) → Int32 → Int32 → Int32 → Int32 → Option (((Nat → Int32)) × ((Nat → Int32)) × ((Nat → Int32)) × Int32 × Int32 × Int32)) (a3 : (Nat → Int32)) (o4 : Int32) (a7 : (Nat → Int32)) (a8 : (Nat → Int32)) (a9 : (Nat → Int32)) (o5 : Int32) (o6 : Int32) (o10 : Int32) (x3 : Int32) : Option (((Nat → Int32)) × ((Nat → Int32)) × ((Nat → Int32)) × Int32 × Int32 × Int32) :=
  if x3 < 0 then
    some (a7, a8, a9, o5, 1, o10)
  else
    gbd (pX2_sign N a3 o4 (o5 + 1) o6) fun z_1 =>
    if z_1 = 60 then
      pX2_readPartB_156 N kF a3 o4 a7 a8 a9 ((o5 + 1) + 1) o6 o10 x3 z_1
    else
      if z_1 = 61 then
        pX2_readPartB_156 N kF a3 o4 a7 a8 a9 ((o5 + 1) + 1) o6 o10 x3 z_1
      else
        if z_1 = 62 then
          pX2_readPartB_156 N kF a3 o4 a7 a8 a9 ((o5 + 1) + 1) o6 o10 x3 z_1
        else
          pX2_readPartB_156 N kF a3 o4 a7 a8 a9 (o5 + 1) 1 o10 x3 z_1


def pX2_readPartB_59 (N : Nat) (kF : (Nat → Int32) → Int32 → (Nat → Int32) → (Nat → Int32) → (Nat → Int32) → Int32 → Int32 → Int32 → Int32 → Option (((Nat → Int32)) × ((Nat → Int32)) × ((Nat → Int32)) × Int32 × Int32 × Int32)) (a3 : (Nat → Int32)) (o4 : Int32) (a7 : (Nat → Int32)) (a8 : (Nat → Int32)) (a9 : (Nat → Int32)) (o5 : Int32) (o6 : Int32) (o10 : Int32) (x1 : Int32) (x2 : Int32) (x3 : Int32) : Option (((Nat → Int32)) × ((Nat → Int32)) × ((Nat → Int32)) × Int32 × Int32 × Int32) :=
  if x2 = 40 then
    if 5 ≤ x1 then
      pX2_readPartB_97 N kF a3 o4 a7 a8 a9 o5 o6 o10 x3
    else
      gbd (pX2_readEither N kF a3 o4 a7 a8 a9 (o5 + 1) o6 o10 (x1 + 1)) fun z_1 =>
      gbd (pX2_take N a3 o4 z_1.2.2.2.1 z_1.2.2.2.2.1 41) fun z_2 =>
      some (z_1.1, z_1.2.1, z_1.2.2.1, z_2.2.1, z_2.2.2, z_1.2.2.2.2.2)
  else
    pX2_readPartB_97 N kF a3 o4 a7 a8 a9 o5 o6 o10 x3


def pX2_readPartB_20 (N : Nat) (kF : (Nat → Int32) → Int32 → (Nat → Int32) → (Nat → Int32) → (Nat → Int32) → Int32 → Int32 → Int32 → Int32 → Option (((Nat → Int32)) × ((Nat → Int32)) × ((Nat → Int32)) × Int32 × Int32 × Int32)) (a3 : (Nat → Int32)) (o4 : Int32) (a7 : (Nat → Int32)) (a8 : (Nat → Int32)) (a9 : (Nat → Int32)) (o5 : Int32) (o6 : Int32) (o10 : Int32) (x1 : Int32) (x2 : Int32) (y0 : Int32) : Option (((Nat → Int32)) × ((Nat → Int32)) × ((Nat → Int32)) × Int32 × Int32 × Int32) :=
  if x2 = 33 then
    if 5 ≤ x1 then
      pX2_readPartB_59 N kF a3 o4 a7 a8 a9 o5 o6 o10 x1 x2 y0
    else
      gbd (kF a3 o4 a7 a8 a9 (o5 + 1) o6 o10 (x1 + 1)) fun z_1 =>
      gbd (pX2_add N o4 z_1.2.2.2.2.1 z_1.1 z_1.2.1 z_1.2.2.1 z_1.2.2.2.2.2 (-1) 0 0) fun z_2 =>
      some (z_2.1, z_2.2.1, z_2.2.2.1, z_1.2.2.2.1, z_1.2.2.2.2.1, z_2.2.2.2)
  else
    pX2_readPartB_59 N kF a3 o4 a7 a8 a9 o5 o6 o10 x1 x2 y0


def pX2_readPartB (N : Nat) (kF : (Nat → Int32) → Int32 → (Nat → Int32) → (Nat → Int32) → (Nat → Int32) → Int32 → Int32 → Int32 → Int32 → Option (((Nat → Int32)) × ((Nat → Int32)) × ((Nat → Int32)) × Int32 × Int32 × Int32)) (a3 : (Nat → Int32)) (o4 : Int32) (a7 : (Nat → Int32)) (a8 : (Nat → Int32)) (a9 : (Nat → Int32)) (o5 : Int32) (o6 : Int32) (o10 : Int32) (x1 : Int32) : Option (((Nat → Int32)) × ((Nat → Int32)) × ((Nat → Int32)) × Int32 × Int32 × Int32) :=
  gbd (pX2_sign N a3 o4 o5 o6) fun z_1 =>
  if 0 ≤ z_1 then
    gbd (pJ0_indexOf_0f7a4 1 (UInt32.toInt32 (Int32.toUInt32 z_1 % 65536))) fun z_2 =>
    pX2_readPartB_20 N kF a3 o4 a7 a8 a9 o5 o6 o10 x1 z_1 z_2
  else
    pX2_readPartB_20 N kF a3 o4 a7 a8 a9 o5 o6 o10 x1 z_1 (-1)


def pX2_readPart (N : Nat) : Nat → (Nat → Int32) → Int32 → (Nat → Int32) → (Nat → Int32) → (Nat → Int32) → Int32 → Int32 → Int32 → Int32 → Option (((Nat → Int32)) × ((Nat → Int32)) × ((Nat → Int32)) × Int32 × Int32 × Int32)
  | 0, _, _, _, _, _, _, _, _, _ => none
  | d + 1, a3, o4, a7, a8, a9, o5, o6, o10, x1 => pX2_readPartB N (pX2_readPart N d) a3 o4 a7 a8 a9 o5 o6 o10 x1

def pX2_readGain_s2 (N : Nat) (a3 : (Nat → Int32)) (o4 : Int32) (a7 : (Nat → Int32)) (a8 : (Nat → Int32)) (a9 : (Nat → Int32)) (o5 : Int32) (o6 : Int32) (o10 : Int32) (x2 : Int32) : Option (((Nat → Int32)) × ((Nat → Int32)) × ((Nat → Int32)) × Int32 × Int32 × Int32) :=
  gbd (pX2_takeAll_s2 N a3 o4 o5 o6) fun z_1 =>
  gbd (pX2_readNumber N a3 o4 z_1.1 z_1.2) fun z_2 =>
  gnm z_2.1 fun v_3 =>
  gbd (pX2_take N a3 o4 z_2.2.1 z_2.2.2 32) fun z_4 =>
  gbd (pX2_readEither N (pX2_readPart N 8) a3 o4 a7 a8 a9 z_4.2.1 z_4.2.2 o10 0) fun z_5 =>
  gbd (pX2_add N o4 z_5.2.2.2.2.1 z_5.1 z_5.2.1 z_5.2.2.1 z_5.2.2.2.2.2 (-4) (x2 * v_3) 0) fun z_6 =>
  some (z_6.1, z_6.2.1, z_6.2.2.1, z_5.2.2.2.1, z_5.2.2.2.2.1, z_6.2.2.2)


def pX2_takeAll_s0_2 (N : Nat) (a3 : (Nat → Int32)) (o4 : Int32) : Nat → Int32 → Int32 → Int32 → Option (Int32 × Int32)
  | 0, _, _, _ => none
  | n + 1, o5, o6, x2 =>
  gbd (pJ0_length_8abf5 0) fun z_1 =>
  if z_1 ≤ x2 then
    some (o5, o6)
  else
    gbd (pJ0_charAt_5068e 0 x2) fun z_2 =>
    gbd (pX2_take N a3 o4 o5 o6 z_2) fun z_3 =>
    pX2_takeAll_s0_2 N a3 o4 n z_3.2.1 z_3.2.2 (x2 + 1)


def pX2_takeAll_s0 (N : Nat) (a3 : (Nat → Int32)) (o4 : Int32) (o5 : Int32) (o6 : Int32) : Option (Int32 × Int32) :=
  pX2_takeAll_s0_2 N a3 o4 1000 o5 o6 0


def pX2_readGain_s0 (N : Nat) (a3 : (Nat → Int32)) (o4 : Int32) (a7 : (Nat → Int32)) (a8 : (Nat → Int32)) (a9 : (Nat → Int32)) (o5 : Int32) (o6 : Int32) (o10 : Int32) (x2 : Int32) : Option (((Nat → Int32)) × ((Nat → Int32)) × ((Nat → Int32)) × Int32 × Int32 × Int32) :=
  gbd (pX2_takeAll_s0 N a3 o4 o5 o6) fun z_1 =>
  gbd (pX2_readNumber N a3 o4 z_1.1 z_1.2) fun z_2 =>
  gnm z_2.1 fun v_3 =>
  gbd (pX2_take N a3 o4 z_2.2.1 z_2.2.2 32) fun z_4 =>
  gbd (pX2_readEither N (pX2_readPart N 8) a3 o4 a7 a8 a9 z_4.2.1 z_4.2.2 o10 0) fun z_5 =>
  gbd (pX2_add N o4 z_5.2.2.2.2.1 z_5.1 z_5.2.1 z_5.2.2.1 z_5.2.2.2.2.2 (-4) (x2 * v_3) 0) fun z_6 =>
  some (z_6.1, z_6.2.1, z_6.2.2.1, z_5.2.2.2.1, z_5.2.2.2.2.1, z_6.2.2.2)


def pX2_read_178 (N : Nat) (a3 : (Nat → Int32)) (o4 : Int32) (a7 : (Nat → Int32)) (a8 : (Nat → Int32)) (a9 : (Nat → Int32)) (o0 : Int32) (o1 : Int32) (o2 : Int32) (o5 : Int32) (o6 : Int32) (o10 : Int32) : Option (Int32 × ((Nat → Int32)) × ((Nat → Int32)) × ((Nat → Int32)) × Int32 × Int32 × Int32 × Int32 × Int32 × Int32) :=
  if o6 = 0 then
    if o4 ≤ o5 then
      some ((-1), a7, a8, a9, o0, o1, o2, o5, o6, o10)
    else
      some (o5, a7, a8, a9, o0, o1, o2, o5, o6, o10)
  else
    some (o5, a7, a8, a9, o0, o1, o2, o5, o6, o10)


def pX2_read_140 (N : Nat) (k4 : (Nat → Int32) → (Nat → Int32) → (Nat → Int32) → Int32 → Int32 → Int32 → Int32 → Int32 → Int32 → Int32 → Int32 → Option (Int32 × ((Nat → Int32)) × ((Nat → Int32)) × ((Nat → Int32)) × Int32 × Int32 × Int32 × Int32 × Int32 × Int32)) (a3 : (Nat → Int32)) (o4 : Int32) (a7 : (Nat → Int32)) (a8 : (Nat → Int32)) (a9 : (Nat → Int32)) (o0 : Int32) (o1 : Int32) (o2 : Int32) (o5 : Int32) (o6 : Int32) (o10 : Int32) (x2 : Int32) : Option (Int32 × ((Nat → Int32)) × ((Nat → Int32)) × ((Nat → Int32)) × Int32 × Int32 × Int32 × Int32 × Int32 × Int32) :=
  if 10 ≤ x2 then
    k4 a7 a8 a9 o0 o1 o2 o5 o6 o10 0 (x2 + 1)
  else
    if o4 ≤ o5 then
      k4 a7 a8 a9 o0 o1 o2 o5 o6 o10 0 (x2 + 1)
    else
      gbd (pX2_take N a3 o4 o5 o6 59) fun z_1 =>
      if z_1.1 = 0 then
        k4 a7 a8 a9 o0 o1 o2 z_1.2.1 z_1.2.2 o10 0 (x2 + 1)
      else
        k4 a7 a8 a9 o0 o1 o2 z_1.2.1 z_1.2.2 o10 1 (x2 + 1)


def pX2_read_4 (N : Nat) (a3 : (Nat → Int32)) (o4 : Int32) : Nat → ((Nat → Int32)) → ((Nat → Int32)) → ((Nat → Int32)) → Int32 → Int32 → Int32 → Int32 → Int32 → Int32 → Int32 → Int32 → Option (Int32 × ((Nat → Int32)) × ((Nat → Int32)) × ((Nat → Int32)) × Int32 × Int32 × Int32 × Int32 × Int32 × Int32)
  | 0, _, _, _, _, _, _, _, _, _, _, _ => none
  | n + 1, a7, a8, a9, o0, o1, o2, o5, o6, o10, x1, x2 =>
  if 10 < x2 then
    pX2_read_178 N a3 o4 a7 a8 a9 o0 o1 o2 o5 o6 o10
  else
    if x1 = 0 then
      pX2_read_178 N a3 o4 a7 a8 a9 o0 o1 o2 o5 o6 o10
    else
      gbd (pX2_sign N a3 o4 o5 o6) fun z_1 =>
      if z_1 = 102 then
        gbd (pX2_readShare_s3 N a3 o4 o5 o6) fun z_2 =>
        pX2_read_140 N (pX2_read_4 N a3 o4 n) a3 o4 a7 a8 a9 z_2.1 o1 o2 z_2.2.1 z_2.2.2 o10 x2
      else
      if z_1 = 108 then
        gbd (pX2_readGain_s2 N a3 o4 a7 a8 a9 o5 o6 o10 (-1)) fun z_3 =>
        pX2_read_140 N (pX2_read_4 N a3 o4 n) a3 o4 z_3.1 z_3.2.1 z_3.2.2.1 o0 o1 o2 z_3.2.2.2.1 z_3.2.2.2.2.1 z_3.2.2.2.2.2 x2
      else
      if z_1 = 109 then
        gbd (pX2_readGain_s0 N a3 o4 a7 a8 a9 o5 o6 o10 1) fun z_4 =>
        pX2_read_140 N (pX2_read_4 N a3 o4 n) a3 o4 z_4.1 z_4.2.1 z_4.2.2.1 o0 o1 o2 z_4.2.2.2.1 z_4.2.2.2.2.1 z_4.2.2.2.2.2 x2
      else
      if z_1 = 111 then
        gbd (pX2_readShare_s4 N a3 o4 o5 o6) fun z_5 =>
        pX2_read_140 N (pX2_read_4 N a3 o4 n) a3 o4 a7 a8 a9 o0 z_5.1 o2 z_5.2.1 z_5.2.2 o10 x2
      else
      if z_1 = 112 then
        gbd (pX2_readShare_s5 N a3 o4 o5 o6) fun z_6 =>
        pX2_read_140 N (pX2_read_4 N a3 o4 n) a3 o4 a7 a8 a9 o0 o1 z_6.1 z_6.2.1 z_6.2.2 o10 x2
      else
      pX2_read_140 N (pX2_read_4 N a3 o4 n) a3 o4 a7 a8 a9 o0 o1 o2 o5 1 o10 x2


def pX2_read (N : Nat) (a3 : (Nat → Int32)) (o4 : Int32) (a7 : (Nat → Int32)) (a8 : (Nat → Int32)) (a9 : (Nat → Int32)) (o0 : Int32) (o1 : Int32) (o2 : Int32) (o5 : Int32) (o6 : Int32) (o10 : Int32) : Option (Int32 × ((Nat → Int32)) × ((Nat → Int32)) × ((Nat → Int32)) × Int32 × Int32 × Int32 × Int32 × Int32 × Int32) :=
  pX2_read_4 N a3 o4 1000 a7 a8 a9 o0 o1 o2 o5 o6 o10 1 1

