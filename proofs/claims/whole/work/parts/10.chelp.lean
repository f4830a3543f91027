/-! THE COMPONENT's CELLS: three worlds, grader, trace; chiefs and houses are frozen -/
abbrev gF : Type := (Nat → Bool) × (Nat → Int32) × (Nat → Int32) × (Nat → Int32) × (Nat → Int32) × (Nat → Bool) × (Nat → Nat → Int32) × (Nat → Nat → Nat) × (Nat → Nat → Nat → Int32) × (Nat → Nat) × Nat
/-- a chief: is there, kind, number, v, desk -/
def chv (F : gF) (b : Nat) : Bool := F.1 b
def ck (F : gF) (b : Nat) : Int32 := F.2.1 b
def cn (F : gF) (b : Nat) : Int32 := F.2.2.1 b
def cv (F : gF) (b : Nat) : Int32 := F.2.2.2.1 b
def cd (F : gF) (b : Nat) : Int32 := F.2.2.2.2.1 b
/-- a house: is there, its numbers, its rows' places, their ints, their length -/
def hsv (F : gF) (b : Nat) : Bool := F.2.2.2.2.2.1 b
def hI (F : gF) (b k : Nat) : Int32 := F.2.2.2.2.2.2.1 b k
def hr (F : gF) (b k : Nat) : Nat := F.2.2.2.2.2.2.2.1 b k
def ha (F : gF) (b k : Nat) : Nat → Int32 := F.2.2.2.2.2.2.2.2.1 b k
def hn (F : gF) (b : Nat) : Nat := F.2.2.2.2.2.2.2.2.2.1 b
/-- the grader's plain chief -/
def gpl (F : gF) : Nat := F.2.2.2.2.2.2.2.2.2.2
def gFz (E : gE) (F : gF) : Prop := (∀ b, chv F b = true → ∃ j : Nat, j < 7 ∧ ck F b = nI j ∧ gfz E b = some (.inr (gKc.getD j 0, [.int (ck F b), .int (cn F b), .int (cv F b), .int (cd F b)]))) ∧ ∀ b, hsv F b = true → (∃ (tx : Value) (sz at_ fl : Int32), gfz E b = some (.inr (2, [.int (hI F b 0), .int (hI F b 1), .int (hI F b 2), tx, .int sz, .int at_, .int fl, .ref (hr F b 7), .ref (hr F b 8), .ref (hr F b 9), .int (hI F b 10)]))) ∧ ∀ k : Nat, k = 7 ∨ k = 8 ∨ k = 9 → gfz E (hr F b k) = some (.inl (gI E, hn F b, .inl (ha F b k)))
theorem gk_inj : ∀ i, i < 7 → ∀ j, j < 7 → nI i = nI j → i = j := by decide
theorem gF_at {E : gE} {F : gF} {b : Nat} {k : Int32} {j : Nat} (hF : gFz E F) (hv : chv F b = true) (hk : ck F b = k) (hj : j < 7 ∧ k = nI j) : gfz E b = some (.inr (gKc.getD j 0, [.int (ck F b), .int (cn F b), .int (cv F b), .int (cd F b)])) := by
  obtain ⟨i, h1, h2, h3⟩ := hF.1 b hv
  have e : i = j := gk_inj i h1 j hj.1 (h2.symm.trans (hk.trans hj.2))
  rw [← e]; exact h3
theorem gF_last {E : gE} {F : gF} {b : Nat} (hF : gFz E F) (hv : chv F b = true) (q0 : ¬ ck F b = 0) (q1 : ¬ ck F b = 1) (q2 : ¬ ck F b = 2) (q3 : ¬ ck F b = 3) (q4 : ¬ ck F b = 4) (q5 : ¬ ck F b = 5) : ck F b = 6 := by
  obtain ⟨i, h1, h2, -⟩ := hF.1 b hv
  match i, h1 with
  | 0, _ => exact absurd h2 q0
  | 1, _ => exact absurd h2 q1
  | 2, _ => exact absurd h2 q2
  | 3, _ => exact absurd h2 q3
  | 4, _ => exact absurd h2 q4
  | 5, _ => exact absurd h2 q5
  | 6, _ => exact h2
def gqok (F : gF) (x : Option Nat) : Bool := match x with | none => true | some b => chv F b
def gmt {α : Type} (z : Option Nat) (x : Option α) (f : Nat → Option α) : Option α := match z with | none => x | some b => f b
theorem gi_mt {α : Type} {z : Option Nat} {x : Option α} {f : Nat → Option α} {r : α} (h : gmt z x f = some r) : (z = none ∧ x = some r) ∨ ∃ b, z = some b ∧ f b = some r := by
  cases z with
  | none => exact Or.inl ⟨rfl, h⟩
  | some b => exact Or.inr ⟨b, rfl, h⟩
def gfitC (f : Nat → Int32) (n : Int32) : Bool := (List.range n.toNatClampNeg).all (fun i => fits .char (.int (f i)))
theorem gfitC_fit {f : Nat → Int32} {n : Int32} (h : gfitC f n = true) : ∀ i, i < n.toNatClampNeg → fits .char (.int (f ((0 : Int32).toNatClampNeg + i))) = true := by
  intro i hi
  have z := List.all_eq_true.mp h i (List.mem_range.mpr hi)
  rw [show (0 : Int32).toNatClampNeg + i = i from Nat.zero_add i]
  exact z
def gChW : List Cond := wsX00 ++ wsX30 ++ wsX40 ++ wsX50 ++ wsX60 ++ wsX70 ++ wsX90
section CW
variable {Γ : gT} {cc : ByteArray} {Ts : List Cond} {own : String} {cl sl pc index : Nat} {L : List (Nat × Value)} {st : List Value} {ws ws' : va_W} {F : gF} {b : Nat} {R0 : Room}
theorem g_iushr {x y : Int32} (K : gOK Γ cc Ts own) (hd : decode cc pc = .ok (.iushr, 1)) (k : gGO Γ cl sl (pc + 1) L (.int (UInt32.toInt32 (Int32.toUInt32 x >>> (Int32.toUInt32 y &&& Int32.toUInt32 31))) :: st) ws) : gGO Γ cl sl pc L (.int y :: .int x :: st) ws := fun H locs ls hP hD hS h => lv_iushr K.x K.b hd rfl (k H locs ls hP hD hS h)
theorem g_ldcw {v : Int32} (K : gOK Γ cc Ts own) (hc : (Cond.constant own index v) ∈ Ts) (hd : decode cc pc = .ok (.ldc_w index, 3)) (k : gGO Γ cl sl (pc + 3) L (.int v :: st) ws) : gGO Γ cl sl pc L st ws := fun H locs ls hP hD hS h => lv_ldcw K.x K.b K.o (K.t _ hc) hd (k H locs ls hP hD hS h)
theorem g_mabs {x : Int32} (K : gOK Γ cc Ts own) (h1 : Cond.methodLink own index Lib.Math.abs.name ∈ Ts) (h2 : Cond.static Lib.Math.abs.name ∈ Ts) (h3 : Cond.initialized "java/lang/Math" ∈ Ts) (h4 : Cond.code Lib.Math.abs.name Lib.Math.abs.code 1 (some .int) ∈ Ts) (hRm : g_R Γ = R0) (hR : 1 ≤ R0.frames ∧ (st.map fun v => v.category).sum + 13 ≤ R0.locals ∧ cl ≤ R0.cells ∧ sl ≤ R0.slots) (hd : decode cc pc = .ok (.invokestatic index, 3)) (k : gGO Γ cl sl (pc + 3) L (.int (if 0 ≤ x then x else 0 - x) :: st) ws) : gGO Γ cl sl pc L (.int x :: st) ws := fun H locs ls hP hD hS h => va_mabs K.x K.b (K.n.trans h.1.symm) K.o (K.t _ h1) (K.t _ h2) (K.t _ h3) (K.t _ h4) (by rw [hRm]; exact hR.1) (by rw [hRm]; exact hR.2.1) (by rw [hRm]; exact hR.2.2.1) (by rw [hRm]; exact hR.2.2.2) hd (k H locs ls hP hD hS h)
theorem g_mmin {x y : Int32} (K : gOK Γ cc Ts own) (h1 : Cond.methodLink own index Lib.Math.min.name ∈ Ts) (h2 : Cond.static Lib.Math.min.name ∈ Ts) (h3 : Cond.initialized "java/lang/Math" ∈ Ts) (h4 : Cond.code Lib.Math.min.name Lib.Math.min.code 2 (some .int) ∈ Ts) (hRm : g_R Γ = R0) (hR : 1 ≤ R0.frames ∧ (st.map fun v => v.category).sum + 13 ≤ R0.locals ∧ cl ≤ R0.cells ∧ sl ≤ R0.slots) (hd : decode cc pc = .ok (.invokestatic index, 3)) (k : gGO Γ cl sl (pc + 3) L (.int (if y < x then y else x) :: st) ws) : gGO Γ cl sl pc L (.int y :: .int x :: st) ws := fun H locs ls hP hD hS h => va_mmin K.x K.b (K.n.trans h.1.symm) K.o (K.t _ h1) (K.t _ h2) (K.t _ h3) (K.t _ h4) (by rw [hRm]; exact hR.1) (by rw [hRm]; exact hR.2.1) (by rw [hRm]; exact hR.2.2.1) (by rw [hRm]; exact hR.2.2.2) hd (k H locs ls hP hD hS h)
theorem g_mmax {x y : Int32} (K : gOK Γ cc Ts own) (h1 : Cond.methodLink own index Lib.Math.max.name ∈ Ts) (h2 : Cond.static Lib.Math.max.name ∈ Ts) (h3 : Cond.initialized "java/lang/Math" ∈ Ts) (h4 : Cond.code Lib.Math.max.name Lib.Math.max.code 2 (some .int) ∈ Ts) (hRm : g_R Γ = R0) (hR : 1 ≤ R0.frames ∧ (st.map fun v => v.category).sum + 13 ≤ R0.locals ∧ cl ≤ R0.cells ∧ sl ≤ R0.slots) (hd : decode cc pc = .ok (.invokestatic index, 3)) (k : gGO Γ cl sl (pc + 3) L (.int (if x < y then y else x) :: st) ws) : gGO Γ cl sl pc L (.int y :: .int x :: st) ws := fun H locs ls hP hD hS h => va_mmax K.x K.b (K.n.trans h.1.symm) K.o (K.t _ h1) (K.t _ h2) (K.t _ h3) (K.t _ h4) (by rw [hRm]; exact hR.1) (by rw [hRm]; exact hR.2.1) (by rw [hRm]; exact hR.2.2.1) (by rw [hRm]; exact hR.2.2.2) hd (k H locs ls hP hD hS h)
theorem g_mabsl {x : Int64} (K : gOK Γ cc Ts own) (h1 : Cond.methodLink own index Lib.MathLoose.abs_long.x ∈ Ts) (h2 : Cond.static Lib.MathLoose.abs_long.x ∈ Ts) (h3 : Cond.initialized "java/lang/Math" ∈ Ts) (h4 : Cond.code Lib.MathLoose.abs_long.x Lib.MathLoose.abs_long.code 2 (some .long) ∈ Ts) (hRm : g_R Γ = R0) (hR : 1 ≤ R0.frames ∧ (st.map fun v => v.category).sum + 13 ≤ R0.locals ∧ cl ≤ R0.cells ∧ sl ≤ R0.slots) (hd : decode cc pc = .ok (.invokestatic index, 3)) (k : gGO Γ cl sl (pc + 3) L (.long (if 0 < x then x else -x) :: st) ws) : gGO Γ cl sl pc L (.long x :: st) ws := fun H locs ls hP hD hS h => va_mabs_long K.x K.b (K.n.trans h.1.symm) K.o (K.t _ h1) (K.t _ h2) (K.t _ h3) (K.t _ h4) (by rw [hRm]; exact hR.1) (by rw [hRm]; exact hR.2.1) (by rw [hRm]; exact hR.2.2.1) (by rw [hRm]; exact hR.2.2.2) hd (k H locs ls hP hD hS h)
theorem g_copy {a0 a n0 n1 : Nat} {cA : ClassId} {f g : Nat → Int32} {ty : FieldType} {sp dp n : Int32} (K : gOK Γ cc Ts own) (q0 q1 : Nat) (ha0 : ws[q0]? = some (a0, .inl (cA, n0, .inl f))) (ha1 : ws[q1]? = some (a, .inl (cA, n1, .inl g))) (t0 : Nat) (ht : (gTy (g_E Γ))[t0]? = some (cA, ty)) (hprim : refKind ty = false) (h1 : ¬ sp < 0) (h2 : ¬ dp < 0) (h3 : ¬ n < 0) (h4 : sp.toNatClampNeg + n.toNatClampNeg ≤ n0 ∧ dp.toNatClampNeg + n.toNatClampNeg ≤ n1) (hfit : ∀ i, i < n.toNatClampNeg → fits ty (.int (f (sp.toNatClampNeg + i))) = true) (w1 : Cond.methodLink own index arraycopyName ∈ Ts) (w2 : Cond.native arraycopyName ∈ Ts) (w3 : Cond.static arraycopyName ∈ Ts) (w4 : Cond.initialized "java/lang/System" ∈ Ts) (hRm : g_R Γ = R0) (hR : 1 ≤ R0.frames ∧ (st.map fun v => v.category).sum + (nativeFrameWords "java/lang/System" "arraycopy" 5 + 11) ≤ R0.locals) (hd : decode cc pc = .ok (.invokestatic index, 3)) (hw : ws.set q1 (a, .inl (cA, n1, .inl (va_cpy f g sp.toNatClampNeg dp.toNatClampNeg n.toNatClampNeg))) = ws') (k : gGO Γ cl sl (pc + 3) L st ws') : gGO Γ cl sl pc L (.int n :: .int dp :: .ref a :: .int sp :: .ref a0 :: st) ws := fun H locs ls hP hD hS h => by
  subst hw
  exact va_copyi K.x K.b (K.n.trans h.1.symm) K.o (K.t _ w1) (K.t _ w2) (K.t _ w3) (K.t _ w4) K.K hP hD hS q0 q1 t0 t0 ha0 ha1 ht ht hprim h1 h2 h3 h4.1 h4.2 hfit (by rw [hRm]; exact hR.1) (by rw [hRm]; exact hR.2) hd (fun H locs hP hD hS => k H locs ls hP hD hS h)
theorem chg_0 (K : gOK Γ cc Ts own) (hF : gFz (g_E Γ) F) (hv : chv F b = true) (hch : ∀ w ∈ gChW, w ∈ Ts) (hl : Cond.fieldLink own index "ChiefGrades$Chief" "kind" "I" ∈ Ts) (hd : decode cc pc = .ok (.getfield index, 3)) (k : gGO Γ cl sl (pc + 3) L (.int (ck F b) :: st) ws) : gGO Γ cl sl pc L (.ref b :: st) ws := by
  obtain ⟨j, h1, -, e⟩ := hF.1 b hv
  match j, h1 with
  | 0, _ => exact g_getF (T := TX0) (ref := "ChiefGrades$Chief") K (fun w h => hch w (List.mem_append_left _ (List.mem_append_left _ (List.mem_append_left _ (List.mem_append_left _ (List.mem_append_left _ (List.mem_append_left _ (h)))))))) e rfl 0 (by decide) hl (Or.inl rfl) rfl hd k
  | 1, _ => exact g_getF (T := TX5) (ref := "ChiefGrades$Chief") K (fun w h => hch w (List.mem_append_left _ (List.mem_append_left _ (List.mem_append_left _ (List.mem_append_right _ h))))) e rfl 0 (by decide) hl (Or.inl rfl) rfl hd k
  | 2, _ => exact g_getF (T := TX9) (ref := "ChiefGrades$Chief") K (fun w h => hch w (List.mem_append_right _ h)) e rfl 0 (by decide) hl (Or.inl rfl) rfl hd k
  | 3, _ => exact g_getF (T := TX4) (ref := "ChiefGrades$Chief") K (fun w h => hch w (List.mem_append_left _ (List.mem_append_left _ (List.mem_append_left _ (List.mem_append_left _ (List.mem_append_right _ h)))))) e rfl 0 (by decide) hl (Or.inl rfl) rfl hd k
  | 4, _ => exact g_getF (T := TX6) (ref := "ChiefGrades$Chief") K (fun w h => hch w (List.mem_append_left _ (List.mem_append_left _ (List.mem_append_right _ h)))) e rfl 0 (by decide) hl (Or.inl rfl) rfl hd k
  | 5, _ => exact g_getF (T := TX3) (ref := "ChiefGrades$Chief") K (fun w h => hch w (List.mem_append_left _ (List.mem_append_left _ (List.mem_append_left _ (List.mem_append_left _ (List.mem_append_left _ (List.mem_append_right _ h))))))) e rfl 0 (by decide) hl (Or.inl rfl) rfl hd k
  | 6, _ => exact g_getF (T := TX7) (ref := "ChiefGrades$Chief") K (fun w h => hch w (List.mem_append_left _ (List.mem_append_right _ h))) e rfl 0 (by decide) hl (Or.inl rfl) rfl hd k
theorem chg_1 (K : gOK Γ cc Ts own) (hF : gFz (g_E Γ) F) (hv : chv F b = true) (hch : ∀ w ∈ gChW, w ∈ Ts) (hl : Cond.fieldLink own index "ChiefGrades$Chief" "number" "I" ∈ Ts) (hd : decode cc pc = .ok (.getfield index, 3)) (k : gGO Γ cl sl (pc + 3) L (.int (cn F b) :: st) ws) : gGO Γ cl sl pc L (.ref b :: st) ws := by
  obtain ⟨j, h1, -, e⟩ := hF.1 b hv
  match j, h1 with
  | 0, _ => exact g_getF (T := TX0) (ref := "ChiefGrades$Chief") K (fun w h => hch w (List.mem_append_left _ (List.mem_append_left _ (List.mem_append_left _ (List.mem_append_left _ (List.mem_append_left _ (List.mem_append_left _ (h)))))))) e rfl 1 (by decide) hl (Or.inl rfl) rfl hd k
  | 1, _ => exact g_getF (T := TX5) (ref := "ChiefGrades$Chief") K (fun w h => hch w (List.mem_append_left _ (List.mem_append_left _ (List.mem_append_left _ (List.mem_append_right _ h))))) e rfl 1 (by decide) hl (Or.inl rfl) rfl hd k
  | 2, _ => exact g_getF (T := TX9) (ref := "ChiefGrades$Chief") K (fun w h => hch w (List.mem_append_right _ h)) e rfl 1 (by decide) hl (Or.inl rfl) rfl hd k
  | 3, _ => exact g_getF (T := TX4) (ref := "ChiefGrades$Chief") K (fun w h => hch w (List.mem_append_left _ (List.mem_append_left _ (List.mem_append_left _ (List.mem_append_left _ (List.mem_append_right _ h)))))) e rfl 1 (by decide) hl (Or.inl rfl) rfl hd k
  | 4, _ => exact g_getF (T := TX6) (ref := "ChiefGrades$Chief") K (fun w h => hch w (List.mem_append_left _ (List.mem_append_left _ (List.mem_append_right _ h)))) e rfl 1 (by decide) hl (Or.inl rfl) rfl hd k
  | 5, _ => exact g_getF (T := TX3) (ref := "ChiefGrades$Chief") K (fun w h => hch w (List.mem_append_left _ (List.mem_append_left _ (List.mem_append_left _ (List.mem_append_left _ (List.mem_append_left _ (List.mem_append_right _ h))))))) e rfl 1 (by decide) hl (Or.inl rfl) rfl hd k
  | 6, _ => exact g_getF (T := TX7) (ref := "ChiefGrades$Chief") K (fun w h => hch w (List.mem_append_left _ (List.mem_append_right _ h))) e rfl 1 (by decide) hl (Or.inl rfl) rfl hd k
theorem chg_2 (K : gOK Γ cc Ts own) (hF : gFz (g_E Γ) F) (hv : chv F b = true) (hch : ∀ w ∈ gChW, w ∈ Ts) (hl : Cond.fieldLink own index "ChiefGrades$Chief" "v" "I" ∈ Ts) (hd : decode cc pc = .ok (.getfield index, 3)) (k : gGO Γ cl sl (pc + 3) L (.int (cv F b) :: st) ws) : gGO Γ cl sl pc L (.ref b :: st) ws := by
  obtain ⟨j, h1, -, e⟩ := hF.1 b hv
  match j, h1 with
  | 0, _ => exact g_getF (T := TX0) (ref := "ChiefGrades$Chief") K (fun w h => hch w (List.mem_append_left _ (List.mem_append_left _ (List.mem_append_left _ (List.mem_append_left _ (List.mem_append_left _ (List.mem_append_left _ (h)))))))) e rfl 2 (by decide) hl (Or.inl rfl) rfl hd k
  | 1, _ => exact g_getF (T := TX5) (ref := "ChiefGrades$Chief") K (fun w h => hch w (List.mem_append_left _ (List.mem_append_left _ (List.mem_append_left _ (List.mem_append_right _ h))))) e rfl 2 (by decide) hl (Or.inl rfl) rfl hd k
  | 2, _ => exact g_getF (T := TX9) (ref := "ChiefGrades$Chief") K (fun w h => hch w (List.mem_append_right _ h)) e rfl 2 (by decide) hl (Or.inl rfl) rfl hd k
  | 3, _ => exact g_getF (T := TX4) (ref := "ChiefGrades$Chief") K (fun w h => hch w (List.mem_append_left _ (List.mem_append_left _ (List.mem_append_left _ (List.mem_append_left _ (List.mem_append_right _ h)))))) e rfl 2 (by decide) hl (Or.inl rfl) rfl hd k
  | 4, _ => exact g_getF (T := TX6) (ref := "ChiefGrades$Chief") K (fun w h => hch w (List.mem_append_left _ (List.mem_append_left _ (List.mem_append_right _ h)))) e rfl 2 (by decide) hl (Or.inl rfl) rfl hd k
  | 5, _ => exact g_getF (T := TX3) (ref := "ChiefGrades$Chief") K (fun w h => hch w (List.mem_append_left _ (List.mem_append_left _ (List.mem_append_left _ (List.mem_append_left _ (List.mem_append_left _ (List.mem_append_right _ h))))))) e rfl 2 (by decide) hl (Or.inl rfl) rfl hd k
  | 6, _ => exact g_getF (T := TX7) (ref := "ChiefGrades$Chief") K (fun w h => hch w (List.mem_append_left _ (List.mem_append_right _ h))) e rfl 2 (by decide) hl (Or.inl rfl) rfl hd k
theorem chg_3 (K : gOK Γ cc Ts own) (hF : gFz (g_E Γ) F) (hv : chv F b = true) (hch : ∀ w ∈ gChW, w ∈ Ts) (hl : Cond.fieldLink own index "ChiefGrades$Chief" "desk" "I" ∈ Ts) (hd : decode cc pc = .ok (.getfield index, 3)) (k : gGO Γ cl sl (pc + 3) L (.int (cd F b) :: st) ws) : gGO Γ cl sl pc L (.ref b :: st) ws := by
  obtain ⟨j, h1, -, e⟩ := hF.1 b hv
  match j, h1 with
  | 0, _ => exact g_getF (T := TX0) (ref := "ChiefGrades$Chief") K (fun w h => hch w (List.mem_append_left _ (List.mem_append_left _ (List.mem_append_left _ (List.mem_append_left _ (List.mem_append_left _ (List.mem_append_left _ (h)))))))) e rfl 3 (by decide) hl (Or.inl rfl) rfl hd k
  | 1, _ => exact g_getF (T := TX5) (ref := "ChiefGrades$Chief") K (fun w h => hch w (List.mem_append_left _ (List.mem_append_left _ (List.mem_append_left _ (List.mem_append_right _ h))))) e rfl 3 (by decide) hl (Or.inl rfl) rfl hd k
  | 2, _ => exact g_getF (T := TX9) (ref := "ChiefGrades$Chief") K (fun w h => hch w (List.mem_append_right _ h)) e rfl 3 (by decide) hl (Or.inl rfl) rfl hd k
  | 3, _ => exact g_getF (T := TX4) (ref := "ChiefGrades$Chief") K (fun w h => hch w (List.mem_append_left _ (List.mem_append_left _ (List.mem_append_left _ (List.mem_append_left _ (List.mem_append_right _ h)))))) e rfl 3 (by decide) hl (Or.inl rfl) rfl hd k
  | 4, _ => exact g_getF (T := TX6) (ref := "ChiefGrades$Chief") K (fun w h => hch w (List.mem_append_left _ (List.mem_append_left _ (List.mem_append_right _ h)))) e rfl 3 (by decide) hl (Or.inl rfl) rfl hd k
  | 5, _ => exact g_getF (T := TX3) (ref := "ChiefGrades$Chief") K (fun w h => hch w (List.mem_append_left _ (List.mem_append_left _ (List.mem_append_left _ (List.mem_append_left _ (List.mem_append_left _ (List.mem_append_right _ h))))))) e rfl 3 (by decide) hl (Or.inl rfl) rfl hd k
  | 6, _ => exact g_getF (T := TX7) (ref := "ChiefGrades$Chief") K (fun w h => hch w (List.mem_append_left _ (List.mem_append_right _ h))) e rfl 3 (by decide) hl (Or.inl rfl) rfl hd k
theorem hsg_0 (K : gOK Γ cc Ts own) (hF : gFz (g_E Γ) F) (hv : hsv F b = true) (hin : ∀ w ∈ wsX20, w ∈ Ts) (hl : Cond.fieldLink own index "ChiefGrades$House" "five" "I" ∈ Ts) (hd : decode cc pc = .ok (.getfield index, 3)) (k : gGO Γ cl sl (pc + 3) L (.int (hI F b 0) :: st) ws) : gGO Γ cl sl pc L (.ref b :: st) ws := by
  obtain ⟨tx, sz, at_, fl, e⟩ := (hF.2 b hv).1
  exact g_getF (T := TX2) (ref := "ChiefGrades$House") K hin e rfl 0 (by decide) hl (Or.inl rfl) rfl hd k
theorem hsg_1 (K : gOK Γ cc Ts own) (hF : gFz (g_E Γ) F) (hv : hsv F b = true) (hin : ∀ w ∈ wsX20, w ∈ Ts) (hl : Cond.fieldLink own index "ChiefGrades$House" "one" "I" ∈ Ts) (hd : decode cc pc = .ok (.getfield index, 3)) (k : gGO Γ cl sl (pc + 3) L (.int (hI F b 1) :: st) ws) : gGO Γ cl sl pc L (.ref b :: st) ws := by
  obtain ⟨tx, sz, at_, fl, e⟩ := (hF.2 b hv).1
  exact g_getF (T := TX2) (ref := "ChiefGrades$House") K hin e rfl 1 (by decide) hl (Or.inl rfl) rfl hd k
theorem hsg_2 (K : gOK Γ cc Ts own) (hF : gFz (g_E Γ) F) (hv : hsv F b = true) (hin : ∀ w ∈ wsX20, w ∈ Ts) (hl : Cond.fieldLink own index "ChiefGrades$House" "pay" "I" ∈ Ts) (hd : decode cc pc = .ok (.getfield index, 3)) (k : gGO Γ cl sl (pc + 3) L (.int (hI F b 2) :: st) ws) : gGO Γ cl sl pc L (.ref b :: st) ws := by
  obtain ⟨tx, sz, at_, fl, e⟩ := (hF.2 b hv).1
  exact g_getF (T := TX2) (ref := "ChiefGrades$House") K hin e rfl 2 (by decide) hl (Or.inl rfl) rfl hd k
theorem hsg_10 (K : gOK Γ cc Ts own) (hF : gFz (g_E Γ) F) (hv : hsv F b = true) (hin : ∀ w ∈ wsX20, w ∈ Ts) (hl : Cond.fieldLink own index "ChiefGrades$House" "steps" "I" ∈ Ts) (hd : decode cc pc = .ok (.getfield index, 3)) (k : gGO Γ cl sl (pc + 3) L (.int (hI F b 10) :: st) ws) : gGO Γ cl sl pc L (.ref b :: st) ws := by
  obtain ⟨tx, sz, at_, fl, e⟩ := (hF.2 b hv).1
  exact g_getF (T := TX2) (ref := "ChiefGrades$House") K hin e rfl 10 (by decide) hl (Or.inl rfl) rfl hd k
theorem hsg_7 (K : gOK Γ cc Ts own) (hF : gFz (g_E Γ) F) (hv : hsv F b = true) (hin : ∀ w ∈ wsX20, w ∈ Ts) (hl : Cond.fieldLink own index "ChiefGrades$House" "step" "[I" ∈ Ts) (hd : decode cc pc = .ok (.getfield index, 3)) (k : gGO Γ cl sl (pc + 3) L (.ref (hr F b 7) :: st) ws) : gGO Γ cl sl pc L (.ref b :: st) ws := by
  obtain ⟨tx, sz, at_, fl, e⟩ := (hF.2 b hv).1
  exact g_getF (T := TX2) (ref := "ChiefGrades$House") K hin e rfl 7 (by decide) hl (Or.inl rfl) rfl hd k
theorem hsg_8 (K : gOK Γ cc Ts own) (hF : gFz (g_E Γ) F) (hv : hsv F b = true) (hin : ∀ w ∈ wsX20, w ∈ Ts) (hl : Cond.fieldLink own index "ChiefGrades$House" "least" "[I" ∈ Ts) (hd : decode cc pc = .ok (.getfield index, 3)) (k : gGO Γ cl sl (pc + 3) L (.ref (hr F b 8) :: st) ws) : gGO Γ cl sl pc L (.ref b :: st) ws := by
  obtain ⟨tx, sz, at_, fl, e⟩ := (hF.2 b hv).1
  exact g_getF (T := TX2) (ref := "ChiefGrades$House") K hin e rfl 8 (by decide) hl (Or.inl rfl) rfl hd k
theorem hsg_9 (K : gOK Γ cc Ts own) (hF : gFz (g_E Γ) F) (hv : hsv F b = true) (hin : ∀ w ∈ wsX20, w ∈ Ts) (hl : Cond.fieldLink own index "ChiefGrades$House" "most" "[I" ∈ Ts) (hd : decode cc pc = .ok (.getfield index, 3)) (k : gGO Γ cl sl (pc + 3) L (.ref (hr F b 9) :: st) ws) : gGO Γ cl sl pc L (.ref b :: st) ws := by
  obtain ⟨tx, sz, at_, fl, e⟩ := (hF.2 b hv).1
  exact g_getF (T := TX2) (ref := "ChiefGrades$House") K hin e rfl 9 (by decide) hl (Or.inl rfl) rfl hd k
theorem hsa_7 {i : Int32} (K : gOK Γ cc Ts own) (hF : gFz (g_E Γ) F) (hv : hsv F b = true) (hi : vp_in i (hn F b)) (hd : decode cc pc = .ok (.iaload, 1)) (k : gGO Γ cl sl (pc + 1) L (.int (ha F b 7 i.toNatClampNeg) :: st) ws) : gGO Γ cl sl pc L (.int i :: .ref (hr F b 7) :: st) ws := g_ialdF K ((hF.2 b hv).2 7 (by decide)) hi hd k
theorem hsa_8 {i : Int32} (K : gOK Γ cc Ts own) (hF : gFz (g_E Γ) F) (hv : hsv F b = true) (hi : vp_in i (hn F b)) (hd : decode cc pc = .ok (.iaload, 1)) (k : gGO Γ cl sl (pc + 1) L (.int (ha F b 8 i.toNatClampNeg) :: st) ws) : gGO Γ cl sl pc L (.int i :: .ref (hr F b 8) :: st) ws := g_ialdF K ((hF.2 b hv).2 8 (by decide)) hi hd k
theorem hsa_9 {i : Int32} (K : gOK Γ cc Ts own) (hF : gFz (g_E Γ) F) (hv : hsv F b = true) (hi : vp_in i (hn F b)) (hd : decode cc pc = .ok (.iaload, 1)) (k : gGO Γ cl sl (pc + 1) L (.int (ha F b 9 i.toNatClampNeg) :: st) ws) : gGO Γ cl sl pc L (.int i :: .ref (hr F b 9) :: st) ws := g_ialdF K ((hF.2 b hv).2 9 (by decide)) hi hd k

theorem gF_asg (K : gOK Γ cc Ts own) {j : Nat} (hj : j < 7) : ∀ comp c0 : ClassId, (g_s Γ).vm.findClass "ChiefGrades$Chief" = some comp → (g_s Γ).vm.findClass (gKn.getD j "") = some c0 → (g_s Γ).vm.assignable c0 comp = true := by
  intro comp c0 z1 z2
  obtain ⟨hF, hK, q1, q2, q3, q4, q5, q6⟩ := K.X
  by_cases e : j = 0
  · subst e
    have z3 : comp = c0 := Option.some.inj (z1.symm.trans z2)
    subst z3
    have hcls := (hK.1 0 _ rfl).2
    have z4 : comp = (gD (g_E Γ)).1 0 := Option.some.inj (z1.symm.trans hcls.1)
    rw [z4]
    exact va_assign hcls
  · obtain ⟨a, t, f1, f2, f3⟩ := Cond.castable_spec (va_Nw.use (A := #[]) rfl (q6 j hj 0 (by decide) (by simp [gUnd]) (fun z => e z.symm)))
    cases z2.symm.trans f1
    cases z1.symm.trans f2
    exact f3
theorem gF_recv {H : Heap} {locs : List Loc} {j : Nat} {fs : List Value} (K : gOK Γ cc Ts own) (hS : va_S (g_A Γ) (g_s Γ).heap H locs) (hj : j < 7) (he : gfz (g_E Γ) b = some (.inr (gKc.getD j 0, fs))) : ∃ cell : Cell, H[b]? = some cell ∧ cell.vm.isStatics = false ∧ (g_s Γ).vm.findClass (gKn.getD j "") = some cell.cls := by
  have z := g_frz K hS he
  match j, hj with
  | 0, _ => exact va_recv K.K z (q0 := 0) (ci := 0) rfl rfl
  | 1, _ => exact va_recv K.K z (q0 := 0) (ci := 5) rfl rfl
  | 2, _ => exact va_recv K.K z (q0 := 0) (ci := 9) rfl rfl
  | 3, _ => exact va_recv K.K z (q0 := 0) (ci := 4) rfl rfl
  | 4, _ => exact va_recv K.K z (q0 := 0) (ci := 6) rfl rfl
  | 5, _ => exact va_recv K.K z (q0 := 0) (ci := 3) rfl rfl
  | 6, _ => exact va_recv K.K z (q0 := 0) (ci := 7) rfl rfl
theorem gF_class (K : gOK Γ cc Ts own) {j : Nat} (hj : j < 7) : ∃ c : ClassId, ClassAt (g_s Γ) (gKn.getD j "") c := by
  have hK := K.X.2.1
  match j, hj with
  | 0, _ => exact ⟨_, (hK.1 0 _ rfl).2⟩
  | 1, _ => exact ⟨_, (hK.1 5 _ rfl).2⟩
  | 2, _ => exact ⟨_, (hK.1 9 _ rfl).2⟩
  | 3, _ => exact ⟨_, (hK.1 4 _ rfl).2⟩
  | 4, _ => exact ⟨_, (hK.1 6 _ rfl).2⟩
  | 5, _ => exact ⟨_, (hK.1 3 _ rfl).2⟩
  | 6, _ => exact ⟨_, (hK.1 7 _ rfl).2⟩
theorem g_inst {k j : Nat} {nm : String} {fs : List Value} {v : Int32} (K : gOK Γ cc Ts own) (he : gfz (g_E Γ) b = some (.inr (gKc.getD k 0, fs))) (hk : k < 7) (hj : j < 7) (hn : gKn.getD j "" = nm) (hl : Cond.classLink own index nm ∈ Ts) (hv : (if gUnd k j then (1 : Int32) else 0) = v) (hd : decode cc pc = .ok (.instanceof index, 3)) (kk : gGO Γ cl sl (pc + 3) L (.int v :: st) ws) : gGO Γ cl sl pc L (.ref b :: st) ws := fun H locs ls hP hD hS h => by
  subst hv; subst hn
  have hr := gF_recv K hS hk he
  have z := kk H locs ls hP hD hS h
  obtain ⟨hF, hK, q1, q2, q3, q4, q5, q6⟩ := K.X
  by_cases e : gUnd k j = true
  · rw [if_pos e] at z
    by_cases e2 : j = k
    · subst e2
      obtain ⟨c, hc⟩ := gF_class K hj
      exact va_instS K.x K.b K.o (K.t _ hl) hc hr hd z
    · exact va_instY K.x K.b K.o (K.t _ hl) (q6 k hk j hj e e2) hr hd z
  · rw [if_neg e] at z
    exact va_instNo K.x K.b K.o (K.t _ hl) (q5 k hk j hj (by simpa using e)) hr hd z
theorem g_aast {a n : Nat} {f : Nat → Option Nat} {i : Int32} {x : Option Nat} (K : gOK Γ cc Ts own) (hF : gFz (g_E Γ) F) (q0 : Nat) (he : ws[q0]? = some (a, .inl (gO (g_E Γ), n, .inr (.inr (.inr (.inr f)))))) (hi : vp_in i n) (hq : gqok F x = true) (hd : decode cc pc = .ok (.aastore, 1)) (hw : ws.set q0 (a, .inl (gO (g_E Γ), n, .inr (.inr (.inr (.inr (va_up f i.toNatClampNeg x)))))) = ws') (k : gGO Γ cl sl (pc + 1) L st ws') : gGO Γ cl sl pc L (va_rf x :: .int i :: .ref a :: st) ws := fun H locs ls hP hD hS h => by
  subst hw
  cases x with
  | none => exact va_astqN K.x K.b K.K hP hD hS q0 3 he rfl hi hd (fun H locs hP hD hS => k H locs ls hP hD hS h)
  | some v =>
    obtain ⟨j, h1, -, e⟩ := hF.1 v hq
    obtain ⟨cell, z1, z2, z3⟩ := gF_recv K hS h1 e
    obtain ⟨kC, hkC, -⟩ := Vm.findClass_spec z3
    exact va_astqM K.x K.b K.K hP hD hS q0 3 he rfl ⟨cell, z1, z2, ⟨kC, hkC⟩, fun comp y1 => gF_asg K h1 comp _ y1 z3⟩ hi hd (fun H locs hP hD hS => k H locs ls hP hD hS h)
end CW
theorem hch : ∀ w ∈ gChW, w ∈ gU := fun w h => (List.mem_append.mp h).elim (fun h => (List.mem_append.mp h).elim (fun h => (List.mem_append.mp h).elim (fun h => (List.mem_append.mp h).elim (fun h => (List.mem_append.mp h).elim (fun h => (List.mem_append.mp h).elim (hin_X0 w) (hin_X3 w)) (hin_X4 w)) (hin_X5 w)) (hin_X6 w)) (hin_X7 w)) (hin_X9 w)
