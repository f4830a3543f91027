/-! THE JUDGEMENT gGO: a method stands at pc with locals L, stack st, cells ws. One row an instruction; all that stays is in Γ. -/
/-- what stays over the whole run: the classes' numbers, the arrays' classes (int, char, boolean, Chief), the frozen cells, what isn't frozen, the texts' places -/
abbrev gE : Type := va_G × (ClassId × ClassId × ClassId × ClassId) × (Nat → Option va_E) × (Nat → Prop) × (Nat → Nat) × (Nat → Nat)
abbrev gD (E : gE) : va_G := E.1
abbrev gI (E : gE) : ClassId := E.2.1.1
abbrev gCh (E : gE) : ClassId := E.2.1.2.1
abbrev gZ (E : gE) : ClassId := E.2.1.2.2.1
abbrev gO (E : gE) : ClassId := E.2.1.2.2.2
abbrev gTy (E : gE) : List (ClassId × FieldType) := [(gI E, .int), (gCh E, .char), (gZ E, .boolean), (gO E, .object "ChiefGrades$Chief")]
abbrev gfz (E : gE) : Nat → Option va_E := E.2.2.1
abbrev gN (E : gE) : Nat → Prop := E.2.2.2.1
abbrev gK (E : gE) : Nat → Nat := E.2.2.2.2.1
abbrev gV (E : gE) : Nat → Nat := E.2.2.2.2.2
/-- the texts: "more ", "wckbyt", "less ", "five ", "one ", "pay ", "<=>" -/
def stxLen : List Nat := [5, 6, 5, 5, 4, 4, 3]
def stxByt : List (List Int32) := [[109, 111, 114, 101, 32], [119, 99, 107, 98, 121, 116], [108, 101, 115, 115, 32], [102, 105, 118, 101, 32], [111, 110, 101, 32], [112, 97, 121, 32], [60, 61, 62]]
/-- the places of the texts in the classes' pools -/
def stxRef : List (String × Nat × String × Nat) := [("ChiefGrades$House", 49, "more ", 0), ("ChiefGrades$House", 102, "wckbyt", 1), ("ChiefGrades$House", 55, "less ", 2), ("ChiefGrades$House", 57, "five ", 3), ("ChiefGrades$House", 63, "one ", 4), ("ChiefGrades$House", 65, "pay ", 5), ("ChiefGradesModel", 114, "more ", 0), ("ChiefGradesModel", 96, "wckbyt", 1), ("ChiefGradesModel", 120, "less ", 2), ("ChiefGradesModel", 122, "five ", 3), ("ChiefGradesModel", 127, "one ", 4), ("ChiefGradesModel", 129, "pay ", 5), ("ChiefGradesModel", 102, "<=>", 6)]
/-- the chiefs' classes, by the kind -/
def gKc : List Nat := [0, 5, 9, 4, 6, 3, 7]
def gKn : List String := ["ChiefGrades$Chief", "ChiefGrades$Lenient", "ChiefGrades$Turning", "ChiefGrades$Lately", "ChiefGrades$Near", "ChiefGrades$Keeping", "ChiefGrades$Talking"]
/-- which kind is under which -/
def gUnd (k j : Nat) : Bool := j == 0 || j == k || (j > 0 && j < 4 && k == j + 3)
def gS (E : gE) (U : State) : Prop := vk_S 7 stxLen stxByt (gK E) (gV E) (gN E) U U.heap ∧ va_Z "java/lang/String" "COMPACT_STRINGS" "Z" (.int 1) (gN E) U U.heap ∧ va_Zq "jdk/internal/util/Preconditions" "SIOOBE_FORMATTER" "Ljava/util/function/BiFunction;" (gN E) U U.heap ∧ (∀ q ∈ stxRef, vk_R q.1 q.2.1 q.2.2.1 (gK E q.2.2.2) U) ∧ (∀ k : Nat, k < 7 → ∀ j : Nat, j < 7 → gUnd k j = false → va_Nc (gKn.getD k "") (gKn.getD j "") U) ∧ (∀ k : Nat, k < 7 → ∀ j : Nat, j < 7 → gUnd k j = true → j ≠ k → va_Nw (.castable (gKn.getD k "") (gKn.getD j "")) U)
def gX (E : gE) (U : State) : Prop := (∀ (a : Nat) (e : va_E), gfz E a = some e → va_at (gD E) vwCl (a, e) U.heap ∧ ¬ gN E a) ∧ va_K (gD E) vwCl (gTy E) U ∧ gS E U
/-- program, launch, env, room, state, method, args, below, method's facts, code, goal, E, the cells that may change, number of locals -/
abbrev gT : Type := Program × Launch × Env × Room × State × MethodId × Array Value × List Frame × Method × Code × (State → Prop) × gE × (Nat → Prop) × Nat
abbrev g_l (Γ : gT) : Launch := Γ.2.1
abbrev g_R (Γ : gT) : Room := Γ.2.2.2.1
abbrev g_s (Γ : gT) : State := Γ.2.2.2.2.1
abbrev g_m (Γ : gT) : MethodId := Γ.2.2.2.2.2.1
abbrev g_ar (Γ : gT) : Array Value := Γ.2.2.2.2.2.2.1
abbrev g_me (Γ : gT) : Method := Γ.2.2.2.2.2.2.2.2.1
abbrev g_c (Γ : gT) : Code := Γ.2.2.2.2.2.2.2.2.2.1
abbrev g_Q (Γ : gT) : State → Prop := Γ.2.2.2.2.2.2.2.2.2.2.1
abbrev g_E (Γ : gT) : gE := Γ.2.2.2.2.2.2.2.2.2.2.2.1
abbrev g_A (Γ : gT) : Nat → Prop := Γ.2.2.2.2.2.2.2.2.2.2.2.2.1
abbrev g_n (Γ : gT) : Nat := Γ.2.2.2.2.2.2.2.2.2.2.2.2.2
abbrev gW (Γ : gT) (H : Heap) (locs : List Loc) (cl sl : Nat) (g : JFrame) : Prop := W Γ.1 (g_l Γ) Γ.2.2.1 (g_R Γ) (g_s Γ) (g_m Γ) (g_ar Γ) Γ.2.2.2.2.2.2.2.1 (g_me Γ) (g_c Γ) H locs cl sl (g_Q Γ) g
def gOK (Γ : gT) (cc : ByteArray) (Ts : List Cond) (own : String) : Prop := Γ.1.tables.exec = Jvm.exec ∧ (g_c Γ).code = cc ∧ (g_c Γ).maxLocals = g_n Γ ∧ (g_s Γ).vm.findClass own = some (g_m Γ).cls ∧ (∀ w ∈ Ts, w.before (g_ar Γ) (g_s Γ) = true) ∧ (∀ q, (g_s Γ).heap.size ≤ q → g_A Γ q) ∧ (∀ q, g_A Γ q → gN (g_E Γ) q) ∧ gX (g_E Γ) (g_s Γ)
def gGO (Γ : gT) (cl sl pc : Nat) (L : List (Nat × Value)) (st : List Value) (ws : va_W) : Prop :=
  ∀ (H : Heap) (locs : List Loc) (ls : Array Slot), va_P (gD (g_E Γ)) vwCl ws H → va_D (g_A Γ) ws → va_S (g_A Γ) (g_s Γ).heap H locs → lv_has ls (g_n Γ) L → gW Γ H locs cl sl (F0 (g_m Γ) pc ls st)
section GO
variable {Γ : gT} {cc : ByteArray} {Ts : List Cond} {own : String} {cl sl pc : Nat} {L L' : List (Nat × Value)} {st : List Value} {ws ws' : va_W}
theorem gOK.x (K : gOK Γ cc Ts own) : Γ.1.tables.exec = Jvm.exec := K.1
theorem gOK.b (K : gOK Γ cc Ts own) : (g_c Γ).code = cc := K.2.1
theorem gOK.n (K : gOK Γ cc Ts own) : (g_c Γ).maxLocals = g_n Γ := K.2.2.1
theorem gOK.o (K : gOK Γ cc Ts own) : (g_s Γ).vm.findClass own = some (g_m Γ).cls := K.2.2.2.1
theorem gOK.t (K : gOK Γ cc Ts own) : ∀ w ∈ Ts, w.before (g_ar Γ) (g_s Γ) = true := K.2.2.2.2.1
theorem gOK.a (K : gOK Γ cc Ts own) : ∀ q, (g_s Γ).heap.size ≤ q → g_A Γ q := K.2.2.2.2.2.1
theorem gOK.an (K : gOK Γ cc Ts own) : ∀ q, g_A Γ q → gN (g_E Γ) q := K.2.2.2.2.2.2.1
theorem gOK.X (K : gOK Γ cc Ts own) : gX (g_E Γ) (g_s Γ) := K.2.2.2.2.2.2.2
theorem gOK.K (K : gOK Γ cc Ts own) : va_K (gD (g_E Γ)) vwCl (gTy (g_E Γ)) (g_s Γ) := K.X.2.1
/-- fewer locals, another order; cells told otherwise -/
theorem g_sub (ks : List Nat) (hl : lv_pick L ks = L') (k : gGO Γ cl sl pc L' st ws) : gGO Γ cl sl pc L st ws := fun H locs ls hP hD hS h => k H locs ls hP hD hS (lv_sub h ks hl)
theorem g_ws (h : ws = ws') (k : gGO Γ cl sl pc L st ws') : gGO Γ cl sl pc L st ws := by rw [h]; exact k
theorem g_wid {c2 s2 : Nat} (h1 : cl ≤ c2) (h2 : sl ≤ s2) (k : gGO Γ c2 s2 pc L st ws) : gGO Γ cl sl pc L st ws := fun H locs ls hP hD hS h => W.widen h1 h2 (k H locs ls hP hD hS h)
theorem g_iconst {n : Int} {v : Int32} (K : gOK Γ cc Ts own) (hd : decode cc pc = .ok (.iconst n, 1)) (hv : Int32.ofInt n = v) (k : gGO Γ cl sl (pc + 1) L (.int v :: st) ws) : gGO Γ cl sl (pc) L (st) ws := fun H locs ls hP hD hS h => lv_iconst K.x K.b hd hv (k H locs ls hP hD hS h)
theorem g_bipush {n : Int} {v : Int32} (K : gOK Γ cc Ts own) (hd : decode cc pc = .ok (.bipush n, 2)) (hv : (Int8.ofInt n).toInt32 = v) (k : gGO Γ cl sl (pc + 2) L (.int v :: st) ws) : gGO Γ cl sl (pc) L (st) ws := fun H locs ls hP hD hS h => lv_bipush K.x K.b hd hv (k H locs ls hP hD hS h)
theorem g_sipush {n : Int} {v : Int32} (K : gOK Γ cc Ts own) (hd : decode cc pc = .ok (.sipush n, 3)) (hv : (Int16.ofInt n).toInt32 = v) (k : gGO Γ cl sl (pc + 3) L (.int v :: st) ws) : gGO Γ cl sl (pc) L (st) ws := fun H locs ls hP hD hS h => lv_sipush K.x K.b hd hv (k H locs ls hP hD hS h)
theorem g_lconst {n : Fin 2} {v : Int64} (K : gOK Γ cc Ts own) (hd : decode cc pc = .ok (.lconst n, 1)) (hv : Int64.ofNat (n : Nat) = v) (k : gGO Γ cl sl (pc + 1) L (.long v :: st) ws) : gGO Γ cl sl (pc) L (st) ws := fun H locs ls hP hD hS h => lv_lconst K.x K.b hd hv (k H locs ls hP hD hS h)
theorem g_null (K : gOK Γ cc Ts own) (hd : decode cc pc = .ok (.aconst_null, 1)) (k : gGO Γ cl sl (pc + 1) L (.null :: st) ws) : gGO Γ cl sl (pc) L (st) ws := fun H locs ls hP hD hS h => lv_null K.x K.b hd (k H locs ls hP hD hS h)
theorem g_ldc {index : Nat} {v : Int32} (K : gOK Γ cc Ts own) (hc : (Cond.constant own index v) ∈ Ts) (hd : decode cc pc = .ok (.ldc index, 2)) (k : gGO Γ cl sl (pc + 2) L (.int v :: st) ws) : gGO Γ cl sl (pc) L (st) ws := fun H locs ls hP hD hS h => lv_ldc K.x K.b K.o (K.t _ hc) hd (k H locs ls hP hD hS h)
theorem g_ldc2 {index : Nat} {v : Int64} (K : gOK Γ cc Ts own) (hc : (Cond.constantLong own index v) ∈ Ts) (hd : decode cc pc = .ok (.ldc2_w index, 3)) (k : gGO Γ cl sl (pc + 3) L (.long v :: st) ws) : gGO Γ cl sl (pc) L (st) ws := fun H locs ls hP hD hS h => lv_ldc2 K.x K.b K.o (K.t _ hc) hd (k H locs ls hP hD hS h)
theorem g_iload_n {f : Fin 4} {i : Nat} {x : Int32} (K : gOK Γ cc Ts own) (hd : decode cc pc = .ok (.iload_n f, 1)) (hi : (f : Nat) = i) (j : Nat) (hj : L[j]? = some (i, .int x)) (k : gGO Γ cl sl (pc + 1) L (.int x :: st) ws) : gGO Γ cl sl (pc) L (st) ws := fun H locs ls hP hD hS h => lv_iload_n K.x K.b hd hi (lv_at h j hj) (k H locs ls hP hD hS h)
theorem g_iload {i : Nat} {x : Int32} (K : gOK Γ cc Ts own) (hd : decode cc pc = .ok (.iload i, 2)) (j : Nat) (hj : L[j]? = some (i, .int x)) (k : gGO Γ cl sl (pc + 2) L (.int x :: st) ws) : gGO Γ cl sl (pc) L (st) ws := fun H locs ls hP hD hS h => lv_iload K.x K.b hd (lv_at h j hj) (k H locs ls hP hD hS h)
theorem g_istore_n {f : Fin 4} {i : Nat} {x : Int32} (K : gOK Γ cc Ts own) (hd : decode cc pc = .ok (.istore_n f, 1)) (hi : (f : Nat) = i) (hn : i < g_n Γ) (hl : (i, Value.int x) :: L.filter (fun q => !(q.1 == i) && !(q.1 + 1 == i && q.2.category == 2)) = L') (k : gGO Γ cl sl (pc + 1) L' (st) ws) : gGO Γ cl sl (pc) L (.int x :: st) ws := fun H locs ls hP hD hS h => lv_istore_n K.x K.b hd hi h hn hl (fun ls h => k H locs ls hP hD hS h)
theorem g_istore {i : Nat} {x : Int32} (K : gOK Γ cc Ts own) (hd : decode cc pc = .ok (.istore i, 2)) (hn : i < g_n Γ) (hl : (i, Value.int x) :: L.filter (fun q => !(q.1 == i) && !(q.1 + 1 == i && q.2.category == 2)) = L') (k : gGO Γ cl sl (pc + 2) L' (st) ws) : gGO Γ cl sl (pc) L (.int x :: st) ws := fun H locs ls hP hD hS h => lv_istore K.x K.b hd h hn hl (fun ls h => k H locs ls hP hD hS h)
theorem g_lload_n {f : Fin 4} {i : Nat} {x : Int64} (K : gOK Γ cc Ts own) (hd : decode cc pc = .ok (.lload_n f, 1)) (hi : (f : Nat) = i) (j : Nat) (hj : L[j]? = some (i, .long x)) (k : gGO Γ cl sl (pc + 1) L (.long x :: st) ws) : gGO Γ cl sl (pc) L (st) ws := fun H locs ls hP hD hS h => lv_lload_n K.x K.b hd hi (lv_at h j hj) (k H locs ls hP hD hS h)
theorem g_lload {i : Nat} {x : Int64} (K : gOK Γ cc Ts own) (hd : decode cc pc = .ok (.lload i, 2)) (j : Nat) (hj : L[j]? = some (i, .long x)) (k : gGO Γ cl sl (pc + 2) L (.long x :: st) ws) : gGO Γ cl sl (pc) L (st) ws := fun H locs ls hP hD hS h => lv_lload K.x K.b hd (lv_at h j hj) (k H locs ls hP hD hS h)
theorem g_lstore_n {f : Fin 4} {i : Nat} {x : Int64} (K : gOK Γ cc Ts own) (hd : decode cc pc = .ok (.lstore_n f, 1)) (hi : (f : Nat) = i) (hn : i + 1 < g_n Γ) (hl : (i, Value.long x) :: L.filter (fun q => !(q.1 == i) && (!(q.1 == i + 1) && !(q.1 + 1 == i && q.2.category == 2))) = L') (k : gGO Γ cl sl (pc + 1) L' (st) ws) : gGO Γ cl sl (pc) L (.long x :: st) ws := fun H locs ls hP hD hS h => lv_lstore_n K.x K.b hd hi h hn hl (fun ls h => k H locs ls hP hD hS h)
theorem g_lstore {i : Nat} {x : Int64} (K : gOK Γ cc Ts own) (hd : decode cc pc = .ok (.lstore i, 2)) (hn : i + 1 < g_n Γ) (hl : (i, Value.long x) :: L.filter (fun q => !(q.1 == i) && (!(q.1 == i + 1) && !(q.1 + 1 == i && q.2.category == 2))) = L') (k : gGO Γ cl sl (pc + 2) L' (st) ws) : gGO Γ cl sl (pc) L (.long x :: st) ws := fun H locs ls hP hD hS h => lv_lstore K.x K.b hd h hn hl (fun ls h => k H locs ls hP hD hS h)
theorem g_aload_n {f : Fin 4} {i : Nat} {x : Nat} (K : gOK Γ cc Ts own) (hd : decode cc pc = .ok (.aload_n f, 1)) (hi : (f : Nat) = i) (j : Nat) (hj : L[j]? = some (i, .ref x)) (k : gGO Γ cl sl (pc + 1) L (.ref x :: st) ws) : gGO Γ cl sl (pc) L (st) ws := fun H locs ls hP hD hS h => lv_aload_n K.x K.b hd hi (lv_at h j hj) (k H locs ls hP hD hS h)
theorem g_aload {i : Nat} {x : Nat} (K : gOK Γ cc Ts own) (hd : decode cc pc = .ok (.aload i, 2)) (j : Nat) (hj : L[j]? = some (i, .ref x)) (k : gGO Γ cl sl (pc + 2) L (.ref x :: st) ws) : gGO Γ cl sl (pc) L (st) ws := fun H locs ls hP hD hS h => lv_aload K.x K.b hd (lv_at h j hj) (k H locs ls hP hD hS h)
theorem g_astore_n {f : Fin 4} {i : Nat} {x : Nat} (K : gOK Γ cc Ts own) (hd : decode cc pc = .ok (.astore_n f, 1)) (hi : (f : Nat) = i) (hn : i < g_n Γ) (hl : (i, Value.ref x) :: L.filter (fun q => !(q.1 == i) && !(q.1 + 1 == i && q.2.category == 2)) = L') (k : gGO Γ cl sl (pc + 1) L' (st) ws) : gGO Γ cl sl (pc) L (.ref x :: st) ws := fun H locs ls hP hD hS h => lv_astore_n K.x K.b hd hi h hn hl (fun ls h => k H locs ls hP hD hS h)
theorem g_astore {i : Nat} {x : Nat} (K : gOK Γ cc Ts own) (hd : decode cc pc = .ok (.astore i, 2)) (hn : i < g_n Γ) (hl : (i, Value.ref x) :: L.filter (fun q => !(q.1 == i) && !(q.1 + 1 == i && q.2.category == 2)) = L') (k : gGO Γ cl sl (pc + 2) L' (st) ws) : gGO Γ cl sl (pc) L (.ref x :: st) ws := fun H locs ls hP hD hS h => lv_astore K.x K.b hd h hn hl (fun ls h => k H locs ls hP hD hS h)
theorem g_iinc {i : Nat} {n : Int} {x v : Int32} (K : gOK Γ cc Ts own) (hd : decode cc pc = .ok (.iinc i n, 3)) (j : Nat) (hj : L[j]? = some (i, .int x)) (hv : x + Int32.ofInt n = v) (hn : i < g_n Γ) (hl : (i, Value.int v) :: L.filter (fun q => !(q.1 == i) && !(q.1 + 1 == i && q.2.category == 2)) = L') (k : gGO Γ cl sl (pc + 3) L' (st) ws) : gGO Γ cl sl (pc) L (st) ws := fun H locs ls hP hD hS h => lv_iinc K.x K.b hd h hj hv hn hl (fun ls h => k H locs ls hP hD hS h)
theorem g_astore_nN {f : Fin 4} {i : Nat} (K : gOK Γ cc Ts own) (hd : decode cc pc = .ok (.astore_n f, 1)) (hi : (f : Nat) = i) (hn : i < g_n Γ) (hl : (i, Value.null) :: L.filter (fun q => !(q.1 == i) && !(q.1 + 1 == i && q.2.category == 2)) = L') (k : gGO Γ cl sl (pc + 1) L' (st) ws) : gGO Γ cl sl (pc) L (.null :: st) ws := fun H locs ls hP hD hS h => lv_astore_nN K.x K.b hd hi h hn hl (fun ls h => k H locs ls hP hD hS h)
theorem g_astoreN {i : Nat} (K : gOK Γ cc Ts own) (hd : decode cc pc = .ok (.astore i, 2)) (hn : i < g_n Γ) (hl : (i, Value.null) :: L.filter (fun q => !(q.1 == i) && !(q.1 + 1 == i && q.2.category == 2)) = L') (k : gGO Γ cl sl (pc + 2) L' (st) ws) : gGO Γ cl sl (pc) L (.null :: st) ws := fun H locs ls hP hD hS h => lv_astoreN K.x K.b hd h hn hl (fun ls h => k H locs ls hP hD hS h)
theorem g_aload_nN {f : Fin 4} {i : Nat} (K : gOK Γ cc Ts own) (hd : decode cc pc = .ok (.aload_n f, 1)) (hi : (f : Nat) = i) (j : Nat) (hj : L[j]? = some (i, .null)) (k : gGO Γ cl sl (pc + 1) L (.null :: st) ws) : gGO Γ cl sl (pc) L (st) ws := fun H locs ls hP hD hS h => lv_aload_nN K.x K.b hd hi (lv_at h j hj) (k H locs ls hP hD hS h)
theorem g_aloadN {i : Nat} (K : gOK Γ cc Ts own) (hd : decode cc pc = .ok (.aload i, 2)) (j : Nat) (hj : L[j]? = some (i, .null)) (k : gGO Γ cl sl (pc + 2) L (.null :: st) ws) : gGO Γ cl sl (pc) L (st) ws := fun H locs ls hP hD hS h => lv_aloadN K.x K.b hd (lv_at h j hj) (k H locs ls hP hD hS h)
theorem g_iadd {x y : Int32} (K : gOK Γ cc Ts own) (hd : decode cc pc = .ok (.iadd, 1)) (k : gGO Γ cl sl (pc + 1) L (.int (x + y) :: st) ws) : gGO Γ cl sl (pc) L (.int y :: .int x :: st) ws := fun H locs ls hP hD hS h => lv_iadd K.x K.b hd (k H locs ls hP hD hS h)
theorem g_isub {x y : Int32} (K : gOK Γ cc Ts own) (hd : decode cc pc = .ok (.isub, 1)) (k : gGO Γ cl sl (pc + 1) L (.int (x - y) :: st) ws) : gGO Γ cl sl (pc) L (.int y :: .int x :: st) ws := fun H locs ls hP hD hS h => lv_isub K.x K.b hd (k H locs ls hP hD hS h)
theorem g_imul {x y : Int32} (K : gOK Γ cc Ts own) (hd : decode cc pc = .ok (.imul, 1)) (k : gGO Γ cl sl (pc + 1) L (.int (x * y) :: st) ws) : gGO Γ cl sl (pc) L (.int y :: .int x :: st) ws := fun H locs ls hP hD hS h => lv_imul K.x K.b hd (k H locs ls hP hD hS h)
theorem g_iand {x y : Int32} (K : gOK Γ cc Ts own) (hd : decode cc pc = .ok (.iand, 1)) (k : gGO Γ cl sl (pc + 1) L (.int (x &&& y) :: st) ws) : gGO Γ cl sl (pc) L (.int y :: .int x :: st) ws := fun H locs ls hP hD hS h => lv_iand K.x K.b hd (k H locs ls hP hD hS h)
theorem g_ior {x y : Int32} (K : gOK Γ cc Ts own) (hd : decode cc pc = .ok (.ior, 1)) (k : gGO Γ cl sl (pc + 1) L (.int (x ||| y) :: st) ws) : gGO Γ cl sl (pc) L (.int y :: .int x :: st) ws := fun H locs ls hP hD hS h => lv_ior K.x K.b hd (k H locs ls hP hD hS h)
theorem g_ixor {x y : Int32} (K : gOK Γ cc Ts own) (hd : decode cc pc = .ok (.ixor, 1)) (k : gGO Γ cl sl (pc + 1) L (.int (x ^^^ y) :: st) ws) : gGO Γ cl sl (pc) L (.int y :: .int x :: st) ws := fun H locs ls hP hD hS h => lv_ixor K.x K.b hd (k H locs ls hP hD hS h)
theorem g_ishl {x y : Int32} (K : gOK Γ cc Ts own) (hd : decode cc pc = .ok (.ishl, 1)) (k : gGO Γ cl sl (pc + 1) L (.int (x <<< (y &&& 31)) :: st) ws) : gGO Γ cl sl (pc) L (.int y :: .int x :: st) ws := fun H locs ls hP hD hS h => lv_ishl K.x K.b hd (k H locs ls hP hD hS h)
theorem g_ishr {x y : Int32} (K : gOK Γ cc Ts own) (hd : decode cc pc = .ok (.ishr, 1)) (k : gGO Γ cl sl (pc + 1) L (.int (x >>> (y &&& 31)) :: st) ws) : gGO Γ cl sl (pc) L (.int y :: .int x :: st) ws := fun H locs ls hP hD hS h => lv_ishr K.x K.b hd (k H locs ls hP hD hS h)
theorem g_idiv {x y : Int32} (K : gOK Γ cc Ts own) (hd : decode cc pc = .ok (.idiv, 1)) (hne : ¬ y = 0) (k : gGO Γ cl sl (pc + 1) L (.int (x / y) :: st) ws) : gGO Γ cl sl (pc) L (.int y :: .int x :: st) ws := fun H locs ls hP hD hS h => lv_idiv K.x K.b hd hne (k H locs ls hP hD hS h)
theorem g_irem {x y : Int32} (K : gOK Γ cc Ts own) (hd : decode cc pc = .ok (.irem, 1)) (hne : ¬ y = 0) (k : gGO Γ cl sl (pc + 1) L (.int (x - x / y * y) :: st) ws) : gGO Γ cl sl (pc) L (.int y :: .int x :: st) ws := fun H locs ls hP hD hS h => lv_irem K.x K.b hd hne (k H locs ls hP hD hS h)
theorem g_lmul {x y : Int64} (K : gOK Γ cc Ts own) (hd : decode cc pc = .ok (.lmul, 1)) (k : gGO Γ cl sl (pc + 1) L (.long (x * y) :: st) ws) : gGO Γ cl sl (pc) L (.long y :: .long x :: st) ws := fun H locs ls hP hD hS h => lv_lmul K.x K.b hd (k H locs ls hP hD hS h)
theorem g_ldiv {x y : Int64} (K : gOK Γ cc Ts own) (hd : decode cc pc = .ok (.ldiv, 1)) (hne : ¬ y = 0) (k : gGO Γ cl sl (pc + 1) L (.long (x / y) :: st) ws) : gGO Γ cl sl (pc) L (.long y :: .long x :: st) ws := fun H locs ls hP hD hS h => lv_ldiv K.x K.b hd hne (k H locs ls hP hD hS h)
theorem g_lrem {x y : Int64} (K : gOK Γ cc Ts own) (hd : decode cc pc = .ok (.lrem, 1)) (hne : ¬ y = 0) (k : gGO Γ cl sl (pc + 1) L (.long (x - x / y * y) :: st) ws) : gGO Γ cl sl (pc) L (.long y :: .long x :: st) ws := fun H locs ls hP hD hS h => lv_lrem K.x K.b hd hne (k H locs ls hP hD hS h)
theorem g_lcmp {x y : Int64} (K : gOK Γ cc Ts own) (hd : decode cc pc = .ok (.lcmp, 1)) (k : gGO Γ cl sl (pc + 1) L (.int (lg_cmp x y) :: st) ws) : gGO Γ cl sl (pc) L (.long y :: .long x :: st) ws := fun H locs ls hP hD hS h => W.lcmp K.x K.b hd (k H locs ls hP hD hS h)
theorem g_ineg {x : Int32} (K : gOK Γ cc Ts own) (hd : decode cc pc = .ok (.ineg, 1)) (k : gGO Γ cl sl (pc + 1) L (.int (-x) :: st) ws) : gGO Γ cl sl (pc) L (.int x :: st) ws := fun H locs ls hP hD hS h => lv_ineg K.x K.b hd (k H locs ls hP hD hS h)
theorem g_lneg {x : Int64} (K : gOK Γ cc Ts own) (hd : decode cc pc = .ok (.lneg, 1)) (k : gGO Γ cl sl (pc + 1) L (.long (-x) :: st) ws) : gGO Γ cl sl (pc) L (.long x :: st) ws := fun H locs ls hP hD hS h => lv_lneg K.x K.b hd (k H locs ls hP hD hS h)
theorem g_i2l {x : Int32} (K : gOK Γ cc Ts own) (hd : decode cc pc = .ok (.i2l, 1)) (k : gGO Γ cl sl (pc + 1) L (.long x.toInt64 :: st) ws) : gGO Γ cl sl (pc) L (.int x :: st) ws := fun H locs ls hP hD hS h => lv_i2l K.x K.b hd rfl (k H locs ls hP hD hS h)
theorem g_i2c {x : Int32} (K : gOK Γ cc Ts own) (hd : decode cc pc = .ok (.i2c, 1)) (k : gGO Γ cl sl (pc + 1) L (.int (x.toUInt32 % 65536).toInt32 :: st) ws) : gGO Γ cl sl (pc) L (.int x :: st) ws := fun H locs ls hP hD hS h => lv_i2c K.x K.b hd rfl (k H locs ls hP hD hS h)
theorem g_dup {v : Value} (K : gOK Γ cc Ts own) (hd : decode cc pc = .ok (.dup, 1)) (hv : v.category = 1) (k : gGO Γ cl sl (pc + 1) L (v :: v :: st) ws) : gGO Γ cl sl (pc) L (v :: st) ws := fun H locs ls hP hD hS h => lv_dup K.x K.b hd hv (k H locs ls hP hD hS h)
theorem g_dup2 {v w : Value} (K : gOK Γ cc Ts own) (hd : decode cc pc = .ok (.dup2, 1)) (hv : v.category = 1) (hw : w.category = 1) (k : gGO Γ cl sl (pc + 1) L (v :: w :: v :: w :: st) ws) : gGO Γ cl sl (pc) L (v :: w :: st) ws := fun H locs ls hP hD hS h => lv_dup2_11 K.x K.b hd hv hw (k H locs ls hP hD hS h)
theorem g_dup_x1 {v w : Value} (K : gOK Γ cc Ts own) (hd : decode cc pc = .ok (.dup_x1, 1)) (hv : v.category = 1) (hw : w.category = 1) (k : gGO Γ cl sl (pc + 1) L (v :: w :: v :: st) ws) : gGO Γ cl sl (pc) L (v :: w :: st) ws := fun H locs ls hP hD hS h => lv_dup_x1 K.x K.b hd hv hw (k H locs ls hP hD hS h)
theorem g_pop {v : Value} (K : gOK Γ cc Ts own) (hd : decode cc pc = .ok (.pop, 1)) (hv : v.category = 1) (k : gGO Γ cl sl (pc + 1) L (st) ws) : gGO Γ cl sl (pc) L (v :: st) ws := fun H locs ls hP hD hS h => lv_pop K.x K.b hd hv (k H locs ls hP hD hS h)
theorem g_goto {off : Int} {tgt : Nat} (K : gOK Γ cc Ts own) (hd : decode cc pc = .ok (.goto off, 3)) (ht : (pc : Int) + off = (tgt : Int)) (k : gGO Γ cl sl (tgt) L (st) ws) : gGO Γ cl sl (pc) L (st) ws := fun H locs ls hP hD hS h => lv_goto K.x K.b hd ht (k H locs ls hP hD hS h)
theorem g_icmp_eq {x y : Int32} {off : Int} {tgt : Nat} (K : gOK Γ cc Ts own) (hd : decode cc pc = .ok (.if_icmp .eq off, 3)) (ht : (pc : Int) + off = (tgt : Int)) (kt : x = y → gGO Γ cl sl tgt L st ws) (kf : ¬ x = y → gGO Γ cl sl (pc + 3) L st ws) : gGO Γ cl sl pc L (.int y :: .int x :: st) ws := fun H locs ls hP hD hS h => lv_icmp_eq K.x K.b hd ht (fun q => kt q H locs ls hP hD hS h) (fun q => kf q H locs ls hP hD hS h)
theorem g_if_eq {x : Int32} {off : Int} {tgt : Nat} (K : gOK Γ cc Ts own) (hd : decode cc pc = .ok (.ifCond .eq off, 3)) (ht : (pc : Int) + off = (tgt : Int)) (kt : x = 0 → gGO Γ cl sl tgt L st ws) (kf : ¬ x = 0 → gGO Γ cl sl (pc + 3) L st ws) : gGO Γ cl sl pc L (.int x :: st) ws := fun H locs ls hP hD hS h => lv_if_eq K.x K.b hd ht (fun q => kt q H locs ls hP hD hS h) (fun q => kf q H locs ls hP hD hS h)
theorem g_icmp_ne {x y : Int32} {off : Int} {tgt : Nat} (K : gOK Γ cc Ts own) (hd : decode cc pc = .ok (.if_icmp .ne off, 3)) (ht : (pc : Int) + off = (tgt : Int)) (kt : ¬ x = y → gGO Γ cl sl tgt L st ws) (kf : x = y → gGO Γ cl sl (pc + 3) L st ws) : gGO Γ cl sl pc L (.int y :: .int x :: st) ws := fun H locs ls hP hD hS h => lv_icmp_ne K.x K.b hd ht (fun q => kt q H locs ls hP hD hS h) (fun q => kf q H locs ls hP hD hS h)
theorem g_if_ne {x : Int32} {off : Int} {tgt : Nat} (K : gOK Γ cc Ts own) (hd : decode cc pc = .ok (.ifCond .ne off, 3)) (ht : (pc : Int) + off = (tgt : Int)) (kt : ¬ x = 0 → gGO Γ cl sl tgt L st ws) (kf : x = 0 → gGO Γ cl sl (pc + 3) L st ws) : gGO Γ cl sl pc L (.int x :: st) ws := fun H locs ls hP hD hS h => lv_if_ne K.x K.b hd ht (fun q => kt q H locs ls hP hD hS h) (fun q => kf q H locs ls hP hD hS h)
theorem g_icmp_lt {x y : Int32} {off : Int} {tgt : Nat} (K : gOK Γ cc Ts own) (hd : decode cc pc = .ok (.if_icmp .lt off, 3)) (ht : (pc : Int) + off = (tgt : Int)) (kt : x < y → gGO Γ cl sl tgt L st ws) (kf : ¬ x < y → gGO Γ cl sl (pc + 3) L st ws) : gGO Γ cl sl pc L (.int y :: .int x :: st) ws := fun H locs ls hP hD hS h => lv_icmp_lt K.x K.b hd ht (fun q => kt q H locs ls hP hD hS h) (fun q => kf q H locs ls hP hD hS h)
theorem g_if_lt {x : Int32} {off : Int} {tgt : Nat} (K : gOK Γ cc Ts own) (hd : decode cc pc = .ok (.ifCond .lt off, 3)) (ht : (pc : Int) + off = (tgt : Int)) (kt : x < 0 → gGO Γ cl sl tgt L st ws) (kf : ¬ x < 0 → gGO Γ cl sl (pc + 3) L st ws) : gGO Γ cl sl pc L (.int x :: st) ws := fun H locs ls hP hD hS h => lv_if_lt K.x K.b hd ht (fun q => kt q H locs ls hP hD hS h) (fun q => kf q H locs ls hP hD hS h)
theorem g_icmp_ge {x y : Int32} {off : Int} {tgt : Nat} (K : gOK Γ cc Ts own) (hd : decode cc pc = .ok (.if_icmp .ge off, 3)) (ht : (pc : Int) + off = (tgt : Int)) (kt : y ≤ x → gGO Γ cl sl tgt L st ws) (kf : ¬ y ≤ x → gGO Γ cl sl (pc + 3) L st ws) : gGO Γ cl sl pc L (.int y :: .int x :: st) ws := fun H locs ls hP hD hS h => lv_icmp_ge K.x K.b hd ht (fun q => kt q H locs ls hP hD hS h) (fun q => kf q H locs ls hP hD hS h)
theorem g_if_ge {x : Int32} {off : Int} {tgt : Nat} (K : gOK Γ cc Ts own) (hd : decode cc pc = .ok (.ifCond .ge off, 3)) (ht : (pc : Int) + off = (tgt : Int)) (kt : 0 ≤ x → gGO Γ cl sl tgt L st ws) (kf : ¬ 0 ≤ x → gGO Γ cl sl (pc + 3) L st ws) : gGO Γ cl sl pc L (.int x :: st) ws := fun H locs ls hP hD hS h => lv_if_ge K.x K.b hd ht (fun q => kt q H locs ls hP hD hS h) (fun q => kf q H locs ls hP hD hS h)
theorem g_icmp_gt {x y : Int32} {off : Int} {tgt : Nat} (K : gOK Γ cc Ts own) (hd : decode cc pc = .ok (.if_icmp .gt off, 3)) (ht : (pc : Int) + off = (tgt : Int)) (kt : y < x → gGO Γ cl sl tgt L st ws) (kf : ¬ y < x → gGO Γ cl sl (pc + 3) L st ws) : gGO Γ cl sl pc L (.int y :: .int x :: st) ws := fun H locs ls hP hD hS h => lv_icmp_gt K.x K.b hd ht (fun q => kt q H locs ls hP hD hS h) (fun q => kf q H locs ls hP hD hS h)
theorem g_if_gt {x : Int32} {off : Int} {tgt : Nat} (K : gOK Γ cc Ts own) (hd : decode cc pc = .ok (.ifCond .gt off, 3)) (ht : (pc : Int) + off = (tgt : Int)) (kt : 0 < x → gGO Γ cl sl tgt L st ws) (kf : ¬ 0 < x → gGO Γ cl sl (pc + 3) L st ws) : gGO Γ cl sl pc L (.int x :: st) ws := fun H locs ls hP hD hS h => lv_if_gt K.x K.b hd ht (fun q => kt q H locs ls hP hD hS h) (fun q => kf q H locs ls hP hD hS h)
theorem g_icmp_le {x y : Int32} {off : Int} {tgt : Nat} (K : gOK Γ cc Ts own) (hd : decode cc pc = .ok (.if_icmp .le off, 3)) (ht : (pc : Int) + off = (tgt : Int)) (kt : x ≤ y → gGO Γ cl sl tgt L st ws) (kf : ¬ x ≤ y → gGO Γ cl sl (pc + 3) L st ws) : gGO Γ cl sl pc L (.int y :: .int x :: st) ws := fun H locs ls hP hD hS h => lv_icmp_le K.x K.b hd ht (fun q => kt q H locs ls hP hD hS h) (fun q => kf q H locs ls hP hD hS h)
theorem g_if_le {x : Int32} {off : Int} {tgt : Nat} (K : gOK Γ cc Ts own) (hd : decode cc pc = .ok (.ifCond .le off, 3)) (ht : (pc : Int) + off = (tgt : Int)) (kt : x ≤ 0 → gGO Γ cl sl tgt L st ws) (kf : ¬ x ≤ 0 → gGO Γ cl sl (pc + 3) L st ws) : gGO Γ cl sl pc L (.int x :: st) ws := fun H locs ls hP hD hS h => lv_if_le K.x K.b hd ht (fun q => kt q H locs ls hP hD hS h) (fun q => kf q H locs ls hP hD hS h)
theorem g_ifnonnull {x : Nat} {off : Int} {tgt : Nat} (K : gOK Γ cc Ts own) (hd : decode cc pc = .ok (.ifnonnull off, 3)) (ht : (pc : Int) + off = (tgt : Int)) (k : gGO Γ cl sl (tgt) L (st) ws) : gGO Γ cl sl (pc) L (.ref x :: st) ws := fun H locs ls hP hD hS h => lv_ifnonnull K.x K.b hd ht (k H locs ls hP hD hS h)
theorem g_ifnonnullN {off : Int} (K : gOK Γ cc Ts own) (hd : decode cc pc = .ok (.ifnonnull off, 3)) (k : gGO Γ cl sl (pc + 3) L (st) ws) : gGO Γ cl sl (pc) L (.null :: st) ws := fun H locs ls hP hD hS h => lv_ifnonnullN K.x K.b hd (k H locs ls hP hD hS h)
theorem g_ifnull {x : Nat} {off : Int} (K : gOK Γ cc Ts own) (hd : decode cc pc = .ok (.ifnull off, 3)) (k : gGO Γ cl sl (pc + 3) L (st) ws) : gGO Γ cl sl (pc) L (.ref x :: st) ws := fun H locs ls hP hD hS h => lv_ifnull K.x K.b hd (k H locs ls hP hD hS h)
theorem g_ifnullN {off : Int} {tgt : Nat} (K : gOK Γ cc Ts own) (hd : decode cc pc = .ok (.ifnull off, 3)) (ht : (pc : Int) + off = (tgt : Int)) (k : gGO Γ cl sl (tgt) L (st) ws) : gGO Γ cl sl (pc) L (.null :: st) ws := fun H locs ls hP hD hS h => lv_ifnullN K.x K.b hd ht (k H locs ls hP hD hS h)
theorem g_tabIn {dflt lo hi : Int} {offs : Array Int} {len : Nat} {x : Int32} {off : Int} {tgt : Nat} (K : gOK Γ cc Ts own) (hd : decode cc pc = .ok (.tableswitch dflt lo hi offs, len)) (h1 : ¬ x.toInt < lo) (h2 : ¬ hi < x.toInt) (ho : offs[(x.toInt - lo).toNat]? = some off) (ht : (pc : Int) + off = (tgt : Int)) (k : gGO Γ cl sl (tgt) L (st) ws) : gGO Γ cl sl (pc) L (.int x :: st) ws := fun H locs ls hP hD hS h => lv_tableIn K.x K.b hd h1 h2 ho ht (k H locs ls hP hD hS h)
theorem g_tabOut {dflt lo hi : Int} {offs : Array Int} {len : Nat} {x : Int32} {tgt : Nat} (K : gOK Γ cc Ts own) (hd : decode cc pc = .ok (.tableswitch dflt lo hi offs, len)) (h1 : x.toInt < lo ∨ hi < x.toInt) (ht : (pc : Int) + dflt = (tgt : Int)) (k : gGO Γ cl sl (tgt) L (st) ws) : gGO Γ cl sl (pc) L (.int x :: st) ws := fun H locs ls hP hD hS h => lv_tableOut K.x K.b hd h1 ht (k H locs ls hP hD hS h)
theorem g_lookup {dflt : Int} {ps : Array (Int × Int)} {len : Nat} {x : Int32} {off : Int} {tgt : Nat} (K : gOK Γ cc Ts own) (hd : decode cc pc = .ok (.lookupswitch dflt ps, len)) (hp : (ps.toList.zip (ps.toList.drop 1)).all (fun (a, next) => a.1 < next.1) = true) (ho : Op.lookupswitch.offset ps.toList dflt x.toInt = off) (ht : (pc : Int) + off = (tgt : Int)) (k : gGO Γ cl sl (tgt) L (st) ws) : gGO Γ cl sl (pc) L (.int x :: st) ws := fun H locs ls hP hD hS h => lv_lookup K.x K.b hd hp ho ht (k H locs ls hP hD hS h)
/-- a frozen cell, now -/
theorem g_frz {H : Heap} {locs : List Loc} {a : Nat} {e : va_E} (K : gOK Γ cc Ts own) (hS : va_S (g_A Γ) (g_s Γ).heap H locs) (he : gfz (g_E Γ) a = some e) : va_P (gD (g_E Γ)) vwCl [(a, e)] H := by
  obtain ⟨h1, h2⟩ := K.X.1 a e he
  intro k q hq
  have hk : k = 0 := by
    cases k with
    | zero => rfl
    | succ k => simp at hq
  subst hk
  cases hq
  exact h1.kept (hS.2.1 a h1.lt (fun z => h2 (K.an a z)))
theorem g_same {args : Array Value} {s : State} {ref d n t : String} (h : (Cond.sameField ref d n t).before args s = true) : ∀ x, s.fieldFound? d n t = some x → s.fieldFound? ref n t = some x := by
  intro x hx
  exact u_same h x hx
/-- fields -/
theorem g_get {ref C : String} {T : u_T} {N ci index a : Nat} {fs : List Value} {v : Value} (K : gOK Γ cc Ts own) (hin : ∀ w ∈ u_ws C T N, w ∈ Ts) (q0 : Nat) (he : ws[q0]? = some (a, .inr (ci, fs))) (hc : vwCl[ci]? = some (C, T, N)) (f : Nat) (hk : f < N) (hlink : Cond.fieldLink own index ref (T f).2.1 (T f).2.2.1 ∈ Ts) (hsame : (T f).1 = ref ∨ Cond.sameField ref (T f).1 (T f).2.1 (T f).2.2.1 ∈ Ts) (hv : fs[f]? = some v) (hd : decode cc pc = .ok (.getfield index, 3)) (k : gGO Γ cl sl (pc + 3) L (v :: st) ws) : gGO Γ cl sl pc L (.ref a :: st) ws := fun H locs ls hP hD hS h => by
  refine va_get K.x K.b K.t hin K.o K.K hP q0 he hc f hk (K.t _ hlink) ?_ hv hd (k H locs ls hP hD hS h)
  rcases hsame with e | e
  · rw [e]; exact fun _ h => h
  · exact g_same (K.t _ e)
/-- a frozen cell's field -/
theorem g_getF {ref C : String} {T : u_T} {N ci index a : Nat} {fs : List Value} {v : Value} (K : gOK Γ cc Ts own) (hin : ∀ w ∈ u_ws C T N, w ∈ Ts) (he : gfz (g_E Γ) a = some (.inr (ci, fs))) (hc : vwCl[ci]? = some (C, T, N)) (f : Nat) (hk : f < N) (hlink : Cond.fieldLink own index ref (T f).2.1 (T f).2.2.1 ∈ Ts) (hsame : (T f).1 = ref ∨ Cond.sameField ref (T f).1 (T f).2.1 (T f).2.2.1 ∈ Ts) (hv : fs[f]? = some v) (hd : decode cc pc = .ok (.getfield index, 3)) (k : gGO Γ cl sl (pc + 3) L (v :: st) ws) : gGO Γ cl sl pc L (.ref a :: st) ws := fun H locs ls hP hD hS h => by
  refine va_get K.x K.b K.t hin K.o K.K (g_frz K hS he) 0 rfl hc f hk (K.t _ hlink) ?_ hv hd (k H locs ls hP hD hS h)
  rcases hsame with e | e
  · rw [e]; exact fun _ h => h
  · exact g_same (K.t _ e)
theorem g_put {ref C : String} {T : u_T} {N ci index a : Nat} {fs : List Value} {v : Value} {ty0 : Nat → FieldType} (K : gOK Γ cc Ts own) (hin : ∀ w ∈ u_ws C T N, w ∈ Ts) (hty : ∀ k, k < N → parseFieldDescriptor (T k).2.2.1 = some (ty0 k)) (hnm : ∀ a, a < N → ∀ b, b < N → a ≠ b → (T a).2.1 ≠ (T b).2.1) (q0 : Nat) (he : ws[q0]? = some (a, .inr (ci, fs))) (hc : vwCl[ci]? = some (C, T, N)) (f : Nat) (hk : f < N) (hlink : Cond.fieldLink own index ref (T f).2.1 (T f).2.2.1 ∈ Ts) (href : (T f).1 = ref) (hfin : (T f).2.2.2 = false) {ty : FieldType} (hdt : parseFieldDescriptor (T f).2.2.1 = some ty) (hn : narrow ty v = v) (hfit : fits ty v = true) (hl : f < fs.length) (hd : decode cc pc = .ok (.putfield index, 3)) (hw : ws.set q0 (a, .inr (ci, fs.set f v)) = ws') (k : gGO Γ cl sl (pc + 3) L st ws') : gGO Γ cl sl pc L (v :: .ref a :: st) ws := fun H locs ls hP hD hS h => by
  subst hw
  exact va_put K.x K.b K.t hin ty0 hty hnm K.o K.K hP hD hS q0 he hc f hk (K.t _ hlink) (by rw [href]; exact fun _ h => h) hfin hdt hn hfit hl hd (fun H locs hP hD hS => k H locs ls hP hD hS h)
theorem g_putF {ref C : String} {T : u_T} {N ci index a : Nat} {fs : List Value} {v : Value} {ty0 : Nat → FieldType} (K : gOK Γ cc Ts own) (hin : ∀ w ∈ u_ws C T N, w ∈ Ts) (hty : ∀ k, k < N → parseFieldDescriptor (T k).2.2.1 = some (ty0 k)) (hnm : ∀ a, a < N → ∀ b, b < N → a ≠ b → (T a).2.1 ≠ (T b).2.1) (q0 : Nat) (he : ws[q0]? = some (a, .inr (ci, fs))) (hc : vwCl[ci]? = some (C, T, N)) (f : Nat) (hk : f < N) (hlink : Cond.fieldLink own index ref (T f).2.1 (T f).2.2.1 ∈ Ts) (href : (T f).1 = ref) (hfin : (T f).2.2.2 = true) (hi : (g_me Γ).name = "<init>") (ho : (T f).1 = own) {ty : FieldType} (hdt : parseFieldDescriptor (T f).2.2.1 = some ty) (hn : narrow ty v = v) (hfit : fits ty v = true) (hl : f < fs.length) (hd : decode cc pc = .ok (.putfield index, 3)) (hw : ws.set q0 (a, .inr (ci, fs.set f v)) = ws') (k : gGO Γ cl sl (pc + 3) L st ws') : gGO Γ cl sl pc L (v :: .ref a :: st) ws := fun H locs ls hP hD hS h => by
  subst hw
  exact va_putF K.x K.b K.t hin ty0 hty hnm K.o K.K hP hD hS q0 he hc f hk (K.t _ hlink) (by rw [href]; exact fun _ h => h) hfin hi ho hdt hn hfit hl hd (fun H locs hP hD hS => k H locs ls hP hD hS h)
/-- arrays -/
theorem g_iald {a n : Nat} {f : Nat → Int32} {i : Int32} (K : gOK Γ cc Ts own) (q0 : Nat) (he : ws[q0]? = some (a, .inl (gI (g_E Γ), n, .inl f))) (hi : vp_in i n) (hd : decode cc pc = .ok (.iaload, 1)) (k : gGO Γ cl sl (pc + 1) L (.int (f i.toNatClampNeg) :: st) ws) : gGO Γ cl sl pc L (.int i :: .ref a :: st) ws := fun H locs ls hP hD hS h => va_iald K.x K.b K.K hP q0 0 he rfl hi hd (k H locs ls hP hD hS h)
theorem g_cald {a n : Nat} {f : Nat → Int32} {i : Int32} (K : gOK Γ cc Ts own) (q0 : Nat) (he : ws[q0]? = some (a, .inl (gCh (g_E Γ), n, .inl f))) (hi : vp_in i n) (hd : decode cc pc = .ok (.caload, 1)) (k : gGO Γ cl sl (pc + 1) L (.int (f i.toNatClampNeg) :: st) ws) : gGO Γ cl sl pc L (.int i :: .ref a :: st) ws := fun H locs ls hP hD hS h => va_cald K.x K.b K.K hP q0 1 he rfl hi hd (k H locs ls hP hD hS h)
theorem g_zald {a n : Nat} {f : Nat → Int32} {i : Int32} (K : gOK Γ cc Ts own) (q0 : Nat) (he : ws[q0]? = some (a, .inl (gZ (g_E Γ), n, .inl f))) (hi : vp_in i n) (hd : decode cc pc = .ok (.baload, 1)) (k : gGO Γ cl sl (pc + 1) L (.int (f i.toNatClampNeg) :: st) ws) : gGO Γ cl sl pc L (.int i :: .ref a :: st) ws := fun H locs ls hP hD hS h => va_zald K.x K.b K.K hP q0 2 he rfl hi hd (k H locs ls hP hD hS h)
theorem g_ialdF {a n : Nat} {f : Nat → Int32} {i : Int32} (K : gOK Γ cc Ts own) (he : gfz (g_E Γ) a = some (.inl (gI (g_E Γ), n, .inl f))) (hi : vp_in i n) (hd : decode cc pc = .ok (.iaload, 1)) (k : gGO Γ cl sl (pc + 1) L (.int (f i.toNatClampNeg) :: st) ws) : gGO Γ cl sl pc L (.int i :: .ref a :: st) ws := fun H locs ls hP hD hS h => va_iald K.x K.b K.K (g_frz K hS he) 0 0 rfl rfl hi hd (k H locs ls hP hD hS h)
theorem g_iast {a n : Nat} {f : Nat → Int32} {i x : Int32} (K : gOK Γ cc Ts own) (q0 : Nat) (he : ws[q0]? = some (a, .inl (gI (g_E Γ), n, .inl f))) (hi : vp_in i n) (hd : decode cc pc = .ok (.iastore, 1)) (hw : ws.set q0 (a, .inl (gI (g_E Γ), n, .inl (upd f i.toNatClampNeg x))) = ws') (k : gGO Γ cl sl (pc + 1) L st ws') : gGO Γ cl sl pc L (.int x :: .int i :: .ref a :: st) ws := fun H locs ls hP hD hS h => by
  subst hw
  exact va_iast K.x K.b K.K hP hD hS q0 0 he rfl hi hd (fun H locs hP hD hS => k H locs ls hP hD hS h)
theorem g_cast {a n : Nat} {f : Nat → Int32} {i x : Int32} (K : gOK Γ cc Ts own) (q0 : Nat) (he : ws[q0]? = some (a, .inl (gCh (g_E Γ), n, .inl f))) (hi : vp_in i n) (hd : decode cc pc = .ok (.castore, 1)) (hw : ws.set q0 (a, .inl (gCh (g_E Γ), n, .inl (upd f i.toNatClampNeg (vp_nar .char x)))) = ws') (k : gGO Γ cl sl (pc + 1) L st ws') : gGO Γ cl sl pc L (.int x :: .int i :: .ref a :: st) ws := fun H locs ls hP hD hS h => by
  subst hw
  exact va_cast K.x K.b K.K hP hD hS q0 1 he rfl hi hd (fun H locs hP hD hS => k H locs ls hP hD hS h)
theorem g_zast {a n : Nat} {f : Nat → Int32} {i x : Int32} (K : gOK Γ cc Ts own) (q0 : Nat) (he : ws[q0]? = some (a, .inl (gZ (g_E Γ), n, .inl f))) (hi : vp_in i n) (hd : decode cc pc = .ok (.bastore, 1)) (hw : ws.set q0 (a, .inl (gZ (g_E Γ), n, .inl (upd f i.toNatClampNeg (vp_nar .boolean x)))) = ws') (k : gGO Γ cl sl (pc + 1) L st ws') : gGO Γ cl sl pc L (.int x :: .int i :: .ref a :: st) ws := fun H locs ls hP hD hS h => by
  subst hw
  exact va_zast K.x K.b K.K hP hD hS q0 2 he rfl hi hd (fun H locs hP hD hS => k H locs ls hP hD hS h)
theorem g_alen {a : Nat} {cA : ClassId} {x : vp_A} {v : Int32} {ty : FieldType} (K : gOK Γ cc Ts own) (q0 t0 : Nat) (he : ws[q0]? = some (a, .inl (cA, x))) (ht : (gTy (g_E Γ))[t0]? = some (cA, ty)) (hv : Int32.ofNat x.1 = v) (hd : decode cc pc = .ok (.arraylength, 1)) (k : gGO Γ cl sl (pc + 1) L (.int v :: st) ws) : gGO Γ cl sl pc L (.ref a :: st) ws := fun H locs ls hP hD hS h => va_alen K.x K.b K.K hP q0 t0 he ht hv hd (k H locs ls hP hD hS h)
theorem g_alenF {a : Nat} {cA : ClassId} {x : vp_A} {v : Int32} {ty : FieldType} (K : gOK Γ cc Ts own) (t0 : Nat) (he : gfz (g_E Γ) a = some (.inl (cA, x))) (ht : (gTy (g_E Γ))[t0]? = some (cA, ty)) (hv : Int32.ofNat x.1 = v) (hd : decode cc pc = .ok (.arraylength, 1)) (k : gGO Γ cl sl (pc + 1) L (.int v :: st) ws) : gGO Γ cl sl pc L (.ref a :: st) ws := fun H locs ls hP hD hS h => va_alen K.x K.b K.K (g_frz K hS he) 0 t0 rfl ht hv hd (k H locs ls hP hD hS h)
theorem g_aald {a n : Nat} {f : Nat → Option Nat} {i : Int32} (K : gOK Γ cc Ts own) (q0 : Nat) (he : ws[q0]? = some (a, .inl (gO (g_E Γ), n, .inr (.inr (.inr (.inr f)))))) (hi : vp_in i n) (hd : decode cc pc = .ok (.aaload, 1)) (k : gGO Γ cl sl (pc + 1) L (va_rf (f i.toNatClampNeg) :: st) ws) : gGO Γ cl sl pc L (.int i :: .ref a :: st) ws := fun H locs ls hP hD hS h => va_aldq K.x K.b K.K hP q0 3 he rfl hi hd (k H locs ls hP hD hS h)
end GO
/-- CONTRACTS over cells: from the cells wc to cells w with 'post' -/
def gPre (E : gE) (sz : Nat) (wc : va_W) : State → Prop := fun U => U.heap.size = sz ∧ va_P (gD E) vwCl wc U.heap ∧ va_D (gN E) wc ∧ gX E U ∧ ∀ q, sz ≤ q → gN E q
def gB (E : gE) (A : Nat → Prop) (w : va_W) (t : State) : Prop := va_P (gD E) vwCl w t.heap ∧ va_K (gD E) vwCl (gTy E) t ∧ va_D A w
theorem gX_go {Γ : gT} {cc : ByteArray} {Ts : List Cond} {own : String} {H : Heap} {locs : List Loc} (K : gOK Γ cc Ts own) (hS : va_S (g_A Γ) (g_s Γ).heap H locs) (U : State) (hU : U.heap = H) (hW : (g_s Γ).WarmedH U.vm) : gX (g_E Γ) U := by
  obtain ⟨hF, hK, h1, h2, h3, h4, h5, h6⟩ := K.X
  have hq : ∀ a, a < (g_s Γ).heap.size → ¬ gN (g_E Γ) a → H[a]? = (g_s Γ).heap[a]? := fun a z1 z2 => hS.2.1 a z1 (fun z => z2 (K.an a z))
  refine ⟨fun a e he => ⟨(hF a e he).1.kept (by rw [hU]; exact hq a (hF a e he).1.lt (hF a e he).2), (hF a e he).2⟩, va_K.moved hW.alike hK, ?_, ?_, ?_, fun q z => vk_R.warm hW (h4 q z), fun k z1 j z2 z3 => va_Nc.moved hW.alike (h5 k z1 j z2 z3), fun k z1 j z2 z3 z4 => va_Nw.warmC hW (h6 k z1 j z2 z3 z4)⟩
  · rw [hU]; exact (h1.moved hW.alike).kept hq
  · rw [hU]; exact (h2.moved hW.alike).kept hq
  · rw [hU]; exact (h3.moved hW.alike).kept hq
theorem gX_calling {E : gE} {U : State} {g : JFrame} {mk : MethodId} {a : Array Value} (h : gX E U) : gX E (U.calling g mk a) := by
  obtain ⟨hF, hK, h1, h2, h3, h4, h5, h6⟩ := h
  exact ⟨hF, va_K.moved (u := U) (Vm.Alike.refl U.vm) hK, vk_S.moved (u := U) (Vm.Alike.refl U.vm) h1, va_Z.moved (u := U) (Vm.Alike.refl U.vm) h2, va_Zq.moved (u := U) (Vm.Alike.refl U.vm) h3, fun q z => vk_R.same (u := U) rfl (h4 q z), fun k z1 j z2 z3 => va_Nc.moved (u := U) (Vm.Alike.refl U.vm) (h5 k z1 j z2 z3), fun k z1 j z2 z3 z4 => va_Nw.same rfl (u := U) rfl (h6 k z1 j z2 z3 z4)⟩
theorem gBlind {av : List Value} {E : gE} {sz : Nat} {wc : va_W} : FrameBlind (va_Pc av (gPre E sz wc)) := by
  intro a U g mk q
  obtain ⟨q0, q1, q2, q3, q4, q5⟩ := q
  exact ⟨q0, q1, q2, q3, gX_calling q4, q5⟩
def gMi (y : MethodName) (wy : List Cond) (rm : Room) (mc ms : Nat) (E : gE) (av : List Value) (wc : va_W) (post : Int32 → va_W → Prop) : Prop := ∀ (l : Launch) (sz : Nat), Met l y wy rm (va_Pc av (gPre E sz wc)) (va_Qi post (gB E (va_A wc sz)) (va_A wc sz)) mc ms (va_A wc sz)
def gMl (y : MethodName) (wy : List Cond) (rm : Room) (mc ms : Nat) (E : gE) (av : List Value) (wc : va_W) (post : Int64 → va_W → Prop) : Prop := ∀ (l : Launch) (sz : Nat), Met l y wy rm (va_Pc av (gPre E sz wc)) (va_Ql post (gB E (va_A wc sz)) (va_A wc sz)) mc ms (va_A wc sz)
def gMv (y : MethodName) (wy : List Cond) (rm : Room) (mc ms : Nat) (E : gE) (av : List Value) (wc : va_W) (post : va_W → Prop) : Prop := ∀ (l : Launch) (sz : Nat), Met l y wy rm (va_Pc av (gPre E sz wc)) (va_Qv post (gB E (va_A wc sz)) (va_A wc sz)) mc ms (va_A wc sz)
def gMq (y : MethodName) (wy : List Cond) (rm : Room) (mc ms : Nat) (E : gE) (av : List Value) (wc : va_W) (post : Option Nat → va_W → Prop) : Prop := ∀ (l : Launch) (sz : Nat), Met l y wy rm (va_Pc av (gPre E sz wc)) (va_Qq post (gB E (va_A wc sz)) (va_A wc sz)) mc ms (va_A wc sz)

theorem g_met_i {y : MethodName} {rm : Room} {cc : ByteArray} {nL : Nat} {E : gE} {av : List Value} {wc : va_W} {post : Int32 → va_W → Prop} {mc ms : Nat} {ty : FieldType} (hy : plainName y.cls = true) (hlen : (lg_sl av).length ≤ nL)
    (body : ∀ Γ : gT, gOK Γ cc gU y.cls → g_n Γ = nL → g_E Γ = E → g_R Γ = rm → (g_me Γ).name = y.name → (∀ (pc : Nat) (L : List (Nat × Value)) (v : Int32) (w : va_W), decode cc pc = .ok (.ireturn, 1) → narrow ty (.int v) = .int v → post v w → gGO Γ mc ms pc L [.int v] w) → gGO Γ 0 0 0 (lv_args 0 av) [] wc) : gMi y (.code y cc nL (some ty) :: gU) rm mc ms E av wc post := by
  intro l sz
  refine Met.ofW (cc := cc) (maxL := nL) (ret := (some ty)) hy rfl ?_
  intro p e s m args below meth c s₁ B hml hv
  obtain ⟨rfl, hsz, hP, hD0, hX, hN⟩ := hv
  subst hsz
  have hl := lv_entry av hlen
  rw [lg_entry_eq]
  generalize (lg_sl av ++ List.replicate (nL - (lg_sl av).length) Slot.unset).toArray = ls at hl ⊢
  refine body (p, l, e, (headSpec (.code y cc nL (some ty) :: gU) rm).room, s, m, av.toArray, below, meth, c, MQ below (va_Qi post (gB E (va_A wc s.heap.size)) (va_A wc s.heap.size)) av.toArray s mc ms (va_A wc s.heap.size), E, va_A wc s.heap.size, nL) ⟨B.exec, B.bytes, hml, findClass_of_methodNamed B.named, fun w hw => atoms_spec (ws := .code y cc nL (some ty) :: gU) B.pre w (List.mem_cons_of_mem _ hw), fun q h => Or.inr h, ?_, hX⟩ rfl rfl rfl (name_of_methodNamed B.named B.method).1 ?_ s.heap [] ls hP hD0.self va_S.rf hl
  · intro q h
    rcases h with ⟨k, e, h⟩ | h
    · exact hD0.2 k (q, e) h
    · exact hN q h
  · intro pc L v w hd hn hp H locs ls hP hD hS h
    exact W.zret B.exec B.bytes B.returns hn (fun t ht hW => ⟨⟨v, w, rfl, hp, by rw [ht]; exact hP, va_K.moved hW.alike hX.2.1, hD⟩, hS.F ht⟩) hS.2.2 hd B.notSynchronized

theorem g_met_l {y : MethodName} {rm : Room} {cc : ByteArray} {nL : Nat} {E : gE} {av : List Value} {wc : va_W} {post : Int64 → va_W → Prop} {mc ms : Nat} (hy : plainName y.cls = true) (hlen : (lg_sl av).length ≤ nL)
    (body : ∀ Γ : gT, gOK Γ cc gU y.cls → g_n Γ = nL → g_E Γ = E → g_R Γ = rm → (g_me Γ).name = y.name → (∀ (pc : Nat) (L : List (Nat × Value)) (v : Int64) (w : va_W), decode cc pc = .ok (.lreturn, 1) → post v w → gGO Γ mc ms pc L [.long v] w) → gGO Γ 0 0 0 (lv_args 0 av) [] wc) : gMl y (.code y cc nL (some .long) :: gU) rm mc ms E av wc post := by
  intro l sz
  refine Met.ofW (cc := cc) (maxL := nL) (ret := (some .long)) hy rfl ?_
  intro p e s m args below meth c s₁ B hml hv
  obtain ⟨rfl, hsz, hP, hD0, hX, hN⟩ := hv
  subst hsz
  have hl := lv_entry av hlen
  rw [lg_entry_eq]
  generalize (lg_sl av ++ List.replicate (nL - (lg_sl av).length) Slot.unset).toArray = ls at hl ⊢
  refine body (p, l, e, (headSpec (.code y cc nL (some .long) :: gU) rm).room, s, m, av.toArray, below, meth, c, MQ below (va_Ql post (gB E (va_A wc s.heap.size)) (va_A wc s.heap.size)) av.toArray s mc ms (va_A wc s.heap.size), E, va_A wc s.heap.size, nL) ⟨B.exec, B.bytes, hml, findClass_of_methodNamed B.named, fun w hw => atoms_spec (ws := .code y cc nL (some .long) :: gU) B.pre w (List.mem_cons_of_mem _ hw), fun q h => Or.inr h, ?_, hX⟩ rfl rfl rfl (name_of_methodNamed B.named B.method).1 ?_ s.heap [] ls hP hD0.self va_S.rf hl
  · intro q h
    rcases h with ⟨k, e, h⟩ | h
    · exact hD0.2 k (q, e) h
    · exact hN q h
  · intro pc L v w hd hp H locs ls hP hD hS h
    exact W.lret B.exec B.bytes B.returns (fun t ht hW => ⟨⟨v, w, rfl, hp, by rw [ht]; exact hP, va_K.moved hW.alike hX.2.1, hD⟩, hS.F ht⟩) hS.2.2 hd B.notSynchronized

theorem g_met_v {y : MethodName} {rm : Room} {cc : ByteArray} {nL : Nat} {E : gE} {av : List Value} {wc : va_W} {post : va_W → Prop} {mc ms : Nat} (hy : plainName y.cls = true) (hlen : (lg_sl av).length ≤ nL)
    (body : ∀ Γ : gT, gOK Γ cc gU y.cls → g_n Γ = nL → g_E Γ = E → g_R Γ = rm → (g_me Γ).name = y.name → (∀ (pc : Nat) (L : List (Nat × Value)) (w : va_W), decode cc pc = .ok (.return_, 1) → post w → gGO Γ mc ms pc L [] w) → gGO Γ 0 0 0 (lv_args 0 av) [] wc) : gMv y (.code y cc nL none :: gU) rm mc ms E av wc post := by
  intro l sz
  refine Met.ofW (cc := cc) (maxL := nL) (ret := none) hy rfl ?_
  intro p e s m args below meth c s₁ B hml hv
  obtain ⟨rfl, hsz, hP, hD0, hX, hN⟩ := hv
  subst hsz
  have hl := lv_entry av hlen
  rw [lg_entry_eq]
  generalize (lg_sl av ++ List.replicate (nL - (lg_sl av).length) Slot.unset).toArray = ls at hl ⊢
  refine body (p, l, e, (headSpec (.code y cc nL none :: gU) rm).room, s, m, av.toArray, below, meth, c, MQ below (va_Qv post (gB E (va_A wc s.heap.size)) (va_A wc s.heap.size)) av.toArray s mc ms (va_A wc s.heap.size), E, va_A wc s.heap.size, nL) ⟨B.exec, B.bytes, hml, findClass_of_methodNamed B.named, fun w hw => atoms_spec (ws := .code y cc nL none :: gU) B.pre w (List.mem_cons_of_mem _ hw), fun q h => Or.inr h, ?_, hX⟩ rfl rfl rfl (name_of_methodNamed B.named B.method).1 ?_ s.heap [] ls hP hD0.self va_S.rf hl
  · intro q h
    rcases h with ⟨k, e, h⟩ | h
    · exact hD0.2 k (q, e) h
    · exact hN q h
  · intro pc L w hd hp H locs ls hP hD hS h
    exact W.vret B.exec B.bytes B.returns (fun t ht hW => ⟨⟨w, rfl, hp, by rw [ht]; exact hP, va_K.moved hW.alike hX.2.1, hD⟩, hS.F ht⟩) hS.2.2 hd B.notSynchronized

theorem g_met_q {y : MethodName} {rm : Room} {cc : ByteArray} {nL : Nat} {E : gE} {av : List Value} {wc : va_W} {post : Option Nat → va_W → Prop} {mc ms : Nat} {rc : String} (hy : plainName y.cls = true) (hlen : (lg_sl av).length ≤ nL)
    (body : ∀ Γ : gT, gOK Γ cc gU y.cls → g_n Γ = nL → g_E Γ = E → g_R Γ = rm → (g_me Γ).name = y.name → (∀ (pc : Nat) (L : List (Nat × Value)) (v : Option Nat) (w : va_W), decode cc pc = .ok (.areturn, 1) → post v w → gGO Γ mc ms pc L [va_rf v] w) → gGO Γ 0 0 0 (lv_args 0 av) [] wc) : gMq y (.code y cc nL (some (.object rc)) :: gU) rm mc ms E av wc post := by
  intro l sz
  refine Met.ofW (cc := cc) (maxL := nL) (ret := (some (.object rc))) hy rfl ?_
  intro p e s m args below meth c s₁ B hml hv
  obtain ⟨rfl, hsz, hP, hD0, hX, hN⟩ := hv
  subst hsz
  have hl := lv_entry av hlen
  rw [lg_entry_eq]
  generalize (lg_sl av ++ List.replicate (nL - (lg_sl av).length) Slot.unset).toArray = ls at hl ⊢
  refine body (p, l, e, (headSpec (.code y cc nL (some (.object rc)) :: gU) rm).room, s, m, av.toArray, below, meth, c, MQ below (va_Qq post (gB E (va_A wc s.heap.size)) (va_A wc s.heap.size)) av.toArray s mc ms (va_A wc s.heap.size), E, va_A wc s.heap.size, nL) ⟨B.exec, B.bytes, hml, findClass_of_methodNamed B.named, fun w hw => atoms_spec (ws := .code y cc nL (some (.object rc)) :: gU) B.pre w (List.mem_cons_of_mem _ hw), fun q h => Or.inr h, ?_, hX⟩ rfl rfl rfl (name_of_methodNamed B.named B.method).1 ?_ s.heap [] ls hP hD0.self va_S.rf hl
  · intro q h
    rcases h with ⟨k, e, h⟩ | h
    · exact hD0.2 k (q, e) h
    · exact hN q h
  · intro pc L v w hd hp H locs ls hP hD hS h
    exact W.aret B.exec B.bytes B.returns (Or.inl ⟨rc, rfl⟩) (by cases v with | none => exact Or.inl rfl | some a => exact Or.inr ⟨a, rfl⟩) (fun t ht hW => ⟨⟨v, w, rfl, hp, by rw [ht]; exact hP, va_K.moved hW.alike hX.2.1, hD⟩, hS.F ht⟩) hS.2.2 hd B.notSynchronized

section GOC
variable {Γ : gT} {cc : ByteArray} {Ts : List Cond} {own : String} {cl sl pc : Nat} {L : List (Nat × Value)} {st : List Value} {ws : va_W} {y : MethodName} {bytes : ByteArray} {maxL index n mc ms : Nat} {wy wy' : List Cond} {rm R0 : Room} {As : List Value} {b : Nat}

theorem g_callVi (K : gOK Γ cc Ts own) {post : Int32 → va_W → Prop} (hM : gMi y wy rm mc ms (g_E Γ) (.ref b :: As) ws post) {C : String} {ret : Option FieldType} (hG : GoodIn Ts (wsV own index C y wy)) (hw0 : wy = Cond.code y bytes maxL ret :: wy') (hy : y.cls = C ∧ y.cls ≠ "java/lang/invoke/MethodHandle" ∧ y.cls ≠ "java/lang/invoke/VarHandle" ∧ (parseMethodDescriptor y.desc).map (fun d => d.parameters.length) = some n) (q0 : Nat) {ci : Nat} {fs : List Value} {q : vw_C} (hrv : ws[q0]? = some (b, .inr (ci, fs))) (hc : vwCl[ci]? = some q) (hq : q.1 = C) (hRm : g_R Γ = R0) (hrc : rm.cells = mc) (hrs : rm.slots = ms) (hn : As.length = n) (hR0 : rm.frames + 1 ≤ R0.frames ∧ 8 + (maxL + 11) + rm.locals ≤ R0.locals) (hst : (st.map fun v => v.category).sum ≤ 8) (hf0 : cl + mc ≤ R0.cells ∧ sl + ms ≤ R0.slots) (hd : decode cc pc = .ok (.invokevirtual index, 3)) (kk : ∀ (r : Int32) (w : va_W), post r w → gGO Γ (cl + mc) (sl + ms) (pc + 3) L (.int r :: st) w) : gGO Γ cl sl pc L (As.reverse ++ .ref b :: st) ws := fun H locs ls hP hD hS h => by
  have hR : rm.frames + 1 ≤ (g_R Γ).frames ∧ 8 + (maxL + 11) + rm.locals ≤ (g_R Γ).locals := by rw [hRm]; exact hR0
  have hf : cl + mc ≤ (g_R Γ).cells ∧ sl + ms ≤ (g_R Γ).slots := by rw [hRm]; exact hf0
  have hFc : ∀ q, va_A ws H.size q → g_A Γ q := fun q z => by
    rcases z with ⟨i, e, z⟩ | z
    · exact hD.2 i (q, e) z
    · exact K.a q (Nat.le_trans hS.1 z)
  refine va_calli (va_runV (As := As) (rest := st) ⟨K.x, K.b, K.n, K.o, K.t⟩ (hM (g_l Γ) H.size) (cwV n K.t hG hw0 hrc hrs hy hR) ⟨gBlind, (by have z := va_recv K.K hP hc hrv; rw [hq] at z; exact z), fun U hU hW => ⟨rfl, by rw [hU], by rw [hU]; exact hP, hD.weaken (fun _ _ _ z => K.an _ z), gX_go K hS U hU hW, fun q z => K.an q (K.a q (Nat.le_trans hS.1 z))⟩⟩ rfl hn h.1 rfl (lv_room hst) hd hf) hS (fun q _ z => hFc q z) hFc (fun r u t H1 locs ht hvm hw hB hz1 hk1 hS => ?_)
  obtain ⟨hP1, hK1, hD1⟩ := hB
  rw [ht] at hP1
  exact kk r u hw H1 locs ls hP1 (hD1.weaken (fun _ q _ z => hFc q.1 z)) hS h

theorem g_callVv (K : gOK Γ cc Ts own) {post : va_W → Prop} (hM : gMv y wy rm mc ms (g_E Γ) (.ref b :: As) ws post) {C : String} {ret : Option FieldType} (hG : GoodIn Ts (wsV own index C y wy)) (hw0 : wy = Cond.code y bytes maxL ret :: wy') (hy : y.cls = C ∧ y.cls ≠ "java/lang/invoke/MethodHandle" ∧ y.cls ≠ "java/lang/invoke/VarHandle" ∧ (parseMethodDescriptor y.desc).map (fun d => d.parameters.length) = some n) (q0 : Nat) {ci : Nat} {fs : List Value} {q : vw_C} (hrv : ws[q0]? = some (b, .inr (ci, fs))) (hc : vwCl[ci]? = some q) (hq : q.1 = C) (hRm : g_R Γ = R0) (hrc : rm.cells = mc) (hrs : rm.slots = ms) (hn : As.length = n) (hR0 : rm.frames + 1 ≤ R0.frames ∧ 8 + (maxL + 11) + rm.locals ≤ R0.locals) (hst : (st.map fun v => v.category).sum ≤ 8) (hf0 : cl + mc ≤ R0.cells ∧ sl + ms ≤ R0.slots) (hd : decode cc pc = .ok (.invokevirtual index, 3)) (kk : ∀ (w : va_W), post w → gGO Γ (cl + mc) (sl + ms) (pc + 3) L (st) w) : gGO Γ cl sl pc L (As.reverse ++ .ref b :: st) ws := fun H locs ls hP hD hS h => by
  have hR : rm.frames + 1 ≤ (g_R Γ).frames ∧ 8 + (maxL + 11) + rm.locals ≤ (g_R Γ).locals := by rw [hRm]; exact hR0
  have hf : cl + mc ≤ (g_R Γ).cells ∧ sl + ms ≤ (g_R Γ).slots := by rw [hRm]; exact hf0
  have hFc : ∀ q, va_A ws H.size q → g_A Γ q := fun q z => by
    rcases z with ⟨i, e, z⟩ | z
    · exact hD.2 i (q, e) z
    · exact K.a q (Nat.le_trans hS.1 z)
  refine va_callv (va_runV (As := As) (rest := st) ⟨K.x, K.b, K.n, K.o, K.t⟩ (hM (g_l Γ) H.size) (cwV n K.t hG hw0 hrc hrs hy hR) ⟨gBlind, (by have z := va_recv K.K hP hc hrv; rw [hq] at z; exact z), fun U hU hW => ⟨rfl, by rw [hU], by rw [hU]; exact hP, hD.weaken (fun _ _ _ z => K.an _ z), gX_go K hS U hU hW, fun q z => K.an q (K.a q (Nat.le_trans hS.1 z))⟩⟩ rfl hn h.1 rfl (lv_room hst) hd hf) hS (fun q _ z => hFc q z) hFc (fun u t H1 locs ht hvm hw hB hz1 hk1 hS => ?_)
  obtain ⟨hP1, hK1, hD1⟩ := hB
  rw [ht] at hP1
  exact kk u hw H1 locs ls hP1 (hD1.weaken (fun _ q _ z => hFc q.1 z)) hS h

theorem g_callVq (K : gOK Γ cc Ts own) {post : Option Nat → va_W → Prop} (hM : gMq y wy rm mc ms (g_E Γ) (.ref b :: As) ws post) {C : String} {ret : Option FieldType} (hG : GoodIn Ts (wsV own index C y wy)) (hw0 : wy = Cond.code y bytes maxL ret :: wy') (hy : y.cls = C ∧ y.cls ≠ "java/lang/invoke/MethodHandle" ∧ y.cls ≠ "java/lang/invoke/VarHandle" ∧ (parseMethodDescriptor y.desc).map (fun d => d.parameters.length) = some n) (q0 : Nat) {ci : Nat} {fs : List Value} {q : vw_C} (hrv : ws[q0]? = some (b, .inr (ci, fs))) (hc : vwCl[ci]? = some q) (hq : q.1 = C) (hRm : g_R Γ = R0) (hrc : rm.cells = mc) (hrs : rm.slots = ms) (hn : As.length = n) (hR0 : rm.frames + 1 ≤ R0.frames ∧ 8 + (maxL + 11) + rm.locals ≤ R0.locals) (hst : (st.map fun v => v.category).sum ≤ 8) (hf0 : cl + mc ≤ R0.cells ∧ sl + ms ≤ R0.slots) (hd : decode cc pc = .ok (.invokevirtual index, 3)) (kk : ∀ (r : Option Nat) (w : va_W), post r w → gGO Γ (cl + mc) (sl + ms) (pc + 3) L (va_rf r :: st) w) : gGO Γ cl sl pc L (As.reverse ++ .ref b :: st) ws := fun H locs ls hP hD hS h => by
  have hR : rm.frames + 1 ≤ (g_R Γ).frames ∧ 8 + (maxL + 11) + rm.locals ≤ (g_R Γ).locals := by rw [hRm]; exact hR0
  have hf : cl + mc ≤ (g_R Γ).cells ∧ sl + ms ≤ (g_R Γ).slots := by rw [hRm]; exact hf0
  have hFc : ∀ q, va_A ws H.size q → g_A Γ q := fun q z => by
    rcases z with ⟨i, e, z⟩ | z
    · exact hD.2 i (q, e) z
    · exact K.a q (Nat.le_trans hS.1 z)
  refine va_callq (va_runV (As := As) (rest := st) ⟨K.x, K.b, K.n, K.o, K.t⟩ (hM (g_l Γ) H.size) (cwV n K.t hG hw0 hrc hrs hy hR) ⟨gBlind, (by have z := va_recv K.K hP hc hrv; rw [hq] at z; exact z), fun U hU hW => ⟨rfl, by rw [hU], by rw [hU]; exact hP, hD.weaken (fun _ _ _ z => K.an _ z), gX_go K hS U hU hW, fun q z => K.an q (K.a q (Nat.le_trans hS.1 z))⟩⟩ rfl hn h.1 rfl (lv_room hst) hd hf) hS (fun q _ z => hFc q z) hFc (fun r u t H1 locs ht hvm hw hB hz1 hk1 hS => ?_)
  obtain ⟨hP1, hK1, hD1⟩ := hB
  rw [ht] at hP1
  exact kk r u hw H1 locs ls hP1 (hD1.weaken (fun _ q _ z => hFc q.1 z)) hS h

theorem g_callVl (K : gOK Γ cc Ts own) {post : Int64 → va_W → Prop} (hM : gMl y wy rm mc ms (g_E Γ) (.ref b :: As) ws post) {C : String} {ret : Option FieldType} (hG : GoodIn Ts (wsV own index C y wy)) (hw0 : wy = Cond.code y bytes maxL ret :: wy') (hy : y.cls = C ∧ y.cls ≠ "java/lang/invoke/MethodHandle" ∧ y.cls ≠ "java/lang/invoke/VarHandle" ∧ (parseMethodDescriptor y.desc).map (fun d => d.parameters.length) = some n) (q0 : Nat) {ci : Nat} {fs : List Value} {q : vw_C} (hrv : ws[q0]? = some (b, .inr (ci, fs))) (hc : vwCl[ci]? = some q) (hq : q.1 = C) (hRm : g_R Γ = R0) (hrc : rm.cells = mc) (hrs : rm.slots = ms) (hn : As.length = n) (hR0 : rm.frames + 1 ≤ R0.frames ∧ 8 + (maxL + 11) + rm.locals ≤ R0.locals) (hst : (st.map fun v => v.category).sum ≤ 8) (hf0 : cl + mc ≤ R0.cells ∧ sl + ms ≤ R0.slots) (hd : decode cc pc = .ok (.invokevirtual index, 3)) (kk : ∀ (r : Int64) (w : va_W), post r w → gGO Γ (cl + mc) (sl + ms) (pc + 3) L (.long r :: st) w) : gGO Γ cl sl pc L (As.reverse ++ .ref b :: st) ws := fun H locs ls hP hD hS h => by
  have hR : rm.frames + 1 ≤ (g_R Γ).frames ∧ 8 + (maxL + 11) + rm.locals ≤ (g_R Γ).locals := by rw [hRm]; exact hR0
  have hf : cl + mc ≤ (g_R Γ).cells ∧ sl + ms ≤ (g_R Γ).slots := by rw [hRm]; exact hf0
  have hFc : ∀ q, va_A ws H.size q → g_A Γ q := fun q z => by
    rcases z with ⟨i, e, z⟩ | z
    · exact hD.2 i (q, e) z
    · exact K.a q (Nat.le_trans hS.1 z)
  refine va_calll (va_runV (As := As) (rest := st) ⟨K.x, K.b, K.n, K.o, K.t⟩ (hM (g_l Γ) H.size) (cwV n K.t hG hw0 hrc hrs hy hR) ⟨gBlind, (by have z := va_recv K.K hP hc hrv; rw [hq] at z; exact z), fun U hU hW => ⟨rfl, by rw [hU], by rw [hU]; exact hP, hD.weaken (fun _ _ _ z => K.an _ z), gX_go K hS U hU hW, fun q z => K.an q (K.a q (Nat.le_trans hS.1 z))⟩⟩ rfl hn h.1 rfl (lv_room hst) hd hf) hS (fun q _ z => hFc q z) hFc (fun r u t H1 locs ht hvm hw hB hz1 hk1 hS => ?_)
  obtain ⟨hP1, hK1, hD1⟩ := hB
  rw [ht] at hP1
  exact kk r u hw H1 locs ls hP1 (hD1.weaken (fun _ q _ z => hFc q.1 z)) hS h

theorem g_callViF (K : gOK Γ cc Ts own) {post : Int32 → va_W → Prop} (hM : gMi y wy rm mc ms (g_E Γ) (.ref b :: As) ws post) {C : String} {ret : Option FieldType} (hG : GoodIn Ts (wsV own index C y wy)) (hw0 : wy = Cond.code y bytes maxL ret :: wy') (hy : y.cls = C ∧ y.cls ≠ "java/lang/invoke/MethodHandle" ∧ y.cls ≠ "java/lang/invoke/VarHandle" ∧ (parseMethodDescriptor y.desc).map (fun d => d.parameters.length) = some n) {ci : Nat} {fs : List Value} {q : vw_C} (hrv : gfz (g_E Γ) b = some (.inr (ci, fs))) (hc : vwCl[ci]? = some q) (hq : q.1 = C) (hRm : g_R Γ = R0) (hrc : rm.cells = mc) (hrs : rm.slots = ms) (hn : As.length = n) (hR0 : rm.frames + 1 ≤ R0.frames ∧ 8 + (maxL + 11) + rm.locals ≤ R0.locals) (hst : (st.map fun v => v.category).sum ≤ 8) (hf0 : cl + mc ≤ R0.cells ∧ sl + ms ≤ R0.slots) (hd : decode cc pc = .ok (.invokevirtual index, 3)) (kk : ∀ (r : Int32) (w : va_W), post r w → gGO Γ (cl + mc) (sl + ms) (pc + 3) L (.int r :: st) w) : gGO Γ cl sl pc L (As.reverse ++ .ref b :: st) ws := fun H locs ls hP hD hS h => by
  have hR : rm.frames + 1 ≤ (g_R Γ).frames ∧ 8 + (maxL + 11) + rm.locals ≤ (g_R Γ).locals := by rw [hRm]; exact hR0
  have hf : cl + mc ≤ (g_R Γ).cells ∧ sl + ms ≤ (g_R Γ).slots := by rw [hRm]; exact hf0
  have hFc : ∀ q, va_A ws H.size q → g_A Γ q := fun q z => by
    rcases z with ⟨i, e, z⟩ | z
    · exact hD.2 i (q, e) z
    · exact K.a q (Nat.le_trans hS.1 z)
  refine va_calli (va_runV (As := As) (rest := st) ⟨K.x, K.b, K.n, K.o, K.t⟩ (hM (g_l Γ) H.size) (cwV n K.t hG hw0 hrc hrs hy hR) ⟨gBlind, (by have z := va_recv K.K (g_frz K hS hrv) hc (q0 := 0) rfl; rw [hq] at z; exact z), fun U hU hW => ⟨rfl, by rw [hU], by rw [hU]; exact hP, hD.weaken (fun _ _ _ z => K.an _ z), gX_go K hS U hU hW, fun q z => K.an q (K.a q (Nat.le_trans hS.1 z))⟩⟩ rfl hn h.1 rfl (lv_room hst) hd hf) hS (fun q _ z => hFc q z) hFc (fun r u t H1 locs ht hvm hw hB hz1 hk1 hS => ?_)
  obtain ⟨hP1, hK1, hD1⟩ := hB
  rw [ht] at hP1
  exact kk r u hw H1 locs ls hP1 (hD1.weaken (fun _ q _ z => hFc q.1 z)) hS h

theorem g_callVvF (K : gOK Γ cc Ts own) {post : va_W → Prop} (hM : gMv y wy rm mc ms (g_E Γ) (.ref b :: As) ws post) {C : String} {ret : Option FieldType} (hG : GoodIn Ts (wsV own index C y wy)) (hw0 : wy = Cond.code y bytes maxL ret :: wy') (hy : y.cls = C ∧ y.cls ≠ "java/lang/invoke/MethodHandle" ∧ y.cls ≠ "java/lang/invoke/VarHandle" ∧ (parseMethodDescriptor y.desc).map (fun d => d.parameters.length) = some n) {ci : Nat} {fs : List Value} {q : vw_C} (hrv : gfz (g_E Γ) b = some (.inr (ci, fs))) (hc : vwCl[ci]? = some q) (hq : q.1 = C) (hRm : g_R Γ = R0) (hrc : rm.cells = mc) (hrs : rm.slots = ms) (hn : As.length = n) (hR0 : rm.frames + 1 ≤ R0.frames ∧ 8 + (maxL + 11) + rm.locals ≤ R0.locals) (hst : (st.map fun v => v.category).sum ≤ 8) (hf0 : cl + mc ≤ R0.cells ∧ sl + ms ≤ R0.slots) (hd : decode cc pc = .ok (.invokevirtual index, 3)) (kk : ∀ (w : va_W), post w → gGO Γ (cl + mc) (sl + ms) (pc + 3) L (st) w) : gGO Γ cl sl pc L (As.reverse ++ .ref b :: st) ws := fun H locs ls hP hD hS h => by
  have hR : rm.frames + 1 ≤ (g_R Γ).frames ∧ 8 + (maxL + 11) + rm.locals ≤ (g_R Γ).locals := by rw [hRm]; exact hR0
  have hf : cl + mc ≤ (g_R Γ).cells ∧ sl + ms ≤ (g_R Γ).slots := by rw [hRm]; exact hf0
  have hFc : ∀ q, va_A ws H.size q → g_A Γ q := fun q z => by
    rcases z with ⟨i, e, z⟩ | z
    · exact hD.2 i (q, e) z
    · exact K.a q (Nat.le_trans hS.1 z)
  refine va_callv (va_runV (As := As) (rest := st) ⟨K.x, K.b, K.n, K.o, K.t⟩ (hM (g_l Γ) H.size) (cwV n K.t hG hw0 hrc hrs hy hR) ⟨gBlind, (by have z := va_recv K.K (g_frz K hS hrv) hc (q0 := 0) rfl; rw [hq] at z; exact z), fun U hU hW => ⟨rfl, by rw [hU], by rw [hU]; exact hP, hD.weaken (fun _ _ _ z => K.an _ z), gX_go K hS U hU hW, fun q z => K.an q (K.a q (Nat.le_trans hS.1 z))⟩⟩ rfl hn h.1 rfl (lv_room hst) hd hf) hS (fun q _ z => hFc q z) hFc (fun u t H1 locs ht hvm hw hB hz1 hk1 hS => ?_)
  obtain ⟨hP1, hK1, hD1⟩ := hB
  rw [ht] at hP1
  exact kk u hw H1 locs ls hP1 (hD1.weaken (fun _ q _ z => hFc q.1 z)) hS h

theorem g_callUiF (K : gOK Γ cc Ts own) {post : Int32 → va_W → Prop} (hM : gMi y wy rm mc ms (g_E Γ) (.ref b :: As) ws post) {C owner : String} {x : MethodName} {ret : Option FieldType} (hG : GoodIn Ts (va_wsU own index C owner x y wy)) (hw0 : wy = Cond.code y bytes maxL ret :: wy') (hyx : y = ⟨owner, x.name, x.desc⟩) (hy : owner ≠ "java/lang/invoke/MethodHandle" ∧ owner ≠ "java/lang/invoke/VarHandle" ∧ (parseMethodDescriptor x.desc).map (fun d => d.parameters.length) = some n) {ci : Nat} {fs : List Value} {q : vw_C} (hrv : gfz (g_E Γ) b = some (.inr (ci, fs))) (hc : vwCl[ci]? = some q) (hq : q.1 = C) (hRm : g_R Γ = R0) (hrc : rm.cells = mc) (hrs : rm.slots = ms) (hn : As.length = n) (hR0 : rm.frames + 1 ≤ R0.frames ∧ 8 + (maxL + 11) + rm.locals ≤ R0.locals) (hst : (st.map fun v => v.category).sum ≤ 8) (hf0 : cl + mc ≤ R0.cells ∧ sl + ms ≤ R0.slots) (hd : decode cc pc = .ok (.invokevirtual index, 3)) (kk : ∀ (r : Int32) (w : va_W), post r w → gGO Γ (cl + mc) (sl + ms) (pc + 3) L (.int r :: st) w) : gGO Γ cl sl pc L (As.reverse ++ .ref b :: st) ws := fun H locs ls hP hD hS h => by
  have hR : rm.frames + 1 ≤ (g_R Γ).frames ∧ 8 + (maxL + 11) + rm.locals ≤ (g_R Γ).locals := by rw [hRm]; exact hR0
  have hf : cl + mc ≤ (g_R Γ).cells ∧ sl + ms ≤ (g_R Γ).slots := by rw [hRm]; exact hf0
  have hFc : ∀ q, va_A ws H.size q → g_A Γ q := fun q z => by
    rcases z with ⟨i, e, z⟩ | z
    · exact hD.2 i (q, e) z
    · exact K.a q (Nat.le_trans hS.1 z)
  refine va_calli (va_runU (As := As) (rest := st) ⟨K.x, K.b, K.n, K.o, K.t⟩ (hM (g_l Γ) H.size) (va_cwU n K.t hG hw0 hrc hrs hyx hy hR) ⟨gBlind, (by have z := va_recv K.K (g_frz K hS hrv) hc (q0 := 0) rfl; rw [hq] at z; exact z), fun U hU hW => ⟨rfl, by rw [hU], by rw [hU]; exact hP, hD.weaken (fun _ _ _ z => K.an _ z), gX_go K hS U hU hW, fun q z => K.an q (K.a q (Nat.le_trans hS.1 z))⟩⟩ rfl hn h.1 rfl (lv_room hst) hd hf) hS (fun q _ z => hFc q z) hFc (fun r u t H1 locs ht hvm hw hB hz1 hk1 hS => ?_)
  obtain ⟨hP1, hK1, hD1⟩ := hB
  rw [ht] at hP1
  exact kk r u hw H1 locs ls hP1 (hD1.weaken (fun _ q _ z => hFc q.1 z)) hS h

theorem g_callUvF (K : gOK Γ cc Ts own) {post : va_W → Prop} (hM : gMv y wy rm mc ms (g_E Γ) (.ref b :: As) ws post) {C owner : String} {x : MethodName} {ret : Option FieldType} (hG : GoodIn Ts (va_wsU own index C owner x y wy)) (hw0 : wy = Cond.code y bytes maxL ret :: wy') (hyx : y = ⟨owner, x.name, x.desc⟩) (hy : owner ≠ "java/lang/invoke/MethodHandle" ∧ owner ≠ "java/lang/invoke/VarHandle" ∧ (parseMethodDescriptor x.desc).map (fun d => d.parameters.length) = some n) {ci : Nat} {fs : List Value} {q : vw_C} (hrv : gfz (g_E Γ) b = some (.inr (ci, fs))) (hc : vwCl[ci]? = some q) (hq : q.1 = C) (hRm : g_R Γ = R0) (hrc : rm.cells = mc) (hrs : rm.slots = ms) (hn : As.length = n) (hR0 : rm.frames + 1 ≤ R0.frames ∧ 8 + (maxL + 11) + rm.locals ≤ R0.locals) (hst : (st.map fun v => v.category).sum ≤ 8) (hf0 : cl + mc ≤ R0.cells ∧ sl + ms ≤ R0.slots) (hd : decode cc pc = .ok (.invokevirtual index, 3)) (kk : ∀ (w : va_W), post w → gGO Γ (cl + mc) (sl + ms) (pc + 3) L (st) w) : gGO Γ cl sl pc L (As.reverse ++ .ref b :: st) ws := fun H locs ls hP hD hS h => by
  have hR : rm.frames + 1 ≤ (g_R Γ).frames ∧ 8 + (maxL + 11) + rm.locals ≤ (g_R Γ).locals := by rw [hRm]; exact hR0
  have hf : cl + mc ≤ (g_R Γ).cells ∧ sl + ms ≤ (g_R Γ).slots := by rw [hRm]; exact hf0
  have hFc : ∀ q, va_A ws H.size q → g_A Γ q := fun q z => by
    rcases z with ⟨i, e, z⟩ | z
    · exact hD.2 i (q, e) z
    · exact K.a q (Nat.le_trans hS.1 z)
  refine va_callv (va_runU (As := As) (rest := st) ⟨K.x, K.b, K.n, K.o, K.t⟩ (hM (g_l Γ) H.size) (va_cwU n K.t hG hw0 hrc hrs hyx hy hR) ⟨gBlind, (by have z := va_recv K.K (g_frz K hS hrv) hc (q0 := 0) rfl; rw [hq] at z; exact z), fun U hU hW => ⟨rfl, by rw [hU], by rw [hU]; exact hP, hD.weaken (fun _ _ _ z => K.an _ z), gX_go K hS U hU hW, fun q z => K.an q (K.a q (Nat.le_trans hS.1 z))⟩⟩ rfl hn h.1 rfl (lv_room hst) hd hf) hS (fun q _ z => hFc q z) hFc (fun u t H1 locs ht hvm hw hB hz1 hk1 hS => ?_)
  obtain ⟨hP1, hK1, hD1⟩ := hB
  rw [ht] at hP1
  exact kk u hw H1 locs ls hP1 (hD1.weaken (fun _ q _ z => hFc q.1 z)) hS h

theorem g_callOiF (K : gOK Γ cc Ts own) {post : Int32 → va_W → Prop} (hM : gMi y wy rm mc ms (g_E Γ) (.ref b :: As) ws post) {C owner : String} {x : MethodName} {ret : Option FieldType} (hG : GoodIn Ts (va_wsO own index C owner x y wy)) (hw0 : wy = Cond.code y bytes maxL ret :: wy') {b0 : ByteArray} {m0 : Nat} {r0 : Option FieldType} (h0 : Cond.code ⟨owner, x.name, x.desc⟩ b0 m0 r0 ∈ Ts) (hy : owner ≠ "java/lang/invoke/MethodHandle" ∧ owner ≠ "java/lang/invoke/VarHandle" ∧ (parseMethodDescriptor x.desc).map (fun d => d.parameters.length) = some n) {ci : Nat} {fs : List Value} {q : vw_C} (hrv : gfz (g_E Γ) b = some (.inr (ci, fs))) (hc : vwCl[ci]? = some q) (hq : q.1 = C) (hRm : g_R Γ = R0) (hrc : rm.cells = mc) (hrs : rm.slots = ms) (hn : As.length = n) (hR0 : rm.frames + 1 ≤ R0.frames ∧ 8 + (maxL + 11) + rm.locals ≤ R0.locals) (hst : (st.map fun v => v.category).sum ≤ 8) (hf0 : cl + mc ≤ R0.cells ∧ sl + ms ≤ R0.slots) (hd : decode cc pc = .ok (.invokevirtual index, 3)) (kk : ∀ (r : Int32) (w : va_W), post r w → gGO Γ (cl + mc) (sl + ms) (pc + 3) L (.int r :: st) w) : gGO Γ cl sl pc L (As.reverse ++ .ref b :: st) ws := fun H locs ls hP hD hS h => by
  have hR : rm.frames + 1 ≤ (g_R Γ).frames ∧ 8 + (maxL + 11) + rm.locals ≤ (g_R Γ).locals := by rw [hRm]; exact hR0
  have hf : cl + mc ≤ (g_R Γ).cells ∧ sl + ms ≤ (g_R Γ).slots := by rw [hRm]; exact hf0
  have hFc : ∀ q, va_A ws H.size q → g_A Γ q := fun q z => by
    rcases z with ⟨i, e, z⟩ | z
    · exact hD.2 i (q, e) z
    · exact K.a q (Nat.le_trans hS.1 z)
  refine va_calli (va_runU (As := As) (rest := st) ⟨K.x, K.b, K.n, K.o, K.t⟩ (hM (g_l Γ) H.size) (va_cwO n K.t hG hw0 hrc hrs h0 hy hR) ⟨gBlind, (by have z := va_recv K.K (g_frz K hS hrv) hc (q0 := 0) rfl; rw [hq] at z; exact z), fun U hU hW => ⟨rfl, by rw [hU], by rw [hU]; exact hP, hD.weaken (fun _ _ _ z => K.an _ z), gX_go K hS U hU hW, fun q z => K.an q (K.a q (Nat.le_trans hS.1 z))⟩⟩ rfl hn h.1 rfl (lv_room hst) hd hf) hS (fun q _ z => hFc q z) hFc (fun r u t H1 locs ht hvm hw hB hz1 hk1 hS => ?_)
  obtain ⟨hP1, hK1, hD1⟩ := hB
  rw [ht] at hP1
  exact kk r u hw H1 locs ls hP1 (hD1.weaken (fun _ q _ z => hFc q.1 z)) hS h

theorem g_callOvF (K : gOK Γ cc Ts own) {post : va_W → Prop} (hM : gMv y wy rm mc ms (g_E Γ) (.ref b :: As) ws post) {C owner : String} {x : MethodName} {ret : Option FieldType} (hG : GoodIn Ts (va_wsO own index C owner x y wy)) (hw0 : wy = Cond.code y bytes maxL ret :: wy') {b0 : ByteArray} {m0 : Nat} {r0 : Option FieldType} (h0 : Cond.code ⟨owner, x.name, x.desc⟩ b0 m0 r0 ∈ Ts) (hy : owner ≠ "java/lang/invoke/MethodHandle" ∧ owner ≠ "java/lang/invoke/VarHandle" ∧ (parseMethodDescriptor x.desc).map (fun d => d.parameters.length) = some n) {ci : Nat} {fs : List Value} {q : vw_C} (hrv : gfz (g_E Γ) b = some (.inr (ci, fs))) (hc : vwCl[ci]? = some q) (hq : q.1 = C) (hRm : g_R Γ = R0) (hrc : rm.cells = mc) (hrs : rm.slots = ms) (hn : As.length = n) (hR0 : rm.frames + 1 ≤ R0.frames ∧ 8 + (maxL + 11) + rm.locals ≤ R0.locals) (hst : (st.map fun v => v.category).sum ≤ 8) (hf0 : cl + mc ≤ R0.cells ∧ sl + ms ≤ R0.slots) (hd : decode cc pc = .ok (.invokevirtual index, 3)) (kk : ∀ (w : va_W), post w → gGO Γ (cl + mc) (sl + ms) (pc + 3) L (st) w) : gGO Γ cl sl pc L (As.reverse ++ .ref b :: st) ws := fun H locs ls hP hD hS h => by
  have hR : rm.frames + 1 ≤ (g_R Γ).frames ∧ 8 + (maxL + 11) + rm.locals ≤ (g_R Γ).locals := by rw [hRm]; exact hR0
  have hf : cl + mc ≤ (g_R Γ).cells ∧ sl + ms ≤ (g_R Γ).slots := by rw [hRm]; exact hf0
  have hFc : ∀ q, va_A ws H.size q → g_A Γ q := fun q z => by
    rcases z with ⟨i, e, z⟩ | z
    · exact hD.2 i (q, e) z
    · exact K.a q (Nat.le_trans hS.1 z)
  refine va_callv (va_runU (As := As) (rest := st) ⟨K.x, K.b, K.n, K.o, K.t⟩ (hM (g_l Γ) H.size) (va_cwO n K.t hG hw0 hrc hrs h0 hy hR) ⟨gBlind, (by have z := va_recv K.K (g_frz K hS hrv) hc (q0 := 0) rfl; rw [hq] at z; exact z), fun U hU hW => ⟨rfl, by rw [hU], by rw [hU]; exact hP, hD.weaken (fun _ _ _ z => K.an _ z), gX_go K hS U hU hW, fun q z => K.an q (K.a q (Nat.le_trans hS.1 z))⟩⟩ rfl hn h.1 rfl (lv_room hst) hd hf) hS (fun q _ z => hFc q z) hFc (fun u t H1 locs ht hvm hw hB hz1 hk1 hS => ?_)
  obtain ⟨hP1, hK1, hD1⟩ := hB
  rw [ht] at hP1
  exact kk u hw H1 locs ls hP1 (hD1.weaken (fun _ q _ z => hFc q.1 z)) hS h

theorem g_callSUiF (K : gOK Γ cc Ts own) {post : Int32 → va_W → Prop} (hM : gMi y wy rm mc ms (g_E Γ) (.ref b :: As) ws post) {C : String} {ret : Option FieldType} (hG : GoodIn Ts (va_wsSU own index y wy)) (hw0 : wy = Cond.code y bytes maxL ret :: wy') (hy : y.name ≠ "<init>" ∧ (parseMethodDescriptor y.desc).map (fun d => d.parameters.length) = some n) {ci : Nat} {fs : List Value} {q : vw_C} (hrv : gfz (g_E Γ) b = some (.inr (ci, fs))) (hc : vwCl[ci]? = some q) (hq : q.1 = C) (hRm : g_R Γ = R0) (hrc : rm.cells = mc) (hrs : rm.slots = ms) (hn : As.length = n) (hR0 : rm.frames + 1 ≤ R0.frames ∧ 8 + (maxL + 11) + rm.locals ≤ R0.locals) (hst : (st.map fun v => v.category).sum ≤ 8) (hf0 : cl + mc ≤ R0.cells ∧ sl + ms ≤ R0.slots) (hd : decode cc pc = .ok (.invokespecial index, 3)) (kk : ∀ (r : Int32) (w : va_W), post r w → gGO Γ (cl + mc) (sl + ms) (pc + 3) L (.int r :: st) w) : gGO Γ cl sl pc L (As.reverse ++ .ref b :: st) ws := fun H locs ls hP hD hS h => by
  have hR : rm.frames + 1 ≤ (g_R Γ).frames ∧ 8 + (maxL + 11) + rm.locals ≤ (g_R Γ).locals := by rw [hRm]; exact hR0
  have hf : cl + mc ≤ (g_R Γ).cells ∧ sl + ms ≤ (g_R Γ).slots := by rw [hRm]; exact hf0
  have hFc : ∀ q, va_A ws H.size q → g_A Γ q := fun q z => by
    rcases z with ⟨i, e, z⟩ | z
    · exact hD.2 i (q, e) z
    · exact K.a q (Nat.le_trans hS.1 z)
  refine va_calli (va_runSU (As := As) (rest := st) (by have z := (K.K.1 _ _ hc).2; rw [hq] at z; exact z) ⟨K.x, K.b, K.n, K.o, K.t⟩ (hM (g_l Γ) H.size) (va_cwSU n K.t hG hw0 hrc hrs hy hR) ⟨gBlind, (by have z := va_recv K.K (g_frz K hS hrv) hc (q0 := 0) rfl; rw [hq] at z; exact z), fun U hU hW => ⟨rfl, by rw [hU], by rw [hU]; exact hP, hD.weaken (fun _ _ _ z => K.an _ z), gX_go K hS U hU hW, fun q z => K.an q (K.a q (Nat.le_trans hS.1 z))⟩⟩ rfl hn h.1 rfl (lv_room hst) hd hf) hS (fun q _ z => hFc q z) hFc (fun r u t H1 locs ht hvm hw hB hz1 hk1 hS => ?_)
  obtain ⟨hP1, hK1, hD1⟩ := hB
  rw [ht] at hP1
  exact kk r u hw H1 locs ls hP1 (hD1.weaken (fun _ q _ z => hFc q.1 z)) hS h

theorem g_callSUvF (K : gOK Γ cc Ts own) {post : va_W → Prop} (hM : gMv y wy rm mc ms (g_E Γ) (.ref b :: As) ws post) {C : String} {ret : Option FieldType} (hG : GoodIn Ts (va_wsSU own index y wy)) (hw0 : wy = Cond.code y bytes maxL ret :: wy') (hy : y.name ≠ "<init>" ∧ (parseMethodDescriptor y.desc).map (fun d => d.parameters.length) = some n) {ci : Nat} {fs : List Value} {q : vw_C} (hrv : gfz (g_E Γ) b = some (.inr (ci, fs))) (hc : vwCl[ci]? = some q) (hq : q.1 = C) (hRm : g_R Γ = R0) (hrc : rm.cells = mc) (hrs : rm.slots = ms) (hn : As.length = n) (hR0 : rm.frames + 1 ≤ R0.frames ∧ 8 + (maxL + 11) + rm.locals ≤ R0.locals) (hst : (st.map fun v => v.category).sum ≤ 8) (hf0 : cl + mc ≤ R0.cells ∧ sl + ms ≤ R0.slots) (hd : decode cc pc = .ok (.invokespecial index, 3)) (kk : ∀ (w : va_W), post w → gGO Γ (cl + mc) (sl + ms) (pc + 3) L (st) w) : gGO Γ cl sl pc L (As.reverse ++ .ref b :: st) ws := fun H locs ls hP hD hS h => by
  have hR : rm.frames + 1 ≤ (g_R Γ).frames ∧ 8 + (maxL + 11) + rm.locals ≤ (g_R Γ).locals := by rw [hRm]; exact hR0
  have hf : cl + mc ≤ (g_R Γ).cells ∧ sl + ms ≤ (g_R Γ).slots := by rw [hRm]; exact hf0
  have hFc : ∀ q, va_A ws H.size q → g_A Γ q := fun q z => by
    rcases z with ⟨i, e, z⟩ | z
    · exact hD.2 i (q, e) z
    · exact K.a q (Nat.le_trans hS.1 z)
  refine va_callv (va_runSU (As := As) (rest := st) (by have z := (K.K.1 _ _ hc).2; rw [hq] at z; exact z) ⟨K.x, K.b, K.n, K.o, K.t⟩ (hM (g_l Γ) H.size) (va_cwSU n K.t hG hw0 hrc hrs hy hR) ⟨gBlind, (by have z := va_recv K.K (g_frz K hS hrv) hc (q0 := 0) rfl; rw [hq] at z; exact z), fun U hU hW => ⟨rfl, by rw [hU], by rw [hU]; exact hP, hD.weaken (fun _ _ _ z => K.an _ z), gX_go K hS U hU hW, fun q z => K.an q (K.a q (Nat.le_trans hS.1 z))⟩⟩ rfl hn h.1 rfl (lv_room hst) hd hf) hS (fun q _ z => hFc q z) hFc (fun u t H1 locs ht hvm hw hB hz1 hk1 hS => ?_)
  obtain ⟨hP1, hK1, hD1⟩ := hB
  rw [ht] at hP1
  exact kk u hw H1 locs ls hP1 (hD1.weaken (fun _ q _ z => hFc q.1 z)) hS h

theorem g_callSi (K : gOK Γ cc Ts own) {post : Int32 → va_W → Prop} (hM : gMi y wy rm mc ms (g_E Γ) As ws post) {ret : Option FieldType} (hG : GoodIn Ts (va_wsS own index y wy)) (hw0 : wy = Cond.code y bytes maxL ret :: wy') (hy : y.cls ≠ "java/lang/invoke/MethodHandle" ∧ y.cls ≠ "java/lang/invoke/VarHandle" ∧ (parseMethodDescriptor y.desc).map (fun d => d.parameters.length) = some n) (hRm : g_R Γ = R0) (hrc : rm.cells = mc) (hrs : rm.slots = ms) (hn : As.length = n) (hR0 : rm.frames + 1 ≤ R0.frames ∧ 8 + (maxL + 11) + rm.locals ≤ R0.locals) (hst : (st.map fun v => v.category).sum ≤ 8) (hf0 : cl + mc ≤ R0.cells ∧ sl + ms ≤ R0.slots) (hd : decode cc pc = .ok (.invokestatic index, 3)) (kk : ∀ (r : Int32) (w : va_W), post r w → gGO Γ (cl + mc) (sl + ms) (pc + 3) L (.int r :: st) w) : gGO Γ cl sl pc L (As.reverse ++ st) ws := fun H locs ls hP hD hS h => by
  have hR : rm.frames + 1 ≤ (g_R Γ).frames ∧ 8 + (maxL + 11) + rm.locals ≤ (g_R Γ).locals := by rw [hRm]; exact hR0
  have hf : cl + mc ≤ (g_R Γ).cells ∧ sl + ms ≤ (g_R Γ).slots := by rw [hRm]; exact hf0
  have hFc : ∀ q, va_A ws H.size q → g_A Γ q := fun q z => by
    rcases z with ⟨i, e, z⟩ | z
    · exact hD.2 i (q, e) z
    · exact K.a q (Nat.le_trans hS.1 z)
  refine va_calli (va_runS (As := As) (rest := st) ⟨K.x, K.b, K.n, K.o, K.t⟩ (hM (g_l Γ) H.size) (va_cwS n K.t hG hw0 hrc hrs hy hR) ⟨gBlind, fun U hU hW => ⟨rfl, by rw [hU], by rw [hU]; exact hP, hD.weaken (fun _ _ _ z => K.an _ z), gX_go K hS U hU hW, fun q z => K.an q (K.a q (Nat.le_trans hS.1 z))⟩⟩ rfl hn h.1 rfl (lv_room hst) hd hf) hS (fun q _ z => hFc q z) hFc (fun r u t H1 locs ht hvm hw hB hz1 hk1 hS => ?_)
  obtain ⟨hP1, hK1, hD1⟩ := hB
  rw [ht] at hP1
  exact kk r u hw H1 locs ls hP1 (hD1.weaken (fun _ q _ z => hFc q.1 z)) hS h

theorem g_callSv (K : gOK Γ cc Ts own) {post : va_W → Prop} (hM : gMv y wy rm mc ms (g_E Γ) As ws post) {ret : Option FieldType} (hG : GoodIn Ts (va_wsS own index y wy)) (hw0 : wy = Cond.code y bytes maxL ret :: wy') (hy : y.cls ≠ "java/lang/invoke/MethodHandle" ∧ y.cls ≠ "java/lang/invoke/VarHandle" ∧ (parseMethodDescriptor y.desc).map (fun d => d.parameters.length) = some n) (hRm : g_R Γ = R0) (hrc : rm.cells = mc) (hrs : rm.slots = ms) (hn : As.length = n) (hR0 : rm.frames + 1 ≤ R0.frames ∧ 8 + (maxL + 11) + rm.locals ≤ R0.locals) (hst : (st.map fun v => v.category).sum ≤ 8) (hf0 : cl + mc ≤ R0.cells ∧ sl + ms ≤ R0.slots) (hd : decode cc pc = .ok (.invokestatic index, 3)) (kk : ∀ (w : va_W), post w → gGO Γ (cl + mc) (sl + ms) (pc + 3) L (st) w) : gGO Γ cl sl pc L (As.reverse ++ st) ws := fun H locs ls hP hD hS h => by
  have hR : rm.frames + 1 ≤ (g_R Γ).frames ∧ 8 + (maxL + 11) + rm.locals ≤ (g_R Γ).locals := by rw [hRm]; exact hR0
  have hf : cl + mc ≤ (g_R Γ).cells ∧ sl + ms ≤ (g_R Γ).slots := by rw [hRm]; exact hf0
  have hFc : ∀ q, va_A ws H.size q → g_A Γ q := fun q z => by
    rcases z with ⟨i, e, z⟩ | z
    · exact hD.2 i (q, e) z
    · exact K.a q (Nat.le_trans hS.1 z)
  refine va_callv (va_runS (As := As) (rest := st) ⟨K.x, K.b, K.n, K.o, K.t⟩ (hM (g_l Γ) H.size) (va_cwS n K.t hG hw0 hrc hrs hy hR) ⟨gBlind, fun U hU hW => ⟨rfl, by rw [hU], by rw [hU]; exact hP, hD.weaken (fun _ _ _ z => K.an _ z), gX_go K hS U hU hW, fun q z => K.an q (K.a q (Nat.le_trans hS.1 z))⟩⟩ rfl hn h.1 rfl (lv_room hst) hd hf) hS (fun q _ z => hFc q z) hFc (fun u t H1 locs ht hvm hw hB hz1 hk1 hS => ?_)
  obtain ⟨hP1, hK1, hD1⟩ := hB
  rw [ht] at hP1
  exact kk u hw H1 locs ls hP1 (hD1.weaken (fun _ q _ z => hFc q.1 z)) hS h

theorem g_callSl (K : gOK Γ cc Ts own) {post : Int64 → va_W → Prop} (hM : gMl y wy rm mc ms (g_E Γ) As ws post) {ret : Option FieldType} (hG : GoodIn Ts (va_wsS own index y wy)) (hw0 : wy = Cond.code y bytes maxL ret :: wy') (hy : y.cls ≠ "java/lang/invoke/MethodHandle" ∧ y.cls ≠ "java/lang/invoke/VarHandle" ∧ (parseMethodDescriptor y.desc).map (fun d => d.parameters.length) = some n) (hRm : g_R Γ = R0) (hrc : rm.cells = mc) (hrs : rm.slots = ms) (hn : As.length = n) (hR0 : rm.frames + 1 ≤ R0.frames ∧ 8 + (maxL + 11) + rm.locals ≤ R0.locals) (hst : (st.map fun v => v.category).sum ≤ 8) (hf0 : cl + mc ≤ R0.cells ∧ sl + ms ≤ R0.slots) (hd : decode cc pc = .ok (.invokestatic index, 3)) (kk : ∀ (r : Int64) (w : va_W), post r w → gGO Γ (cl + mc) (sl + ms) (pc + 3) L (.long r :: st) w) : gGO Γ cl sl pc L (As.reverse ++ st) ws := fun H locs ls hP hD hS h => by
  have hR : rm.frames + 1 ≤ (g_R Γ).frames ∧ 8 + (maxL + 11) + rm.locals ≤ (g_R Γ).locals := by rw [hRm]; exact hR0
  have hf : cl + mc ≤ (g_R Γ).cells ∧ sl + ms ≤ (g_R Γ).slots := by rw [hRm]; exact hf0
  have hFc : ∀ q, va_A ws H.size q → g_A Γ q := fun q z => by
    rcases z with ⟨i, e, z⟩ | z
    · exact hD.2 i (q, e) z
    · exact K.a q (Nat.le_trans hS.1 z)
  refine va_calll (va_runS (As := As) (rest := st) ⟨K.x, K.b, K.n, K.o, K.t⟩ (hM (g_l Γ) H.size) (va_cwS n K.t hG hw0 hrc hrs hy hR) ⟨gBlind, fun U hU hW => ⟨rfl, by rw [hU], by rw [hU]; exact hP, hD.weaken (fun _ _ _ z => K.an _ z), gX_go K hS U hU hW, fun q z => K.an q (K.a q (Nat.le_trans hS.1 z))⟩⟩ rfl hn h.1 rfl (lv_room hst) hd hf) hS (fun q _ z => hFc q z) hFc (fun r u t H1 locs ht hvm hw hB hz1 hk1 hS => ?_)
  obtain ⟨hP1, hK1, hD1⟩ := hB
  rw [ht] at hP1
  exact kk r u hw H1 locs ls hP1 (hD1.weaken (fun _ q _ z => hFc q.1 z)) hS h

theorem g_callIv (K : gOK Γ cc Ts own) {post : va_W → Prop} (hM : gMv y wy rm mc ms (g_E Γ) (.ref b :: As) ws post) (hG : GoodIn Ts wy) (hw0 : wy = Cond.code y bytes maxL none :: wy') (hini : Cond.initialized y.cls ∈ Ts) (hli : Cond.methodLink own index y ∈ Ts) (hin : Cond.instanceMethod y ∈ Ts) (hy1 : y.name = "<init>") (hy : y.cls ≠ "java/lang/invoke/MethodHandle" ∧ y.cls ≠ "java/lang/invoke/VarHandle" ∧ (parseMethodDescriptor y.desc).map (fun d => d.parameters.length) = some n) (hRm : g_R Γ = R0) (hrc : rm.cells = mc) (hrs : rm.slots = ms) (hn : As.length = n) (hR0 : rm.frames + 1 ≤ R0.frames ∧ 8 + (maxL + 11) + rm.locals ≤ R0.locals) (hst : (st.map fun v => v.category).sum ≤ 8) (hf0 : cl + mc ≤ R0.cells ∧ sl + ms ≤ R0.slots) (hd : decode cc pc = .ok (.invokespecial index, 3)) (kk : ∀ (w : va_W), post w → gGO Γ (cl + mc) (sl + ms) (pc + 3) L (st) w) : gGO Γ cl sl pc L (As.reverse ++ .ref b :: st) ws := fun H locs ls hP hD hS h => by
  have hR : rm.frames + 1 ≤ (g_R Γ).frames ∧ 8 + (maxL + 11) + rm.locals ≤ (g_R Γ).locals := by rw [hRm]; exact hR0
  have hf : cl + mc ≤ (g_R Γ).cells ∧ sl + ms ≤ (g_R Γ).slots := by rw [hRm]; exact hf0
  have hFc : ∀ q, va_A ws H.size q → g_A Γ q := fun q z => by
    rcases z with ⟨i, e, z⟩ | z
    · exact hD.2 i (q, e) z
    · exact K.a q (Nat.le_trans hS.1 z)
  refine va_callv (va_runI (As := As) (rest := st) ⟨K.x, K.b, K.n, K.o, K.t⟩ (hM (g_l Γ) H.size) (cwI n K.t hG hw0 hrc hrs (K.t _ hini) (K.t _ hli) (K.t _ hin) hy1 hy hR) ⟨gBlind, fun U hU hW => ⟨rfl, by rw [hU], by rw [hU]; exact hP, hD.weaken (fun _ _ _ z => K.an _ z), gX_go K hS U hU hW, fun q z => K.an q (K.a q (Nat.le_trans hS.1 z))⟩⟩ rfl hn h.1 rfl (lv_room hst) hd hf) hS (fun q _ z => hFc q z) hFc (fun u t H1 locs ht hvm hw hB hz1 hk1 hS => ?_)
  obtain ⟨hP1, hK1, hD1⟩ := hB
  rw [ht] at hP1
  exact kk u hw H1 locs ls hP1 (hD1.weaken (fun _ q _ z => hFc q.1 z)) hS h

end GOC
