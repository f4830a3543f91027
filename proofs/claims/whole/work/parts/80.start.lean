/-! THE LAW's start: what holds of the machine, the first objects, the loop; written by wip/whole/mach/start.py -/
theorem u_90 : Cond.instantiable RX11 7 ∈ gU := gu_in (List.mem_of_getElem? (i := 90) (by decide +kernel)) rfl
theorem u_975 : Cond.instantiable RX12 22 ∈ gU := gu_in (List.mem_of_getElem? (i := 975) (by decide +kernel)) rfl
theorem st_arr {s : State} {args : Array Value} {t : FieldType} (h : (Cond.arrayClass t).before args s = true) (ho : ∀ C, t ≠ .object C) : ∃ c : ClassId, ArrOfT s c t ∧ va_RA s c t := by
  obtain ⟨c, k, comp, h1, h2, h3⟩ := Cond.arrayClass_spec h
  refine ⟨c, fun N z => ⟨(fun q hq => by cases hq), k, h2, comp, h3⟩, ?_⟩
  cases t <;> first | exact h1 | exact absurd rfl (ho _)
theorem st_arrO {s : State} {args : Array Value} {C : String} (h : (Cond.arrayOver (.object C)).before args s = true) : ∃ c : ClassId, ArrOfT s c (.object C) ∧ va_RA s c (.object C) := by
  obtain ⟨comp, c, k, h1, -, h3, h4, h5⟩ := Cond.arrayOver_spec h
  exact ⟨c, fun N z => ⟨(fun q hq => by cases hq), k, h3, comp, h4⟩, k, comp, h3, h4, h1, h5⟩
theorem st_eqr {args : Array Value} {s : State} {t u : Term} {a : Nat} (h : (Cond.eq t u).before args s = true) (ht : t.eval args s none [] s = some (.ref a)) : u.eval args s none [] s = some (.ref a) := by
  cases hv : u.eval args s none [] s with
  | none => simp [Cond.before, Cond.holds, Cond.value, ht, hv] at h
  | some w =>
    simp only [Cond.before, Cond.holds, Cond.value, ht, hv] at h
    cases w <;> simp_all
theorem st_K {s : State} {args : Array Value} (hts : ∀ w ∈ lw_tbl, w.before args s = true) : ∃ (D : va_G) (cI cC cZ cO : ClassId), va_K D vwCl [(cI, .int), (cC, .char), (cZ, .boolean), (cO, .object "ChiefGrades$Chief")] s := by
  obtain ⟨c0, i0, h0⟩ := u_known (C := RX0) (T := TX0) (N := 4) (n := 4) hts (fun w h => gu_tbl (hin_X0 w h)) (hts _ (gu_tbl u_250))
  obtain ⟨c1, i1, h1⟩ := u_known (C := RX1) (T := TX1) (N := 7) (n := 7) hts (fun w h => gu_tbl (hin_X1 w h)) (hts _ (gu_tbl u_244))
  obtain ⟨c2, i2, h2⟩ := u_known (C := RX2) (T := TX2) (N := 11) (n := 11) hts (fun w h => gu_tbl (hin_X2 w h)) (hts _ (gu_tbl u_106))
  obtain ⟨c3, i3, h3⟩ := u_known (C := RX3) (T := TX3) (N := 4) (n := 4) hts (fun w h => gu_tbl (hin_X3 w h)) (hts _ (gu_tbl u_569))
  obtain ⟨c4, i4, h4⟩ := u_known (C := RX4) (T := TX4) (N := 4) (n := 4) hts (fun w h => gu_tbl (hin_X4 w h)) (hts _ (gu_tbl u_547))
  obtain ⟨c5, i5, h5⟩ := u_known (C := RX5) (T := TX5) (N := 4) (n := 4) hts (fun w h => gu_tbl (hin_X5 w h)) (hts _ (gu_tbl u_525))
  obtain ⟨c6, i6, h6⟩ := u_known (C := RX6) (T := TX6) (N := 4) (n := 4) hts (fun w h => gu_tbl (hin_X6 w h)) (hts _ (gu_tbl u_558))
  obtain ⟨c7, i7, h7⟩ := u_known (C := RX7) (T := TX7) (N := 4) (n := 4) hts (fun w h => gu_tbl (hin_X7 w h)) (hts _ (gu_tbl u_580))
  obtain ⟨c8, i8, h8⟩ := u_known (C := RX8) (T := TX8) (N := 2) (n := 2) hts (fun w h => gu_tbl (hin_X8 w h)) (hts _ (gu_tbl u_310))
  obtain ⟨c9, i9, h9⟩ := u_known (C := RX9) (T := TX9) (N := 4) (n := 4) hts (fun w h => gu_tbl (hin_X9 w h)) (hts _ (gu_tbl u_536))
  obtain ⟨c10, i10, h10⟩ := u_known (C := RX10) (T := TX10) (N := 19) (n := 19) hts (fun w h => gu_tbl (hin_X10 w h)) (hts _ (gu_tbl u_98))
  obtain ⟨c11, i11, h11⟩ := u_known (C := RX11) (T := TX11) (N := 7) (n := 7) hts (fun w h => gu_tbl (hin_X11 w h)) (hts _ (gu_tbl u_90))
  obtain ⟨c12, i12, h12⟩ := u_known (C := RX12) (T := TX12) (N := 22) (n := 22) hts (fun w h => gu_tbl (hin_X12 w h)) (hts _ (gu_tbl u_975))
  obtain ⟨cI, a1⟩ := st_arr (hts _ (gu_tbl u_156)) (fun C => by intro h; cases h)
  obtain ⟨cC, a2⟩ := st_arr (hts _ (gu_tbl u_157)) (fun C => by intro h; cases h)
  obtain ⟨cZ, a3⟩ := st_arr (hts _ (gu_tbl u_1046)) (fun C => by intro h; cases h)
  obtain ⟨cO, a4⟩ := st_arrO (C := "ChiefGrades$Chief") (hts _ (List.mem_of_getElem? (i := 104) (by decide +kernel)))
  refine ⟨(fun k => match k with | 0 => c0 | 1 => c1 | 2 => c2 | 3 => c3 | 4 => c4 | 5 => c5 | 6 => c6 | 7 => c7 | 8 => c8 | 9 => c9 | 10 => c10 | 11 => c11 | _ => c12, fun k => match k with | 0 => i0 | 1 => i1 | 2 => i2 | 3 => i3 | 4 => i4 | 5 => i5 | 6 => i6 | 7 => i7 | 8 => i8 | 9 => i9 | 10 => i10 | 11 => i11 | _ => i12), cI, cC, cZ, cO, fun k q hq => ?_, fun k q hq => ?_⟩
  · match k, hq with
    | 0, hq => cases hq; exact h0
    | 1, hq => cases hq; exact h1
    | 2, hq => cases hq; exact h2
    | 3, hq => cases hq; exact h3
    | 4, hq => cases hq; exact h4
    | 5, hq => cases hq; exact h5
    | 6, hq => cases hq; exact h6
    | 7, hq => cases hq; exact h7
    | 8, hq => cases hq; exact h8
    | 9, hq => cases hq; exact h9
    | 10, hq => cases hq; exact h10
    | 11, hq => cases hq; exact h11
    | 12, hq => cases hq; exact h12
    | k + 13, hq => simp [vwCl] at hq
  · match k, hq with
    | 0, hq => cases hq; exact a1
    | 1, hq => cases hq; exact a2
    | 2, hq => cases hq; exact a3
    | 3, hq => cases hq; exact a4
    | k + 4, hq => simp at hq
def tmS : Nat → Term
  | 0 => .string "ChiefGrades$House" 49
  | 1 => .string "ChiefGrades$House" 102
  | 2 => .string "ChiefGrades$House" 55
  | 3 => .string "ChiefGrades$House" 57
  | 4 => .string "ChiefGrades$House" 63
  | 5 => .string "ChiefGrades$House" 65
  | _ => .string "ChiefGradesModel" 102
def tpX : Nat → Nat := fun i => [114, 123, 134, 145, 157, 169, 214].getD i 0
def tpC : Nat → Nat := fun i => [115, 124, 135, 146, 158, 170, 215].getD i 0
def tpA : Nat → Nat := fun i => [116, 125, 136, 147, 159, 171, 216].getD i 0
def tpL : Nat → Nat := fun i => [117, 126, 137, 148, 160, 172, 217].getD i 0
def tpE : Nat → Nat → Nat := fun i j => (([[118, 119, 120, 121, 122], [127, 128, 129, 130, 131, 132], [138, 139, 140, 141, 142], [149, 150, 151, 152, 153], [161, 162, 163, 164], [173, 174, 175, 176], [218, 219, 220]] : List (List Nat)).getD i []).getD j 0
def tpN : Nat → Nat → Nat := fun i j => (([[0, 133, 143, 154, 165, 177, 221], [133, 0, 144, 155, 166, 178, 222], [143, 144, 0, 156, 167, 179, 223], [154, 155, 156, 0, 168, 180, 224], [165, 166, 167, 168, 0, 181, 225], [177, 178, 179, 180, 181, 0, 226], [221, 222, 223, 224, 225, 226, 0]] : List (List Nat)).getD i []).getD j 0
def tpK : Nat → Nat → Nat := fun i j => (([[0, 13, 24, 35, 46, 58, 70], [0, 0, 27, 38, 49, 61, 73], [0, 16, 0, 39, 50, 62, 74], [0, 17, 28, 0, 51, 63, 75], [0, 0, 29, 40, 0, 64, 76], [0, 18, 0, 41, 52, 0, 77], [0, 19, 30, 0, 53, 65, 0]] : List (List Nat)).getD i []).getD j 0
def tpU : Nat → Nat → Nat := fun i j => (([[0, 0, 0, 0, 0, 0, 0], [1384, 0, 0, 0, 0, 0, 0], [1385, 0, 0, 0, 0, 0, 0], [1386, 0, 0, 0, 0, 0, 0], [1387, 1381, 0, 0, 0, 0, 0], [1388, 0, 1382, 0, 0, 0, 0], [1389, 0, 0, 1383, 0, 0, 0]] : List (List Nat)).getD i []).getD j 0
theorem nr_X : ∀ i, i < 7 → (flatC (Jvm.Cond.and given_1 narrow_1))[tpX i]? = some (Cond.exactly (tmS i) "java/lang/String") := by decide +kernel
theorem nr_C : ∀ i, i < 7 → (flatC (Jvm.Cond.and given_1 narrow_1))[tpC i]? = some (Cond.eq (.field (tmS i) "java/lang/String" "coder" "B") (.int 0)) := by decide +kernel
theorem nr_A : ∀ i, i < 7 → (flatC (Jvm.Cond.and given_1 narrow_1))[tpA i]? = some (Cond.arrayOf (.field (tmS i) "java/lang/String" "value" "[B") .byte) := by decide +kernel
theorem nr_L : ∀ i, i < 7 → (flatC (Jvm.Cond.and given_1 narrow_1))[tpL i]? = some (Cond.eq (.length (.field (tmS i) "java/lang/String" "value" "[B")) (.int (Int32.ofNat (stxLen.getD i 0)))) := by decide +kernel
theorem nr_E : ∀ i, i < 7 → ∀ j, j < stxLen.getD i 0 → (flatC (Jvm.Cond.and given_1 narrow_1))[tpE i j]? = some (Cond.eq (.elem (.field (tmS i) "java/lang/String" "value" "[B") (.int (Int32.ofNat j))) (.int ((stxByt.getD i []).getD j 0))) := by decide +kernel
theorem nr_N : ∀ i, i < 7 → ∀ j, j < 7 → i ≠ j → (flatC (Jvm.Cond.and given_1 narrow_1))[tpN i j]? = some (Cond.not (Cond.eq (tmS i) (tmS j))) ∨ (flatC (Jvm.Cond.and given_1 narrow_1))[tpN i j]? = some (Cond.not (Cond.eq (tmS j) (tmS i))) := by decide +kernel
theorem nr_K : ∀ k, k < 7 → ∀ j, j < 7 → gUnd k j = false → (flatC (Jvm.Cond.and given_1 narrow_1))[tpK k j]? = some (Cond.not (.castable (gKn.getD k "") (gKn.getD j ""))) := by decide +kernel
theorem nr_U : ∀ k, k < 7 → ∀ j, j < 7 → gUnd k j = true → j ≠ k → lw_tbl[tpU k j]? = some (Cond.castable (gKn.getD k "") (gKn.getD j "")) := by decide +kernel
theorem st_E {s : State} {args : Array Value} (hts : ∀ w ∈ lw_tbl, w.before args s = true) (hgv : (Jvm.Cond.and given_1 narrow_1).before args s = true) : ∃ E : gE, gX E s ∧ (∀ a, gfz E a = none) ∧ ∀ q, s.heap.size ≤ q → gN E q := by
  have hs := flat_of_before _ hgv
  obtain ⟨D, cI, cC, cZ, cO, hK⟩ := st_K hts
  have hA : ∀ a : Nat, a < s.heap.size → ¬ (fun q => s.heap.size ≤ q) a := fun a h => Nat.not_le.mpr h
  obtain ⟨adK, adV, hS, hev⟩ := vk_Sof (args := args) (s := s) (N := 7) (tm := tmS) (len := stxLen) (byt := stxByt) (A := fun q => s.heap.size ≤ q) (by decide) (fun i hi => hs _ (List.mem_of_getElem? (nr_X i hi))) (fun i hi => hs _ (List.mem_of_getElem? (nr_C i hi))) (fun i hi => hs _ (List.mem_of_getElem? (nr_A i hi))) (fun i hi => hs _ (List.mem_of_getElem? (nr_L i hi))) (fun i hi j hj => hs _ (List.mem_of_getElem? (nr_E i hi j hj))) (fun i j hi hj hij => (nr_N i hi j hj hij).elim (fun h => Or.inl (hs _ (List.mem_of_getElem? h))) (fun h => Or.inr (hs _ (List.mem_of_getElem? h)))) hA
  refine ⟨(D, (cI, cC, cZ, cO), (fun _ => none), (fun q => s.heap.size ≤ q), adK, adV), ⟨(fun a e h => by cases h), hK, hS, ?_, ?_, ?_, fun k hk j hj hu => va_Nc.of (args := args) (hs _ (List.mem_of_getElem? (nr_K k hk j hj hu))), fun k hk j hj hu hjk => va_Nw.of (A := args) rfl (hts _ (List.mem_of_getElem? (nr_U k hk j hj hu hjk)))⟩, fun _ => rfl, fun q h => h⟩
  · exact va_Zof (args := args) (hts _ (List.mem_of_getElem? (i := 382) (by decide +kernel))) (hts _ (gu_tbl u_76)) (va_eqi (hs _ (List.mem_of_getElem? (i := 4) (by decide +kernel)))) hA
  · exact va_Zqof (args := args) (hts _ (List.mem_of_getElem? (i := 398) (by decide +kernel))) (hts _ (gu_tbl u_78)) (hs _ (List.mem_of_getElem? (i := 5) (by decide +kernel))) hA
  · intro q hq
    unfold stxRef at hq
    simp only [List.mem_cons, List.not_mem_nil, or_false] at hq
    rcases hq with rfl | rfl | rfl | rfl | rfl | rfl | rfl | rfl | rfl | rfl | rfl | rfl | rfl
    · exact vk_R.of (A := args) (hts _ (List.mem_of_getElem? (i := 364) (by decide +kernel))) (hev 0 (by decide))
    · exact vk_R.of (A := args) (hts _ (List.mem_of_getElem? (i := 441) (by decide +kernel))) (hev 1 (by decide))
    · exact vk_R.of (A := args) (hts _ (List.mem_of_getElem? (i := 501) (by decide +kernel))) (hev 2 (by decide))
    · exact vk_R.of (A := args) (hts _ (List.mem_of_getElem? (i := 502) (by decide +kernel))) (hev 3 (by decide))
    · exact vk_R.of (A := args) (hts _ (List.mem_of_getElem? (i := 507) (by decide +kernel))) (hev 4 (by decide))
    · exact vk_R.of (A := args) (hts _ (List.mem_of_getElem? (i := 508) (by decide +kernel))) (hev 5 (by decide))
    · exact vk_R.of (A := args) (hts _ (List.mem_of_getElem? (i := 1066) (by decide +kernel))) (st_eqr (hs _ (List.mem_of_getElem? (i := 191) (by decide +kernel))) (hev 0 (by decide)))
    · exact vk_R.of (A := args) (hts _ (List.mem_of_getElem? (i := 1101) (by decide +kernel))) (st_eqr (hs _ (List.mem_of_getElem? (i := 208) (by decide +kernel))) (hev 1 (by decide)))
    · exact vk_R.of (A := args) (hts _ (List.mem_of_getElem? (i := 1107) (by decide +kernel))) (st_eqr (hs _ (List.mem_of_getElem? (i := 240) (by decide +kernel))) (hev 2 (by decide)))
    · exact vk_R.of (A := args) (hts _ (List.mem_of_getElem? (i := 1108) (by decide +kernel))) (st_eqr (hs _ (List.mem_of_getElem? (i := 259) (by decide +kernel))) (hev 3 (by decide)))
    · exact vk_R.of (A := args) (hts _ (List.mem_of_getElem? (i := 1113) (by decide +kernel))) (st_eqr (hs _ (List.mem_of_getElem? (i := 278) (by decide +kernel))) (hev 4 (by decide)))
    · exact vk_R.of (A := args) (hts _ (List.mem_of_getElem? (i := 1114) (by decide +kernel))) (st_eqr (hs _ (List.mem_of_getElem? (i := 298) (by decide +kernel))) (hev 5 (by decide)))
    · exact vk_R.of (A := args) (hts _ (List.mem_of_getElem? (i := 1106) (by decide +kernel))) (hev 6 (by decide))
