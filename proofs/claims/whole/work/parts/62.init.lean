/-! constructors, written by wip/whole/mach/mk.py -/
theorem u_110 : Cond.methodLink RX2 1 objectInit ∈ gU := gu_in (List.mem_of_getElem? (i := 110) (by decide +kernel)) rfl
theorem u_111 : Cond.methodLink RX2 23 Lib.Math.min.name ∈ gU := gu_in (List.mem_of_getElem? (i := 111) (by decide +kernel)) rfl
theorem u_114 : Cond.methodLink RX2 29 Lib.Math.max.name ∈ gU := gu_in (List.mem_of_getElem? (i := 114) (by decide +kernel)) rfl
theorem u_156 : Cond.arrayClass .int ∈ gU := gu_in (List.mem_of_getElem? (i := 156) (by decide +kernel)) rfl
theorem u_102 : Cond.methodLink RX10 3 objectInit ∈ gU := gu_in (List.mem_of_getElem? (i := 102) (by decide +kernel)) rfl
theorem u_103 : Cond.classLink RX10 34 "ChiefGrades$Chief" ∈ gU := gu_in (List.mem_of_getElem? (i := 103) (by decide +kernel)) rfl
theorem u_157 : Cond.arrayClass .char ∈ gU := gu_in (List.mem_of_getElem? (i := 157) (by decide +kernel)) rfl
theorem u_105 : Cond.classLink RX10 53 RX2 ∈ gU := gu_in (List.mem_of_getElem? (i := 105) (by decide +kernel)) rfl
theorem u_106 : Cond.instantiable RX2 11 ∈ gU := gu_in (List.mem_of_getElem? (i := 106) (by decide +kernel)) rfl
theorem u_109 : Cond.code yX2_init cX2_init 3 none ∈ gU := gu_in (List.mem_of_getElem? (i := 109) (by decide +kernel)) rfl
theorem u_107 : Cond.methodLink RX10 55 yX2_init ∈ gU := gu_in (List.mem_of_getElem? (i := 107) (by decide +kernel)) rfl
theorem u_108 : Cond.instanceMethod yX2_init ∈ gU := gu_in (List.mem_of_getElem? (i := 108) (by decide +kernel)) rfl
theorem u_248 : Cond.methodLink RX1 3 objectInit ∈ gU := gu_in (List.mem_of_getElem? (i := 248) (by decide +kernel)) rfl
theorem u_249 : Cond.classLink RX1 27 RX0 ∈ gU := gu_in (List.mem_of_getElem? (i := 249) (by decide +kernel)) rfl
theorem u_251 : Cond.methodLink RX1 29 yX0_init ∈ gU := gu_in (List.mem_of_getElem? (i := 251) (by decide +kernel)) rfl
theorem u_314 : Cond.methodLink RX8 3 objectInit ∈ gU := gu_in (List.mem_of_getElem? (i := 314) (by decide +kernel)) rfl
theorem u_94 : Cond.methodLink RX11 3 objectInit ∈ gU := gu_in (List.mem_of_getElem? (i := 94) (by decide +kernel)) rfl
theorem u_97 : Cond.classLink RX11 9 RX10 ∈ gU := gu_in (List.mem_of_getElem? (i := 97) (by decide +kernel)) rfl
theorem u_98 : Cond.instantiable RX10 19 ∈ gU := gu_in (List.mem_of_getElem? (i := 98) (by decide +kernel)) rfl
theorem u_101 : Cond.code yX10_init cX10_init 1 none ∈ gU := gu_in (List.mem_of_getElem? (i := 101) (by decide +kernel)) rfl
theorem u_99 : Cond.methodLink RX11 11 yX10_init ∈ gU := gu_in (List.mem_of_getElem? (i := 99) (by decide +kernel)) rfl
theorem u_100 : Cond.instanceMethod yX10_init ∈ gU := gu_in (List.mem_of_getElem? (i := 100) (by decide +kernel)) rfl
theorem u_243 : Cond.classLink RX11 24 RX1 ∈ gU := gu_in (List.mem_of_getElem? (i := 243) (by decide +kernel)) rfl
theorem u_244 : Cond.instantiable RX1 7 ∈ gU := gu_in (List.mem_of_getElem? (i := 244) (by decide +kernel)) rfl
theorem u_247 : Cond.code yX1_init cX1_init 1 none ∈ gU := gu_in (List.mem_of_getElem? (i := 247) (by decide +kernel)) rfl
theorem u_245 : Cond.methodLink RX11 26 yX1_init ∈ gU := gu_in (List.mem_of_getElem? (i := 245) (by decide +kernel)) rfl
theorem u_246 : Cond.instanceMethod yX1_init ∈ gU := gu_in (List.mem_of_getElem? (i := 246) (by decide +kernel)) rfl
theorem u_309 : Cond.classLink RX11 31 RX8 ∈ gU := gu_in (List.mem_of_getElem? (i := 309) (by decide +kernel)) rfl
theorem u_310 : Cond.instantiable RX8 2 ∈ gU := gu_in (List.mem_of_getElem? (i := 310) (by decide +kernel)) rfl
theorem u_313 : Cond.code yX8_init cX8_init 1 none ∈ gU := gu_in (List.mem_of_getElem? (i := 313) (by decide +kernel)) rfl
theorem u_311 : Cond.methodLink RX11 33 yX8_init ∈ gU := gu_in (List.mem_of_getElem? (i := 311) (by decide +kernel)) rfl
theorem u_312 : Cond.instanceMethod yX8_init ∈ gU := gu_in (List.mem_of_getElem? (i := 312) (by decide +kernel)) rfl
theorem u_979 : Cond.methodLink RX12 3 objectInit ∈ gU := gu_in (List.mem_of_getElem? (i := 979) (by decide +kernel)) rfl
theorem u_1046 : Cond.arrayClass .boolean ∈ gU := gu_in (List.mem_of_getElem? (i := 1046) (by decide +kernel)) rfl
theorem dfX1 : ∀ j, j < 7 → defaultValue (tyX1 j) = vp_V [.null, .null, .null, .null, .int 0, .null, .null] j := fun j hj => match j, hj with
  | 0, _ => rfl
  | 1, _ => rfl
  | 2, _ => rfl
  | 3, _ => rfl
  | 4, _ => rfl
  | 5, _ => rfl
  | 6, _ => rfl
  | _ + 7, h => absurd h (Nat.not_lt.mpr (Nat.le_add_left _ _))
theorem dfX2 : ∀ j, j < 11 → defaultValue (tyX2 j) = vp_V [.int 0, .int 0, .int 0, .null, .int 0, .int 0, .int 0, .null, .null, .null, .int 0] j := fun j hj => match j, hj with
  | 0, _ => rfl
  | 1, _ => rfl
  | 2, _ => rfl
  | 3, _ => rfl
  | 4, _ => rfl
  | 5, _ => rfl
  | 6, _ => rfl
  | 7, _ => rfl
  | 8, _ => rfl
  | 9, _ => rfl
  | 10, _ => rfl
  | _ + 11, h => absurd h (Nat.not_lt.mpr (Nat.le_add_left _ _))
theorem dfX8 : ∀ j, j < 2 → defaultValue (tyX8 j) = vp_V [.null, .int 0] j := fun j hj => match j, hj with
  | 0, _ => rfl
  | 1, _ => rfl
  | _ + 2, h => absurd h (Nat.not_lt.mpr (Nat.le_add_left _ _))
theorem dfX10 : ∀ j, j < 19 → defaultValue (tyX10 j) = vp_V [.int 0, .int 0, .int 0, .int 0, .int 0, .int 0, .int 0, .int 0, .null, .null, .null, .null, .null, .null, .null, .null, .null, .null, .null] j := fun j hj => match j, hj with
  | 0, _ => rfl
  | 1, _ => rfl
  | 2, _ => rfl
  | 3, _ => rfl
  | 4, _ => rfl
  | 5, _ => rfl
  | 6, _ => rfl
  | 7, _ => rfl
  | 8, _ => rfl
  | 9, _ => rfl
  | 10, _ => rfl
  | 11, _ => rfl
  | 12, _ => rfl
  | 13, _ => rfl
  | 14, _ => rfl
  | 15, _ => rfl
  | 16, _ => rfl
  | 17, _ => rfl
  | 18, _ => rfl
  | _ + 19, h => absurd h (Nat.not_lt.mpr (Nat.le_add_left _ _))
theorem dfX11 : ∀ j, j < 7 → defaultValue (tyX11 j) = vp_V [.null, .null, .null, .null, .null, .null, .int 0] j := fun j hj => match j, hj with
  | 0, _ => rfl
  | 1, _ => rfl
  | 2, _ => rfl
  | 3, _ => rfl
  | 4, _ => rfl
  | 5, _ => rfl
  | 6, _ => rfl
  | _ + 7, h => absurd h (Nat.not_lt.mpr (Nat.le_add_left _ _))
theorem dfX12 : ∀ j, j < 22 → defaultValue (tyX12 j) = vp_V [.int 0, .null, .null, .null, .int 0, .int 0, .int 0, .int 0, .int 0, .int 0, .null, .null, .null, .null, .null, .null, .null, .null, .int 0, .int 0, .int 0, .int 0] j := fun j hj => match j, hj with
  | 0, _ => rfl
  | 1, _ => rfl
  | 2, _ => rfl
  | 3, _ => rfl
  | 4, _ => rfl
  | 5, _ => rfl
  | 6, _ => rfl
  | 7, _ => rfl
  | 8, _ => rfl
  | 9, _ => rfl
  | 10, _ => rfl
  | 11, _ => rfl
  | 12, _ => rfl
  | 13, _ => rfl
  | 14, _ => rfl
  | 15, _ => rfl
  | 16, _ => rfl
  | 17, _ => rfl
  | 18, _ => rfl
  | 19, _ => rfl
  | 20, _ => rfl
  | 21, _ => rfl
  | _ + 22, h => absurd h (Nat.not_lt.mpr (Nat.le_add_left _ _))
theorem qi_X1_init : yX1_init.cls ≠ "java/lang/invoke/MethodHandle" ∧ yX1_init.cls ≠ "java/lang/invoke/VarHandle" ∧ (parseMethodDescriptor yX1_init.desc).map (fun d => d.parameters.length) = some 0 := by decide +kernel
theorem qi_X2_init : yX2_init.cls ≠ "java/lang/invoke/MethodHandle" ∧ yX2_init.cls ≠ "java/lang/invoke/VarHandle" ∧ (parseMethodDescriptor yX2_init.desc).map (fun d => d.parameters.length) = some 2 := by decide +kernel
theorem qi_X8_init : yX8_init.cls ≠ "java/lang/invoke/MethodHandle" ∧ yX8_init.cls ≠ "java/lang/invoke/VarHandle" ∧ (parseMethodDescriptor yX8_init.desc).map (fun d => d.parameters.length) = some 0 := by decide +kernel
theorem qi_X10_init : yX10_init.cls ≠ "java/lang/invoke/MethodHandle" ∧ yX10_init.cls ≠ "java/lang/invoke/VarHandle" ∧ (parseMethodDescriptor yX10_init.desc).map (fun d => d.parameters.length) = some 0 := by decide +kernel
theorem qi_X11_init : yX11_init.cls ≠ "java/lang/invoke/MethodHandle" ∧ yX11_init.cls ≠ "java/lang/invoke/VarHandle" ∧ (parseMethodDescriptor yX11_init.desc).map (fun d => d.parameters.length) = some 0 := by decide +kernel
theorem qi_X12_init : yX12_init.cls ≠ "java/lang/invoke/MethodHandle" ∧ yX12_init.cls ≠ "java/lang/invoke/VarHandle" ∧ (parseMethodDescriptor yX12_init.desc).map (fun d => d.parameters.length) = some 0 := by decide +kernel
set_option maxHeartbeats 4000000 in
set_option maxRecDepth 100000 in
theorem ctX2_init {E : gE} {ws : va_W} (q tx k NT N : Nat) {f : Nat → Int32} (sz : Int32) (hk : ws[k]? = some (tx, .inl (gCh E, NT, .inl f))) (hN : N ≤ 100) (hs : (if (0 : Int32) < (if Int32.ofNat NT < sz then Int32.ofNat NT else sz) then (if Int32.ofNat NT < sz then Int32.ofNat NT else sz) else 0) = nI N) : gMv yX2_init (.code yX2_init cX2_init 3 none :: gU) ({ frames := 2, cells := 3, slots := 300, locals := 40 } : Room) 3 300 E [.ref q, .ref tx, .int sz] ([(q, .inr (2, [.int 0, .int 0, .int 0, .null, .int 0, .int 0, .int 0, .null, .null, .null, .int 0]))] ++ ws) (fun w => ∃ a b c, w = [(c, .inl (gI E, N, .inl (fun _ => 0))), (b, .inl (gI E, N, .inl (fun _ => 0))), (a, .inl (gI E, N, .inl (fun _ => 0))), (q, .inr (2, [.int 10, .int 0, .int 10, .ref tx, .int (nI N), .int 0, .int 0, .ref a, .ref b, .ref c, .int 0]))] ++ ws) := by
  refine g_met_v (by decide +kernel) (Nat.le_of_ble_eq_true rfl) (fun Γ K hn hE hRm hmn hret => ?_)
  subst hE
  have hNn : ¬ nI N < 0 := by rw [show (0 : Int32) = nI 0 from rfl, n_lt (by omega) (by omega)]; omega
  have hNc : (nI N).toNatClampNeg = N := n_cl (by omega)
  refine g_sub (L' := [(0, .ref q), (1, .ref tx), (2, .int sz)]) [0, 1, 2] rfl ?_
  refine g_aload_n K dX2_init_0 rfl 0 rfl ?_
  refine g_objInit K u_110 u_95 u_96 hRm ⟨Nat.le_of_ble_eq_true rfl, Nat.le_of_ble_eq_true rfl⟩ dX2_init_1 ?_
  refine g_aload_n K dX2_init_4 rfl 0 rfl ?_
  refine g_bipush (v := 10) K dX2_init_5 (by decide) ?_
  refine g_put (T := TX2) (ref := "ChiefGrades$House") K hin_X2 tyX2_ok nmX2 0 rfl rfl 0 (by decide) u_117 rfl rfl rfl rfl rfl (Nat.le_of_ble_eq_true rfl) dX2_init_7 (ws' := [(q, .inr (2, [.int 10, .int 0, .int 0, .null, .int 0, .int 0, .int 0, .null, .null, .null, .int 0]))] ++ ws) rfl ?_
  refine g_aload_n K dX2_init_10 rfl 0 rfl ?_
  refine g_iconst (v := 0) K dX2_init_11 (by decide) ?_
  refine g_put (T := TX2) (ref := "ChiefGrades$House") K hin_X2 tyX2_ok nmX2 0 rfl rfl 1 (by decide) u_120 rfl rfl rfl rfl rfl (Nat.le_of_ble_eq_true rfl) dX2_init_12 (ws' := [(q, .inr (2, [.int 10, .int 0, .int 0, .null, .int 0, .int 0, .int 0, .null, .null, .null, .int 0]))] ++ ws) rfl ?_
  refine g_aload_n K dX2_init_15 rfl 0 rfl ?_
  refine g_bipush (v := 10) K dX2_init_16 (by decide) ?_
  refine g_put (T := TX2) (ref := "ChiefGrades$House") K hin_X2 tyX2_ok nmX2 0 rfl rfl 2 (by decide) u_123 rfl rfl rfl rfl rfl (Nat.le_of_ble_eq_true rfl) dX2_init_18 (ws' := [(q, .inr (2, [.int 10, .int 0, .int 10, .null, .int 0, .int 0, .int 0, .null, .null, .null, .int 0]))] ++ ws) rfl ?_
  refine g_aload_n K dX2_init_21 rfl 0 rfl ?_
  refine g_aload_n K dX2_init_22 rfl 1 rfl ?_
  refine g_putF (T := TX2) (ref := "ChiefGrades$House") K hin_X2 tyX2_ok nmX2 0 rfl rfl 3 (by decide) u_125 rfl rfl hmn rfl rfl rfl rfl (Nat.le_of_ble_eq_true rfl) dX2_init_23 (ws' := [(q, .inr (2, [.int 10, .int 0, .int 10, .ref tx, .int 0, .int 0, .int 0, .null, .null, .null, .int 0]))] ++ ws) rfl ?_
  refine g_aload_n K dX2_init_26 rfl 0 rfl ?_
  refine g_iconst (v := 0) K dX2_init_27 (by decide) ?_
  refine g_iload_n K dX2_init_28 rfl 2 rfl ?_
  refine g_aload_n K dX2_init_29 rfl 1 rfl ?_
  refine g_alen K (k + 1) 1 hk rfl rfl dX2_init_30 ?_
  refine g_mmin K u_111 u_112 u_71 u_113 hRm ⟨Nat.le_of_ble_eq_true rfl, Nat.le_of_ble_eq_true rfl, Nat.le_of_ble_eq_true rfl, Nat.le_of_ble_eq_true rfl⟩ dX2_init_31 ?_
  refine g_mmax K u_114 u_115 u_71 u_116 hRm ⟨Nat.le_of_ble_eq_true rfl, Nat.le_of_ble_eq_true rfl, Nat.le_of_ble_eq_true rfl, Nat.le_of_ble_eq_true rfl⟩ dX2_init_34 ?_
  rw [hs]
  refine g_putF (T := TX2) (ref := "ChiefGrades$House") K hin_X2 tyX2_ok nmX2 0 rfl rfl 4 (by decide) u_126 rfl rfl hmn rfl rfl rfl rfl (Nat.le_of_ble_eq_true rfl) dX2_init_37 (ws' := [(q, .inr (2, [.int 10, .int 0, .int 10, .ref tx, .int (nI N), .int 0, .int 0, .null, .null, .null, .int 0]))] ++ ws) rfl ?_
  refine g_aload_n K dX2_init_40 rfl 0 rfl ?_
  refine g_aload_n K dX2_init_41 rfl 0 rfl ?_
  refine g_get (T := TX2) (ref := "ChiefGrades$House") K hin_X2 0 rfl rfl 4 (by decide) u_126 (Or.inl rfl) rfl dX2_init_42 ?_
  refine g_newaI (N' := N) K u_156 hNn hNc (by omega) hRm ⟨Nat.le_of_ble_eq_true rfl, (by show _ ≤ 300; omega)⟩ dX2_init_45 (fun q1 => ?_)
  refine g_putF (T := TX2) (ref := "ChiefGrades$House") K hin_X2 tyX2_ok nmX2 1 rfl rfl 7 (by decide) u_129 rfl rfl hmn rfl rfl rfl rfl (Nat.le_of_ble_eq_true rfl) dX2_init_47 (ws' := [(q1, .inl (gI (g_E Γ), N, .inl (fun _ => 0))), (q, .inr (2, [.int 10, .int 0, .int 10, .ref tx, .int (nI N), .int 0, .int 0, .ref q1, .null, .null, .int 0]))] ++ ws) rfl ?_
  refine g_aload_n K dX2_init_50 rfl 0 rfl ?_
  refine g_aload_n K dX2_init_51 rfl 0 rfl ?_
  refine g_get (T := TX2) (ref := "ChiefGrades$House") K hin_X2 1 rfl rfl 4 (by decide) u_126 (Or.inl rfl) rfl dX2_init_52 ?_
  refine g_newaI (N' := N) K u_156 hNn hNc (by omega) hRm ⟨Nat.le_of_ble_eq_true rfl, (by show _ ≤ 300; omega)⟩ dX2_init_55 (fun q2 => ?_)
  refine g_putF (T := TX2) (ref := "ChiefGrades$House") K hin_X2 tyX2_ok nmX2 2 rfl rfl 8 (by decide) u_130 rfl rfl hmn rfl rfl rfl rfl (Nat.le_of_ble_eq_true rfl) dX2_init_57 (ws' := [(q2, .inl (gI (g_E Γ), N, .inl (fun _ => 0))), (q1, .inl (gI (g_E Γ), N, .inl (fun _ => 0))), (q, .inr (2, [.int 10, .int 0, .int 10, .ref tx, .int (nI N), .int 0, .int 0, .ref q1, .ref q2, .null, .int 0]))] ++ ws) rfl ?_
  refine g_aload_n K dX2_init_60 rfl 0 rfl ?_
  refine g_aload_n K dX2_init_61 rfl 0 rfl ?_
  refine g_get (T := TX2) (ref := "ChiefGrades$House") K hin_X2 2 rfl rfl 4 (by decide) u_126 (Or.inl rfl) rfl dX2_init_62 ?_
  refine g_newaI (N' := N) K u_156 hNn hNc (by omega) hRm ⟨Nat.le_of_ble_eq_true rfl, (by show _ ≤ 300; omega)⟩ dX2_init_65 (fun q3 => ?_)
  refine g_putF (T := TX2) (ref := "ChiefGrades$House") K hin_X2 tyX2_ok nmX2 3 rfl rfl 9 (by decide) u_131 rfl rfl hmn rfl rfl rfl rfl (Nat.le_of_ble_eq_true rfl) dX2_init_67 (ws' := [(q3, .inl (gI (g_E Γ), N, .inl (fun _ => 0))), (q2, .inl (gI (g_E Γ), N, .inl (fun _ => 0))), (q1, .inl (gI (g_E Γ), N, .inl (fun _ => 0))), (q, .inr (2, [.int 10, .int 0, .int 10, .ref tx, .int (nI N), .int 0, .int 0, .ref q1, .ref q2, .ref q3, .int 0]))] ++ ws) rfl ?_
  refine g_wid (c2 := 3) (s2 := 300) (Nat.le_refl _) (by omega) ?_
  exact hret _ _ _ dX2_init_70 ⟨q1, q2, q3, rfl⟩

def wInit (E : gE) (q a8 a9 a10 a11 a12 a13 a14 a15 a16 a17 tx h st le mo : Nat) : va_W := [(q, .inr (10, [.int 0, .int 0, .int 0, .int 0, .int 0, .int 0, .int 50, .int 50, .ref a8, .ref a9, .ref a10, .ref a11, .ref a12, .ref a13, .ref a14, .ref a15, .ref a16, .ref a17, .ref h])), (a8, .inl (gI E, 10, .inl (fun _ => 0))), (a9, .inl (gI E, 10, .inl (fun _ => 0))), (a10, .inl (gI E, 10, .inl (fun _ => 0))), (a11, .inl (gI E, 10, .inl (fun _ => 0))), (a12, .inl (gI E, 10, .inl (fun _ => 0))), (a13, .inl (gO E, 4, .inr (.inr (.inr (.inr (fun _ => none)))))), (a14, .inl (gI E, 20, .inl (fun _ => 0))), (a15, .inl (gI E, 20, .inl (fun _ => 0))), (a16, .inl (gI E, 20, .inl (fun _ => 0))), (a17, .inl (gCh E, 100, .inl (fun _ => 0))), (tx, .inl (gCh E, 0, .inl (fun _ => 0))), (h, .inr (2, [.int 10, .int 0, .int 10, .ref tx, .int (nI 0), .int 0, .int 0, .ref st, .ref le, .ref mo, .int 0])), (st, .inl (gI E, 0, .inl (fun _ => 0))), (le, .inl (gI E, 0, .inl (fun _ => 0))), (mo, .inl (gI E, 0, .inl (fun _ => 0)))]
set_option maxHeartbeats 4000000 in
set_option maxRecDepth 100000 in
theorem ctX10_init {E : gE} {ws : va_W} (q : Nat) : gMvA yX10_init (.code yX10_init cX10_init 1 none :: gU) ({ frames := 3, cells := 15, slots := 525, locals := 100 } : Room) 15 525 E [.ref q] ([(q, .inr (10, [.int 0, .int 0, .int 0, .int 0, .int 0, .int 0, .int 0, .int 0, .null, .null, .null, .null, .null, .null, .null, .null, .null, .null, .null]))] ++ ws) (fun w => ∃ a8 a9 a10 a11 a12 a13 a14 a15 a16 a17 tx h st le mo, w = wInit E q a8 a9 a10 a11 a12 a13 a14 a15 a16 a17 tx h st le mo ++ ws) := by
  refine g_met_vA (by decide +kernel) (Nat.le_of_ble_eq_true rfl) (fun Γ K hn hE hRm hmn hao hret => ?_)
  subst hE
  refine g_sub (L' := [(0, .ref q)]) [0] rfl ?_
  refine g_aload_n K dX10_init_0 rfl 0 rfl ?_
  refine g_objInit K u_102 u_95 u_96 hRm ⟨Nat.le_of_ble_eq_true rfl, Nat.le_of_ble_eq_true rfl⟩ dX10_init_1 ?_
  refine g_aload_n K dX10_init_4 rfl 0 rfl ?_
  refine g_bipush (v := 50) K dX10_init_5 (by decide) ?_
  refine g_put (T := TX10) (ref := "ChiefGrades$World") K hin_X10 tyX10_ok nmX10 0 rfl rfl 6 (by decide) u_173 rfl rfl rfl rfl rfl (Nat.le_of_ble_eq_true rfl) dX10_init_7 (ws' := [(q, .inr (10, [.int 0, .int 0, .int 0, .int 0, .int 0, .int 0, .int 50, .int 0, .null, .null, .null, .null, .null, .null, .null, .null, .null, .null, .null]))] ++ ws) rfl ?_
  refine g_aload_n K dX10_init_10 rfl 0 rfl ?_
  refine g_bipush (v := 50) K dX10_init_11 (by decide) ?_
  refine g_put (T := TX10) (ref := "ChiefGrades$World") K hin_X10 tyX10_ok nmX10 0 rfl rfl 7 (by decide) u_175 rfl rfl rfl rfl rfl (Nat.le_of_ble_eq_true rfl) dX10_init_13 (ws' := [(q, .inr (10, [.int 0, .int 0, .int 0, .int 0, .int 0, .int 0, .int 50, .int 50, .null, .null, .null, .null, .null, .null, .null, .null, .null, .null, .null]))] ++ ws) rfl ?_
  refine g_aload_n K dX10_init_16 rfl 0 rfl ?_
  refine g_bipush (v := 10) K dX10_init_17 (by decide) ?_
  refine g_newaI (N' := 10) K u_156 (by decide) (by decide) (Nat.le_of_ble_eq_true rfl) hRm ⟨Nat.le_of_ble_eq_true rfl, Nat.le_of_ble_eq_true rfl⟩ dX10_init_19 (fun q1 => ?_)
  refine g_putF (T := TX10) (ref := "ChiefGrades$World") K hin_X10 tyX10_ok nmX10 1 rfl rfl 8 (by decide) u_177 rfl rfl hmn rfl rfl rfl rfl (Nat.le_of_ble_eq_true rfl) dX10_init_21 (ws' := [(q1, .inl (gI (g_E Γ), 10, .inl (fun _ => 0))), (q, .inr (10, [.int 0, .int 0, .int 0, .int 0, .int 0, .int 0, .int 50, .int 50, .ref q1, .null, .null, .null, .null, .null, .null, .null, .null, .null, .null]))] ++ ws) rfl ?_
  refine g_aload_n K dX10_init_24 rfl 0 rfl ?_
  refine g_bipush (v := 10) K dX10_init_25 (by decide) ?_
  refine g_newaI (N' := 10) K u_156 (by decide) (by decide) (Nat.le_of_ble_eq_true rfl) hRm ⟨Nat.le_of_ble_eq_true rfl, Nat.le_of_ble_eq_true rfl⟩ dX10_init_27 (fun q2 => ?_)
  refine g_putF (T := TX10) (ref := "ChiefGrades$World") K hin_X10 tyX10_ok nmX10 2 rfl rfl 9 (by decide) u_180 rfl rfl hmn rfl rfl rfl rfl (Nat.le_of_ble_eq_true rfl) dX10_init_29 (ws' := [(q2, .inl (gI (g_E Γ), 10, .inl (fun _ => 0))), (q1, .inl (gI (g_E Γ), 10, .inl (fun _ => 0))), (q, .inr (10, [.int 0, .int 0, .int 0, .int 0, .int 0, .int 0, .int 50, .int 50, .ref q1, .ref q2, .null, .null, .null, .null, .null, .null, .null, .null, .null]))] ++ ws) rfl ?_
  refine g_aload_n K dX10_init_32 rfl 0 rfl ?_
  refine g_bipush (v := 10) K dX10_init_33 (by decide) ?_
  refine g_newaI (N' := 10) K u_156 (by decide) (by decide) (Nat.le_of_ble_eq_true rfl) hRm ⟨Nat.le_of_ble_eq_true rfl, Nat.le_of_ble_eq_true rfl⟩ dX10_init_35 (fun q3 => ?_)
  refine g_putF (T := TX10) (ref := "ChiefGrades$World") K hin_X10 tyX10_ok nmX10 3 rfl rfl 10 (by decide) u_183 rfl rfl hmn rfl rfl rfl rfl (Nat.le_of_ble_eq_true rfl) dX10_init_37 (ws' := [(q3, .inl (gI (g_E Γ), 10, .inl (fun _ => 0))), (q2, .inl (gI (g_E Γ), 10, .inl (fun _ => 0))), (q1, .inl (gI (g_E Γ), 10, .inl (fun _ => 0))), (q, .inr (10, [.int 0, .int 0, .int 0, .int 0, .int 0, .int 0, .int 50, .int 50, .ref q1, .ref q2, .ref q3, .null, .null, .null, .null, .null, .null, .null, .null]))] ++ ws) rfl ?_
  refine g_aload_n K dX10_init_40 rfl 0 rfl ?_
  refine g_bipush (v := 10) K dX10_init_41 (by decide) ?_
  refine g_newaI (N' := 10) K u_156 (by decide) (by decide) (Nat.le_of_ble_eq_true rfl) hRm ⟨Nat.le_of_ble_eq_true rfl, Nat.le_of_ble_eq_true rfl⟩ dX10_init_43 (fun q4 => ?_)
  refine g_putF (T := TX10) (ref := "ChiefGrades$World") K hin_X10 tyX10_ok nmX10 4 rfl rfl 11 (by decide) u_186 rfl rfl hmn rfl rfl rfl rfl (Nat.le_of_ble_eq_true rfl) dX10_init_45 (ws' := [(q4, .inl (gI (g_E Γ), 10, .inl (fun _ => 0))), (q3, .inl (gI (g_E Γ), 10, .inl (fun _ => 0))), (q2, .inl (gI (g_E Γ), 10, .inl (fun _ => 0))), (q1, .inl (gI (g_E Γ), 10, .inl (fun _ => 0))), (q, .inr (10, [.int 0, .int 0, .int 0, .int 0, .int 0, .int 0, .int 50, .int 50, .ref q1, .ref q2, .ref q3, .ref q4, .null, .null, .null, .null, .null, .null, .null]))] ++ ws) rfl ?_
  refine g_aload_n K dX10_init_48 rfl 0 rfl ?_
  refine g_bipush (v := 10) K dX10_init_49 (by decide) ?_
  refine g_newaI (N' := 10) K u_156 (by decide) (by decide) (Nat.le_of_ble_eq_true rfl) hRm ⟨Nat.le_of_ble_eq_true rfl, Nat.le_of_ble_eq_true rfl⟩ dX10_init_51 (fun q5 => ?_)
  refine g_putF (T := TX10) (ref := "ChiefGrades$World") K hin_X10 tyX10_ok nmX10 5 rfl rfl 12 (by decide) u_189 rfl rfl hmn rfl rfl rfl rfl (Nat.le_of_ble_eq_true rfl) dX10_init_53 (ws' := [(q5, .inl (gI (g_E Γ), 10, .inl (fun _ => 0))), (q4, .inl (gI (g_E Γ), 10, .inl (fun _ => 0))), (q3, .inl (gI (g_E Γ), 10, .inl (fun _ => 0))), (q2, .inl (gI (g_E Γ), 10, .inl (fun _ => 0))), (q1, .inl (gI (g_E Γ), 10, .inl (fun _ => 0))), (q, .inr (10, [.int 0, .int 0, .int 0, .int 0, .int 0, .int 0, .int 50, .int 50, .ref q1, .ref q2, .ref q3, .ref q4, .ref q5, .null, .null, .null, .null, .null, .null]))] ++ ws) rfl ?_
  refine g_aload_n K dX10_init_56 rfl 0 rfl ?_
  refine g_iconst (v := 4) K dX10_init_57 (by decide) ?_
  refine g_newq (N' := 4) K u_103 hao (by decide) (by decide) (Nat.le_of_ble_eq_true rfl) hRm ⟨Nat.le_of_ble_eq_true rfl, Nat.le_of_ble_eq_true rfl⟩ dX10_init_58 (fun q6 => ?_)
  refine g_putF (T := TX10) (ref := "ChiefGrades$World") K hin_X10 tyX10_ok nmX10 6 rfl rfl 13 (by decide) u_191 rfl rfl hmn rfl rfl rfl rfl (Nat.le_of_ble_eq_true rfl) dX10_init_61 (ws' := [(q6, .inl (gO (g_E Γ), 4, .inr (.inr (.inr (.inr (fun _ => none)))))), (q5, .inl (gI (g_E Γ), 10, .inl (fun _ => 0))), (q4, .inl (gI (g_E Γ), 10, .inl (fun _ => 0))), (q3, .inl (gI (g_E Γ), 10, .inl (fun _ => 0))), (q2, .inl (gI (g_E Γ), 10, .inl (fun _ => 0))), (q1, .inl (gI (g_E Γ), 10, .inl (fun _ => 0))), (q, .inr (10, [.int 0, .int 0, .int 0, .int 0, .int 0, .int 0, .int 50, .int 50, .ref q1, .ref q2, .ref q3, .ref q4, .ref q5, .ref q6, .null, .null, .null, .null, .null]))] ++ ws) rfl ?_
  refine g_aload_n K dX10_init_64 rfl 0 rfl ?_
  refine g_bipush (v := 20) K dX10_init_65 (by decide) ?_
  refine g_newaI (N' := 20) K u_156 (by decide) (by decide) (Nat.le_of_ble_eq_true rfl) hRm ⟨Nat.le_of_ble_eq_true rfl, Nat.le_of_ble_eq_true rfl⟩ dX10_init_67 (fun q7 => ?_)
  refine g_putF (T := TX10) (ref := "ChiefGrades$World") K hin_X10 tyX10_ok nmX10 7 rfl rfl 14 (by decide) u_193 rfl rfl hmn rfl rfl rfl rfl (Nat.le_of_ble_eq_true rfl) dX10_init_69 (ws' := [(q7, .inl (gI (g_E Γ), 20, .inl (fun _ => 0))), (q6, .inl (gO (g_E Γ), 4, .inr (.inr (.inr (.inr (fun _ => none)))))), (q5, .inl (gI (g_E Γ), 10, .inl (fun _ => 0))), (q4, .inl (gI (g_E Γ), 10, .inl (fun _ => 0))), (q3, .inl (gI (g_E Γ), 10, .inl (fun _ => 0))), (q2, .inl (gI (g_E Γ), 10, .inl (fun _ => 0))), (q1, .inl (gI (g_E Γ), 10, .inl (fun _ => 0))), (q, .inr (10, [.int 0, .int 0, .int 0, .int 0, .int 0, .int 0, .int 50, .int 50, .ref q1, .ref q2, .ref q3, .ref q4, .ref q5, .ref q6, .ref q7, .null, .null, .null, .null]))] ++ ws) rfl ?_
  refine g_aload_n K dX10_init_72 rfl 0 rfl ?_
  refine g_bipush (v := 20) K dX10_init_73 (by decide) ?_
  refine g_newaI (N' := 20) K u_156 (by decide) (by decide) (Nat.le_of_ble_eq_true rfl) hRm ⟨Nat.le_of_ble_eq_true rfl, Nat.le_of_ble_eq_true rfl⟩ dX10_init_75 (fun q8 => ?_)
  refine g_putF (T := TX10) (ref := "ChiefGrades$World") K hin_X10 tyX10_ok nmX10 8 rfl rfl 15 (by decide) u_195 rfl rfl hmn rfl rfl rfl rfl (Nat.le_of_ble_eq_true rfl) dX10_init_77 (ws' := [(q8, .inl (gI (g_E Γ), 20, .inl (fun _ => 0))), (q7, .inl (gI (g_E Γ), 20, .inl (fun _ => 0))), (q6, .inl (gO (g_E Γ), 4, .inr (.inr (.inr (.inr (fun _ => none)))))), (q5, .inl (gI (g_E Γ), 10, .inl (fun _ => 0))), (q4, .inl (gI (g_E Γ), 10, .inl (fun _ => 0))), (q3, .inl (gI (g_E Γ), 10, .inl (fun _ => 0))), (q2, .inl (gI (g_E Γ), 10, .inl (fun _ => 0))), (q1, .inl (gI (g_E Γ), 10, .inl (fun _ => 0))), (q, .inr (10, [.int 0, .int 0, .int 0, .int 0, .int 0, .int 0, .int 50, .int 50, .ref q1, .ref q2, .ref q3, .ref q4, .ref q5, .ref q6, .ref q7, .ref q8, .null, .null, .null]))] ++ ws) rfl ?_
  refine g_aload_n K dX10_init_80 rfl 0 rfl ?_
  refine g_bipush (v := 20) K dX10_init_81 (by decide) ?_
  refine g_newaI (N' := 20) K u_156 (by decide) (by decide) (Nat.le_of_ble_eq_true rfl) hRm ⟨Nat.le_of_ble_eq_true rfl, Nat.le_of_ble_eq_true rfl⟩ dX10_init_83 (fun q9 => ?_)
  refine g_putF (T := TX10) (ref := "ChiefGrades$World") K hin_X10 tyX10_ok nmX10 9 rfl rfl 16 (by decide) u_197 rfl rfl hmn rfl rfl rfl rfl (Nat.le_of_ble_eq_true rfl) dX10_init_85 (ws' := [(q9, .inl (gI (g_E Γ), 20, .inl (fun _ => 0))), (q8, .inl (gI (g_E Γ), 20, .inl (fun _ => 0))), (q7, .inl (gI (g_E Γ), 20, .inl (fun _ => 0))), (q6, .inl (gO (g_E Γ), 4, .inr (.inr (.inr (.inr (fun _ => none)))))), (q5, .inl (gI (g_E Γ), 10, .inl (fun _ => 0))), (q4, .inl (gI (g_E Γ), 10, .inl (fun _ => 0))), (q3, .inl (gI (g_E Γ), 10, .inl (fun _ => 0))), (q2, .inl (gI (g_E Γ), 10, .inl (fun _ => 0))), (q1, .inl (gI (g_E Γ), 10, .inl (fun _ => 0))), (q, .inr (10, [.int 0, .int 0, .int 0, .int 0, .int 0, .int 0, .int 50, .int 50, .ref q1, .ref q2, .ref q3, .ref q4, .ref q5, .ref q6, .ref q7, .ref q8, .ref q9, .null, .null]))] ++ ws) rfl ?_
  refine g_aload_n K dX10_init_88 rfl 0 rfl ?_
  refine g_bipush (v := 100) K dX10_init_89 (by decide) ?_
  refine g_newaC (N' := 100) K u_157 (by decide) (by decide) (Nat.le_of_ble_eq_true rfl) hRm ⟨Nat.le_of_ble_eq_true rfl, Nat.le_of_ble_eq_true rfl⟩ dX10_init_91 (fun q10 => ?_)
  refine g_putF (T := TX10) (ref := "ChiefGrades$World") K hin_X10 tyX10_ok nmX10 10 rfl rfl 17 (by decide) u_199 rfl rfl hmn rfl rfl rfl rfl (Nat.le_of_ble_eq_true rfl) dX10_init_93 (ws' := [(q10, .inl (gCh (g_E Γ), 100, .inl (fun _ => 0))), (q9, .inl (gI (g_E Γ), 20, .inl (fun _ => 0))), (q8, .inl (gI (g_E Γ), 20, .inl (fun _ => 0))), (q7, .inl (gI (g_E Γ), 20, .inl (fun _ => 0))), (q6, .inl (gO (g_E Γ), 4, .inr (.inr (.inr (.inr (fun _ => none)))))), (q5, .inl (gI (g_E Γ), 10, .inl (fun _ => 0))), (q4, .inl (gI (g_E Γ), 10, .inl (fun _ => 0))), (q3, .inl (gI (g_E Γ), 10, .inl (fun _ => 0))), (q2, .inl (gI (g_E Γ), 10, .inl (fun _ => 0))), (q1, .inl (gI (g_E Γ), 10, .inl (fun _ => 0))), (q, .inr (10, [.int 0, .int 0, .int 0, .int 0, .int 0, .int 0, .int 50, .int 50, .ref q1, .ref q2, .ref q3, .ref q4, .ref q5, .ref q6, .ref q7, .ref q8, .ref q9, .ref q10, .null]))] ++ ws) rfl ?_
  refine g_aload_n K dX10_init_96 rfl 0 rfl ?_
  refine g_new (T := TX2) (ty0 := tyX2) (ci := 2) K hin_X2 tyX2_ok u_105 u_106 u_70 rfl dfX2 hRm ⟨Nat.le_of_ble_eq_true rfl, Nat.le_of_ble_eq_true rfl⟩ dX10_init_97 (fun q11 => ?_)
  refine g_dup K dX10_init_100 rfl ?_
  refine g_iconst (v := 0) K dX10_init_101 (by decide) ?_
  refine g_newaC (N' := 0) K u_157 (by decide) (by decide) (Nat.le_of_ble_eq_true rfl) hRm ⟨Nat.le_of_ble_eq_true rfl, Nat.le_of_ble_eq_true rfl⟩ dX10_init_102 (fun q12 => ?_)
  refine g_iconst (v := 0) K dX10_init_104 (by decide) ?_
  refine g_perm [(q12, .inl (gCh (g_E Γ), 0, .inl (fun _ => 0))), (q11, .inr (2, [.int 0, .int 0, .int 0, .null, .int 0, .int 0, .int 0, .null, .null, .null, .int 0])), (q10, .inl (gCh (g_E Γ), 100, .inl (fun _ => 0))), (q9, .inl (gI (g_E Γ), 20, .inl (fun _ => 0))), (q8, .inl (gI (g_E Γ), 20, .inl (fun _ => 0))), (q7, .inl (gI (g_E Γ), 20, .inl (fun _ => 0))), (q6, .inl (gO (g_E Γ), 4, .inr (.inr (.inr (.inr (fun _ => none)))))), (q5, .inl (gI (g_E Γ), 10, .inl (fun _ => 0))), (q4, .inl (gI (g_E Γ), 10, .inl (fun _ => 0))), (q3, .inl (gI (g_E Γ), 10, .inl (fun _ => 0))), (q2, .inl (gI (g_E Γ), 10, .inl (fun _ => 0))), (q1, .inl (gI (g_E Γ), 10, .inl (fun _ => 0))), (q, .inr (10, [.int 0, .int 0, .int 0, .int 0, .int 0, .int 0, .int 50, .int 50, .ref q1, .ref q2, .ref q3, .ref q4, .ref q5, .ref q6, .ref q7, .ref q8, .ref q9, .ref q10, .null]))] [(q11, .inr (2, [.int 0, .int 0, .int 0, .null, .int 0, .int 0, .int 0, .null, .null, .null, .int 0])), (q12, .inl (gCh (g_E Γ), 0, .inl (fun _ => 0))), (q10, .inl (gCh (g_E Γ), 100, .inl (fun _ => 0))), (q9, .inl (gI (g_E Γ), 20, .inl (fun _ => 0))), (q8, .inl (gI (g_E Γ), 20, .inl (fun _ => 0))), (q7, .inl (gI (g_E Γ), 20, .inl (fun _ => 0))), (q6, .inl (gO (g_E Γ), 4, .inr (.inr (.inr (.inr (fun _ => none)))))), (q5, .inl (gI (g_E Γ), 10, .inl (fun _ => 0))), (q4, .inl (gI (g_E Γ), 10, .inl (fun _ => 0))), (q3, .inl (gI (g_E Γ), 10, .inl (fun _ => 0))), (q2, .inl (gI (g_E Γ), 10, .inl (fun _ => 0))), (q1, .inl (gI (g_E Γ), 10, .inl (fun _ => 0))), (q, .inr (10, [.int 0, .int 0, .int 0, .int 0, .int 0, .int 0, .int 50, .int 50, .ref q1, .ref q2, .ref q3, .ref q4, .ref q5, .ref q6, .ref q7, .ref q8, .ref q9, .ref q10, .null]))] [1, 0, 2, 3, 4, 5, 6, 7, 8, 9, 10, 11, 12] (by decide) rfl ?_
  refine g_callIv (As := [.ref q12, .int 0]) (bytes := cX2_init) (maxL := 3) K (ctX2_init (ws := [(q12, .inl (gCh (g_E Γ), 0, .inl (fun _ => 0))), (q10, .inl (gCh (g_E Γ), 100, .inl (fun _ => 0))), (q9, .inl (gI (g_E Γ), 20, .inl (fun _ => 0))), (q8, .inl (gI (g_E Γ), 20, .inl (fun _ => 0))), (q7, .inl (gI (g_E Γ), 20, .inl (fun _ => 0))), (q6, .inl (gO (g_E Γ), 4, .inr (.inr (.inr (.inr (fun _ => none)))))), (q5, .inl (gI (g_E Γ), 10, .inl (fun _ => 0))), (q4, .inl (gI (g_E Γ), 10, .inl (fun _ => 0))), (q3, .inl (gI (g_E Γ), 10, .inl (fun _ => 0))), (q2, .inl (gI (g_E Γ), 10, .inl (fun _ => 0))), (q1, .inl (gI (g_E Γ), 10, .inl (fun _ => 0))), (q, .inr (10, [.int 0, .int 0, .int 0, .int 0, .int 0, .int 0, .int 50, .int 50, .ref q1, .ref q2, .ref q3, .ref q4, .ref q5, .ref q6, .ref q7, .ref q8, .ref q9, .ref q10, .null]))] ++ ws) q11 q12 0 0 0 0 rfl (by decide) (by decide)) (gu_c u_109) rfl u_70 u_107 u_108 rfl qi_X2_init hRm rfl rfl rfl ⟨Nat.le_of_ble_eq_true rfl, Nat.le_of_ble_eq_true rfl⟩ (Nat.le_of_ble_eq_true rfl) ⟨Nat.le_of_ble_eq_true rfl, Nat.le_of_ble_eq_true rfl⟩ dX10_init_105 (fun w hw => ?_)
  obtain ⟨st, le, mo, rfl⟩ := hw
  refine g_ws (ws' := [(mo, .inl (gI (g_E Γ), 0, .inl (fun _ => 0))), (le, .inl (gI (g_E Γ), 0, .inl (fun _ => 0))), (st, .inl (gI (g_E Γ), 0, .inl (fun _ => 0))), (q11, .inr (2, [.int 10, .int 0, .int 10, .ref q12, .int (nI 0), .int 0, .int 0, .ref st, .ref le, .ref mo, .int 0])), (q12, .inl (gCh (g_E Γ), 0, .inl (fun _ => 0))), (q10, .inl (gCh (g_E Γ), 100, .inl (fun _ => 0))), (q9, .inl (gI (g_E Γ), 20, .inl (fun _ => 0))), (q8, .inl (gI (g_E Γ), 20, .inl (fun _ => 0))), (q7, .inl (gI (g_E Γ), 20, .inl (fun _ => 0))), (q6, .inl (gO (g_E Γ), 4, .inr (.inr (.inr (.inr (fun _ => none)))))), (q5, .inl (gI (g_E Γ), 10, .inl (fun _ => 0))), (q4, .inl (gI (g_E Γ), 10, .inl (fun _ => 0))), (q3, .inl (gI (g_E Γ), 10, .inl (fun _ => 0))), (q2, .inl (gI (g_E Γ), 10, .inl (fun _ => 0))), (q1, .inl (gI (g_E Γ), 10, .inl (fun _ => 0))), (q, .inr (10, [.int 0, .int 0, .int 0, .int 0, .int 0, .int 0, .int 50, .int 50, .ref q1, .ref q2, .ref q3, .ref q4, .ref q5, .ref q6, .ref q7, .ref q8, .ref q9, .ref q10, .null]))] ++ ws) rfl ?_
  refine g_put (T := TX10) (ref := "ChiefGrades$World") K hin_X10 tyX10_ok nmX10 15 rfl rfl 18 (by decide) u_201 rfl rfl rfl rfl rfl (Nat.le_of_ble_eq_true rfl) dX10_init_108 (ws' := [(mo, .inl (gI (g_E Γ), 0, .inl (fun _ => 0))), (le, .inl (gI (g_E Γ), 0, .inl (fun _ => 0))), (st, .inl (gI (g_E Γ), 0, .inl (fun _ => 0))), (q11, .inr (2, [.int 10, .int 0, .int 10, .ref q12, .int (nI 0), .int 0, .int 0, .ref st, .ref le, .ref mo, .int 0])), (q12, .inl (gCh (g_E Γ), 0, .inl (fun _ => 0))), (q10, .inl (gCh (g_E Γ), 100, .inl (fun _ => 0))), (q9, .inl (gI (g_E Γ), 20, .inl (fun _ => 0))), (q8, .inl (gI (g_E Γ), 20, .inl (fun _ => 0))), (q7, .inl (gI (g_E Γ), 20, .inl (fun _ => 0))), (q6, .inl (gO (g_E Γ), 4, .inr (.inr (.inr (.inr (fun _ => none)))))), (q5, .inl (gI (g_E Γ), 10, .inl (fun _ => 0))), (q4, .inl (gI (g_E Γ), 10, .inl (fun _ => 0))), (q3, .inl (gI (g_E Γ), 10, .inl (fun _ => 0))), (q2, .inl (gI (g_E Γ), 10, .inl (fun _ => 0))), (q1, .inl (gI (g_E Γ), 10, .inl (fun _ => 0))), (q, .inr (10, [.int 0, .int 0, .int 0, .int 0, .int 0, .int 0, .int 50, .int 50, .ref q1, .ref q2, .ref q3, .ref q4, .ref q5, .ref q6, .ref q7, .ref q8, .ref q9, .ref q10, .ref q11]))] ++ ws) rfl ?_
  refine g_perm [(mo, .inl (gI (g_E Γ), 0, .inl (fun _ => 0))), (le, .inl (gI (g_E Γ), 0, .inl (fun _ => 0))), (st, .inl (gI (g_E Γ), 0, .inl (fun _ => 0))), (q11, .inr (2, [.int 10, .int 0, .int 10, .ref q12, .int (nI 0), .int 0, .int 0, .ref st, .ref le, .ref mo, .int 0])), (q12, .inl (gCh (g_E Γ), 0, .inl (fun _ => 0))), (q10, .inl (gCh (g_E Γ), 100, .inl (fun _ => 0))), (q9, .inl (gI (g_E Γ), 20, .inl (fun _ => 0))), (q8, .inl (gI (g_E Γ), 20, .inl (fun _ => 0))), (q7, .inl (gI (g_E Γ), 20, .inl (fun _ => 0))), (q6, .inl (gO (g_E Γ), 4, .inr (.inr (.inr (.inr (fun _ => none)))))), (q5, .inl (gI (g_E Γ), 10, .inl (fun _ => 0))), (q4, .inl (gI (g_E Γ), 10, .inl (fun _ => 0))), (q3, .inl (gI (g_E Γ), 10, .inl (fun _ => 0))), (q2, .inl (gI (g_E Γ), 10, .inl (fun _ => 0))), (q1, .inl (gI (g_E Γ), 10, .inl (fun _ => 0))), (q, .inr (10, [.int 0, .int 0, .int 0, .int 0, .int 0, .int 0, .int 50, .int 50, .ref q1, .ref q2, .ref q3, .ref q4, .ref q5, .ref q6, .ref q7, .ref q8, .ref q9, .ref q10, .ref q11]))] [(q, .inr (10, [.int 0, .int 0, .int 0, .int 0, .int 0, .int 0, .int 50, .int 50, .ref q1, .ref q2, .ref q3, .ref q4, .ref q5, .ref q6, .ref q7, .ref q8, .ref q9, .ref q10, .ref q11])), (q1, .inl (gI (g_E Γ), 10, .inl (fun _ => 0))), (q2, .inl (gI (g_E Γ), 10, .inl (fun _ => 0))), (q3, .inl (gI (g_E Γ), 10, .inl (fun _ => 0))), (q4, .inl (gI (g_E Γ), 10, .inl (fun _ => 0))), (q5, .inl (gI (g_E Γ), 10, .inl (fun _ => 0))), (q6, .inl (gO (g_E Γ), 4, .inr (.inr (.inr (.inr (fun _ => none)))))), (q7, .inl (gI (g_E Γ), 20, .inl (fun _ => 0))), (q8, .inl (gI (g_E Γ), 20, .inl (fun _ => 0))), (q9, .inl (gI (g_E Γ), 20, .inl (fun _ => 0))), (q10, .inl (gCh (g_E Γ), 100, .inl (fun _ => 0))), (q12, .inl (gCh (g_E Γ), 0, .inl (fun _ => 0))), (q11, .inr (2, [.int 10, .int 0, .int 10, .ref q12, .int (nI 0), .int 0, .int 0, .ref st, .ref le, .ref mo, .int 0])), (st, .inl (gI (g_E Γ), 0, .inl (fun _ => 0))), (le, .inl (gI (g_E Γ), 0, .inl (fun _ => 0))), (mo, .inl (gI (g_E Γ), 0, .inl (fun _ => 0)))] [15, 14, 13, 12, 11, 10, 9, 8, 7, 6, 5, 4, 3, 2, 1, 0] (by decide) rfl ?_
  exact hret _ _ _ dX10_init_111 ⟨q1, q2, q3, q4, q5, q6, q7, q8, q9, q10, q12, q11, st, le, mo, rfl⟩

def gInit (E : gE) (q g0 g1 g2 g3 g5 pl : Nat) : va_W := [(q, .inr (1, [.ref g0, .ref g1, .ref g2, .ref g3, .int 0, .ref g5, .ref pl])), (g0, .inl (gI E, 10, .inl (fun _ => 0))), (g1, .inl (gI E, 10, .inl (fun _ => 0))), (g2, .inl (gI E, 10, .inl (fun _ => 0))), (g3, .inl (gI E, 10, .inl (fun _ => 0))), (g5, .inl (gI E, 6, .inl (fun _ => 0))), (pl, .inr (0, [.int 0, .int 0, .int 0, .int 0]))]
set_option maxHeartbeats 4000000 in
set_option maxRecDepth 100000 in
theorem ctX1_init {E : gE} {ws : va_W} (q : Nat) : gMv yX1_init (.code yX1_init cX1_init 1 none :: gU) ({ frames := 2, cells := 6, slots := 50, locals := 60 } : Room) 6 50 E [.ref q] ([(q, .inr (1, [.null, .null, .null, .null, .int 0, .null, .null]))] ++ ws) (fun w => ∃ g0 g1 g2 g3 g5 pl, w = gInit E q g0 g1 g2 g3 g5 pl ++ ws) := by
  refine g_met_v (by decide +kernel) (Nat.le_of_ble_eq_true rfl) (fun Γ K hn hE hRm hmn hret => ?_)
  subst hE
  refine g_sub (L' := [(0, .ref q)]) [0] rfl ?_
  refine g_aload_n K dX1_init_0 rfl 0 rfl ?_
  refine g_objInit K u_248 u_95 u_96 hRm ⟨Nat.le_of_ble_eq_true rfl, Nat.le_of_ble_eq_true rfl⟩ dX1_init_1 ?_
  refine g_aload_n K dX1_init_4 rfl 0 rfl ?_
  refine g_bipush (v := 10) K dX1_init_5 (by decide) ?_
  refine g_newaI (N' := 10) K u_156 (by decide) (by decide) (Nat.le_of_ble_eq_true rfl) hRm ⟨Nat.le_of_ble_eq_true rfl, Nat.le_of_ble_eq_true rfl⟩ dX1_init_7 (fun q1 => ?_)
  refine g_putF (T := TX1) (ref := "ChiefGrades$Grader") K hin_X1 tyX1_ok nmX1 1 rfl rfl 0 (by decide) u_286 rfl rfl hmn rfl rfl rfl rfl (Nat.le_of_ble_eq_true rfl) dX1_init_9 (ws' := [(q1, .inl (gI (g_E Γ), 10, .inl (fun _ => 0))), (q, .inr (1, [.ref q1, .null, .null, .null, .int 0, .null, .null]))] ++ ws) rfl ?_
  refine g_aload_n K dX1_init_12 rfl 0 rfl ?_
  refine g_bipush (v := 10) K dX1_init_13 (by decide) ?_
  refine g_newaI (N' := 10) K u_156 (by decide) (by decide) (Nat.le_of_ble_eq_true rfl) hRm ⟨Nat.le_of_ble_eq_true rfl, Nat.le_of_ble_eq_true rfl⟩ dX1_init_15 (fun q2 => ?_)
  refine g_putF (T := TX1) (ref := "ChiefGrades$Grader") K hin_X1 tyX1_ok nmX1 2 rfl rfl 1 (by decide) u_288 rfl rfl hmn rfl rfl rfl rfl (Nat.le_of_ble_eq_true rfl) dX1_init_17 (ws' := [(q2, .inl (gI (g_E Γ), 10, .inl (fun _ => 0))), (q1, .inl (gI (g_E Γ), 10, .inl (fun _ => 0))), (q, .inr (1, [.ref q1, .ref q2, .null, .null, .int 0, .null, .null]))] ++ ws) rfl ?_
  refine g_aload_n K dX1_init_20 rfl 0 rfl ?_
  refine g_bipush (v := 10) K dX1_init_21 (by decide) ?_
  refine g_newaI (N' := 10) K u_156 (by decide) (by decide) (Nat.le_of_ble_eq_true rfl) hRm ⟨Nat.le_of_ble_eq_true rfl, Nat.le_of_ble_eq_true rfl⟩ dX1_init_23 (fun q3 => ?_)
  refine g_putF (T := TX1) (ref := "ChiefGrades$Grader") K hin_X1 tyX1_ok nmX1 3 rfl rfl 2 (by decide) u_289 rfl rfl hmn rfl rfl rfl rfl (Nat.le_of_ble_eq_true rfl) dX1_init_25 (ws' := [(q3, .inl (gI (g_E Γ), 10, .inl (fun _ => 0))), (q2, .inl (gI (g_E Γ), 10, .inl (fun _ => 0))), (q1, .inl (gI (g_E Γ), 10, .inl (fun _ => 0))), (q, .inr (1, [.ref q1, .ref q2, .ref q3, .null, .int 0, .null, .null]))] ++ ws) rfl ?_
  refine g_aload_n K dX1_init_28 rfl 0 rfl ?_
  refine g_bipush (v := 10) K dX1_init_29 (by decide) ?_
  refine g_newaI (N' := 10) K u_156 (by decide) (by decide) (Nat.le_of_ble_eq_true rfl) hRm ⟨Nat.le_of_ble_eq_true rfl, Nat.le_of_ble_eq_true rfl⟩ dX1_init_31 (fun q4 => ?_)
  refine g_putF (T := TX1) (ref := "ChiefGrades$Grader") K hin_X1 tyX1_ok nmX1 4 rfl rfl 3 (by decide) u_290 rfl rfl hmn rfl rfl rfl rfl (Nat.le_of_ble_eq_true rfl) dX1_init_33 (ws' := [(q4, .inl (gI (g_E Γ), 10, .inl (fun _ => 0))), (q3, .inl (gI (g_E Γ), 10, .inl (fun _ => 0))), (q2, .inl (gI (g_E Γ), 10, .inl (fun _ => 0))), (q1, .inl (gI (g_E Γ), 10, .inl (fun _ => 0))), (q, .inr (1, [.ref q1, .ref q2, .ref q3, .ref q4, .int 0, .null, .null]))] ++ ws) rfl ?_
  refine g_aload_n K dX1_init_36 rfl 0 rfl ?_
  refine g_bipush (v := 6) K dX1_init_37 (by decide) ?_
  refine g_newaI (N' := 6) K u_156 (by decide) (by decide) (Nat.le_of_ble_eq_true rfl) hRm ⟨Nat.le_of_ble_eq_true rfl, Nat.le_of_ble_eq_true rfl⟩ dX1_init_39 (fun q5 => ?_)
  refine g_putF (T := TX1) (ref := "ChiefGrades$Grader") K hin_X1 tyX1_ok nmX1 5 rfl rfl 5 (by decide) u_292 rfl rfl hmn rfl rfl rfl rfl (Nat.le_of_ble_eq_true rfl) dX1_init_41 (ws' := [(q5, .inl (gI (g_E Γ), 6, .inl (fun _ => 0))), (q4, .inl (gI (g_E Γ), 10, .inl (fun _ => 0))), (q3, .inl (gI (g_E Γ), 10, .inl (fun _ => 0))), (q2, .inl (gI (g_E Γ), 10, .inl (fun _ => 0))), (q1, .inl (gI (g_E Γ), 10, .inl (fun _ => 0))), (q, .inr (1, [.ref q1, .ref q2, .ref q3, .ref q4, .int 0, .ref q5, .null]))] ++ ws) rfl ?_
  refine g_aload_n K dX1_init_44 rfl 0 rfl ?_
  refine g_new (T := TX0) (ty0 := tyX0) (ci := 0) K hin_X0 tyX0_ok u_249 u_250 u_73 rfl dfX0 hRm ⟨Nat.le_of_ble_eq_true rfl, Nat.le_of_ble_eq_true rfl⟩ dX1_init_45 (fun q6 => ?_)
  refine g_dup K dX1_init_48 rfl ?_
  refine g_iconst (v := 0) K dX1_init_49 (by decide) ?_
  refine g_iconst (v := 0) K dX1_init_50 (by decide) ?_
  refine g_iconst (v := 0) K dX1_init_51 (by decide) ?_
  refine g_iconst (v := 0) K dX1_init_52 (by decide) ?_
  refine g_callIv (As := [.int 0, .int 0, .int 0, .int 0]) (bytes := cX0_init) (maxL := 5) K (ctX0_init_k0 (ws := [(q5, .inl (gI (g_E Γ), 6, .inl (fun _ => 0))), (q4, .inl (gI (g_E Γ), 10, .inl (fun _ => 0))), (q3, .inl (gI (g_E Γ), 10, .inl (fun _ => 0))), (q2, .inl (gI (g_E Γ), 10, .inl (fun _ => 0))), (q1, .inl (gI (g_E Γ), 10, .inl (fun _ => 0))), (q, .inr (1, [.ref q1, .ref q2, .ref q3, .ref q4, .int 0, .ref q5, .null]))] ++ ws) q6 0 0 0 0) (gu_c u_253) rfl u_73 u_251 u_252 rfl qi_X0_init hRm rfl rfl rfl ⟨Nat.le_of_ble_eq_true rfl, Nat.le_of_ble_eq_true rfl⟩ (Nat.le_of_ble_eq_true rfl) ⟨Nat.le_of_ble_eq_true rfl, Nat.le_of_ble_eq_true rfl⟩ dX1_init_53 (fun w hw => ?_)
  subst hw
  refine g_ws (ws' := [(q6, .inr (0, [.int 0, .int 0, .int 0, .int 0])), (q5, .inl (gI (g_E Γ), 6, .inl (fun _ => 0))), (q4, .inl (gI (g_E Γ), 10, .inl (fun _ => 0))), (q3, .inl (gI (g_E Γ), 10, .inl (fun _ => 0))), (q2, .inl (gI (g_E Γ), 10, .inl (fun _ => 0))), (q1, .inl (gI (g_E Γ), 10, .inl (fun _ => 0))), (q, .inr (1, [.ref q1, .ref q2, .ref q3, .ref q4, .int 0, .ref q5, .null]))] ++ ws) rfl ?_
  refine g_putF (T := TX1) (ref := "ChiefGrades$Grader") K hin_X1 tyX1_ok nmX1 6 rfl rfl 6 (by decide) u_293 rfl rfl hmn rfl rfl rfl rfl (Nat.le_of_ble_eq_true rfl) dX1_init_56 (ws' := [(q6, .inr (0, [.int 0, .int 0, .int 0, .int 0])), (q5, .inl (gI (g_E Γ), 6, .inl (fun _ => 0))), (q4, .inl (gI (g_E Γ), 10, .inl (fun _ => 0))), (q3, .inl (gI (g_E Γ), 10, .inl (fun _ => 0))), (q2, .inl (gI (g_E Γ), 10, .inl (fun _ => 0))), (q1, .inl (gI (g_E Γ), 10, .inl (fun _ => 0))), (q, .inr (1, [.ref q1, .ref q2, .ref q3, .ref q4, .int 0, .ref q5, .ref q6]))] ++ ws) rfl ?_
  refine g_perm [(q6, .inr (0, [.int 0, .int 0, .int 0, .int 0])), (q5, .inl (gI (g_E Γ), 6, .inl (fun _ => 0))), (q4, .inl (gI (g_E Γ), 10, .inl (fun _ => 0))), (q3, .inl (gI (g_E Γ), 10, .inl (fun _ => 0))), (q2, .inl (gI (g_E Γ), 10, .inl (fun _ => 0))), (q1, .inl (gI (g_E Γ), 10, .inl (fun _ => 0))), (q, .inr (1, [.ref q1, .ref q2, .ref q3, .ref q4, .int 0, .ref q5, .ref q6]))] [(q, .inr (1, [.ref q1, .ref q2, .ref q3, .ref q4, .int 0, .ref q5, .ref q6])), (q1, .inl (gI (g_E Γ), 10, .inl (fun _ => 0))), (q2, .inl (gI (g_E Γ), 10, .inl (fun _ => 0))), (q3, .inl (gI (g_E Γ), 10, .inl (fun _ => 0))), (q4, .inl (gI (g_E Γ), 10, .inl (fun _ => 0))), (q5, .inl (gI (g_E Γ), 6, .inl (fun _ => 0))), (q6, .inr (0, [.int 0, .int 0, .int 0, .int 0]))] [6, 5, 4, 3, 2, 1, 0] (by decide) rfl ?_
  exact hret _ _ _ dX1_init_59 ⟨q1, q2, q3, q4, q5, q6, rfl⟩

def tInit (E : gE) (q a : Nat) : va_W := [(q, .inr (8, [.ref a, .int 0])), (a, .inl (gI E, 20, .inl (fun _ => 0)))]
set_option maxHeartbeats 4000000 in
set_option maxRecDepth 100000 in
theorem ctX8_init {E : gE} {ws : va_W} (q : Nat) : gMv yX8_init (.code yX8_init cX8_init 1 none :: gU) ({ frames := 1, cells := 1, slots := 20, locals := 12 } : Room) 1 20 E [.ref q] ([(q, .inr (8, [.null, .int 0]))] ++ ws) (fun w => ∃ a, w = tInit E q a ++ ws) := by
  refine g_met_v (by decide +kernel) (Nat.le_of_ble_eq_true rfl) (fun Γ K hn hE hRm hmn hret => ?_)
  subst hE
  refine g_sub (L' := [(0, .ref q)]) [0] rfl ?_
  refine g_aload_n K dX8_init_0 rfl 0 rfl ?_
  refine g_objInit K u_314 u_95 u_96 hRm ⟨Nat.le_of_ble_eq_true rfl, Nat.le_of_ble_eq_true rfl⟩ dX8_init_1 ?_
  refine g_aload_n K dX8_init_4 rfl 0 rfl ?_
  refine g_bipush (v := 20) K dX8_init_5 (by decide) ?_
  refine g_newaI (N' := 20) K u_156 (by decide) (by decide) (Nat.le_of_ble_eq_true rfl) hRm ⟨Nat.le_of_ble_eq_true rfl, Nat.le_of_ble_eq_true rfl⟩ dX8_init_7 (fun q1 => ?_)
  refine g_putF (T := TX8) (ref := "ChiefGrades$Trace") K hin_X8 tyX8_ok nmX8 1 rfl rfl 0 (by decide) u_315 rfl rfl hmn rfl rfl rfl rfl (Nat.le_of_ble_eq_true rfl) dX8_init_9 (ws' := [(q1, .inl (gI (g_E Γ), 20, .inl (fun _ => 0))), (q, .inr (8, [.ref q1, .int 0]))] ++ ws) rfl ?_
  refine g_perm [(q1, .inl (gI (g_E Γ), 20, .inl (fun _ => 0))), (q, .inr (8, [.ref q1, .int 0]))] [(q, .inr (8, [.ref q1, .int 0])), (q1, .inl (gI (g_E Γ), 20, .inl (fun _ => 0)))] [1, 0] (by decide) rfl ?_
  exact hret _ _ _ dX8_init_12 ⟨q1, rfl⟩

theorem g_rot {Γ : gT} {cl sl pc : Nat} {L : List (Nat × Value)} {st : List Value} {a b c : va_W} (k : gGO Γ cl sl pc L st (a ++ (b ++ c))) : gGO Γ cl sl pc L st (b ++ (a ++ c)) := by
  rw [← List.append_assoc]
  refine fun H locs ls hP hD hS h => ?_
  have e : a ++ (b ++ c) = (a ++ b) ++ c := (List.append_assoc _ _ _).symm
  rw [e] at k
  refine k H locs ls (va_P.app (va_P_c (va_P_l hP)) (va_P_r hP)) (va_D.app (va_D_c (va_D_l hD)) (va_D_r hD) (fun i j p q hp hq => ?_)) hS h
  obtain ⟨i2, hi2⟩ : ∃ i2, (b ++ a)[i2]? = some p := List.mem_iff_getElem?.mp (by have := List.mem_iff_getElem?.mpr ⟨i, hp⟩; exact List.mem_append.mpr ((List.mem_append.mp this).symm))
  exact va_D_x hD i2 j p q hi2 hq

def xInit (E : gE) (q b0 w0_a8 w0_a9 w0_a10 w0_a11 w0_a12 w0_a13 w0_a14 w0_a15 w0_a16 w0_a17 w0_tx w0_h w0_st w0_le w0_mo b1 w1_a8 w1_a9 w1_a10 w1_a11 w1_a12 w1_a13 w1_a14 w1_a15 w1_a16 w1_a17 w1_tx w1_h w1_st w1_le w1_mo b2 w2_a8 w2_a9 w2_a10 w2_a11 w2_a12 w2_a13 w2_a14 w2_a15 w2_a16 w2_a17 w2_tx w2_h w2_st w2_le w2_mo b3 g_g0 g_g1 g_g2 g_g3 g_g5 g_pl b4 t_a bf : Nat) (ws : va_W) : va_W := ([(bf, .inl (gI E, 10, .inl (fun _ => 0))), (q, .inr (11, [.ref b0, .ref b1, .ref b2, .ref b3, .ref b4, .ref bf, .int 0]))] ++ (tInit E b4 t_a ++ (gInit E b3 g_g0 g_g1 g_g2 g_g3 g_g5 g_pl ++ (wInit E b2 w2_a8 w2_a9 w2_a10 w2_a11 w2_a12 w2_a13 w2_a14 w2_a15 w2_a16 w2_a17 w2_tx w2_h w2_st w2_le w2_mo ++ (wInit E b1 w1_a8 w1_a9 w1_a10 w1_a11 w1_a12 w1_a13 w1_a14 w1_a15 w1_a16 w1_a17 w1_tx w1_h w1_st w1_le w1_mo ++ (wInit E b0 w0_a8 w0_a9 w0_a10 w0_a11 w0_a12 w0_a13 w0_a14 w0_a15 w0_a16 w0_a17 w0_tx w0_h w0_st w0_le w0_mo ++ ws))))))
set_option maxHeartbeats 4000000 in
set_option maxRecDepth 100000 in
theorem ctX11_init {E : gE} {ws : va_W} (q : Nat) : gMvA yX11_init (.code yX11_init cX11_init 1 none :: gU) ({ frames := 5, cells := 58, slots := 1721, locals := 200 } : Room) 58 1721 E [.ref q] ([(q, .inr (11, [.null, .null, .null, .null, .null, .null, .int 0]))] ++ ws) (fun w => ∃ b0 w0_a8 w0_a9 w0_a10 w0_a11 w0_a12 w0_a13 w0_a14 w0_a15 w0_a16 w0_a17 w0_tx w0_h w0_st w0_le w0_mo b1 w1_a8 w1_a9 w1_a10 w1_a11 w1_a12 w1_a13 w1_a14 w1_a15 w1_a16 w1_a17 w1_tx w1_h w1_st w1_le w1_mo b2 w2_a8 w2_a9 w2_a10 w2_a11 w2_a12 w2_a13 w2_a14 w2_a15 w2_a16 w2_a17 w2_tx w2_h w2_st w2_le w2_mo b3 g_g0 g_g1 g_g2 g_g3 g_g5 g_pl b4 t_a bf, w = xInit E q b0 w0_a8 w0_a9 w0_a10 w0_a11 w0_a12 w0_a13 w0_a14 w0_a15 w0_a16 w0_a17 w0_tx w0_h w0_st w0_le w0_mo b1 w1_a8 w1_a9 w1_a10 w1_a11 w1_a12 w1_a13 w1_a14 w1_a15 w1_a16 w1_a17 w1_tx w1_h w1_st w1_le w1_mo b2 w2_a8 w2_a9 w2_a10 w2_a11 w2_a12 w2_a13 w2_a14 w2_a15 w2_a16 w2_a17 w2_tx w2_h w2_st w2_le w2_mo b3 g_g0 g_g1 g_g2 g_g3 g_g5 g_pl b4 t_a bf ws) := by
  refine g_met_vA (by decide +kernel) (Nat.le_of_ble_eq_true rfl) (fun Γ K hn hE hRm hmn hao hret => ?_)
  subst hE
  refine g_sub (L' := [(0, .ref q)]) [0] rfl ?_
  refine g_aload_n K dX11_init_0 rfl 0 rfl ?_
  refine g_objInit K u_94 u_95 u_96 hRm ⟨Nat.le_of_ble_eq_true rfl, Nat.le_of_ble_eq_true rfl⟩ dX11_init_1 ?_
  refine g_aload_n K dX11_init_4 rfl 0 rfl ?_
  refine g_new (T := TX10) (ty0 := tyX10) (ci := 10) K hin_X10 tyX10_ok u_97 u_98 u_69 rfl dfX10 hRm ⟨Nat.le_of_ble_eq_true rfl, Nat.le_of_ble_eq_true rfl⟩ dX11_init_5 (fun q1 => ?_)
  refine g_dup K dX11_init_8 rfl ?_
  refine g_callIvA (As := []) (bytes := cX10_init) (maxL := 1) K (ctX10_init (ws := [(q, .inr (11, [.null, .null, .null, .null, .null, .null, .int 0]))] ++ ws) q1) hao (gu_c u_101) rfl u_69 u_99 u_100 rfl qi_X10_init hRm rfl rfl rfl ⟨Nat.le_of_ble_eq_true rfl, Nat.le_of_ble_eq_true rfl⟩ (Nat.le_of_ble_eq_true rfl) ⟨Nat.le_of_ble_eq_true rfl, Nat.le_of_ble_eq_true rfl⟩ dX11_init_9 (fun w hw => ?_)
  obtain ⟨w0_a8, w0_a9, w0_a10, w0_a11, w0_a12, w0_a13, w0_a14, w0_a15, w0_a16, w0_a17, w0_tx, w0_h, w0_st, w0_le, w0_mo, rfl⟩ := hw
  refine g_rot (a := [(q, .inr (11, [.null, .null, .null, .null, .null, .null, .int 0]))]) (b := wInit (g_E Γ) q1 w0_a8 w0_a9 w0_a10 w0_a11 w0_a12 w0_a13 w0_a14 w0_a15 w0_a16 w0_a17 w0_tx w0_h w0_st w0_le w0_mo) (c := ws) ?_
  refine g_putF (T := TX11) (ref := "ChiefGrades") K hin_X11 tyX11_ok nmX11 0 rfl rfl 0 (by decide) u_324 rfl rfl hmn rfl rfl rfl rfl (Nat.le_of_ble_eq_true rfl) dX11_init_12 (ws' := [(q, .inr (11, [.ref q1, .null, .null, .null, .null, .null, .int 0]))] ++ (wInit (g_E Γ) q1 w0_a8 w0_a9 w0_a10 w0_a11 w0_a12 w0_a13 w0_a14 w0_a15 w0_a16 w0_a17 w0_tx w0_h w0_st w0_le w0_mo ++ ws)) rfl ?_
  refine g_aload_n K dX11_init_15 rfl 0 rfl ?_
  refine g_new (T := TX10) (ty0 := tyX10) (ci := 10) K hin_X10 tyX10_ok u_97 u_98 u_69 rfl dfX10 hRm ⟨Nat.le_of_ble_eq_true rfl, Nat.le_of_ble_eq_true rfl⟩ dX11_init_16 (fun q2 => ?_)
  refine g_dup K dX11_init_19 rfl ?_
  refine g_callIvA (As := []) (bytes := cX10_init) (maxL := 1) K (ctX10_init (ws := [(q, .inr (11, [.ref q1, .null, .null, .null, .null, .null, .int 0]))] ++ (wInit (g_E Γ) q1 w0_a8 w0_a9 w0_a10 w0_a11 w0_a12 w0_a13 w0_a14 w0_a15 w0_a16 w0_a17 w0_tx w0_h w0_st w0_le w0_mo ++ ws)) q2) hao (gu_c u_101) rfl u_69 u_99 u_100 rfl qi_X10_init hRm rfl rfl rfl ⟨Nat.le_of_ble_eq_true rfl, Nat.le_of_ble_eq_true rfl⟩ (Nat.le_of_ble_eq_true rfl) ⟨Nat.le_of_ble_eq_true rfl, Nat.le_of_ble_eq_true rfl⟩ dX11_init_20 (fun w hw => ?_)
  obtain ⟨w1_a8, w1_a9, w1_a10, w1_a11, w1_a12, w1_a13, w1_a14, w1_a15, w1_a16, w1_a17, w1_tx, w1_h, w1_st, w1_le, w1_mo, rfl⟩ := hw
  refine g_rot (a := [(q, .inr (11, [.ref q1, .null, .null, .null, .null, .null, .int 0]))]) (b := wInit (g_E Γ) q2 w1_a8 w1_a9 w1_a10 w1_a11 w1_a12 w1_a13 w1_a14 w1_a15 w1_a16 w1_a17 w1_tx w1_h w1_st w1_le w1_mo) (c := (wInit (g_E Γ) q1 w0_a8 w0_a9 w0_a10 w0_a11 w0_a12 w0_a13 w0_a14 w0_a15 w0_a16 w0_a17 w0_tx w0_h w0_st w0_le w0_mo ++ ws)) ?_
  refine g_putF (T := TX11) (ref := "ChiefGrades") K hin_X11 tyX11_ok nmX11 0 rfl rfl 1 (by decide) u_325 rfl rfl hmn rfl rfl rfl rfl (Nat.le_of_ble_eq_true rfl) dX11_init_23 (ws' := [(q, .inr (11, [.ref q1, .ref q2, .null, .null, .null, .null, .int 0]))] ++ (wInit (g_E Γ) q2 w1_a8 w1_a9 w1_a10 w1_a11 w1_a12 w1_a13 w1_a14 w1_a15 w1_a16 w1_a17 w1_tx w1_h w1_st w1_le w1_mo ++ (wInit (g_E Γ) q1 w0_a8 w0_a9 w0_a10 w0_a11 w0_a12 w0_a13 w0_a14 w0_a15 w0_a16 w0_a17 w0_tx w0_h w0_st w0_le w0_mo ++ ws))) rfl ?_
  refine g_aload_n K dX11_init_26 rfl 0 rfl ?_
  refine g_new (T := TX10) (ty0 := tyX10) (ci := 10) K hin_X10 tyX10_ok u_97 u_98 u_69 rfl dfX10 hRm ⟨Nat.le_of_ble_eq_true rfl, Nat.le_of_ble_eq_true rfl⟩ dX11_init_27 (fun q3 => ?_)
  refine g_dup K dX11_init_30 rfl ?_
  refine g_callIvA (As := []) (bytes := cX10_init) (maxL := 1) K (ctX10_init (ws := [(q, .inr (11, [.ref q1, .ref q2, .null, .null, .null, .null, .int 0]))] ++ (wInit (g_E Γ) q2 w1_a8 w1_a9 w1_a10 w1_a11 w1_a12 w1_a13 w1_a14 w1_a15 w1_a16 w1_a17 w1_tx w1_h w1_st w1_le w1_mo ++ (wInit (g_E Γ) q1 w0_a8 w0_a9 w0_a10 w0_a11 w0_a12 w0_a13 w0_a14 w0_a15 w0_a16 w0_a17 w0_tx w0_h w0_st w0_le w0_mo ++ ws))) q3) hao (gu_c u_101) rfl u_69 u_99 u_100 rfl qi_X10_init hRm rfl rfl rfl ⟨Nat.le_of_ble_eq_true rfl, Nat.le_of_ble_eq_true rfl⟩ (Nat.le_of_ble_eq_true rfl) ⟨Nat.le_of_ble_eq_true rfl, Nat.le_of_ble_eq_true rfl⟩ dX11_init_31 (fun w hw => ?_)
  obtain ⟨w2_a8, w2_a9, w2_a10, w2_a11, w2_a12, w2_a13, w2_a14, w2_a15, w2_a16, w2_a17, w2_tx, w2_h, w2_st, w2_le, w2_mo, rfl⟩ := hw
  refine g_rot (a := [(q, .inr (11, [.ref q1, .ref q2, .null, .null, .null, .null, .int 0]))]) (b := wInit (g_E Γ) q3 w2_a8 w2_a9 w2_a10 w2_a11 w2_a12 w2_a13 w2_a14 w2_a15 w2_a16 w2_a17 w2_tx w2_h w2_st w2_le w2_mo) (c := (wInit (g_E Γ) q2 w1_a8 w1_a9 w1_a10 w1_a11 w1_a12 w1_a13 w1_a14 w1_a15 w1_a16 w1_a17 w1_tx w1_h w1_st w1_le w1_mo ++ (wInit (g_E Γ) q1 w0_a8 w0_a9 w0_a10 w0_a11 w0_a12 w0_a13 w0_a14 w0_a15 w0_a16 w0_a17 w0_tx w0_h w0_st w0_le w0_mo ++ ws))) ?_
  refine g_putF (T := TX11) (ref := "ChiefGrades") K hin_X11 tyX11_ok nmX11 0 rfl rfl 2 (by decide) u_326 rfl rfl hmn rfl rfl rfl rfl (Nat.le_of_ble_eq_true rfl) dX11_init_34 (ws' := [(q, .inr (11, [.ref q1, .ref q2, .ref q3, .null, .null, .null, .int 0]))] ++ (wInit (g_E Γ) q3 w2_a8 w2_a9 w2_a10 w2_a11 w2_a12 w2_a13 w2_a14 w2_a15 w2_a16 w2_a17 w2_tx w2_h w2_st w2_le w2_mo ++ (wInit (g_E Γ) q2 w1_a8 w1_a9 w1_a10 w1_a11 w1_a12 w1_a13 w1_a14 w1_a15 w1_a16 w1_a17 w1_tx w1_h w1_st w1_le w1_mo ++ (wInit (g_E Γ) q1 w0_a8 w0_a9 w0_a10 w0_a11 w0_a12 w0_a13 w0_a14 w0_a15 w0_a16 w0_a17 w0_tx w0_h w0_st w0_le w0_mo ++ ws)))) rfl ?_
  refine g_aload_n K dX11_init_37 rfl 0 rfl ?_
  refine g_new (T := TX1) (ty0 := tyX1) (ci := 1) K hin_X1 tyX1_ok u_243 u_244 u_72 rfl dfX1 hRm ⟨Nat.le_of_ble_eq_true rfl, Nat.le_of_ble_eq_true rfl⟩ dX11_init_38 (fun q4 => ?_)
  refine g_dup K dX11_init_41 rfl ?_
  refine g_callIv (As := []) (bytes := cX1_init) (maxL := 1) K (ctX1_init (ws := [(q, .inr (11, [.ref q1, .ref q2, .ref q3, .null, .null, .null, .int 0]))] ++ (wInit (g_E Γ) q3 w2_a8 w2_a9 w2_a10 w2_a11 w2_a12 w2_a13 w2_a14 w2_a15 w2_a16 w2_a17 w2_tx w2_h w2_st w2_le w2_mo ++ (wInit (g_E Γ) q2 w1_a8 w1_a9 w1_a10 w1_a11 w1_a12 w1_a13 w1_a14 w1_a15 w1_a16 w1_a17 w1_tx w1_h w1_st w1_le w1_mo ++ (wInit (g_E Γ) q1 w0_a8 w0_a9 w0_a10 w0_a11 w0_a12 w0_a13 w0_a14 w0_a15 w0_a16 w0_a17 w0_tx w0_h w0_st w0_le w0_mo ++ ws)))) q4) (gu_c u_247) rfl u_72 u_245 u_246 rfl qi_X1_init hRm rfl rfl rfl ⟨Nat.le_of_ble_eq_true rfl, Nat.le_of_ble_eq_true rfl⟩ (Nat.le_of_ble_eq_true rfl) ⟨Nat.le_of_ble_eq_true rfl, Nat.le_of_ble_eq_true rfl⟩ dX11_init_42 (fun w hw => ?_)
  obtain ⟨g_g0, g_g1, g_g2, g_g3, g_g5, g_pl, rfl⟩ := hw
  refine g_rot (a := [(q, .inr (11, [.ref q1, .ref q2, .ref q3, .null, .null, .null, .int 0]))]) (b := gInit (g_E Γ) q4 g_g0 g_g1 g_g2 g_g3 g_g5 g_pl) (c := (wInit (g_E Γ) q3 w2_a8 w2_a9 w2_a10 w2_a11 w2_a12 w2_a13 w2_a14 w2_a15 w2_a16 w2_a17 w2_tx w2_h w2_st w2_le w2_mo ++ (wInit (g_E Γ) q2 w1_a8 w1_a9 w1_a10 w1_a11 w1_a12 w1_a13 w1_a14 w1_a15 w1_a16 w1_a17 w1_tx w1_h w1_st w1_le w1_mo ++ (wInit (g_E Γ) q1 w0_a8 w0_a9 w0_a10 w0_a11 w0_a12 w0_a13 w0_a14 w0_a15 w0_a16 w0_a17 w0_tx w0_h w0_st w0_le w0_mo ++ ws)))) ?_
  refine g_putF (T := TX11) (ref := "ChiefGrades") K hin_X11 tyX11_ok nmX11 0 rfl rfl 3 (by decide) u_327 rfl rfl hmn rfl rfl rfl rfl (Nat.le_of_ble_eq_true rfl) dX11_init_45 (ws' := [(q, .inr (11, [.ref q1, .ref q2, .ref q3, .ref q4, .null, .null, .int 0]))] ++ (gInit (g_E Γ) q4 g_g0 g_g1 g_g2 g_g3 g_g5 g_pl ++ (wInit (g_E Γ) q3 w2_a8 w2_a9 w2_a10 w2_a11 w2_a12 w2_a13 w2_a14 w2_a15 w2_a16 w2_a17 w2_tx w2_h w2_st w2_le w2_mo ++ (wInit (g_E Γ) q2 w1_a8 w1_a9 w1_a10 w1_a11 w1_a12 w1_a13 w1_a14 w1_a15 w1_a16 w1_a17 w1_tx w1_h w1_st w1_le w1_mo ++ (wInit (g_E Γ) q1 w0_a8 w0_a9 w0_a10 w0_a11 w0_a12 w0_a13 w0_a14 w0_a15 w0_a16 w0_a17 w0_tx w0_h w0_st w0_le w0_mo ++ ws))))) rfl ?_
  refine g_aload_n K dX11_init_48 rfl 0 rfl ?_
  refine g_new (T := TX8) (ty0 := tyX8) (ci := 8) K hin_X8 tyX8_ok u_309 u_310 u_74 rfl dfX8 hRm ⟨Nat.le_of_ble_eq_true rfl, Nat.le_of_ble_eq_true rfl⟩ dX11_init_49 (fun q5 => ?_)
  refine g_dup K dX11_init_52 rfl ?_
  refine g_callIv (As := []) (bytes := cX8_init) (maxL := 1) K (ctX8_init (ws := [(q, .inr (11, [.ref q1, .ref q2, .ref q3, .ref q4, .null, .null, .int 0]))] ++ (gInit (g_E Γ) q4 g_g0 g_g1 g_g2 g_g3 g_g5 g_pl ++ (wInit (g_E Γ) q3 w2_a8 w2_a9 w2_a10 w2_a11 w2_a12 w2_a13 w2_a14 w2_a15 w2_a16 w2_a17 w2_tx w2_h w2_st w2_le w2_mo ++ (wInit (g_E Γ) q2 w1_a8 w1_a9 w1_a10 w1_a11 w1_a12 w1_a13 w1_a14 w1_a15 w1_a16 w1_a17 w1_tx w1_h w1_st w1_le w1_mo ++ (wInit (g_E Γ) q1 w0_a8 w0_a9 w0_a10 w0_a11 w0_a12 w0_a13 w0_a14 w0_a15 w0_a16 w0_a17 w0_tx w0_h w0_st w0_le w0_mo ++ ws))))) q5) (gu_c u_313) rfl u_74 u_311 u_312 rfl qi_X8_init hRm rfl rfl rfl ⟨Nat.le_of_ble_eq_true rfl, Nat.le_of_ble_eq_true rfl⟩ (Nat.le_of_ble_eq_true rfl) ⟨Nat.le_of_ble_eq_true rfl, Nat.le_of_ble_eq_true rfl⟩ dX11_init_53 (fun w hw => ?_)
  obtain ⟨t_a, rfl⟩ := hw
  refine g_rot (a := [(q, .inr (11, [.ref q1, .ref q2, .ref q3, .ref q4, .null, .null, .int 0]))]) (b := tInit (g_E Γ) q5 t_a) (c := (gInit (g_E Γ) q4 g_g0 g_g1 g_g2 g_g3 g_g5 g_pl ++ (wInit (g_E Γ) q3 w2_a8 w2_a9 w2_a10 w2_a11 w2_a12 w2_a13 w2_a14 w2_a15 w2_a16 w2_a17 w2_tx w2_h w2_st w2_le w2_mo ++ (wInit (g_E Γ) q2 w1_a8 w1_a9 w1_a10 w1_a11 w1_a12 w1_a13 w1_a14 w1_a15 w1_a16 w1_a17 w1_tx w1_h w1_st w1_le w1_mo ++ (wInit (g_E Γ) q1 w0_a8 w0_a9 w0_a10 w0_a11 w0_a12 w0_a13 w0_a14 w0_a15 w0_a16 w0_a17 w0_tx w0_h w0_st w0_le w0_mo ++ ws))))) ?_
  refine g_putF (T := TX11) (ref := "ChiefGrades") K hin_X11 tyX11_ok nmX11 0 rfl rfl 4 (by decide) u_328 rfl rfl hmn rfl rfl rfl rfl (Nat.le_of_ble_eq_true rfl) dX11_init_56 (ws' := [(q, .inr (11, [.ref q1, .ref q2, .ref q3, .ref q4, .ref q5, .null, .int 0]))] ++ (tInit (g_E Γ) q5 t_a ++ (gInit (g_E Γ) q4 g_g0 g_g1 g_g2 g_g3 g_g5 g_pl ++ (wInit (g_E Γ) q3 w2_a8 w2_a9 w2_a10 w2_a11 w2_a12 w2_a13 w2_a14 w2_a15 w2_a16 w2_a17 w2_tx w2_h w2_st w2_le w2_mo ++ (wInit (g_E Γ) q2 w1_a8 w1_a9 w1_a10 w1_a11 w1_a12 w1_a13 w1_a14 w1_a15 w1_a16 w1_a17 w1_tx w1_h w1_st w1_le w1_mo ++ (wInit (g_E Γ) q1 w0_a8 w0_a9 w0_a10 w0_a11 w0_a12 w0_a13 w0_a14 w0_a15 w0_a16 w0_a17 w0_tx w0_h w0_st w0_le w0_mo ++ ws)))))) rfl ?_
  refine g_aload_n K dX11_init_59 rfl 0 rfl ?_
  refine g_bipush (v := 10) K dX11_init_60 (by decide) ?_
  refine g_newaI (N' := 10) K u_156 (by decide) (by decide) (Nat.le_of_ble_eq_true rfl) hRm ⟨Nat.le_of_ble_eq_true rfl, Nat.le_of_ble_eq_true rfl⟩ dX11_init_62 (fun q6 => ?_)
  refine g_putF (T := TX11) (ref := "ChiefGrades") K hin_X11 tyX11_ok nmX11 1 rfl rfl 5 (by decide) u_329 rfl rfl hmn rfl rfl rfl rfl (Nat.le_of_ble_eq_true rfl) dX11_init_64 (ws' := [(q6, .inl (gI (g_E Γ), 10, .inl (fun _ => 0))), (q, .inr (11, [.ref q1, .ref q2, .ref q3, .ref q4, .ref q5, .ref q6, .int 0]))] ++ (tInit (g_E Γ) q5 t_a ++ (gInit (g_E Γ) q4 g_g0 g_g1 g_g2 g_g3 g_g5 g_pl ++ (wInit (g_E Γ) q3 w2_a8 w2_a9 w2_a10 w2_a11 w2_a12 w2_a13 w2_a14 w2_a15 w2_a16 w2_a17 w2_tx w2_h w2_st w2_le w2_mo ++ (wInit (g_E Γ) q2 w1_a8 w1_a9 w1_a10 w1_a11 w1_a12 w1_a13 w1_a14 w1_a15 w1_a16 w1_a17 w1_tx w1_h w1_st w1_le w1_mo ++ (wInit (g_E Γ) q1 w0_a8 w0_a9 w0_a10 w0_a11 w0_a12 w0_a13 w0_a14 w0_a15 w0_a16 w0_a17 w0_tx w0_h w0_st w0_le w0_mo ++ ws)))))) rfl ?_
  exact hret _ _ _ dX11_init_67 ⟨q1, w0_a8, w0_a9, w0_a10, w0_a11, w0_a12, w0_a13, w0_a14, w0_a15, w0_a16, w0_a17, w0_tx, w0_h, w0_st, w0_le, w0_mo, q2, w1_a8, w1_a9, w1_a10, w1_a11, w1_a12, w1_a13, w1_a14, w1_a15, w1_a16, w1_a17, w1_tx, w1_h, w1_st, w1_le, w1_mo, q3, w2_a8, w2_a9, w2_a10, w2_a11, w2_a12, w2_a13, w2_a14, w2_a15, w2_a16, w2_a17, w2_tx, w2_h, w2_st, w2_le, w2_mo, q4, g_g0, g_g1, g_g2, g_g3, g_g5, g_pl, q5, t_a, q6, rfl⟩

def mInit (E : gE) (q a1 a2 a3 a10 a11 a12 a13 a14 a15 a16 a17 : Nat) : va_W := [(q, .inr (12, [.int 0, .ref a1, .ref a2, .ref a3, .int 0, .int 0, .int 0, .int 0, .int 0, .int 0, .ref a10, .ref a11, .ref a12, .ref a13, .ref a14, .ref a15, .ref a16, .ref a17, .int 0, .int 0, .int 0, .int 0])), (a1, .inl (gI E, 952, .inl (upd (upd (upd (fun _ => 0) 56 ((-1))) 57 (50)) 58 (50)))), (a2, .inl (gI E, 952, .inl (fun _ => 0))), (a3, .inl (gI E, 51, .inl (fun _ => 0))), (a10, .inl (gI E, 6, .inl (fun _ => 0))), (a11, .inl (gZ E, 64, .inl (fun _ => 0))), (a12, .inl (gI E, 10, .inl (fun _ => 0))), (a13, .inl (gI E, 10, .inl (fun _ => 0))), (a14, .inl (gI E, 10, .inl (fun _ => 0))), (a15, .inl (gZ E, 10, .inl (fun _ => 0))), (a16, .inl (gI E, 4, .inl (fun _ => 0))), (a17, .inl (gI E, 20, .inl (fun _ => 0)))]
set_option maxHeartbeats 4000000 in
set_option maxRecDepth 100000 in
theorem ctX12_init {E : gE} {ws : va_W} (q : Nat) : gMv yX12_init (.code yX12_init cX12_init 1 none :: gU) ({ frames := 1, cells := 11, slots := 2089, locals := 12 } : Room) 11 2089 E [.ref q] ([(q, .inr (12, [.int 0, .null, .null, .null, .int 0, .int 0, .int 0, .int 0, .int 0, .int 0, .null, .null, .null, .null, .null, .null, .null, .null, .int 0, .int 0, .int 0, .int 0]))] ++ ws) (fun w => ∃ a1 a2 a3 a10 a11 a12 a13 a14 a15 a16 a17, w = mInit E q a1 a2 a3 a10 a11 a12 a13 a14 a15 a16 a17 ++ ws) := by
  refine g_met_v (by decide +kernel) (Nat.le_of_ble_eq_true rfl) (fun Γ K hn hE hRm hmn hret => ?_)
  subst hE
  refine g_sub (L' := [(0, .ref q)]) [0] rfl ?_
  refine g_aload_n K dX12_init_0 rfl 0 rfl ?_
  refine g_objInit K u_979 u_95 u_96 hRm ⟨Nat.le_of_ble_eq_true rfl, Nat.le_of_ble_eq_true rfl⟩ dX12_init_1 ?_
  refine g_aload_n K dX12_init_4 rfl 0 rfl ?_
  refine g_sipush (v := 952) K dX12_init_5 (by decide) ?_
  refine g_newaI (N' := 952) K u_156 (by decide) (by decide) (Nat.le_of_ble_eq_true rfl) hRm ⟨Nat.le_of_ble_eq_true rfl, Nat.le_of_ble_eq_true rfl⟩ dX12_init_8 (fun q1 => ?_)
  refine g_putF (T := TX12) (ref := "ChiefGradesModel") K hin_X12 tyX12_ok nmX12 1 rfl rfl 1 (by decide) u_980 rfl rfl hmn rfl rfl rfl rfl (Nat.le_of_ble_eq_true rfl) dX12_init_10 (ws' := [(q1, .inl (gI (g_E Γ), 952, .inl (fun _ => 0))), (q, .inr (12, [.int 0, .ref q1, .null, .null, .int 0, .int 0, .int 0, .int 0, .int 0, .int 0, .null, .null, .null, .null, .null, .null, .null, .null, .int 0, .int 0, .int 0, .int 0]))] ++ ws) rfl ?_
  refine g_aload_n K dX12_init_13 rfl 0 rfl ?_
  refine g_sipush (v := 952) K dX12_init_14 (by decide) ?_
  refine g_newaI (N' := 952) K u_156 (by decide) (by decide) (Nat.le_of_ble_eq_true rfl) hRm ⟨Nat.le_of_ble_eq_true rfl, Nat.le_of_ble_eq_true rfl⟩ dX12_init_17 (fun q2 => ?_)
  refine g_putF (T := TX12) (ref := "ChiefGradesModel") K hin_X12 tyX12_ok nmX12 2 rfl rfl 2 (by decide) u_981 rfl rfl hmn rfl rfl rfl rfl (Nat.le_of_ble_eq_true rfl) dX12_init_19 (ws' := [(q2, .inl (gI (g_E Γ), 952, .inl (fun _ => 0))), (q1, .inl (gI (g_E Γ), 952, .inl (fun _ => 0))), (q, .inr (12, [.int 0, .ref q1, .ref q2, .null, .int 0, .int 0, .int 0, .int 0, .int 0, .int 0, .null, .null, .null, .null, .null, .null, .null, .null, .int 0, .int 0, .int 0, .int 0]))] ++ ws) rfl ?_
  refine g_aload_n K dX12_init_22 rfl 0 rfl ?_
  refine g_bipush (v := 51) K dX12_init_23 (by decide) ?_
  refine g_newaI (N' := 51) K u_156 (by decide) (by decide) (Nat.le_of_ble_eq_true rfl) hRm ⟨Nat.le_of_ble_eq_true rfl, Nat.le_of_ble_eq_true rfl⟩ dX12_init_25 (fun q3 => ?_)
  refine g_putF (T := TX12) (ref := "ChiefGradesModel") K hin_X12 tyX12_ok nmX12 3 rfl rfl 3 (by decide) u_982 rfl rfl hmn rfl rfl rfl rfl (Nat.le_of_ble_eq_true rfl) dX12_init_27 (ws' := [(q3, .inl (gI (g_E Γ), 51, .inl (fun _ => 0))), (q2, .inl (gI (g_E Γ), 952, .inl (fun _ => 0))), (q1, .inl (gI (g_E Γ), 952, .inl (fun _ => 0))), (q, .inr (12, [.int 0, .ref q1, .ref q2, .ref q3, .int 0, .int 0, .int 0, .int 0, .int 0, .int 0, .null, .null, .null, .null, .null, .null, .null, .null, .int 0, .int 0, .int 0, .int 0]))] ++ ws) rfl ?_
  refine g_aload_n K dX12_init_30 rfl 0 rfl ?_
  refine g_bipush (v := 6) K dX12_init_31 (by decide) ?_
  refine g_newaI (N' := 6) K u_156 (by decide) (by decide) (Nat.le_of_ble_eq_true rfl) hRm ⟨Nat.le_of_ble_eq_true rfl, Nat.le_of_ble_eq_true rfl⟩ dX12_init_33 (fun q4 => ?_)
  refine g_putF (T := TX12) (ref := "ChiefGradesModel") K hin_X12 tyX12_ok nmX12 4 rfl rfl 10 (by decide) u_989 rfl rfl hmn rfl rfl rfl rfl (Nat.le_of_ble_eq_true rfl) dX12_init_35 (ws' := [(q4, .inl (gI (g_E Γ), 6, .inl (fun _ => 0))), (q3, .inl (gI (g_E Γ), 51, .inl (fun _ => 0))), (q2, .inl (gI (g_E Γ), 952, .inl (fun _ => 0))), (q1, .inl (gI (g_E Γ), 952, .inl (fun _ => 0))), (q, .inr (12, [.int 0, .ref q1, .ref q2, .ref q3, .int 0, .int 0, .int 0, .int 0, .int 0, .int 0, .ref q4, .null, .null, .null, .null, .null, .null, .null, .int 0, .int 0, .int 0, .int 0]))] ++ ws) rfl ?_
  refine g_aload_n K dX12_init_38 rfl 0 rfl ?_
  refine g_bipush (v := 64) K dX12_init_39 (by decide) ?_
  refine g_newaZ (N' := 64) K u_1046 (by decide) (by decide) (Nat.le_of_ble_eq_true rfl) hRm ⟨Nat.le_of_ble_eq_true rfl, Nat.le_of_ble_eq_true rfl⟩ dX12_init_41 (fun q5 => ?_)
  refine g_putF (T := TX12) (ref := "ChiefGradesModel") K hin_X12 tyX12_ok nmX12 5 rfl rfl 11 (by decide) u_990 rfl rfl hmn rfl rfl rfl rfl (Nat.le_of_ble_eq_true rfl) dX12_init_43 (ws' := [(q5, .inl (gZ (g_E Γ), 64, .inl (fun _ => 0))), (q4, .inl (gI (g_E Γ), 6, .inl (fun _ => 0))), (q3, .inl (gI (g_E Γ), 51, .inl (fun _ => 0))), (q2, .inl (gI (g_E Γ), 952, .inl (fun _ => 0))), (q1, .inl (gI (g_E Γ), 952, .inl (fun _ => 0))), (q, .inr (12, [.int 0, .ref q1, .ref q2, .ref q3, .int 0, .int 0, .int 0, .int 0, .int 0, .int 0, .ref q4, .ref q5, .null, .null, .null, .null, .null, .null, .int 0, .int 0, .int 0, .int 0]))] ++ ws) rfl ?_
  refine g_aload_n K dX12_init_46 rfl 0 rfl ?_
  refine g_bipush (v := 10) K dX12_init_47 (by decide) ?_
  refine g_newaI (N' := 10) K u_156 (by decide) (by decide) (Nat.le_of_ble_eq_true rfl) hRm ⟨Nat.le_of_ble_eq_true rfl, Nat.le_of_ble_eq_true rfl⟩ dX12_init_49 (fun q6 => ?_)
  refine g_putF (T := TX12) (ref := "ChiefGradesModel") K hin_X12 tyX12_ok nmX12 6 rfl rfl 12 (by decide) u_991 rfl rfl hmn rfl rfl rfl rfl (Nat.le_of_ble_eq_true rfl) dX12_init_51 (ws' := [(q6, .inl (gI (g_E Γ), 10, .inl (fun _ => 0))), (q5, .inl (gZ (g_E Γ), 64, .inl (fun _ => 0))), (q4, .inl (gI (g_E Γ), 6, .inl (fun _ => 0))), (q3, .inl (gI (g_E Γ), 51, .inl (fun _ => 0))), (q2, .inl (gI (g_E Γ), 952, .inl (fun _ => 0))), (q1, .inl (gI (g_E Γ), 952, .inl (fun _ => 0))), (q, .inr (12, [.int 0, .ref q1, .ref q2, .ref q3, .int 0, .int 0, .int 0, .int 0, .int 0, .int 0, .ref q4, .ref q5, .ref q6, .null, .null, .null, .null, .null, .int 0, .int 0, .int 0, .int 0]))] ++ ws) rfl ?_
  refine g_aload_n K dX12_init_54 rfl 0 rfl ?_
  refine g_bipush (v := 10) K dX12_init_55 (by decide) ?_
  refine g_newaI (N' := 10) K u_156 (by decide) (by decide) (Nat.le_of_ble_eq_true rfl) hRm ⟨Nat.le_of_ble_eq_true rfl, Nat.le_of_ble_eq_true rfl⟩ dX12_init_57 (fun q7 => ?_)
  refine g_putF (T := TX12) (ref := "ChiefGradesModel") K hin_X12 tyX12_ok nmX12 7 rfl rfl 13 (by decide) u_992 rfl rfl hmn rfl rfl rfl rfl (Nat.le_of_ble_eq_true rfl) dX12_init_59 (ws' := [(q7, .inl (gI (g_E Γ), 10, .inl (fun _ => 0))), (q6, .inl (gI (g_E Γ), 10, .inl (fun _ => 0))), (q5, .inl (gZ (g_E Γ), 64, .inl (fun _ => 0))), (q4, .inl (gI (g_E Γ), 6, .inl (fun _ => 0))), (q3, .inl (gI (g_E Γ), 51, .inl (fun _ => 0))), (q2, .inl (gI (g_E Γ), 952, .inl (fun _ => 0))), (q1, .inl (gI (g_E Γ), 952, .inl (fun _ => 0))), (q, .inr (12, [.int 0, .ref q1, .ref q2, .ref q3, .int 0, .int 0, .int 0, .int 0, .int 0, .int 0, .ref q4, .ref q5, .ref q6, .ref q7, .null, .null, .null, .null, .int 0, .int 0, .int 0, .int 0]))] ++ ws) rfl ?_
  refine g_aload_n K dX12_init_62 rfl 0 rfl ?_
  refine g_bipush (v := 10) K dX12_init_63 (by decide) ?_
  refine g_newaI (N' := 10) K u_156 (by decide) (by decide) (Nat.le_of_ble_eq_true rfl) hRm ⟨Nat.le_of_ble_eq_true rfl, Nat.le_of_ble_eq_true rfl⟩ dX12_init_65 (fun q8 => ?_)
  refine g_putF (T := TX12) (ref := "ChiefGradesModel") K hin_X12 tyX12_ok nmX12 8 rfl rfl 14 (by decide) u_993 rfl rfl hmn rfl rfl rfl rfl (Nat.le_of_ble_eq_true rfl) dX12_init_67 (ws' := [(q8, .inl (gI (g_E Γ), 10, .inl (fun _ => 0))), (q7, .inl (gI (g_E Γ), 10, .inl (fun _ => 0))), (q6, .inl (gI (g_E Γ), 10, .inl (fun _ => 0))), (q5, .inl (gZ (g_E Γ), 64, .inl (fun _ => 0))), (q4, .inl (gI (g_E Γ), 6, .inl (fun _ => 0))), (q3, .inl (gI (g_E Γ), 51, .inl (fun _ => 0))), (q2, .inl (gI (g_E Γ), 952, .inl (fun _ => 0))), (q1, .inl (gI (g_E Γ), 952, .inl (fun _ => 0))), (q, .inr (12, [.int 0, .ref q1, .ref q2, .ref q3, .int 0, .int 0, .int 0, .int 0, .int 0, .int 0, .ref q4, .ref q5, .ref q6, .ref q7, .ref q8, .null, .null, .null, .int 0, .int 0, .int 0, .int 0]))] ++ ws) rfl ?_
  refine g_aload_n K dX12_init_70 rfl 0 rfl ?_
  refine g_bipush (v := 10) K dX12_init_71 (by decide) ?_
  refine g_newaZ (N' := 10) K u_1046 (by decide) (by decide) (Nat.le_of_ble_eq_true rfl) hRm ⟨Nat.le_of_ble_eq_true rfl, Nat.le_of_ble_eq_true rfl⟩ dX12_init_73 (fun q9 => ?_)
  refine g_putF (T := TX12) (ref := "ChiefGradesModel") K hin_X12 tyX12_ok nmX12 9 rfl rfl 15 (by decide) u_994 rfl rfl hmn rfl rfl rfl rfl (Nat.le_of_ble_eq_true rfl) dX12_init_75 (ws' := [(q9, .inl (gZ (g_E Γ), 10, .inl (fun _ => 0))), (q8, .inl (gI (g_E Γ), 10, .inl (fun _ => 0))), (q7, .inl (gI (g_E Γ), 10, .inl (fun _ => 0))), (q6, .inl (gI (g_E Γ), 10, .inl (fun _ => 0))), (q5, .inl (gZ (g_E Γ), 64, .inl (fun _ => 0))), (q4, .inl (gI (g_E Γ), 6, .inl (fun _ => 0))), (q3, .inl (gI (g_E Γ), 51, .inl (fun _ => 0))), (q2, .inl (gI (g_E Γ), 952, .inl (fun _ => 0))), (q1, .inl (gI (g_E Γ), 952, .inl (fun _ => 0))), (q, .inr (12, [.int 0, .ref q1, .ref q2, .ref q3, .int 0, .int 0, .int 0, .int 0, .int 0, .int 0, .ref q4, .ref q5, .ref q6, .ref q7, .ref q8, .ref q9, .null, .null, .int 0, .int 0, .int 0, .int 0]))] ++ ws) rfl ?_
  refine g_aload_n K dX12_init_78 rfl 0 rfl ?_
  refine g_iconst (v := 4) K dX12_init_79 (by decide) ?_
  refine g_newaI (N' := 4) K u_156 (by decide) (by decide) (Nat.le_of_ble_eq_true rfl) hRm ⟨Nat.le_of_ble_eq_true rfl, Nat.le_of_ble_eq_true rfl⟩ dX12_init_80 (fun q10 => ?_)
  refine g_putF (T := TX12) (ref := "ChiefGradesModel") K hin_X12 tyX12_ok nmX12 10 rfl rfl 16 (by decide) u_995 rfl rfl hmn rfl rfl rfl rfl (Nat.le_of_ble_eq_true rfl) dX12_init_82 (ws' := [(q10, .inl (gI (g_E Γ), 4, .inl (fun _ => 0))), (q9, .inl (gZ (g_E Γ), 10, .inl (fun _ => 0))), (q8, .inl (gI (g_E Γ), 10, .inl (fun _ => 0))), (q7, .inl (gI (g_E Γ), 10, .inl (fun _ => 0))), (q6, .inl (gI (g_E Γ), 10, .inl (fun _ => 0))), (q5, .inl (gZ (g_E Γ), 64, .inl (fun _ => 0))), (q4, .inl (gI (g_E Γ), 6, .inl (fun _ => 0))), (q3, .inl (gI (g_E Γ), 51, .inl (fun _ => 0))), (q2, .inl (gI (g_E Γ), 952, .inl (fun _ => 0))), (q1, .inl (gI (g_E Γ), 952, .inl (fun _ => 0))), (q, .inr (12, [.int 0, .ref q1, .ref q2, .ref q3, .int 0, .int 0, .int 0, .int 0, .int 0, .int 0, .ref q4, .ref q5, .ref q6, .ref q7, .ref q8, .ref q9, .ref q10, .null, .int 0, .int 0, .int 0, .int 0]))] ++ ws) rfl ?_
  refine g_aload_n K dX12_init_85 rfl 0 rfl ?_
  refine g_bipush (v := 20) K dX12_init_86 (by decide) ?_
  refine g_newaI (N' := 20) K u_156 (by decide) (by decide) (Nat.le_of_ble_eq_true rfl) hRm ⟨Nat.le_of_ble_eq_true rfl, Nat.le_of_ble_eq_true rfl⟩ dX12_init_88 (fun q11 => ?_)
  refine g_putF (T := TX12) (ref := "ChiefGradesModel") K hin_X12 tyX12_ok nmX12 11 rfl rfl 17 (by decide) u_996 rfl rfl hmn rfl rfl rfl rfl (Nat.le_of_ble_eq_true rfl) dX12_init_90 (ws' := [(q11, .inl (gI (g_E Γ), 20, .inl (fun _ => 0))), (q10, .inl (gI (g_E Γ), 4, .inl (fun _ => 0))), (q9, .inl (gZ (g_E Γ), 10, .inl (fun _ => 0))), (q8, .inl (gI (g_E Γ), 10, .inl (fun _ => 0))), (q7, .inl (gI (g_E Γ), 10, .inl (fun _ => 0))), (q6, .inl (gI (g_E Γ), 10, .inl (fun _ => 0))), (q5, .inl (gZ (g_E Γ), 64, .inl (fun _ => 0))), (q4, .inl (gI (g_E Γ), 6, .inl (fun _ => 0))), (q3, .inl (gI (g_E Γ), 51, .inl (fun _ => 0))), (q2, .inl (gI (g_E Γ), 952, .inl (fun _ => 0))), (q1, .inl (gI (g_E Γ), 952, .inl (fun _ => 0))), (q, .inr (12, [.int 0, .ref q1, .ref q2, .ref q3, .int 0, .int 0, .int 0, .int 0, .int 0, .int 0, .ref q4, .ref q5, .ref q6, .ref q7, .ref q8, .ref q9, .ref q10, .ref q11, .int 0, .int 0, .int 0, .int 0]))] ++ ws) rfl ?_
  refine g_aload_n K dX12_init_93 rfl 0 rfl ?_
  refine g_get (T := TX12) (ref := "ChiefGradesModel") K hin_X12 11 rfl rfl 1 (by decide) u_980 (Or.inl rfl) rfl dX12_init_94 ?_
  refine g_bipush (v := 56) K dX12_init_97 (by decide) ?_
  refine g_iconst (v := (-1)) K dX12_init_99 (by decide) ?_
  refine g_iast (ws' := [(q11, .inl (gI (g_E Γ), 20, .inl (fun _ => 0))), (q10, .inl (gI (g_E Γ), 4, .inl (fun _ => 0))), (q9, .inl (gZ (g_E Γ), 10, .inl (fun _ => 0))), (q8, .inl (gI (g_E Γ), 10, .inl (fun _ => 0))), (q7, .inl (gI (g_E Γ), 10, .inl (fun _ => 0))), (q6, .inl (gI (g_E Γ), 10, .inl (fun _ => 0))), (q5, .inl (gZ (g_E Γ), 64, .inl (fun _ => 0))), (q4, .inl (gI (g_E Γ), 6, .inl (fun _ => 0))), (q3, .inl (gI (g_E Γ), 51, .inl (fun _ => 0))), (q2, .inl (gI (g_E Γ), 952, .inl (fun _ => 0))), (q1, .inl (gI (g_E Γ), 952, .inl (upd (fun _ => 0) 56 ((-1))))), (q, .inr (12, [.int 0, .ref q1, .ref q2, .ref q3, .int 0, .int 0, .int 0, .int 0, .int 0, .int 0, .ref q4, .ref q5, .ref q6, .ref q7, .ref q8, .ref q9, .ref q10, .ref q11, .int 0, .int 0, .int 0, .int 0]))] ++ ws) K 10 rfl (by unfold vp_in; decide) dX12_init_100 rfl ?_
  refine g_aload_n K dX12_init_101 rfl 0 rfl ?_
  refine g_get (T := TX12) (ref := "ChiefGradesModel") K hin_X12 11 rfl rfl 1 (by decide) u_980 (Or.inl rfl) rfl dX12_init_102 ?_
  refine g_bipush (v := 57) K dX12_init_105 (by decide) ?_
  refine g_bipush (v := 50) K dX12_init_107 (by decide) ?_
  refine g_iast (ws' := [(q11, .inl (gI (g_E Γ), 20, .inl (fun _ => 0))), (q10, .inl (gI (g_E Γ), 4, .inl (fun _ => 0))), (q9, .inl (gZ (g_E Γ), 10, .inl (fun _ => 0))), (q8, .inl (gI (g_E Γ), 10, .inl (fun _ => 0))), (q7, .inl (gI (g_E Γ), 10, .inl (fun _ => 0))), (q6, .inl (gI (g_E Γ), 10, .inl (fun _ => 0))), (q5, .inl (gZ (g_E Γ), 64, .inl (fun _ => 0))), (q4, .inl (gI (g_E Γ), 6, .inl (fun _ => 0))), (q3, .inl (gI (g_E Γ), 51, .inl (fun _ => 0))), (q2, .inl (gI (g_E Γ), 952, .inl (fun _ => 0))), (q1, .inl (gI (g_E Γ), 952, .inl (upd (upd (fun _ => 0) 56 ((-1))) 57 (50)))), (q, .inr (12, [.int 0, .ref q1, .ref q2, .ref q3, .int 0, .int 0, .int 0, .int 0, .int 0, .int 0, .ref q4, .ref q5, .ref q6, .ref q7, .ref q8, .ref q9, .ref q10, .ref q11, .int 0, .int 0, .int 0, .int 0]))] ++ ws) K 10 rfl (by unfold vp_in; decide) dX12_init_109 rfl ?_
  refine g_aload_n K dX12_init_110 rfl 0 rfl ?_
  refine g_get (T := TX12) (ref := "ChiefGradesModel") K hin_X12 11 rfl rfl 1 (by decide) u_980 (Or.inl rfl) rfl dX12_init_111 ?_
  refine g_bipush (v := 58) K dX12_init_114 (by decide) ?_
  refine g_bipush (v := 50) K dX12_init_116 (by decide) ?_
  refine g_iast (ws' := [(q11, .inl (gI (g_E Γ), 20, .inl (fun _ => 0))), (q10, .inl (gI (g_E Γ), 4, .inl (fun _ => 0))), (q9, .inl (gZ (g_E Γ), 10, .inl (fun _ => 0))), (q8, .inl (gI (g_E Γ), 10, .inl (fun _ => 0))), (q7, .inl (gI (g_E Γ), 10, .inl (fun _ => 0))), (q6, .inl (gI (g_E Γ), 10, .inl (fun _ => 0))), (q5, .inl (gZ (g_E Γ), 64, .inl (fun _ => 0))), (q4, .inl (gI (g_E Γ), 6, .inl (fun _ => 0))), (q3, .inl (gI (g_E Γ), 51, .inl (fun _ => 0))), (q2, .inl (gI (g_E Γ), 952, .inl (fun _ => 0))), (q1, .inl (gI (g_E Γ), 952, .inl (upd (upd (upd (fun _ => 0) 56 ((-1))) 57 (50)) 58 (50)))), (q, .inr (12, [.int 0, .ref q1, .ref q2, .ref q3, .int 0, .int 0, .int 0, .int 0, .int 0, .int 0, .ref q4, .ref q5, .ref q6, .ref q7, .ref q8, .ref q9, .ref q10, .ref q11, .int 0, .int 0, .int 0, .int 0]))] ++ ws) K 10 rfl (by unfold vp_in; decide) dX12_init_118 rfl ?_
  refine g_perm [(q11, .inl (gI (g_E Γ), 20, .inl (fun _ => 0))), (q10, .inl (gI (g_E Γ), 4, .inl (fun _ => 0))), (q9, .inl (gZ (g_E Γ), 10, .inl (fun _ => 0))), (q8, .inl (gI (g_E Γ), 10, .inl (fun _ => 0))), (q7, .inl (gI (g_E Γ), 10, .inl (fun _ => 0))), (q6, .inl (gI (g_E Γ), 10, .inl (fun _ => 0))), (q5, .inl (gZ (g_E Γ), 64, .inl (fun _ => 0))), (q4, .inl (gI (g_E Γ), 6, .inl (fun _ => 0))), (q3, .inl (gI (g_E Γ), 51, .inl (fun _ => 0))), (q2, .inl (gI (g_E Γ), 952, .inl (fun _ => 0))), (q1, .inl (gI (g_E Γ), 952, .inl (upd (upd (upd (fun _ => 0) 56 ((-1))) 57 (50)) 58 (50)))), (q, .inr (12, [.int 0, .ref q1, .ref q2, .ref q3, .int 0, .int 0, .int 0, .int 0, .int 0, .int 0, .ref q4, .ref q5, .ref q6, .ref q7, .ref q8, .ref q9, .ref q10, .ref q11, .int 0, .int 0, .int 0, .int 0]))] [(q, .inr (12, [.int 0, .ref q1, .ref q2, .ref q3, .int 0, .int 0, .int 0, .int 0, .int 0, .int 0, .ref q4, .ref q5, .ref q6, .ref q7, .ref q8, .ref q9, .ref q10, .ref q11, .int 0, .int 0, .int 0, .int 0])), (q1, .inl (gI (g_E Γ), 952, .inl (upd (upd (upd (fun _ => 0) 56 ((-1))) 57 (50)) 58 (50)))), (q2, .inl (gI (g_E Γ), 952, .inl (fun _ => 0))), (q3, .inl (gI (g_E Γ), 51, .inl (fun _ => 0))), (q4, .inl (gI (g_E Γ), 6, .inl (fun _ => 0))), (q5, .inl (gZ (g_E Γ), 64, .inl (fun _ => 0))), (q6, .inl (gI (g_E Γ), 10, .inl (fun _ => 0))), (q7, .inl (gI (g_E Γ), 10, .inl (fun _ => 0))), (q8, .inl (gI (g_E Γ), 10, .inl (fun _ => 0))), (q9, .inl (gZ (g_E Γ), 10, .inl (fun _ => 0))), (q10, .inl (gI (g_E Γ), 4, .inl (fun _ => 0))), (q11, .inl (gI (g_E Γ), 20, .inl (fun _ => 0)))] [11, 10, 9, 8, 7, 6, 5, 4, 3, 2, 1, 0] (by decide) rfl ?_
  exact hret _ _ _ dX12_init_119 ⟨q1, q2, q3, q4, q5, q6, q7, q8, q9, q10, q11, rfl⟩
