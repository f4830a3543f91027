/-! constructors, written by wip/whole/mach/mk.py -/
theorem u_254 : Cond.methodLink RX0 1 objectInit ∈ gU := gu_in (List.mem_of_getElem? (i := 254) (by decide +kernel)) rfl
theorem u_95 : Cond.instanceMethod objectInit ∈ gU := gu_in (List.mem_of_getElem? (i := 95) (by decide +kernel)) rfl
theorem u_96 : Cond.code objectInit ⟨#[0xb1]⟩ 1 none ∈ gU := gu_in (List.mem_of_getElem? (i := 96) (by decide +kernel)) rfl
theorem u_255 : Cond.fieldLink RX0 7 "ChiefGrades$Chief" "kind" "I" ∈ gU := gu_in (List.mem_of_getElem? (i := 255) (by decide +kernel)) rfl
theorem u_273 : Cond.fieldLink RX0 19 "ChiefGrades$Chief" "desk" "I" ∈ gU := gu_in (List.mem_of_getElem? (i := 273) (by decide +kernel)) rfl
theorem u_253 : Cond.code yX0_init cX0_init 5 none ∈ gU := gu_in (List.mem_of_getElem? (i := 253) (by decide +kernel)) rfl
theorem u_529 : Cond.methodLink RX5 1 yX0_init ∈ gU := gu_in (List.mem_of_getElem? (i := 529) (by decide +kernel)) rfl
theorem u_252 : Cond.instanceMethod yX0_init ∈ gU := gu_in (List.mem_of_getElem? (i := 252) (by decide +kernel)) rfl
theorem u_540 : Cond.methodLink RX9 1 yX0_init ∈ gU := gu_in (List.mem_of_getElem? (i := 540) (by decide +kernel)) rfl
theorem u_551 : Cond.methodLink RX4 1 yX0_init ∈ gU := gu_in (List.mem_of_getElem? (i := 551) (by decide +kernel)) rfl
theorem u_528 : Cond.code yX5_init cX5_init 5 none ∈ gU := gu_in (List.mem_of_getElem? (i := 528) (by decide +kernel)) rfl
theorem u_562 : Cond.methodLink RX6 1 yX5_init ∈ gU := gu_in (List.mem_of_getElem? (i := 562) (by decide +kernel)) rfl
theorem u_527 : Cond.instanceMethod yX5_init ∈ gU := gu_in (List.mem_of_getElem? (i := 527) (by decide +kernel)) rfl
theorem u_539 : Cond.code yX9_init cX9_init 5 none ∈ gU := gu_in (List.mem_of_getElem? (i := 539) (by decide +kernel)) rfl
theorem u_573 : Cond.methodLink RX3 1 yX9_init ∈ gU := gu_in (List.mem_of_getElem? (i := 573) (by decide +kernel)) rfl
theorem u_538 : Cond.instanceMethod yX9_init ∈ gU := gu_in (List.mem_of_getElem? (i := 538) (by decide +kernel)) rfl
theorem u_550 : Cond.code yX4_init cX4_init 5 none ∈ gU := gu_in (List.mem_of_getElem? (i := 550) (by decide +kernel)) rfl
theorem u_584 : Cond.methodLink RX7 1 yX4_init ∈ gU := gu_in (List.mem_of_getElem? (i := 584) (by decide +kernel)) rfl
theorem u_549 : Cond.instanceMethod yX4_init ∈ gU := gu_in (List.mem_of_getElem? (i := 549) (by decide +kernel)) rfl
theorem u_590 : Cond.classLink RX0 8 RX0 ∈ gU := gu_in (List.mem_of_getElem? (i := 590) (by decide +kernel)) rfl
theorem u_250 : Cond.instantiable RX0 4 ∈ gU := gu_in (List.mem_of_getElem? (i := 250) (by decide +kernel)) rfl
theorem u_591 : Cond.methodLink RX0 42 yX0_init ∈ gU := gu_in (List.mem_of_getElem? (i := 591) (by decide +kernel)) rfl
theorem u_525 : Cond.instantiable RX5 4 ∈ gU := gu_in (List.mem_of_getElem? (i := 525) (by decide +kernel)) rfl
theorem u_526 : Cond.methodLink RX0 24 yX5_init ∈ gU := gu_in (List.mem_of_getElem? (i := 526) (by decide +kernel)) rfl
theorem u_536 : Cond.instantiable RX9 4 ∈ gU := gu_in (List.mem_of_getElem? (i := 536) (by decide +kernel)) rfl
theorem u_537 : Cond.methodLink RX0 29 yX9_init ∈ gU := gu_in (List.mem_of_getElem? (i := 537) (by decide +kernel)) rfl
theorem u_547 : Cond.instantiable RX4 4 ∈ gU := gu_in (List.mem_of_getElem? (i := 547) (by decide +kernel)) rfl
theorem u_548 : Cond.methodLink RX0 32 yX4_init ∈ gU := gu_in (List.mem_of_getElem? (i := 548) (by decide +kernel)) rfl
theorem u_558 : Cond.instantiable RX6 4 ∈ gU := gu_in (List.mem_of_getElem? (i := 558) (by decide +kernel)) rfl
theorem u_561 : Cond.code yX6_init cX6_init 5 none ∈ gU := gu_in (List.mem_of_getElem? (i := 561) (by decide +kernel)) rfl
theorem u_559 : Cond.methodLink RX0 35 yX6_init ∈ gU := gu_in (List.mem_of_getElem? (i := 559) (by decide +kernel)) rfl
theorem u_560 : Cond.instanceMethod yX6_init ∈ gU := gu_in (List.mem_of_getElem? (i := 560) (by decide +kernel)) rfl
theorem u_569 : Cond.instantiable RX3 4 ∈ gU := gu_in (List.mem_of_getElem? (i := 569) (by decide +kernel)) rfl
theorem u_572 : Cond.code yX3_init cX3_init 5 none ∈ gU := gu_in (List.mem_of_getElem? (i := 572) (by decide +kernel)) rfl
theorem u_570 : Cond.methodLink RX0 38 yX3_init ∈ gU := gu_in (List.mem_of_getElem? (i := 570) (by decide +kernel)) rfl
theorem u_571 : Cond.instanceMethod yX3_init ∈ gU := gu_in (List.mem_of_getElem? (i := 571) (by decide +kernel)) rfl
theorem u_580 : Cond.instantiable RX7 4 ∈ gU := gu_in (List.mem_of_getElem? (i := 580) (by decide +kernel)) rfl
theorem u_583 : Cond.code yX7_init cX7_init 5 none ∈ gU := gu_in (List.mem_of_getElem? (i := 583) (by decide +kernel)) rfl
theorem u_581 : Cond.methodLink RX0 41 yX7_init ∈ gU := gu_in (List.mem_of_getElem? (i := 581) (by decide +kernel)) rfl
theorem u_582 : Cond.instanceMethod yX7_init ∈ gU := gu_in (List.mem_of_getElem? (i := 582) (by decide +kernel)) rfl
theorem dfX0 : ∀ j, j < 4 → defaultValue (tyX0 j) = vp_V [.int 0, .int 0, .int 0, .int 0] j := fun j hj => match j, hj with
  | 0, _ => rfl
  | 1, _ => rfl
  | 2, _ => rfl
  | 3, _ => rfl
  | _ + 4, h => absurd h (Nat.not_lt.mpr (Nat.le_add_left _ _))
theorem dfX5 : ∀ j, j < 4 → defaultValue (tyX5 j) = vp_V [.int 0, .int 0, .int 0, .int 0] j := fun j hj => match j, hj with
  | 0, _ => rfl
  | 1, _ => rfl
  | 2, _ => rfl
  | 3, _ => rfl
  | _ + 4, h => absurd h (Nat.not_lt.mpr (Nat.le_add_left _ _))
theorem dfX9 : ∀ j, j < 4 → defaultValue (tyX9 j) = vp_V [.int 0, .int 0, .int 0, .int 0] j := fun j hj => match j, hj with
  | 0, _ => rfl
  | 1, _ => rfl
  | 2, _ => rfl
  | 3, _ => rfl
  | _ + 4, h => absurd h (Nat.not_lt.mpr (Nat.le_add_left _ _))
theorem dfX4 : ∀ j, j < 4 → defaultValue (tyX4 j) = vp_V [.int 0, .int 0, .int 0, .int 0] j := fun j hj => match j, hj with
  | 0, _ => rfl
  | 1, _ => rfl
  | 2, _ => rfl
  | 3, _ => rfl
  | _ + 4, h => absurd h (Nat.not_lt.mpr (Nat.le_add_left _ _))
theorem dfX6 : ∀ j, j < 4 → defaultValue (tyX6 j) = vp_V [.int 0, .int 0, .int 0, .int 0] j := fun j hj => match j, hj with
  | 0, _ => rfl
  | 1, _ => rfl
  | 2, _ => rfl
  | 3, _ => rfl
  | _ + 4, h => absurd h (Nat.not_lt.mpr (Nat.le_add_left _ _))
theorem dfX3 : ∀ j, j < 4 → defaultValue (tyX3 j) = vp_V [.int 0, .int 0, .int 0, .int 0] j := fun j hj => match j, hj with
  | 0, _ => rfl
  | 1, _ => rfl
  | 2, _ => rfl
  | 3, _ => rfl
  | _ + 4, h => absurd h (Nat.not_lt.mpr (Nat.le_add_left _ _))
theorem dfX7 : ∀ j, j < 4 → defaultValue (tyX7 j) = vp_V [.int 0, .int 0, .int 0, .int 0] j := fun j hj => match j, hj with
  | 0, _ => rfl
  | 1, _ => rfl
  | 2, _ => rfl
  | 3, _ => rfl
  | _ + 4, h => absurd h (Nat.not_lt.mpr (Nat.le_add_left _ _))
theorem qi_X0_init : yX0_init.cls ≠ "java/lang/invoke/MethodHandle" ∧ yX0_init.cls ≠ "java/lang/invoke/VarHandle" ∧ (parseMethodDescriptor yX0_init.desc).map (fun d => d.parameters.length) = some 4 := by decide +kernel
theorem qi_X5_init : yX5_init.cls ≠ "java/lang/invoke/MethodHandle" ∧ yX5_init.cls ≠ "java/lang/invoke/VarHandle" ∧ (parseMethodDescriptor yX5_init.desc).map (fun d => d.parameters.length) = some 4 := by decide +kernel
theorem qi_X9_init : yX9_init.cls ≠ "java/lang/invoke/MethodHandle" ∧ yX9_init.cls ≠ "java/lang/invoke/VarHandle" ∧ (parseMethodDescriptor yX9_init.desc).map (fun d => d.parameters.length) = some 4 := by decide +kernel
theorem qi_X4_init : yX4_init.cls ≠ "java/lang/invoke/MethodHandle" ∧ yX4_init.cls ≠ "java/lang/invoke/VarHandle" ∧ (parseMethodDescriptor yX4_init.desc).map (fun d => d.parameters.length) = some 4 := by decide +kernel
theorem qi_X6_init : yX6_init.cls ≠ "java/lang/invoke/MethodHandle" ∧ yX6_init.cls ≠ "java/lang/invoke/VarHandle" ∧ (parseMethodDescriptor yX6_init.desc).map (fun d => d.parameters.length) = some 4 := by decide +kernel
theorem qi_X3_init : yX3_init.cls ≠ "java/lang/invoke/MethodHandle" ∧ yX3_init.cls ≠ "java/lang/invoke/VarHandle" ∧ (parseMethodDescriptor yX3_init.desc).map (fun d => d.parameters.length) = some 4 := by decide +kernel
theorem qi_X7_init : yX7_init.cls ≠ "java/lang/invoke/MethodHandle" ∧ yX7_init.cls ≠ "java/lang/invoke/VarHandle" ∧ (parseMethodDescriptor yX7_init.desc).map (fun d => d.parameters.length) = some 4 := by decide +kernel
set_option maxHeartbeats 4000000 in
set_option maxRecDepth 100000 in
theorem ctX0_init_k0 {E : gE} {ws : va_W} (q : Nat) (x1 x2 x3 x4 : Int32) : gMv yX0_init (.code yX0_init cX0_init 5 none :: gU) ({ frames := 1, cells := 0, slots := 0, locals := 12 } : Room) 0 0 E [.ref q, .int x1, .int x2, .int x3, .int x4] ([(q, .inr (0, [.int 0, .int 0, .int 0, .int 0]))] ++ ws) (fun w => w = [(q, .inr (0, [.int x1, .int x2, .int x3, .int x4]))] ++ ws) := by
  refine g_met_v (by decide +kernel) (Nat.le_of_ble_eq_true rfl) (fun Γ K hn hE hRm hmn hret => ?_)
  subst hE
  refine g_sub (L' := [(0, .ref q), (1, .int x1), (2, .int x2), (3, .int x3), (4, .int x4)]) [0, 1, 2, 3, 4] rfl ?_
  refine g_aload_n K dX0_init_0 rfl 0 rfl ?_
  refine g_objInit K u_254 u_95 u_96 hRm ⟨Nat.le_of_ble_eq_true rfl, Nat.le_of_ble_eq_true rfl⟩ dX0_init_1 ?_
  refine g_aload_n K dX0_init_4 rfl 0 rfl ?_
  refine g_iload_n K dX0_init_5 rfl 1 rfl ?_
  refine g_putF (T := TX0) (ref := "ChiefGrades$Chief") K hin_X0 tyX0_ok nmX0 0 rfl rfl 0 (by decide) u_255 rfl rfl hmn rfl rfl rfl rfl (Nat.le_of_ble_eq_true rfl) dX0_init_6 (ws' := [(q, .inr (0, [.int x1, .int 0, .int 0, .int 0]))] ++ ws) rfl ?_
  refine g_aload_n K dX0_init_9 rfl 0 rfl ?_
  refine g_iload_n K dX0_init_10 rfl 2 rfl ?_
  refine g_putF (T := TX0) (ref := "ChiefGrades$Chief") K hin_X0 tyX0_ok nmX0 0 rfl rfl 1 (by decide) u_258 rfl rfl hmn rfl rfl rfl rfl (Nat.le_of_ble_eq_true rfl) dX0_init_11 (ws' := [(q, .inr (0, [.int x1, .int x2, .int 0, .int 0]))] ++ ws) rfl ?_
  refine g_aload_n K dX0_init_14 rfl 0 rfl ?_
  refine g_iload_n K dX0_init_15 rfl 3 rfl ?_
  refine g_putF (T := TX0) (ref := "ChiefGrades$Chief") K hin_X0 tyX0_ok nmX0 0 rfl rfl 2 (by decide) u_263 rfl rfl hmn rfl rfl rfl rfl (Nat.le_of_ble_eq_true rfl) dX0_init_16 (ws' := [(q, .inr (0, [.int x1, .int x2, .int x3, .int 0]))] ++ ws) rfl ?_
  refine g_aload_n K dX0_init_19 rfl 0 rfl ?_
  refine g_iload K dX0_init_20 4 rfl ?_
  refine g_putF (T := TX0) (ref := "ChiefGrades$Chief") K hin_X0 tyX0_ok nmX0 0 rfl rfl 3 (by decide) u_273 rfl rfl hmn rfl rfl rfl rfl (Nat.le_of_ble_eq_true rfl) dX0_init_22 (ws' := [(q, .inr (0, [.int x1, .int x2, .int x3, .int x4]))] ++ ws) rfl ?_
  exact hret _ _ _ dX0_init_25 rfl

set_option maxHeartbeats 4000000 in
set_option maxRecDepth 100000 in
theorem ctX0_init_k1 {E : gE} {ws : va_W} (q : Nat) (x1 x2 x3 x4 : Int32) : gMv yX0_init (.code yX0_init cX0_init 5 none :: gU) ({ frames := 1, cells := 0, slots := 0, locals := 12 } : Room) 0 0 E [.ref q, .int x1, .int x2, .int x3, .int x4] ([(q, .inr (5, [.int 0, .int 0, .int 0, .int 0]))] ++ ws) (fun w => w = [(q, .inr (5, [.int x1, .int x2, .int x3, .int x4]))] ++ ws) := by
  refine g_met_v (by decide +kernel) (Nat.le_of_ble_eq_true rfl) (fun Γ K hn hE hRm hmn hret => ?_)
  subst hE
  refine g_sub (L' := [(0, .ref q), (1, .int x1), (2, .int x2), (3, .int x3), (4, .int x4)]) [0, 1, 2, 3, 4] rfl ?_
  refine g_aload_n K dX0_init_0 rfl 0 rfl ?_
  refine g_objInit K u_254 u_95 u_96 hRm ⟨Nat.le_of_ble_eq_true rfl, Nat.le_of_ble_eq_true rfl⟩ dX0_init_1 ?_
  refine g_aload_n K dX0_init_4 rfl 0 rfl ?_
  refine g_iload_n K dX0_init_5 rfl 1 rfl ?_
  refine g_putF (T := TX5) (ref := "ChiefGrades$Chief") K hin_X5 tyX5_ok nmX5 0 rfl rfl 0 (by decide) u_255 rfl rfl hmn rfl rfl rfl rfl (Nat.le_of_ble_eq_true rfl) dX0_init_6 (ws' := [(q, .inr (5, [.int x1, .int 0, .int 0, .int 0]))] ++ ws) rfl ?_
  refine g_aload_n K dX0_init_9 rfl 0 rfl ?_
  refine g_iload_n K dX0_init_10 rfl 2 rfl ?_
  refine g_putF (T := TX5) (ref := "ChiefGrades$Chief") K hin_X5 tyX5_ok nmX5 0 rfl rfl 1 (by decide) u_258 rfl rfl hmn rfl rfl rfl rfl (Nat.le_of_ble_eq_true rfl) dX0_init_11 (ws' := [(q, .inr (5, [.int x1, .int x2, .int 0, .int 0]))] ++ ws) rfl ?_
  refine g_aload_n K dX0_init_14 rfl 0 rfl ?_
  refine g_iload_n K dX0_init_15 rfl 3 rfl ?_
  refine g_putF (T := TX5) (ref := "ChiefGrades$Chief") K hin_X5 tyX5_ok nmX5 0 rfl rfl 2 (by decide) u_263 rfl rfl hmn rfl rfl rfl rfl (Nat.le_of_ble_eq_true rfl) dX0_init_16 (ws' := [(q, .inr (5, [.int x1, .int x2, .int x3, .int 0]))] ++ ws) rfl ?_
  refine g_aload_n K dX0_init_19 rfl 0 rfl ?_
  refine g_iload K dX0_init_20 4 rfl ?_
  refine g_putF (T := TX5) (ref := "ChiefGrades$Chief") K hin_X5 tyX5_ok nmX5 0 rfl rfl 3 (by decide) u_273 rfl rfl hmn rfl rfl rfl rfl (Nat.le_of_ble_eq_true rfl) dX0_init_22 (ws' := [(q, .inr (5, [.int x1, .int x2, .int x3, .int x4]))] ++ ws) rfl ?_
  exact hret _ _ _ dX0_init_25 rfl

set_option maxHeartbeats 4000000 in
set_option maxRecDepth 100000 in
theorem ctX0_init_k2 {E : gE} {ws : va_W} (q : Nat) (x1 x2 x3 x4 : Int32) : gMv yX0_init (.code yX0_init cX0_init 5 none :: gU) ({ frames := 1, cells := 0, slots := 0, locals := 12 } : Room) 0 0 E [.ref q, .int x1, .int x2, .int x3, .int x4] ([(q, .inr (9, [.int 0, .int 0, .int 0, .int 0]))] ++ ws) (fun w => w = [(q, .inr (9, [.int x1, .int x2, .int x3, .int x4]))] ++ ws) := by
  refine g_met_v (by decide +kernel) (Nat.le_of_ble_eq_true rfl) (fun Γ K hn hE hRm hmn hret => ?_)
  subst hE
  refine g_sub (L' := [(0, .ref q), (1, .int x1), (2, .int x2), (3, .int x3), (4, .int x4)]) [0, 1, 2, 3, 4] rfl ?_
  refine g_aload_n K dX0_init_0 rfl 0 rfl ?_
  refine g_objInit K u_254 u_95 u_96 hRm ⟨Nat.le_of_ble_eq_true rfl, Nat.le_of_ble_eq_true rfl⟩ dX0_init_1 ?_
  refine g_aload_n K dX0_init_4 rfl 0 rfl ?_
  refine g_iload_n K dX0_init_5 rfl 1 rfl ?_
  refine g_putF (T := TX9) (ref := "ChiefGrades$Chief") K hin_X9 tyX9_ok nmX9 0 rfl rfl 0 (by decide) u_255 rfl rfl hmn rfl rfl rfl rfl (Nat.le_of_ble_eq_true rfl) dX0_init_6 (ws' := [(q, .inr (9, [.int x1, .int 0, .int 0, .int 0]))] ++ ws) rfl ?_
  refine g_aload_n K dX0_init_9 rfl 0 rfl ?_
  refine g_iload_n K dX0_init_10 rfl 2 rfl ?_
  refine g_putF (T := TX9) (ref := "ChiefGrades$Chief") K hin_X9 tyX9_ok nmX9 0 rfl rfl 1 (by decide) u_258 rfl rfl hmn rfl rfl rfl rfl (Nat.le_of_ble_eq_true rfl) dX0_init_11 (ws' := [(q, .inr (9, [.int x1, .int x2, .int 0, .int 0]))] ++ ws) rfl ?_
  refine g_aload_n K dX0_init_14 rfl 0 rfl ?_
  refine g_iload_n K dX0_init_15 rfl 3 rfl ?_
  refine g_putF (T := TX9) (ref := "ChiefGrades$Chief") K hin_X9 tyX9_ok nmX9 0 rfl rfl 2 (by decide) u_263 rfl rfl hmn rfl rfl rfl rfl (Nat.le_of_ble_eq_true rfl) dX0_init_16 (ws' := [(q, .inr (9, [.int x1, .int x2, .int x3, .int 0]))] ++ ws) rfl ?_
  refine g_aload_n K dX0_init_19 rfl 0 rfl ?_
  refine g_iload K dX0_init_20 4 rfl ?_
  refine g_putF (T := TX9) (ref := "ChiefGrades$Chief") K hin_X9 tyX9_ok nmX9 0 rfl rfl 3 (by decide) u_273 rfl rfl hmn rfl rfl rfl rfl (Nat.le_of_ble_eq_true rfl) dX0_init_22 (ws' := [(q, .inr (9, [.int x1, .int x2, .int x3, .int x4]))] ++ ws) rfl ?_
  exact hret _ _ _ dX0_init_25 rfl

set_option maxHeartbeats 4000000 in
set_option maxRecDepth 100000 in
theorem ctX0_init_k3 {E : gE} {ws : va_W} (q : Nat) (x1 x2 x3 x4 : Int32) : gMv yX0_init (.code yX0_init cX0_init 5 none :: gU) ({ frames := 1, cells := 0, slots := 0, locals := 12 } : Room) 0 0 E [.ref q, .int x1, .int x2, .int x3, .int x4] ([(q, .inr (4, [.int 0, .int 0, .int 0, .int 0]))] ++ ws) (fun w => w = [(q, .inr (4, [.int x1, .int x2, .int x3, .int x4]))] ++ ws) := by
  refine g_met_v (by decide +kernel) (Nat.le_of_ble_eq_true rfl) (fun Γ K hn hE hRm hmn hret => ?_)
  subst hE
  refine g_sub (L' := [(0, .ref q), (1, .int x1), (2, .int x2), (3, .int x3), (4, .int x4)]) [0, 1, 2, 3, 4] rfl ?_
  refine g_aload_n K dX0_init_0 rfl 0 rfl ?_
  refine g_objInit K u_254 u_95 u_96 hRm ⟨Nat.le_of_ble_eq_true rfl, Nat.le_of_ble_eq_true rfl⟩ dX0_init_1 ?_
  refine g_aload_n K dX0_init_4 rfl 0 rfl ?_
  refine g_iload_n K dX0_init_5 rfl 1 rfl ?_
  refine g_putF (T := TX4) (ref := "ChiefGrades$Chief") K hin_X4 tyX4_ok nmX4 0 rfl rfl 0 (by decide) u_255 rfl rfl hmn rfl rfl rfl rfl (Nat.le_of_ble_eq_true rfl) dX0_init_6 (ws' := [(q, .inr (4, [.int x1, .int 0, .int 0, .int 0]))] ++ ws) rfl ?_
  refine g_aload_n K dX0_init_9 rfl 0 rfl ?_
  refine g_iload_n K dX0_init_10 rfl 2 rfl ?_
  refine g_putF (T := TX4) (ref := "ChiefGrades$Chief") K hin_X4 tyX4_ok nmX4 0 rfl rfl 1 (by decide) u_258 rfl rfl hmn rfl rfl rfl rfl (Nat.le_of_ble_eq_true rfl) dX0_init_11 (ws' := [(q, .inr (4, [.int x1, .int x2, .int 0, .int 0]))] ++ ws) rfl ?_
  refine g_aload_n K dX0_init_14 rfl 0 rfl ?_
  refine g_iload_n K dX0_init_15 rfl 3 rfl ?_
  refine g_putF (T := TX4) (ref := "ChiefGrades$Chief") K hin_X4 tyX4_ok nmX4 0 rfl rfl 2 (by decide) u_263 rfl rfl hmn rfl rfl rfl rfl (Nat.le_of_ble_eq_true rfl) dX0_init_16 (ws' := [(q, .inr (4, [.int x1, .int x2, .int x3, .int 0]))] ++ ws) rfl ?_
  refine g_aload_n K dX0_init_19 rfl 0 rfl ?_
  refine g_iload K dX0_init_20 4 rfl ?_
  refine g_putF (T := TX4) (ref := "ChiefGrades$Chief") K hin_X4 tyX4_ok nmX4 0 rfl rfl 3 (by decide) u_273 rfl rfl hmn rfl rfl rfl rfl (Nat.le_of_ble_eq_true rfl) dX0_init_22 (ws' := [(q, .inr (4, [.int x1, .int x2, .int x3, .int x4]))] ++ ws) rfl ?_
  exact hret _ _ _ dX0_init_25 rfl

set_option maxHeartbeats 4000000 in
set_option maxRecDepth 100000 in
theorem ctX0_init_k4 {E : gE} {ws : va_W} (q : Nat) (x1 x2 x3 x4 : Int32) : gMv yX0_init (.code yX0_init cX0_init 5 none :: gU) ({ frames := 1, cells := 0, slots := 0, locals := 12 } : Room) 0 0 E [.ref q, .int x1, .int x2, .int x3, .int x4] ([(q, .inr (6, [.int 0, .int 0, .int 0, .int 0]))] ++ ws) (fun w => w = [(q, .inr (6, [.int x1, .int x2, .int x3, .int x4]))] ++ ws) := by
  refine g_met_v (by decide +kernel) (Nat.le_of_ble_eq_true rfl) (fun Γ K hn hE hRm hmn hret => ?_)
  subst hE
  refine g_sub (L' := [(0, .ref q), (1, .int x1), (2, .int x2), (3, .int x3), (4, .int x4)]) [0, 1, 2, 3, 4] rfl ?_
  refine g_aload_n K dX0_init_0 rfl 0 rfl ?_
  refine g_objInit K u_254 u_95 u_96 hRm ⟨Nat.le_of_ble_eq_true rfl, Nat.le_of_ble_eq_true rfl⟩ dX0_init_1 ?_
  refine g_aload_n K dX0_init_4 rfl 0 rfl ?_
  refine g_iload_n K dX0_init_5 rfl 1 rfl ?_
  refine g_putF (T := TX6) (ref := "ChiefGrades$Chief") K hin_X6 tyX6_ok nmX6 0 rfl rfl 0 (by decide) u_255 rfl rfl hmn rfl rfl rfl rfl (Nat.le_of_ble_eq_true rfl) dX0_init_6 (ws' := [(q, .inr (6, [.int x1, .int 0, .int 0, .int 0]))] ++ ws) rfl ?_
  refine g_aload_n K dX0_init_9 rfl 0 rfl ?_
  refine g_iload_n K dX0_init_10 rfl 2 rfl ?_
  refine g_putF (T := TX6) (ref := "ChiefGrades$Chief") K hin_X6 tyX6_ok nmX6 0 rfl rfl 1 (by decide) u_258 rfl rfl hmn rfl rfl rfl rfl (Nat.le_of_ble_eq_true rfl) dX0_init_11 (ws' := [(q, .inr (6, [.int x1, .int x2, .int 0, .int 0]))] ++ ws) rfl ?_
  refine g_aload_n K dX0_init_14 rfl 0 rfl ?_
  refine g_iload_n K dX0_init_15 rfl 3 rfl ?_
  refine g_putF (T := TX6) (ref := "ChiefGrades$Chief") K hin_X6 tyX6_ok nmX6 0 rfl rfl 2 (by decide) u_263 rfl rfl hmn rfl rfl rfl rfl (Nat.le_of_ble_eq_true rfl) dX0_init_16 (ws' := [(q, .inr (6, [.int x1, .int x2, .int x3, .int 0]))] ++ ws) rfl ?_
  refine g_aload_n K dX0_init_19 rfl 0 rfl ?_
  refine g_iload K dX0_init_20 4 rfl ?_
  refine g_putF (T := TX6) (ref := "ChiefGrades$Chief") K hin_X6 tyX6_ok nmX6 0 rfl rfl 3 (by decide) u_273 rfl rfl hmn rfl rfl rfl rfl (Nat.le_of_ble_eq_true rfl) dX0_init_22 (ws' := [(q, .inr (6, [.int x1, .int x2, .int x3, .int x4]))] ++ ws) rfl ?_
  exact hret _ _ _ dX0_init_25 rfl

set_option maxHeartbeats 4000000 in
set_option maxRecDepth 100000 in
theorem ctX0_init_k5 {E : gE} {ws : va_W} (q : Nat) (x1 x2 x3 x4 : Int32) : gMv yX0_init (.code yX0_init cX0_init 5 none :: gU) ({ frames := 1, cells := 0, slots := 0, locals := 12 } : Room) 0 0 E [.ref q, .int x1, .int x2, .int x3, .int x4] ([(q, .inr (3, [.int 0, .int 0, .int 0, .int 0]))] ++ ws) (fun w => w = [(q, .inr (3, [.int x1, .int x2, .int x3, .int x4]))] ++ ws) := by
  refine g_met_v (by decide +kernel) (Nat.le_of_ble_eq_true rfl) (fun Γ K hn hE hRm hmn hret => ?_)
  subst hE
  refine g_sub (L' := [(0, .ref q), (1, .int x1), (2, .int x2), (3, .int x3), (4, .int x4)]) [0, 1, 2, 3, 4] rfl ?_
  refine g_aload_n K dX0_init_0 rfl 0 rfl ?_
  refine g_objInit K u_254 u_95 u_96 hRm ⟨Nat.le_of_ble_eq_true rfl, Nat.le_of_ble_eq_true rfl⟩ dX0_init_1 ?_
  refine g_aload_n K dX0_init_4 rfl 0 rfl ?_
  refine g_iload_n K dX0_init_5 rfl 1 rfl ?_
  refine g_putF (T := TX3) (ref := "ChiefGrades$Chief") K hin_X3 tyX3_ok nmX3 0 rfl rfl 0 (by decide) u_255 rfl rfl hmn rfl rfl rfl rfl (Nat.le_of_ble_eq_true rfl) dX0_init_6 (ws' := [(q, .inr (3, [.int x1, .int 0, .int 0, .int 0]))] ++ ws) rfl ?_
  refine g_aload_n K dX0_init_9 rfl 0 rfl ?_
  refine g_iload_n K dX0_init_10 rfl 2 rfl ?_
  refine g_putF (T := TX3) (ref := "ChiefGrades$Chief") K hin_X3 tyX3_ok nmX3 0 rfl rfl 1 (by decide) u_258 rfl rfl hmn rfl rfl rfl rfl (Nat.le_of_ble_eq_true rfl) dX0_init_11 (ws' := [(q, .inr (3, [.int x1, .int x2, .int 0, .int 0]))] ++ ws) rfl ?_
  refine g_aload_n K dX0_init_14 rfl 0 rfl ?_
  refine g_iload_n K dX0_init_15 rfl 3 rfl ?_
  refine g_putF (T := TX3) (ref := "ChiefGrades$Chief") K hin_X3 tyX3_ok nmX3 0 rfl rfl 2 (by decide) u_263 rfl rfl hmn rfl rfl rfl rfl (Nat.le_of_ble_eq_true rfl) dX0_init_16 (ws' := [(q, .inr (3, [.int x1, .int x2, .int x3, .int 0]))] ++ ws) rfl ?_
  refine g_aload_n K dX0_init_19 rfl 0 rfl ?_
  refine g_iload K dX0_init_20 4 rfl ?_
  refine g_putF (T := TX3) (ref := "ChiefGrades$Chief") K hin_X3 tyX3_ok nmX3 0 rfl rfl 3 (by decide) u_273 rfl rfl hmn rfl rfl rfl rfl (Nat.le_of_ble_eq_true rfl) dX0_init_22 (ws' := [(q, .inr (3, [.int x1, .int x2, .int x3, .int x4]))] ++ ws) rfl ?_
  exact hret _ _ _ dX0_init_25 rfl

set_option maxHeartbeats 4000000 in
set_option maxRecDepth 100000 in
theorem ctX0_init_k6 {E : gE} {ws : va_W} (q : Nat) (x1 x2 x3 x4 : Int32) : gMv yX0_init (.code yX0_init cX0_init 5 none :: gU) ({ frames := 1, cells := 0, slots := 0, locals := 12 } : Room) 0 0 E [.ref q, .int x1, .int x2, .int x3, .int x4] ([(q, .inr (7, [.int 0, .int 0, .int 0, .int 0]))] ++ ws) (fun w => w = [(q, .inr (7, [.int x1, .int x2, .int x3, .int x4]))] ++ ws) := by
  refine g_met_v (by decide +kernel) (Nat.le_of_ble_eq_true rfl) (fun Γ K hn hE hRm hmn hret => ?_)
  subst hE
  refine g_sub (L' := [(0, .ref q), (1, .int x1), (2, .int x2), (3, .int x3), (4, .int x4)]) [0, 1, 2, 3, 4] rfl ?_
  refine g_aload_n K dX0_init_0 rfl 0 rfl ?_
  refine g_objInit K u_254 u_95 u_96 hRm ⟨Nat.le_of_ble_eq_true rfl, Nat.le_of_ble_eq_true rfl⟩ dX0_init_1 ?_
  refine g_aload_n K dX0_init_4 rfl 0 rfl ?_
  refine g_iload_n K dX0_init_5 rfl 1 rfl ?_
  refine g_putF (T := TX7) (ref := "ChiefGrades$Chief") K hin_X7 tyX7_ok nmX7 0 rfl rfl 0 (by decide) u_255 rfl rfl hmn rfl rfl rfl rfl (Nat.le_of_ble_eq_true rfl) dX0_init_6 (ws' := [(q, .inr (7, [.int x1, .int 0, .int 0, .int 0]))] ++ ws) rfl ?_
  refine g_aload_n K dX0_init_9 rfl 0 rfl ?_
  refine g_iload_n K dX0_init_10 rfl 2 rfl ?_
  refine g_putF (T := TX7) (ref := "ChiefGrades$Chief") K hin_X7 tyX7_ok nmX7 0 rfl rfl 1 (by decide) u_258 rfl rfl hmn rfl rfl rfl rfl (Nat.le_of_ble_eq_true rfl) dX0_init_11 (ws' := [(q, .inr (7, [.int x1, .int x2, .int 0, .int 0]))] ++ ws) rfl ?_
  refine g_aload_n K dX0_init_14 rfl 0 rfl ?_
  refine g_iload_n K dX0_init_15 rfl 3 rfl ?_
  refine g_putF (T := TX7) (ref := "ChiefGrades$Chief") K hin_X7 tyX7_ok nmX7 0 rfl rfl 2 (by decide) u_263 rfl rfl hmn rfl rfl rfl rfl (Nat.le_of_ble_eq_true rfl) dX0_init_16 (ws' := [(q, .inr (7, [.int x1, .int x2, .int x3, .int 0]))] ++ ws) rfl ?_
  refine g_aload_n K dX0_init_19 rfl 0 rfl ?_
  refine g_iload K dX0_init_20 4 rfl ?_
  refine g_putF (T := TX7) (ref := "ChiefGrades$Chief") K hin_X7 tyX7_ok nmX7 0 rfl rfl 3 (by decide) u_273 rfl rfl hmn rfl rfl rfl rfl (Nat.le_of_ble_eq_true rfl) dX0_init_22 (ws' := [(q, .inr (7, [.int x1, .int x2, .int x3, .int x4]))] ++ ws) rfl ?_
  exact hret _ _ _ dX0_init_25 rfl

set_option maxHeartbeats 4000000 in
set_option maxRecDepth 100000 in
theorem ctX5_init_k1 {E : gE} {ws : va_W} (q : Nat) (x1 x2 x3 x4 : Int32) : gMv yX5_init (.code yX5_init cX5_init 5 none :: gU) ({ frames := 2, cells := 0, slots := 0, locals := 36 } : Room) 0 0 E [.ref q, .int x1, .int x2, .int x3, .int x4] ([(q, .inr (5, [.int 0, .int 0, .int 0, .int 0]))] ++ ws) (fun w => w = [(q, .inr (5, [.int x1, .int x2, .int x3, .int x4]))] ++ ws) := by
  refine g_met_v (by decide +kernel) (Nat.le_of_ble_eq_true rfl) (fun Γ K hn hE hRm hmn hret => ?_)
  subst hE
  refine g_sub (L' := [(0, .ref q), (1, .int x1), (2, .int x2), (3, .int x3), (4, .int x4)]) [0, 1, 2, 3, 4] rfl ?_
  refine g_aload_n K dX5_init_0 rfl 0 rfl ?_
  refine g_iload_n K dX5_init_1 rfl 1 rfl ?_
  refine g_iload_n K dX5_init_2 rfl 2 rfl ?_
  refine g_iload_n K dX5_init_3 rfl 3 rfl ?_
  refine g_iload K dX5_init_4 4 rfl ?_
  refine g_callIv (As := [.int x1, .int x2, .int x3, .int x4]) (bytes := cX0_init) (maxL := 5) K (ctX0_init_k1 (ws := ws) q x1 x2 x3 x4) (gu_c u_253) rfl u_73 u_529 u_252 rfl qi_X0_init hRm rfl rfl rfl ⟨Nat.le_of_ble_eq_true rfl, Nat.le_of_ble_eq_true rfl⟩ (Nat.le_of_ble_eq_true rfl) ⟨Nat.le_of_ble_eq_true rfl, Nat.le_of_ble_eq_true rfl⟩ dX5_init_6 (fun w hw => ?_)
  subst hw
  exact hret _ _ _ dX5_init_9 rfl

set_option maxHeartbeats 4000000 in
set_option maxRecDepth 100000 in
theorem ctX5_init_k4 {E : gE} {ws : va_W} (q : Nat) (x1 x2 x3 x4 : Int32) : gMv yX5_init (.code yX5_init cX5_init 5 none :: gU) ({ frames := 2, cells := 0, slots := 0, locals := 36 } : Room) 0 0 E [.ref q, .int x1, .int x2, .int x3, .int x4] ([(q, .inr (6, [.int 0, .int 0, .int 0, .int 0]))] ++ ws) (fun w => w = [(q, .inr (6, [.int x1, .int x2, .int x3, .int x4]))] ++ ws) := by
  refine g_met_v (by decide +kernel) (Nat.le_of_ble_eq_true rfl) (fun Γ K hn hE hRm hmn hret => ?_)
  subst hE
  refine g_sub (L' := [(0, .ref q), (1, .int x1), (2, .int x2), (3, .int x3), (4, .int x4)]) [0, 1, 2, 3, 4] rfl ?_
  refine g_aload_n K dX5_init_0 rfl 0 rfl ?_
  refine g_iload_n K dX5_init_1 rfl 1 rfl ?_
  refine g_iload_n K dX5_init_2 rfl 2 rfl ?_
  refine g_iload_n K dX5_init_3 rfl 3 rfl ?_
  refine g_iload K dX5_init_4 4 rfl ?_
  refine g_callIv (As := [.int x1, .int x2, .int x3, .int x4]) (bytes := cX0_init) (maxL := 5) K (ctX0_init_k4 (ws := ws) q x1 x2 x3 x4) (gu_c u_253) rfl u_73 u_529 u_252 rfl qi_X0_init hRm rfl rfl rfl ⟨Nat.le_of_ble_eq_true rfl, Nat.le_of_ble_eq_true rfl⟩ (Nat.le_of_ble_eq_true rfl) ⟨Nat.le_of_ble_eq_true rfl, Nat.le_of_ble_eq_true rfl⟩ dX5_init_6 (fun w hw => ?_)
  subst hw
  exact hret _ _ _ dX5_init_9 rfl

set_option maxHeartbeats 4000000 in
set_option maxRecDepth 100000 in
theorem ctX9_init_k2 {E : gE} {ws : va_W} (q : Nat) (x1 x2 x3 x4 : Int32) : gMv yX9_init (.code yX9_init cX9_init 5 none :: gU) ({ frames := 2, cells := 0, slots := 0, locals := 36 } : Room) 0 0 E [.ref q, .int x1, .int x2, .int x3, .int x4] ([(q, .inr (9, [.int 0, .int 0, .int 0, .int 0]))] ++ ws) (fun w => w = [(q, .inr (9, [.int x1, .int x2, .int x3, .int x4]))] ++ ws) := by
  refine g_met_v (by decide +kernel) (Nat.le_of_ble_eq_true rfl) (fun Γ K hn hE hRm hmn hret => ?_)
  subst hE
  refine g_sub (L' := [(0, .ref q), (1, .int x1), (2, .int x2), (3, .int x3), (4, .int x4)]) [0, 1, 2, 3, 4] rfl ?_
  refine g_aload_n K dX9_init_0 rfl 0 rfl ?_
  refine g_iload_n K dX9_init_1 rfl 1 rfl ?_
  refine g_iload_n K dX9_init_2 rfl 2 rfl ?_
  refine g_iload_n K dX9_init_3 rfl 3 rfl ?_
  refine g_iload K dX9_init_4 4 rfl ?_
  refine g_callIv (As := [.int x1, .int x2, .int x3, .int x4]) (bytes := cX0_init) (maxL := 5) K (ctX0_init_k2 (ws := ws) q x1 x2 x3 x4) (gu_c u_253) rfl u_73 u_540 u_252 rfl qi_X0_init hRm rfl rfl rfl ⟨Nat.le_of_ble_eq_true rfl, Nat.le_of_ble_eq_true rfl⟩ (Nat.le_of_ble_eq_true rfl) ⟨Nat.le_of_ble_eq_true rfl, Nat.le_of_ble_eq_true rfl⟩ dX9_init_6 (fun w hw => ?_)
  subst hw
  exact hret _ _ _ dX9_init_9 rfl

set_option maxHeartbeats 4000000 in
set_option maxRecDepth 100000 in
theorem ctX9_init_k5 {E : gE} {ws : va_W} (q : Nat) (x1 x2 x3 x4 : Int32) : gMv yX9_init (.code yX9_init cX9_init 5 none :: gU) ({ frames := 2, cells := 0, slots := 0, locals := 36 } : Room) 0 0 E [.ref q, .int x1, .int x2, .int x3, .int x4] ([(q, .inr (3, [.int 0, .int 0, .int 0, .int 0]))] ++ ws) (fun w => w = [(q, .inr (3, [.int x1, .int x2, .int x3, .int x4]))] ++ ws) := by
  refine g_met_v (by decide +kernel) (Nat.le_of_ble_eq_true rfl) (fun Γ K hn hE hRm hmn hret => ?_)
  subst hE
  refine g_sub (L' := [(0, .ref q), (1, .int x1), (2, .int x2), (3, .int x3), (4, .int x4)]) [0, 1, 2, 3, 4] rfl ?_
  refine g_aload_n K dX9_init_0 rfl 0 rfl ?_
  refine g_iload_n K dX9_init_1 rfl 1 rfl ?_
  refine g_iload_n K dX9_init_2 rfl 2 rfl ?_
  refine g_iload_n K dX9_init_3 rfl 3 rfl ?_
  refine g_iload K dX9_init_4 4 rfl ?_
  refine g_callIv (As := [.int x1, .int x2, .int x3, .int x4]) (bytes := cX0_init) (maxL := 5) K (ctX0_init_k5 (ws := ws) q x1 x2 x3 x4) (gu_c u_253) rfl u_73 u_540 u_252 rfl qi_X0_init hRm rfl rfl rfl ⟨Nat.le_of_ble_eq_true rfl, Nat.le_of_ble_eq_true rfl⟩ (Nat.le_of_ble_eq_true rfl) ⟨Nat.le_of_ble_eq_true rfl, Nat.le_of_ble_eq_true rfl⟩ dX9_init_6 (fun w hw => ?_)
  subst hw
  exact hret _ _ _ dX9_init_9 rfl

set_option maxHeartbeats 4000000 in
set_option maxRecDepth 100000 in
theorem ctX4_init_k3 {E : gE} {ws : va_W} (q : Nat) (x1 x2 x3 x4 : Int32) : gMv yX4_init (.code yX4_init cX4_init 5 none :: gU) ({ frames := 2, cells := 0, slots := 0, locals := 36 } : Room) 0 0 E [.ref q, .int x1, .int x2, .int x3, .int x4] ([(q, .inr (4, [.int 0, .int 0, .int 0, .int 0]))] ++ ws) (fun w => w = [(q, .inr (4, [.int x1, .int x2, .int x3, .int x4]))] ++ ws) := by
  refine g_met_v (by decide +kernel) (Nat.le_of_ble_eq_true rfl) (fun Γ K hn hE hRm hmn hret => ?_)
  subst hE
  refine g_sub (L' := [(0, .ref q), (1, .int x1), (2, .int x2), (3, .int x3), (4, .int x4)]) [0, 1, 2, 3, 4] rfl ?_
  refine g_aload_n K dX4_init_0 rfl 0 rfl ?_
  refine g_iload_n K dX4_init_1 rfl 1 rfl ?_
  refine g_iload_n K dX4_init_2 rfl 2 rfl ?_
  refine g_iload_n K dX4_init_3 rfl 3 rfl ?_
  refine g_iload K dX4_init_4 4 rfl ?_
  refine g_callIv (As := [.int x1, .int x2, .int x3, .int x4]) (bytes := cX0_init) (maxL := 5) K (ctX0_init_k3 (ws := ws) q x1 x2 x3 x4) (gu_c u_253) rfl u_73 u_551 u_252 rfl qi_X0_init hRm rfl rfl rfl ⟨Nat.le_of_ble_eq_true rfl, Nat.le_of_ble_eq_true rfl⟩ (Nat.le_of_ble_eq_true rfl) ⟨Nat.le_of_ble_eq_true rfl, Nat.le_of_ble_eq_true rfl⟩ dX4_init_6 (fun w hw => ?_)
  subst hw
  exact hret _ _ _ dX4_init_9 rfl

set_option maxHeartbeats 4000000 in
set_option maxRecDepth 100000 in
theorem ctX4_init_k6 {E : gE} {ws : va_W} (q : Nat) (x1 x2 x3 x4 : Int32) : gMv yX4_init (.code yX4_init cX4_init 5 none :: gU) ({ frames := 2, cells := 0, slots := 0, locals := 36 } : Room) 0 0 E [.ref q, .int x1, .int x2, .int x3, .int x4] ([(q, .inr (7, [.int 0, .int 0, .int 0, .int 0]))] ++ ws) (fun w => w = [(q, .inr (7, [.int x1, .int x2, .int x3, .int x4]))] ++ ws) := by
  refine g_met_v (by decide +kernel) (Nat.le_of_ble_eq_true rfl) (fun Γ K hn hE hRm hmn hret => ?_)
  subst hE
  refine g_sub (L' := [(0, .ref q), (1, .int x1), (2, .int x2), (3, .int x3), (4, .int x4)]) [0, 1, 2, 3, 4] rfl ?_
  refine g_aload_n K dX4_init_0 rfl 0 rfl ?_
  refine g_iload_n K dX4_init_1 rfl 1 rfl ?_
  refine g_iload_n K dX4_init_2 rfl 2 rfl ?_
  refine g_iload_n K dX4_init_3 rfl 3 rfl ?_
  refine g_iload K dX4_init_4 4 rfl ?_
  refine g_callIv (As := [.int x1, .int x2, .int x3, .int x4]) (bytes := cX0_init) (maxL := 5) K (ctX0_init_k6 (ws := ws) q x1 x2 x3 x4) (gu_c u_253) rfl u_73 u_551 u_252 rfl qi_X0_init hRm rfl rfl rfl ⟨Nat.le_of_ble_eq_true rfl, Nat.le_of_ble_eq_true rfl⟩ (Nat.le_of_ble_eq_true rfl) ⟨Nat.le_of_ble_eq_true rfl, Nat.le_of_ble_eq_true rfl⟩ dX4_init_6 (fun w hw => ?_)
  subst hw
  exact hret _ _ _ dX4_init_9 rfl

set_option maxHeartbeats 4000000 in
set_option maxRecDepth 100000 in
theorem ctX6_init_k4 {E : gE} {ws : va_W} (q : Nat) (x1 x2 x3 x4 : Int32) : gMv yX6_init (.code yX6_init cX6_init 5 none :: gU) ({ frames := 3, cells := 0, slots := 0, locals := 60 } : Room) 0 0 E [.ref q, .int x1, .int x2, .int x3, .int x4] ([(q, .inr (6, [.int 0, .int 0, .int 0, .int 0]))] ++ ws) (fun w => w = [(q, .inr (6, [.int x1, .int x2, .int x3, .int x4]))] ++ ws) := by
  refine g_met_v (by decide +kernel) (Nat.le_of_ble_eq_true rfl) (fun Γ K hn hE hRm hmn hret => ?_)
  subst hE
  refine g_sub (L' := [(0, .ref q), (1, .int x1), (2, .int x2), (3, .int x3), (4, .int x4)]) [0, 1, 2, 3, 4] rfl ?_
  refine g_aload_n K dX6_init_0 rfl 0 rfl ?_
  refine g_iload_n K dX6_init_1 rfl 1 rfl ?_
  refine g_iload_n K dX6_init_2 rfl 2 rfl ?_
  refine g_iload_n K dX6_init_3 rfl 3 rfl ?_
  refine g_iload K dX6_init_4 4 rfl ?_
  refine g_callIv (As := [.int x1, .int x2, .int x3, .int x4]) (bytes := cX5_init) (maxL := 5) K (ctX5_init_k4 (ws := ws) q x1 x2 x3 x4) (gu_c u_528) rfl u_81 u_562 u_527 rfl qi_X5_init hRm rfl rfl rfl ⟨Nat.le_of_ble_eq_true rfl, Nat.le_of_ble_eq_true rfl⟩ (Nat.le_of_ble_eq_true rfl) ⟨Nat.le_of_ble_eq_true rfl, Nat.le_of_ble_eq_true rfl⟩ dX6_init_6 (fun w hw => ?_)
  subst hw
  exact hret _ _ _ dX6_init_9 rfl

set_option maxHeartbeats 4000000 in
set_option maxRecDepth 100000 in
theorem ctX3_init_k5 {E : gE} {ws : va_W} (q : Nat) (x1 x2 x3 x4 : Int32) : gMv yX3_init (.code yX3_init cX3_init 5 none :: gU) ({ frames := 3, cells := 0, slots := 0, locals := 60 } : Room) 0 0 E [.ref q, .int x1, .int x2, .int x3, .int x4] ([(q, .inr (3, [.int 0, .int 0, .int 0, .int 0]))] ++ ws) (fun w => w = [(q, .inr (3, [.int x1, .int x2, .int x3, .int x4]))] ++ ws) := by
  refine g_met_v (by decide +kernel) (Nat.le_of_ble_eq_true rfl) (fun Γ K hn hE hRm hmn hret => ?_)
  subst hE
  refine g_sub (L' := [(0, .ref q), (1, .int x1), (2, .int x2), (3, .int x3), (4, .int x4)]) [0, 1, 2, 3, 4] rfl ?_
  refine g_aload_n K dX3_init_0 rfl 0 rfl ?_
  refine g_iload_n K dX3_init_1 rfl 1 rfl ?_
  refine g_iload_n K dX3_init_2 rfl 2 rfl ?_
  refine g_iload_n K dX3_init_3 rfl 3 rfl ?_
  refine g_iload K dX3_init_4 4 rfl ?_
  refine g_callIv (As := [.int x1, .int x2, .int x3, .int x4]) (bytes := cX9_init) (maxL := 5) K (ctX9_init_k5 (ws := ws) q x1 x2 x3 x4) (gu_c u_539) rfl u_82 u_573 u_538 rfl qi_X9_init hRm rfl rfl rfl ⟨Nat.le_of_ble_eq_true rfl, Nat.le_of_ble_eq_true rfl⟩ (Nat.le_of_ble_eq_true rfl) ⟨Nat.le_of_ble_eq_true rfl, Nat.le_of_ble_eq_true rfl⟩ dX3_init_6 (fun w hw => ?_)
  subst hw
  exact hret _ _ _ dX3_init_9 rfl

set_option maxHeartbeats 4000000 in
set_option maxRecDepth 100000 in
theorem ctX7_init_k6 {E : gE} {ws : va_W} (q : Nat) (x1 x2 x3 x4 : Int32) : gMv yX7_init (.code yX7_init cX7_init 5 none :: gU) ({ frames := 3, cells := 0, slots := 0, locals := 60 } : Room) 0 0 E [.ref q, .int x1, .int x2, .int x3, .int x4] ([(q, .inr (7, [.int 0, .int 0, .int 0, .int 0]))] ++ ws) (fun w => w = [(q, .inr (7, [.int x1, .int x2, .int x3, .int x4]))] ++ ws) := by
  refine g_met_v (by decide +kernel) (Nat.le_of_ble_eq_true rfl) (fun Γ K hn hE hRm hmn hret => ?_)
  subst hE
  refine g_sub (L' := [(0, .ref q), (1, .int x1), (2, .int x2), (3, .int x3), (4, .int x4)]) [0, 1, 2, 3, 4] rfl ?_
  refine g_aload_n K dX7_init_0 rfl 0 rfl ?_
  refine g_iload_n K dX7_init_1 rfl 1 rfl ?_
  refine g_iload_n K dX7_init_2 rfl 2 rfl ?_
  refine g_iload_n K dX7_init_3 rfl 3 rfl ?_
  refine g_iload K dX7_init_4 4 rfl ?_
  refine g_callIv (As := [.int x1, .int x2, .int x3, .int x4]) (bytes := cX4_init) (maxL := 5) K (ctX4_init_k6 (ws := ws) q x1 x2 x3 x4) (gu_c u_550) rfl u_83 u_584 u_549 rfl qi_X4_init hRm rfl rfl rfl ⟨Nat.le_of_ble_eq_true rfl, Nat.le_of_ble_eq_true rfl⟩ (Nat.le_of_ble_eq_true rfl) ⟨Nat.le_of_ble_eq_true rfl, Nat.le_of_ble_eq_true rfl⟩ dX7_init_6 (fun w hw => ?_)
  subst hw
  exact hret _ _ _ dX7_init_9 rfl

set_option maxHeartbeats 4000000 in
set_option maxRecDepth 100000 in
theorem ctX0_make_k0 {E : gE} {ws : va_W} (x1 x2 x3 : Int32) : gMq yX0_make (.code yX0_make cX0_make 4 (some (.object "ChiefGrades$Chief")) :: gU) ({ frames := 4, cells := 1, slots := 4, locals := 84 } : Room) 1 4 E [.int 0, .int x1, .int x2, .int x3] ws (fun r w => ∃ b, r = some b ∧ w = [(b, .inr (0, [.int 0, .int x1, .int x2, .int x3]))] ++ ws) := by
  refine g_met_q (by decide +kernel) (Nat.le_of_ble_eq_true rfl) (fun Γ K hn hE hRm hmn hret => ?_)
  subst hE
  refine g_sub (L' := [(0, .int 0), (1, .int x1), (2, .int x2), (3, .int x3)]) [0, 1, 2, 3] rfl ?_
  refine g_iload_n K dX0_make_0 rfl 0 rfl ?_
  refine g_tabOut (tgt := 112) K dX0_make_1 (by decide) (by decide) ?_
  refine g_new (T := TX0) (ty0 := tyX0) (ci := 0) K hin_X0 tyX0_ok u_590 u_250 u_73 rfl dfX0 hRm ⟨Nat.le_of_ble_eq_true rfl, Nat.le_of_ble_eq_true rfl⟩ dX0_make_112 (fun q1 => ?_)
  refine g_dup K dX0_make_115 rfl ?_
  refine g_iload_n K dX0_make_116 rfl 0 rfl ?_
  refine g_iload_n K dX0_make_117 rfl 1 rfl ?_
  refine g_iload_n K dX0_make_118 rfl 2 rfl ?_
  refine g_iload_n K dX0_make_119 rfl 3 rfl ?_
  refine g_callIv (As := [.int 0, .int x1, .int x2, .int x3]) (bytes := cX0_init) (maxL := 5) K (ctX0_init_k0 (ws := ws) q1 0 x1 x2 x3) (gu_c u_253) rfl u_73 u_591 u_252 rfl qi_X0_init hRm rfl rfl rfl ⟨Nat.le_of_ble_eq_true rfl, Nat.le_of_ble_eq_true rfl⟩ (Nat.le_of_ble_eq_true rfl) ⟨Nat.le_of_ble_eq_true rfl, Nat.le_of_ble_eq_true rfl⟩ dX0_make_120 (fun w hw => ?_)
  subst hw
  exact hret _ _ (some q1) _ dX0_make_123 ⟨_, rfl, rfl⟩

set_option maxHeartbeats 4000000 in
set_option maxRecDepth 100000 in
theorem ctX0_make_k1 {E : gE} {ws : va_W} (x1 x2 x3 : Int32) : gMq yX0_make (.code yX0_make cX0_make 4 (some (.object "ChiefGrades$Chief")) :: gU) ({ frames := 4, cells := 1, slots := 4, locals := 84 } : Room) 1 4 E [.int 1, .int x1, .int x2, .int x3] ws (fun r w => ∃ b, r = some b ∧ w = [(b, .inr (5, [.int 1, .int x1, .int x2, .int x3]))] ++ ws) := by
  refine g_met_q (by decide +kernel) (Nat.le_of_ble_eq_true rfl) (fun Γ K hn hE hRm hmn hret => ?_)
  subst hE
  refine g_sub (L' := [(0, .int 1), (1, .int x1), (2, .int x2), (3, .int x3)]) [0, 1, 2, 3] rfl ?_
  refine g_iload_n K dX0_make_0 rfl 0 rfl ?_
  refine g_tabIn (tgt := 40) K dX0_make_1 (by decide) (by decide) rfl (by decide) ?_
  refine g_new (T := TX5) (ty0 := tyX5) (ci := 5) K hin_X5 tyX5_ok u_524 u_525 u_81 rfl dfX5 hRm ⟨Nat.le_of_ble_eq_true rfl, Nat.le_of_ble_eq_true rfl⟩ dX0_make_40 (fun q1 => ?_)
  refine g_dup K dX0_make_43 rfl ?_
  refine g_iload_n K dX0_make_44 rfl 0 rfl ?_
  refine g_iload_n K dX0_make_45 rfl 1 rfl ?_
  refine g_iload_n K dX0_make_46 rfl 2 rfl ?_
  refine g_iload_n K dX0_make_47 rfl 3 rfl ?_
  refine g_callIv (As := [.int 1, .int x1, .int x2, .int x3]) (bytes := cX5_init) (maxL := 5) K (ctX5_init_k1 (ws := ws) q1 1 x1 x2 x3) (gu_c u_528) rfl u_81 u_526 u_527 rfl qi_X5_init hRm rfl rfl rfl ⟨Nat.le_of_ble_eq_true rfl, Nat.le_of_ble_eq_true rfl⟩ (Nat.le_of_ble_eq_true rfl) ⟨Nat.le_of_ble_eq_true rfl, Nat.le_of_ble_eq_true rfl⟩ dX0_make_48 (fun w hw => ?_)
  subst hw
  exact hret _ _ (some q1) _ dX0_make_51 ⟨_, rfl, rfl⟩

set_option maxHeartbeats 4000000 in
set_option maxRecDepth 100000 in
theorem ctX0_make_k2 {E : gE} {ws : va_W} (x1 x2 x3 : Int32) : gMq yX0_make (.code yX0_make cX0_make 4 (some (.object "ChiefGrades$Chief")) :: gU) ({ frames := 4, cells := 1, slots := 4, locals := 84 } : Room) 1 4 E [.int 2, .int x1, .int x2, .int x3] ws (fun r w => ∃ b, r = some b ∧ w = [(b, .inr (9, [.int 2, .int x1, .int x2, .int x3]))] ++ ws) := by
  refine g_met_q (by decide +kernel) (Nat.le_of_ble_eq_true rfl) (fun Γ K hn hE hRm hmn hret => ?_)
  subst hE
  refine g_sub (L' := [(0, .int 2), (1, .int x1), (2, .int x2), (3, .int x3)]) [0, 1, 2, 3] rfl ?_
  refine g_iload_n K dX0_make_0 rfl 0 rfl ?_
  refine g_tabIn (tgt := 52) K dX0_make_1 (by decide) (by decide) rfl (by decide) ?_
  refine g_new (T := TX9) (ty0 := tyX9) (ci := 9) K hin_X9 tyX9_ok u_535 u_536 u_82 rfl dfX9 hRm ⟨Nat.le_of_ble_eq_true rfl, Nat.le_of_ble_eq_true rfl⟩ dX0_make_52 (fun q1 => ?_)
  refine g_dup K dX0_make_55 rfl ?_
  refine g_iload_n K dX0_make_56 rfl 0 rfl ?_
  refine g_iload_n K dX0_make_57 rfl 1 rfl ?_
  refine g_iload_n K dX0_make_58 rfl 2 rfl ?_
  refine g_iload_n K dX0_make_59 rfl 3 rfl ?_
  refine g_callIv (As := [.int 2, .int x1, .int x2, .int x3]) (bytes := cX9_init) (maxL := 5) K (ctX9_init_k2 (ws := ws) q1 2 x1 x2 x3) (gu_c u_539) rfl u_82 u_537 u_538 rfl qi_X9_init hRm rfl rfl rfl ⟨Nat.le_of_ble_eq_true rfl, Nat.le_of_ble_eq_true rfl⟩ (Nat.le_of_ble_eq_true rfl) ⟨Nat.le_of_ble_eq_true rfl, Nat.le_of_ble_eq_true rfl⟩ dX0_make_60 (fun w hw => ?_)
  subst hw
  exact hret _ _ (some q1) _ dX0_make_63 ⟨_, rfl, rfl⟩

set_option maxHeartbeats 4000000 in
set_option maxRecDepth 100000 in
theorem ctX0_make_k3 {E : gE} {ws : va_W} (x1 x2 x3 : Int32) : gMq yX0_make (.code yX0_make cX0_make 4 (some (.object "ChiefGrades$Chief")) :: gU) ({ frames := 4, cells := 1, slots := 4, locals := 84 } : Room) 1 4 E [.int 3, .int x1, .int x2, .int x3] ws (fun r w => ∃ b, r = some b ∧ w = [(b, .inr (4, [.int 3, .int x1, .int x2, .int x3]))] ++ ws) := by
  refine g_met_q (by decide +kernel) (Nat.le_of_ble_eq_true rfl) (fun Γ K hn hE hRm hmn hret => ?_)
  subst hE
  refine g_sub (L' := [(0, .int 3), (1, .int x1), (2, .int x2), (3, .int x3)]) [0, 1, 2, 3] rfl ?_
  refine g_iload_n K dX0_make_0 rfl 0 rfl ?_
  refine g_tabIn (tgt := 64) K dX0_make_1 (by decide) (by decide) rfl (by decide) ?_
  refine g_new (T := TX4) (ty0 := tyX4) (ci := 4) K hin_X4 tyX4_ok u_546 u_547 u_83 rfl dfX4 hRm ⟨Nat.le_of_ble_eq_true rfl, Nat.le_of_ble_eq_true rfl⟩ dX0_make_64 (fun q1 => ?_)
  refine g_dup K dX0_make_67 rfl ?_
  refine g_iload_n K dX0_make_68 rfl 0 rfl ?_
  refine g_iload_n K dX0_make_69 rfl 1 rfl ?_
  refine g_iload_n K dX0_make_70 rfl 2 rfl ?_
  refine g_iload_n K dX0_make_71 rfl 3 rfl ?_
  refine g_callIv (As := [.int 3, .int x1, .int x2, .int x3]) (bytes := cX4_init) (maxL := 5) K (ctX4_init_k3 (ws := ws) q1 3 x1 x2 x3) (gu_c u_550) rfl u_83 u_548 u_549 rfl qi_X4_init hRm rfl rfl rfl ⟨Nat.le_of_ble_eq_true rfl, Nat.le_of_ble_eq_true rfl⟩ (Nat.le_of_ble_eq_true rfl) ⟨Nat.le_of_ble_eq_true rfl, Nat.le_of_ble_eq_true rfl⟩ dX0_make_72 (fun w hw => ?_)
  subst hw
  exact hret _ _ (some q1) _ dX0_make_75 ⟨_, rfl, rfl⟩

set_option maxHeartbeats 4000000 in
set_option maxRecDepth 100000 in
theorem ctX0_make_k4 {E : gE} {ws : va_W} (x1 x2 x3 : Int32) : gMq yX0_make (.code yX0_make cX0_make 4 (some (.object "ChiefGrades$Chief")) :: gU) ({ frames := 4, cells := 1, slots := 4, locals := 84 } : Room) 1 4 E [.int 4, .int x1, .int x2, .int x3] ws (fun r w => ∃ b, r = some b ∧ w = [(b, .inr (6, [.int 4, .int x1, .int x2, .int x3]))] ++ ws) := by
  refine g_met_q (by decide +kernel) (Nat.le_of_ble_eq_true rfl) (fun Γ K hn hE hRm hmn hret => ?_)
  subst hE
  refine g_sub (L' := [(0, .int 4), (1, .int x1), (2, .int x2), (3, .int x3)]) [0, 1, 2, 3] rfl ?_
  refine g_iload_n K dX0_make_0 rfl 0 rfl ?_
  refine g_tabIn (tgt := 76) K dX0_make_1 (by decide) (by decide) rfl (by decide) ?_
  refine g_new (T := TX6) (ty0 := tyX6) (ci := 6) K hin_X6 tyX6_ok u_557 u_558 u_84 rfl dfX6 hRm ⟨Nat.le_of_ble_eq_true rfl, Nat.le_of_ble_eq_true rfl⟩ dX0_make_76 (fun q1 => ?_)
  refine g_dup K dX0_make_79 rfl ?_
  refine g_iload_n K dX0_make_80 rfl 0 rfl ?_
  refine g_iload_n K dX0_make_81 rfl 1 rfl ?_
  refine g_iload_n K dX0_make_82 rfl 2 rfl ?_
  refine g_iload_n K dX0_make_83 rfl 3 rfl ?_
  refine g_callIv (As := [.int 4, .int x1, .int x2, .int x3]) (bytes := cX6_init) (maxL := 5) K (ctX6_init_k4 (ws := ws) q1 4 x1 x2 x3) (gu_c u_561) rfl u_84 u_559 u_560 rfl qi_X6_init hRm rfl rfl rfl ⟨Nat.le_of_ble_eq_true rfl, Nat.le_of_ble_eq_true rfl⟩ (Nat.le_of_ble_eq_true rfl) ⟨Nat.le_of_ble_eq_true rfl, Nat.le_of_ble_eq_true rfl⟩ dX0_make_84 (fun w hw => ?_)
  subst hw
  exact hret _ _ (some q1) _ dX0_make_87 ⟨_, rfl, rfl⟩

set_option maxHeartbeats 4000000 in
set_option maxRecDepth 100000 in
theorem ctX0_make_k5 {E : gE} {ws : va_W} (x1 x2 x3 : Int32) : gMq yX0_make (.code yX0_make cX0_make 4 (some (.object "ChiefGrades$Chief")) :: gU) ({ frames := 4, cells := 1, slots := 4, locals := 84 } : Room) 1 4 E [.int 5, .int x1, .int x2, .int x3] ws (fun r w => ∃ b, r = some b ∧ w = [(b, .inr (3, [.int 5, .int x1, .int x2, .int x3]))] ++ ws) := by
  refine g_met_q (by decide +kernel) (Nat.le_of_ble_eq_true rfl) (fun Γ K hn hE hRm hmn hret => ?_)
  subst hE
  refine g_sub (L' := [(0, .int 5), (1, .int x1), (2, .int x2), (3, .int x3)]) [0, 1, 2, 3] rfl ?_
  refine g_iload_n K dX0_make_0 rfl 0 rfl ?_
  refine g_tabIn (tgt := 88) K dX0_make_1 (by decide) (by decide) rfl (by decide) ?_
  refine g_new (T := TX3) (ty0 := tyX3) (ci := 3) K hin_X3 tyX3_ok u_568 u_569 u_85 rfl dfX3 hRm ⟨Nat.le_of_ble_eq_true rfl, Nat.le_of_ble_eq_true rfl⟩ dX0_make_88 (fun q1 => ?_)
  refine g_dup K dX0_make_91 rfl ?_
  refine g_iload_n K dX0_make_92 rfl 0 rfl ?_
  refine g_iload_n K dX0_make_93 rfl 1 rfl ?_
  refine g_iload_n K dX0_make_94 rfl 2 rfl ?_
  refine g_iload_n K dX0_make_95 rfl 3 rfl ?_
  refine g_callIv (As := [.int 5, .int x1, .int x2, .int x3]) (bytes := cX3_init) (maxL := 5) K (ctX3_init_k5 (ws := ws) q1 5 x1 x2 x3) (gu_c u_572) rfl u_85 u_570 u_571 rfl qi_X3_init hRm rfl rfl rfl ⟨Nat.le_of_ble_eq_true rfl, Nat.le_of_ble_eq_true rfl⟩ (Nat.le_of_ble_eq_true rfl) ⟨Nat.le_of_ble_eq_true rfl, Nat.le_of_ble_eq_true rfl⟩ dX0_make_96 (fun w hw => ?_)
  subst hw
  exact hret _ _ (some q1) _ dX0_make_99 ⟨_, rfl, rfl⟩

set_option maxHeartbeats 4000000 in
set_option maxRecDepth 100000 in
theorem ctX0_make_k6 {E : gE} {ws : va_W} (x1 x2 x3 : Int32) : gMq yX0_make (.code yX0_make cX0_make 4 (some (.object "ChiefGrades$Chief")) :: gU) ({ frames := 4, cells := 1, slots := 4, locals := 84 } : Room) 1 4 E [.int 6, .int x1, .int x2, .int x3] ws (fun r w => ∃ b, r = some b ∧ w = [(b, .inr (7, [.int 6, .int x1, .int x2, .int x3]))] ++ ws) := by
  refine g_met_q (by decide +kernel) (Nat.le_of_ble_eq_true rfl) (fun Γ K hn hE hRm hmn hret => ?_)
  subst hE
  refine g_sub (L' := [(0, .int 6), (1, .int x1), (2, .int x2), (3, .int x3)]) [0, 1, 2, 3] rfl ?_
  refine g_iload_n K dX0_make_0 rfl 0 rfl ?_
  refine g_tabIn (tgt := 100) K dX0_make_1 (by decide) (by decide) rfl (by decide) ?_
  refine g_new (T := TX7) (ty0 := tyX7) (ci := 7) K hin_X7 tyX7_ok u_579 u_580 u_86 rfl dfX7 hRm ⟨Nat.le_of_ble_eq_true rfl, Nat.le_of_ble_eq_true rfl⟩ dX0_make_100 (fun q1 => ?_)
  refine g_dup K dX0_make_103 rfl ?_
  refine g_iload_n K dX0_make_104 rfl 0 rfl ?_
  refine g_iload_n K dX0_make_105 rfl 1 rfl ?_
  refine g_iload_n K dX0_make_106 rfl 2 rfl ?_
  refine g_iload_n K dX0_make_107 rfl 3 rfl ?_
  refine g_callIv (As := [.int 6, .int x1, .int x2, .int x3]) (bytes := cX7_init) (maxL := 5) K (ctX7_init_k6 (ws := ws) q1 6 x1 x2 x3) (gu_c u_583) rfl u_86 u_581 u_582 rfl qi_X7_init hRm rfl rfl rfl ⟨Nat.le_of_ble_eq_true rfl, Nat.le_of_ble_eq_true rfl⟩ (Nat.le_of_ble_eq_true rfl) ⟨Nat.le_of_ble_eq_true rfl, Nat.le_of_ble_eq_true rfl⟩ dX0_make_108 (fun w hw => ?_)
  subst hw
  exact hret _ _ (some q1) _ dX0_make_111 ⟨_, rfl, rfl⟩

set_option maxHeartbeats 4000000 in
set_option maxRecDepth 100000 in
theorem ctX0_make {E : gE} {ws : va_W} {k : Nat} (hk : k < 7) (x1 x2 x3 : Int32) : gMq yX0_make (.code yX0_make cX0_make 4 (some (.object "ChiefGrades$Chief")) :: gU) ({ frames := 4, cells := 1, slots := 4, locals := 84 } : Room) 1 4 E [.int (nI k), .int x1, .int x2, .int x3] ws (fun r w => ∃ b, r = some b ∧ w = [(b, .inr (gKc.getD k 0, [.int (nI k), .int x1, .int x2, .int x3]))] ++ ws) := by
  match k, hk with
  | 0, _ => exact ctX0_make_k0 x1 x2 x3
  | 1, _ => exact ctX0_make_k1 x1 x2 x3
  | 2, _ => exact ctX0_make_k2 x1 x2 x3
  | 3, _ => exact ctX0_make_k3 x1 x2 x3
  | 4, _ => exact ctX0_make_k4 x1 x2 x3
  | 5, _ => exact ctX0_make_k5 x1 x2 x3
  | 6, _ => exact ctX0_make_k6 x1 x2 x3
