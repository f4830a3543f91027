/-! chief, house: they make objects; written by wip/whole/mach/ch.py -/
theorem u_192 : Cond.fieldLink RX11 91 "ChiefGrades$World" "chief" "[LChiefGrades$Chief;" ∈ gU := gu_in (List.mem_of_getElem? (i := 192) (by decide +kernel)) rfl
theorem u_521 : Cond.methodLink RX11 95 yX0_make ∈ gU := gu_in (List.mem_of_getElem? (i := 521) (by decide +kernel)) rfl
theorem u_522 : Cond.static yX0_make ∈ gU := gu_in (List.mem_of_getElem? (i := 522) (by decide +kernel)) rfl
theorem u_523 : Cond.code yX0_make cX0_make 4 (some (.object "ChiefGrades$Chief")) ∈ gU := gu_in (List.mem_of_getElem? (i := 523) (by decide +kernel)) rfl
theorem u_354 : Cond.classLink RX11 53 RX2 ∈ gU := gu_in (List.mem_of_getElem? (i := 354) (by decide +kernel)) rfl
theorem u_355 : Cond.methodLink RX11 55 yX2_init ∈ gU := gu_in (List.mem_of_getElem? (i := 355) (by decide +kernel)) rfl
theorem u_356 : Cond.methodLink RX11 58 yX2_read ∈ gU := gu_in (List.mem_of_getElem? (i := 356) (by decide +kernel)) rfl
theorem u_357 : Cond.instanceMethod yX2_read ∈ gU := gu_in (List.mem_of_getElem? (i := 357) (by decide +kernel)) rfl
theorem u_358 : Cond.selects RX2 yX2_read yX2_read ∈ gU := gu_in (List.mem_of_getElem? (i := 358) (by decide +kernel)) rfl
theorem u_359 : Cond.code yX2_read cX2_read 3 (some .int) ∈ gU := gu_in (List.mem_of_getElem? (i := 359) (by decide +kernel)) rfl
theorem qs_X0_make : yX0_make.cls ≠ "java/lang/invoke/MethodHandle" ∧ yX0_make.cls ≠ "java/lang/invoke/VarHandle" ∧ (parseMethodDescriptor yX0_make.desc).map (fun d => d.parameters.length) = some 4 := by decide +kernel

def pX11_chief (c x1 x2 x3 : Int32) : Option (Option Int32) :=
  if x1 < 0 then some (some (-1)) else if x1 < 7 then
    gbd (pX11_isWithin x2 9) (fun z1 => if z1 = 0 then some (some (-2)) else
      gbd (pX11_isWithin x3 9) (fun z2 => if z2 = 0 then some (some (-2)) else
        if c < 4 then (if c < 0 then none else some none) else some (some (-4)))) else some (some (-1))

set_option maxHeartbeats 4000000 in
set_option maxRecDepth 100000 in
theorem ctX11_chief {E : gE} {q : Nat → Nat} {r : Nat → Nat → Nat} {F : gF} (hF : gFz E F) (o0 : Nat → Int32) (A0 : Nat → Nat → Int32) (C0 : Nat → Option Nat) (h0 : Nat) (o1 : Nat → Int32) (A1 : Nat → Nat → Int32) (C1 : Nat → Option Nat) (h1 : Nat) (o2 : Nat → Int32) (A2 : Nat → Nat → Int32) (C2 : Nat → Option Nat) (h2 : Nat) (gs0 : Int32) (gA : Nat → Nat → Int32) (tb0 : Int32) (tA0 bf0 : Nat → Int32) (hi0 : Int32) (x1 x2 x3 : Int32) {res : Option Int32} (h : pX11_chief (o0 1) x1 x2 x3 = some res) : gMi yX11_chief (.code yX11_chief cX11_chief 4 (some .int) :: gU) ({ frames := 6, cells := 1, slots := 4, locals := 260 } : Room) 1 4 E [.ref (q 5), .int x1, .int x2, .int x3] (cw E q r (gpl F) o0 A0 C0 h0 o1 A1 C1 h1 o2 A2 C2 h2 gs0 gA tb0 tA0 bf0 hi0) (fun v w => (∃ z, res = some z ∧ v = z ∧ w = cw E q r (gpl F) o0 A0 C0 h0 o1 A1 C1 h1 o2 A2 C2 h2 gs0 gA tb0 tA0 bf0 hi0) ∨ (res = none ∧ ∃ k b, k < 7 ∧ x1 = nI k ∧ v = o0 1 + 1 - 1 ∧ w = [(b, .inr (gKc.getD k 0, [.int (nI k), .int (o0 1), .int x2, .int x3]))] ++ cw E q r (gpl F) (gu o0 1 (o0 1 + 1)) A0 (va_up C0 (o0 1).toNatClampNeg (some b)) h0 o1 A1 C1 h1 o2 A2 C2 h2 gs0 gA tb0 tA0 bf0 hi0)) := by
  refine g_met_i (by decide +kernel) (Nat.le_of_ble_eq_true rfl) (fun Γ K hn hE hRm _ hret => ?_)
  subst hE
  have hlt : ∀ i, i < 4 → i < g_n Γ := fun i q => by rw [hn]; exact q
  unfold pX11_chief at h
  refine g_sub (L' := [(0, .ref (q 5)), (1, .int x1), (2, .int x2), (3, .int x3)]) [0, 1, 2, 3] rfl ?_
  refine g_iload_n K dX11_chief_0 rfl 1 rfl ?_
  obtain ⟨ht9, hf9⟩ := gi_br h; clear h
  refine g_if_lt (tgt := 10) K dX11_chief_1 (by decide) (fun qh => ?_) (fun qh => ?_)
  · have h := ht9 qh; clear ht9 hf9
    refine g_iconst (v := (-1)) K dX11_chief_10 (by decide) ?_
    obtain rfl := Option.some.inj h
    exact g_wid (c2 := 1) (s2 := 4) (Nat.zero_le _) (Nat.zero_le _) (hret _ _ _ _ dX11_chief_11 rfl (Or.inl ⟨_, rfl, rfl, rfl⟩))
  have hx0 := qh; have h := hf9 qh; clear ht9 hf9
  refine g_iload_n K dX11_chief_4 rfl 1 rfl ?_
  refine g_bipush (v := 7) K dX11_chief_5 (by decide) ?_
  obtain ⟨ht9, hf9⟩ := gi_br h; clear h
  refine g_icmp_lt (tgt := 12) K dX11_chief_7 (by decide) (fun qh => ?_) (fun qh => ?_)
  rotate_left
  · have h := hf9 qh; clear ht9 hf9
    refine g_iconst (v := (-1)) K dX11_chief_10 (by decide) ?_
    obtain rfl := Option.some.inj h
    exact g_wid (c2 := 1) (s2 := 4) (Nat.zero_le _) (Nat.zero_le _) (hret _ _ _ _ dX11_chief_11 rfl (Or.inl ⟨_, rfl, rfl, rfl⟩))
  have hx7 := qh; have h := ht9 qh; clear ht9 hf9
  obtain ⟨z_1, hz_1, h⟩ := gi_bd h
  refine g_iload_n K dX11_chief_12 rfl 2 rfl ?_
  refine g_bipush (v := 9) K dX11_chief_13 (by decide) ?_
  refine g_callSi (As := [.int x2, .int 9]) (bytes := cX11_isWithin) (maxL := 2) (ret := (some .boolean)) K (ctX11_isWithin (ws := cw (g_E Γ) q r (gpl F) o0 A0 C0 h0 o1 A1 C1 h1 o2 A2 C2 h2 gs0 gA tb0 tA0 bf0 hi0) x2 9 (res := z_1) hz_1) gc_S_RX11_84_X11_isWithin rfl qs_X11_isWithin hRm rfl rfl rfl (by decide) (Nat.le_of_ble_eq_true rfl) (by decide) dX11_chief_15 (fun v w hw => ?_)
  obtain ⟨hv9, rfl⟩ := hw; have hv9 := hv9.symm; subst hv9
  obtain ⟨ht9, hf9⟩ := gi_br h; clear h
  refine g_if_eq (tgt := 30) K dX11_chief_18 (by decide) (fun qh => ?_) (fun qh => ?_)
  · have h := ht9 qh; clear ht9 hf9
    refine g_bipush (v := (-2)) K dX11_chief_30 (by decide) ?_
    obtain rfl := Option.some.inj h
    exact g_wid (c2 := 1) (s2 := 4) (Nat.zero_le _) (Nat.zero_le _) (hret _ _ _ _ dX11_chief_32 rfl (Or.inl ⟨_, rfl, rfl, rfl⟩))
  have h := hf9 qh; clear ht9 hf9
  obtain ⟨z_2, hz_2, h⟩ := gi_bd h
  refine g_iload_n K dX11_chief_21 rfl 3 rfl ?_
  refine g_bipush (v := 9) K dX11_chief_22 (by decide) ?_
  refine g_callSi (As := [.int x3, .int 9]) (bytes := cX11_isWithin) (maxL := 2) (ret := (some .boolean)) K (ctX11_isWithin (ws := cw (g_E Γ) q r (gpl F) o0 A0 C0 h0 o1 A1 C1 h1 o2 A2 C2 h2 gs0 gA tb0 tA0 bf0 hi0) x3 9 (res := z_2) hz_2) gc_S_RX11_84_X11_isWithin rfl qs_X11_isWithin hRm rfl rfl rfl (by decide) (Nat.le_of_ble_eq_true rfl) (by decide) dX11_chief_24 (fun v w hw => ?_)
  obtain ⟨hv9, rfl⟩ := hw; have hv9 := hv9.symm; subst hv9
  obtain ⟨ht9, hf9⟩ := gi_br h; clear h
  refine g_if_ne (tgt := 33) K dX11_chief_27 (by decide) (fun qh => ?_) (fun qh => ?_)
  rotate_left
  · have h := ht9 qh; clear ht9 hf9
    refine g_bipush (v := (-2)) K dX11_chief_30 (by decide) ?_
    obtain rfl := Option.some.inj h
    exact g_wid (c2 := 1) (s2 := 4) (Nat.zero_le _) (Nat.zero_le _) (hret _ _ _ _ dX11_chief_32 rfl (Or.inl ⟨_, rfl, rfl, rfl⟩))
  have h := hf9 qh; clear ht9 hf9
  refine g_aload_n K dX11_chief_33 rfl 0 rfl ?_
  refine g_get (v := .ref (q 0)) (T := TX11) (ref := "ChiefGrades") K hin_X11 0 rfl rfl 0 (by decide) u_324 (Or.inl rfl) rfl dX11_chief_34 ?_
  refine g_get (v := .int (o0 1)) (T := TX10) (ref := "ChiefGrades$World") K hin_X10 1 rfl rfl 1 (by decide) u_163 (Or.inl rfl) rfl dX11_chief_37 ?_
  refine g_iconst (v := 4) K dX11_chief_40 (by decide) ?_
  obtain ⟨ht9, hf9⟩ := gi_br h; clear h
  refine g_icmp_lt (tgt := 47) K dX11_chief_41 (by decide) (fun qh => ?_) (fun qh => ?_)
  rotate_left
  · have h := hf9 qh; clear ht9 hf9
    refine g_bipush (v := (-4)) K dX11_chief_44 (by decide) ?_
    obtain rfl := Option.some.inj h
    exact g_wid (c2 := 1) (s2 := 4) (Nat.zero_le _) (Nat.zero_le _) (hret _ _ _ _ dX11_chief_46 rfl (Or.inl ⟨_, rfl, rfl, rfl⟩))
  have hc4 := qh; have h := ht9 qh; clear ht9 hf9
  obtain ⟨ht9, hf9⟩ := gi_br h; clear h
  have hc0 : ¬ o0 1 < 0 := fun z => by cases ht9 z
  have h := hf9 hc0; clear ht9 hf9
  obtain rfl := Option.some.inj h
  obtain ⟨k, hk, rfl⟩ : ∃ k, k < 7 ∧ x1 = nI k := by
    rcases x_lt x1 (n := 7) (by decide) with ⟨k, hk, e⟩ | z
    · exact ⟨k, hk, e⟩
    · exact absurd z (fun z => z.elim hx0 (fun z => (Int32.not_le.mpr hx7) z))
  have hin : vp_in (o0 1) 4 := by
    rcases x_lt (o0 1) (n := 4) (by decide) with ⟨j, hj, e⟩ | z
    · rw [e]; unfold vp_in; rw [n_cl (by omega)]; exact fun z => z.elim (by rw [← e]; exact hc0) (fun z => by omega)
    · exact absurd z (fun z => z.elim hc0 (fun z => (Int32.not_le.mpr hc4) z))
  refine g_aload_n K dX11_chief_47 rfl 0 rfl ?_
  refine g_get (v := .ref (q 0)) (T := TX11) (ref := "ChiefGrades") K hin_X11 0 rfl rfl 0 (by decide) u_324 (Or.inl rfl) rfl dX11_chief_48 ?_
  refine g_get (v := .ref (r 0 13)) (T := TX10) (ref := "ChiefGrades$World") K hin_X10 1 rfl rfl 13 (by decide) u_192 (Or.inl rfl) rfl dX11_chief_51 ?_
  refine g_aload_n K dX11_chief_54 rfl 0 rfl ?_
  refine g_get (v := .ref (q 0)) (T := TX11) (ref := "ChiefGrades") K hin_X11 0 rfl rfl 0 (by decide) u_324 (Or.inl rfl) rfl dX11_chief_55 ?_
  refine g_get (v := .int (o0 1)) (T := TX10) (ref := "ChiefGrades$World") K hin_X10 1 rfl rfl 1 (by decide) u_163 (Or.inl rfl) rfl dX11_chief_58 ?_
  refine g_iload_n K dX11_chief_61 rfl 1 rfl ?_
  refine g_aload_n K dX11_chief_62 rfl 0 rfl ?_
  refine g_get (v := .ref (q 0)) (T := TX11) (ref := "ChiefGrades") K hin_X11 0 rfl rfl 0 (by decide) u_324 (Or.inl rfl) rfl dX11_chief_63 ?_
  refine g_get (v := .int (o0 1)) (T := TX10) (ref := "ChiefGrades$World") K hin_X10 1 rfl rfl 1 (by decide) u_163 (Or.inl rfl) rfl dX11_chief_66 ?_
  refine g_iload_n K dX11_chief_69 rfl 2 rfl ?_
  refine g_iload_n K dX11_chief_70 rfl 3 rfl ?_
  refine g_callSq (As := [.int (nI k), .int (o0 1), .int x2, .int x3]) (bytes := cX0_make) (maxL := 4) (ret := (some (.object "ChiefGrades$Chief"))) K (ctX0_make (ws := cw (g_E Γ) q r (gpl F) o0 A0 C0 h0 o1 A1 C1 h1 o2 A2 C2 h2 gs0 gA tb0 tA0 bf0 hi0) hk (o0 1) x2 x3) (gu_S u_521 u_522 u_73 u_523) rfl qs_X0_make hRm rfl rfl rfl ⟨Nat.le_of_ble_eq_true rfl, Nat.le_of_ble_eq_true rfl⟩ (Nat.le_of_ble_eq_true rfl) ⟨Nat.le_of_ble_eq_true rfl, Nat.le_of_ble_eq_true rfl⟩ dX11_chief_71 (fun v w hw => ?_)
  obtain ⟨b, rfl, rfl⟩ := hw
  refine g_aastW (k := k) (ws' := [(b, .inr (gKc.getD k 0, [.int (nI k), .int (o0 1), .int x2, .int x3]))] ++ cw (g_E Γ) q r (gpl F) o0 A0 (va_up C0 (o0 1).toNatClampNeg (some b)) h0 o1 A1 C1 h1 o2 A2 C2 h2 gs0 gA tb0 tA0 bf0 hi0) K 12 0 rfl hin hk rfl dX11_chief_74 rfl ?_
  refine g_aload_n K dX11_chief_75 rfl 0 rfl ?_
  refine g_get (v := .ref (q 0)) (T := TX11) (ref := "ChiefGrades") K hin_X11 1 rfl rfl 0 (by decide) u_324 (Or.inl rfl) rfl dX11_chief_76 ?_
  refine g_dup K dX11_chief_79 rfl ?_
  refine g_get (v := .int (o0 1)) (T := TX10) (ref := "ChiefGrades$World") K hin_X10 2 rfl rfl 1 (by decide) u_163 (Or.inl rfl) rfl dX11_chief_80 ?_
  refine g_iconst (v := 1) K dX11_chief_83 (by decide) ?_
  refine g_iadd K dX11_chief_84 ?_
  refine g_put (T := TX10) (ref := "ChiefGrades$World") K hin_X10 tyX10_ok nmX10 2 rfl rfl 1 (by decide) u_163 rfl rfl rfl rfl rfl (Nat.le_of_ble_eq_true rfl) dX11_chief_85 (ws' := [(b, .inr (gKc.getD k 0, [.int (nI k), .int (o0 1), .int x2, .int x3]))] ++ cw (g_E Γ) q r (gpl F) (gu o0 1 ((o0 1) + 1)) A0 (va_up C0 (o0 1).toNatClampNeg (some b)) h0 o1 A1 C1 h1 o2 A2 C2 h2 gs0 gA tb0 tA0 bf0 hi0) rfl ?_
  refine g_aload_n K dX11_chief_88 rfl 0 rfl ?_
  refine g_get (v := .ref (q 0)) (T := TX11) (ref := "ChiefGrades") K hin_X11 1 rfl rfl 0 (by decide) u_324 (Or.inl rfl) rfl dX11_chief_89 ?_
  refine g_get (v := .int ((gu o0 1 ((o0 1) + 1)) 1)) (T := TX10) (ref := "ChiefGrades$World") K hin_X10 2 rfl rfl 1 (by decide) u_163 (Or.inl rfl) rfl dX11_chief_92 ?_
  refine g_iconst (v := 1) K dX11_chief_95 (by decide) ?_
  refine g_isub K dX11_chief_96 ?_
  exact hret _ _ _ _ dX11_chief_97 rfl (Or.inr ⟨rfl, k, b, hk, rfl, rfl, rfl⟩)

/-- the cells without the tape -/
def cwT (E : gE) (q : Nat → Nat) (r : Nat → Nat → Nat) (pl : Nat) (o0 : Nat → Int32) (A0 : Nat → Nat → Int32) (C0 : Nat → Option Nat) (h0 : Nat) (o1 : Nat → Int32) (A1 : Nat → Nat → Int32) (C1 : Nat → Option Nat) (h1 : Nat) (o2 : Nat → Int32) (A2 : Nat → Nat → Int32) (C2 : Nat → Option Nat) (h2 : Nat) (gs : Int32) (gA : Nat → Nat → Int32) (tb : Int32) (tA bf : Nat → Int32) (hi : Int32) : va_W := [(q 5, .inr (11, [.ref (q 0), .ref (q 1), .ref (q 2), .ref (q 3), .ref (q 4), .ref (r 5 5), .int hi])),
  (q 0, .inr (10, [.int (o0 0), .int (o0 1), .int (o0 2), .int (o0 3), .int (o0 4), .int (o0 5), .int (o0 6), .int (o0 7), .ref (r 0 8), .ref (r 0 9), .ref (r 0 10), .ref (r 0 11), .ref (r 0 12), .ref (r 0 13), .ref (r 0 14), .ref (r 0 15), .ref (r 0 16), .ref (r 0 17), .ref h0])),
  (q 1, .inr (10, [.int (o1 0), .int (o1 1), .int (o1 2), .int (o1 3), .int (o1 4), .int (o1 5), .int (o1 6), .int (o1 7), .ref (r 1 8), .ref (r 1 9), .ref (r 1 10), .ref (r 1 11), .ref (r 1 12), .ref (r 1 13), .ref (r 1 14), .ref (r 1 15), .ref (r 1 16), .ref (r 1 17), .ref h1])),
  (q 2, .inr (10, [.int (o2 0), .int (o2 1), .int (o2 2), .int (o2 3), .int (o2 4), .int (o2 5), .int (o2 6), .int (o2 7), .ref (r 2 8), .ref (r 2 9), .ref (r 2 10), .ref (r 2 11), .ref (r 2 12), .ref (r 2 13), .ref (r 2 14), .ref (r 2 15), .ref (r 2 16), .ref (r 2 17), .ref h2])),
  (q 3, .inr (1, [.ref (r 3 0), .ref (r 3 1), .ref (r 3 2), .ref (r 3 3), .int gs, .ref (r 3 5), .ref pl])),
  (q 4, .inr (8, [.ref (r 4 0), .int tb])),
  (r 0 8, .inl (gI E, 10, .inl (A0 8))),
  (r 0 9, .inl (gI E, 10, .inl (A0 9))),
  (r 0 10, .inl (gI E, 10, .inl (A0 10))),
  (r 0 11, .inl (gI E, 10, .inl (A0 11))),
  (r 0 12, .inl (gI E, 10, .inl (A0 12))),
  (r 0 13, .inl (gO E, 4, .inr (.inr (.inr (.inr C0))))),
  (r 0 14, .inl (gI E, 20, .inl (A0 14))),
  (r 0 15, .inl (gI E, 20, .inl (A0 15))),
  (r 0 16, .inl (gI E, 20, .inl (A0 16))),
  (r 1 8, .inl (gI E, 10, .inl (A1 8))),
  (r 1 9, .inl (gI E, 10, .inl (A1 9))),
  (r 1 10, .inl (gI E, 10, .inl (A1 10))),
  (r 1 11, .inl (gI E, 10, .inl (A1 11))),
  (r 1 12, .inl (gI E, 10, .inl (A1 12))),
  (r 1 13, .inl (gO E, 4, .inr (.inr (.inr (.inr C1))))),
  (r 1 14, .inl (gI E, 20, .inl (A1 14))),
  (r 1 15, .inl (gI E, 20, .inl (A1 15))),
  (r 1 16, .inl (gI E, 20, .inl (A1 16))),
  (r 1 17, .inl (gCh E, 100, .inl (A1 17))),
  (r 2 8, .inl (gI E, 10, .inl (A2 8))),
  (r 2 9, .inl (gI E, 10, .inl (A2 9))),
  (r 2 10, .inl (gI E, 10, .inl (A2 10))),
  (r 2 11, .inl (gI E, 10, .inl (A2 11))),
  (r 2 12, .inl (gI E, 10, .inl (A2 12))),
  (r 2 13, .inl (gO E, 4, .inr (.inr (.inr (.inr C2))))),
  (r 2 14, .inl (gI E, 20, .inl (A2 14))),
  (r 2 15, .inl (gI E, 20, .inl (A2 15))),
  (r 2 16, .inl (gI E, 20, .inl (A2 16))),
  (r 2 17, .inl (gCh E, 100, .inl (A2 17))),
  (r 3 0, .inl (gI E, 10, .inl (gA 0))),
  (r 3 1, .inl (gI E, 10, .inl (gA 1))),
  (r 3 2, .inl (gI E, 10, .inl (gA 2))),
  (r 3 3, .inl (gI E, 10, .inl (gA 3))),
  (r 3 5, .inl (gI E, 6, .inl (gA 5))),
  (r 4 0, .inl (gI E, 20, .inl tA)),
  (r 5 5, .inl (gI E, 10, .inl bf))]

def hRRf (a b c : Nat) : Nat → Nat
  | 7 => a
  | 8 => b
  | _ => c
def hOf (T : Nat) : Nat → Int32
  | 0 => 10
  | 2 => 10
  | 4 => nI T
  | _ => 0
def hAf (f : Nat → Int32) : Nat → Nat → Int32
  | 3 => f
  | _ => fun _ => 0

theorem hs_T {T : Nat} (hT : T ≤ 100) : (if (0 : Int32) < (if Int32.ofNat 100 < nI T then Int32.ofNat 100 else nI T) then (if Int32.ofNat 100 < nI T then Int32.ofNat 100 else nI T) else 0) = nI T := by
  have e : (Int32.ofNat 100 < nI T) = False := eq_false (by rw [show Int32.ofNat 100 = nI 100 from rfl, n_lt (by omega) (by omega)]; omega)
  simp only [e, if_false]
  by_cases z : (0 : Int32) < nI T
  · rw [if_pos z]
  · rw [if_neg z]
    rw [show (0 : Int32) = nI 0 from rfl, n_lt (by omega) (by omega)] at z
    have : T = 0 := by omega
    subst this; rfl

set_option maxHeartbeats 4000000 in
set_option maxRecDepth 100000 in
theorem ctX11_house {E : gE} {q : Nat → Nat} {r : Nat → Nat → Nat} {F : gF} (hF : gFz E F) (o0 : Nat → Int32) (A0 : Nat → Nat → Int32) (C0 : Nat → Option Nat) (h0 : Nat) (o1 : Nat → Int32) (A1 : Nat → Nat → Int32) (C1 : Nat → Option Nat) (h1 : Nat) (o2 : Nat → Int32) (A2 : Nat → Nat → Int32) (C2 : Nat → Option Nat) (h2 : Nat) (gs0 : Int32) (gA : Nat → Nat → Int32) (tb0 : Int32) (tA0 bf0 : Nat → Int32) (hi0 : Int32) {T : Nat} {res : Int32 × ((Nat → Int32)) × ((Nat → Int32)) × ((Nat → Int32)) × Int32 × Int32 × Int32 × Int32 × Int32 × Int32} (h4 : o0 4 = nI T) (hT : T ≤ 100) (h : o0 2 < 5 → pX2_read T (A0 17) (nI T) (fun _ => 0) (fun _ => 0) (fun _ => 0) 10 0 10 0 0 0 = some res) : gMi yX11_house (.code yX11_house cX11_house 3 (some .int) :: gU) ({ frames := 60, cells := 4, slots := 311, locals := 2000 } : Room) 4 311 E [.ref (q 5)] (cw E q r (gpl F) o0 A0 C0 h0 o1 A1 C1 h1 o2 A2 C2 h2 gs0 gA tb0 tA0 bf0 hi0) (fun v w => (¬ o0 2 < 5 ∧ v = -4 ∧ w = cw E q r (gpl F) o0 A0 C0 h0 o1 A1 C1 h1 o2 A2 C2 h2 gs0 gA tb0 tA0 bf0 hi0) ∨ (o0 2 < 5 ∧ ((¬ res.1 < 0 ∧ v = -10 - res.1 ∧ w = cw E q r (gpl F) (gu o0 4 0) A0 C0 h0 o1 A1 C1 h1 o2 A2 C2 h2 gs0 gA tb0 tA0 bf0 hi0) ∨ (res.1 < 0 ∧ v = o0 2 + 1 - 1 ∧ ∃ h a b c, w = [(h, .inr (2, [.int (res.2.2.2.2.1), .int (res.2.2.2.2.2.1), .int (res.2.2.2.2.2.2.1), .ref (r 0 17), .int (nI T), .int (res.2.2.2.2.2.2.2.1), .int (res.2.2.2.2.2.2.2.2.1), .ref a, .ref b, .ref c, .int (res.2.2.2.2.2.2.2.2.2)])), (a, .inl (gI E, T, .inl (res.2.1))), (b, .inl (gI E, T, .inl (res.2.2.1))), (c, .inl (gI E, T, .inl (res.2.2.2.1)))] ++ cw E q r (gpl F) (gu (gu o0 4 0) 2 (o0 2 + 1)) A0 C0 h o1 A1 C1 h1 o2 A2 C2 h2 gs0 gA tb0 tA0 bf0 hi0)))) := by
  refine g_met_i (by decide +kernel) (Nat.le_of_ble_eq_true rfl) (fun Γ K hn hE hRm _ hret => ?_)
  subst hE
  have hlt : ∀ i, i < 3 → i < g_n Γ := fun i q => by rw [hn]; exact q
  refine g_sub (L' := [(0, .ref (q 5))]) [0] rfl ?_
  refine g_aload_n K dX11_house_0 rfl 0 rfl ?_
  refine g_get (v := .ref (q 0)) (T := TX11) (ref := "ChiefGrades") K hin_X11 0 rfl rfl 0 (by decide) u_324 (Or.inl rfl) rfl dX11_house_1 ?_
  refine g_get (v := .int (o0 2)) (T := TX10) (ref := "ChiefGrades$World") K hin_X10 1 rfl rfl 2 (by decide) u_165 (Or.inl rfl) rfl dX11_house_4 ?_
  refine g_iconst (v := 5) K dX11_house_7 (by decide) ?_
  refine g_icmp_lt (tgt := 14) K dX11_house_8 (by decide) (fun qh => ?_) (fun qh => ?_)
  rotate_left
  · refine g_bipush (v := (-4)) K dX11_house_11 (by decide) ?_
    exact g_wid (c2 := 4) (s2 := 311) (Nat.zero_le _) (Nat.zero_le _) (hret _ _ _ _ dX11_house_13 rfl (Or.inl ⟨qh, rfl, rfl⟩))
  have qh5 := qh
  have h := h qh
  refine g_new (T := TX2) (ty0 := tyX2) (ci := 2) K hin_X2 tyX2_ok u_354 u_106 u_70 rfl dfX2 hRm ⟨Nat.le_of_ble_eq_true rfl, Nat.le_of_ble_eq_true rfl⟩ dX11_house_14 (fun q1 => ?_)
  refine g_dup K dX11_house_17 rfl ?_
  refine g_aload_n K dX11_house_18 rfl 0 rfl ?_
  refine g_get (v := .ref (q 0)) (T := TX11) (ref := "ChiefGrades") K hin_X11 1 rfl rfl 0 (by decide) u_324 (Or.inl rfl) rfl dX11_house_19 ?_
  refine g_get (v := .ref (r 0 17)) (T := TX10) (ref := "ChiefGrades$World") K hin_X10 2 rfl rfl 17 (by decide) u_200 (Or.inl rfl) rfl dX11_house_22 ?_
  refine g_aload_n K dX11_house_25 rfl 0 rfl ?_
  refine g_get (v := .ref (q 0)) (T := TX11) (ref := "ChiefGrades") K hin_X11 1 rfl rfl 0 (by decide) u_324 (Or.inl rfl) rfl dX11_house_26 ?_
  refine g_get (v := .int (o0 4)) (T := TX10) (ref := "ChiefGrades$World") K hin_X10 2 rfl rfl 4 (by decide) u_168 (Or.inl rfl) rfl dX11_house_29 ?_
  rw [h4]
  refine g_callIv (As := [.ref (r 0 17), .int (nI T)]) (bytes := cX2_init) (maxL := 3) K (ctX2_init (ws := cw (g_E Γ) q r (gpl F) o0 A0 C0 h0 o1 A1 C1 h1 o2 A2 C2 h2 gs0 gA tb0 tA0 bf0 hi0) q1 (r 0 17) 15 100 T (nI T) rfl hT (hs_T hT)) (gu_c u_109) rfl u_70 u_355 u_108 rfl qi_X2_init hRm rfl rfl rfl ⟨Nat.le_of_ble_eq_true rfl, Nat.le_of_ble_eq_true rfl⟩ (Nat.le_of_ble_eq_true rfl) ⟨Nat.le_of_ble_eq_true rfl, Nat.le_of_ble_eq_true rfl⟩ dX11_house_32 (fun w hw => ?_)
  obtain ⟨a, b, c, rfl⟩ := hw
  refine g_astore_n K dX11_house_35 rfl (hlt 1 (by decide)) rfl ?_
  refine g_aload_n K dX11_house_36 rfl 0 rfl ?_
  refine g_ws (ws' := [(c, .inl (gI (g_E Γ), T, .inl (fun _ => 0))), (b, .inl (gI (g_E Γ), T, .inl (fun _ => 0))), (a, .inl (gI (g_E Γ), T, .inl (fun _ => 0))), (q1, .inr (2, [.int 10, .int 0, .int 10, .ref (r 0 17), .int (nI T), .int 0, .int 0, .ref a, .ref b, .ref c, .int 0])), (q 5, .inr (11, [.ref (q 0), .ref (q 1), .ref (q 2), .ref (q 3), .ref (q 4), .ref (r 5 5), .int hi0])), (q 0, .inr (10, [.int (o0 0), .int (o0 1), .int (o0 2), .int (o0 3), .int (o0 4), .int (o0 5), .int (o0 6), .int (o0 7), .ref (r 0 8), .ref (r 0 9), .ref (r 0 10), .ref (r 0 11), .ref (r 0 12), .ref (r 0 13), .ref (r 0 14), .ref (r 0 15), .ref (r 0 16), .ref (r 0 17), .ref h0])), (q 1, .inr (10, [.int (o1 0), .int (o1 1), .int (o1 2), .int (o1 3), .int (o1 4), .int (o1 5), .int (o1 6), .int (o1 7), .ref (r 1 8), .ref (r 1 9), .ref (r 1 10), .ref (r 1 11), .ref (r 1 12), .ref (r 1 13), .ref (r 1 14), .ref (r 1 15), .ref (r 1 16), .ref (r 1 17), .ref h1])), (q 2, .inr (10, [.int (o2 0), .int (o2 1), .int (o2 2), .int (o2 3), .int (o2 4), .int (o2 5), .int (o2 6), .int (o2 7), .ref (r 2 8), .ref (r 2 9), .ref (r 2 10), .ref (r 2 11), .ref (r 2 12), .ref (r 2 13), .ref (r 2 14), .ref (r 2 15), .ref (r 2 16), .ref (r 2 17), .ref h2])), (q 3, .inr (1, [.ref (r 3 0), .ref (r 3 1), .ref (r 3 2), .ref (r 3 3), .int gs0, .ref (r 3 5), .ref (gpl F)])), (q 4, .inr (8, [.ref (r 4 0), .int tb0])), (r 0 8, .inl (gI (g_E Γ), 10, .inl (A0 8))), (r 0 9, .inl (gI (g_E Γ), 10, .inl (A0 9))), (r 0 10, .inl (gI (g_E Γ), 10, .inl (A0 10))), (r 0 11, .inl (gI (g_E Γ), 10, .inl (A0 11))), (r 0 12, .inl (gI (g_E Γ), 10, .inl (A0 12))), (r 0 13, .inl (gO (g_E Γ), 4, .inr (.inr (.inr (.inr C0))))), (r 0 14, .inl (gI (g_E Γ), 20, .inl (A0 14))), (r 0 15, .inl (gI (g_E Γ), 20, .inl (A0 15))), (r 0 16, .inl (gI (g_E Γ), 20, .inl (A0 16))), (r 0 17, .inl (gCh (g_E Γ), 100, .inl (A0 17))), (r 1 8, .inl (gI (g_E Γ), 10, .inl (A1 8))), (r 1 9, .inl (gI (g_E Γ), 10, .inl (A1 9))), (r 1 10, .inl (gI (g_E Γ), 10, .inl (A1 10))), (r 1 11, .inl (gI (g_E Γ), 10, .inl (A1 11))), (r 1 12, .inl (gI (g_E Γ), 10, .inl (A1 12))), (r 1 13, .inl (gO (g_E Γ), 4, .inr (.inr (.inr (.inr C1))))), (r 1 14, .inl (gI (g_E Γ), 20, .inl (A1 14))), (r 1 15, .inl (gI (g_E Γ), 20, .inl (A1 15))), (r 1 16, .inl (gI (g_E Γ), 20, .inl (A1 16))), (r 1 17, .inl (gCh (g_E Γ), 100, .inl (A1 17))), (r 2 8, .inl (gI (g_E Γ), 10, .inl (A2 8))), (r 2 9, .inl (gI (g_E Γ), 10, .inl (A2 9))), (r 2 10, .inl (gI (g_E Γ), 10, .inl (A2 10))), (r 2 11, .inl (gI (g_E Γ), 10, .inl (A2 11))), (r 2 12, .inl (gI (g_E Γ), 10, .inl (A2 12))), (r 2 13, .inl (gO (g_E Γ), 4, .inr (.inr (.inr (.inr C2))))), (r 2 14, .inl (gI (g_E Γ), 20, .inl (A2 14))), (r 2 15, .inl (gI (g_E Γ), 20, .inl (A2 15))), (r 2 16, .inl (gI (g_E Γ), 20, .inl (A2 16))), (r 2 17, .inl (gCh (g_E Γ), 100, .inl (A2 17))), (r 3 0, .inl (gI (g_E Γ), 10, .inl (gA 0))), (r 3 1, .inl (gI (g_E Γ), 10, .inl (gA 1))), (r 3 2, .inl (gI (g_E Γ), 10, .inl (gA 2))), (r 3 3, .inl (gI (g_E Γ), 10, .inl (gA 3))), (r 3 5, .inl (gI (g_E Γ), 6, .inl (gA 5))), (r 4 0, .inl (gI (g_E Γ), 20, .inl tA0)), (r 5 5, .inl (gI (g_E Γ), 10, .inl bf0))] ++ []) rfl ?_
  refine g_perm (ws := []) [(c, .inl (gI (g_E Γ), T, .inl (fun _ => 0))), (b, .inl (gI (g_E Γ), T, .inl (fun _ => 0))), (a, .inl (gI (g_E Γ), T, .inl (fun _ => 0))), (q1, .inr (2, [.int 10, .int 0, .int 10, .ref (r 0 17), .int (nI T), .int 0, .int 0, .ref a, .ref b, .ref c, .int 0])), (q 5, .inr (11, [.ref (q 0), .ref (q 1), .ref (q 2), .ref (q 3), .ref (q 4), .ref (r 5 5), .int hi0])), (q 0, .inr (10, [.int (o0 0), .int (o0 1), .int (o0 2), .int (o0 3), .int (o0 4), .int (o0 5), .int (o0 6), .int (o0 7), .ref (r 0 8), .ref (r 0 9), .ref (r 0 10), .ref (r 0 11), .ref (r 0 12), .ref (r 0 13), .ref (r 0 14), .ref (r 0 15), .ref (r 0 16), .ref (r 0 17), .ref h0])), (q 1, .inr (10, [.int (o1 0), .int (o1 1), .int (o1 2), .int (o1 3), .int (o1 4), .int (o1 5), .int (o1 6), .int (o1 7), .ref (r 1 8), .ref (r 1 9), .ref (r 1 10), .ref (r 1 11), .ref (r 1 12), .ref (r 1 13), .ref (r 1 14), .ref (r 1 15), .ref (r 1 16), .ref (r 1 17), .ref h1])), (q 2, .inr (10, [.int (o2 0), .int (o2 1), .int (o2 2), .int (o2 3), .int (o2 4), .int (o2 5), .int (o2 6), .int (o2 7), .ref (r 2 8), .ref (r 2 9), .ref (r 2 10), .ref (r 2 11), .ref (r 2 12), .ref (r 2 13), .ref (r 2 14), .ref (r 2 15), .ref (r 2 16), .ref (r 2 17), .ref h2])), (q 3, .inr (1, [.ref (r 3 0), .ref (r 3 1), .ref (r 3 2), .ref (r 3 3), .int gs0, .ref (r 3 5), .ref (gpl F)])), (q 4, .inr (8, [.ref (r 4 0), .int tb0])), (r 0 8, .inl (gI (g_E Γ), 10, .inl (A0 8))), (r 0 9, .inl (gI (g_E Γ), 10, .inl (A0 9))), (r 0 10, .inl (gI (g_E Γ), 10, .inl (A0 10))), (r 0 11, .inl (gI (g_E Γ), 10, .inl (A0 11))), (r 0 12, .inl (gI (g_E Γ), 10, .inl (A0 12))), (r 0 13, .inl (gO (g_E Γ), 4, .inr (.inr (.inr (.inr C0))))), (r 0 14, .inl (gI (g_E Γ), 20, .inl (A0 14))), (r 0 15, .inl (gI (g_E Γ), 20, .inl (A0 15))), (r 0 16, .inl (gI (g_E Γ), 20, .inl (A0 16))), (r 0 17, .inl (gCh (g_E Γ), 100, .inl (A0 17))), (r 1 8, .inl (gI (g_E Γ), 10, .inl (A1 8))), (r 1 9, .inl (gI (g_E Γ), 10, .inl (A1 9))), (r 1 10, .inl (gI (g_E Γ), 10, .inl (A1 10))), (r 1 11, .inl (gI (g_E Γ), 10, .inl (A1 11))), (r 1 12, .inl (gI (g_E Γ), 10, .inl (A1 12))), (r 1 13, .inl (gO (g_E Γ), 4, .inr (.inr (.inr (.inr C1))))), (r 1 14, .inl (gI (g_E Γ), 20, .inl (A1 14))), (r 1 15, .inl (gI (g_E Γ), 20, .inl (A1 15))), (r 1 16, .inl (gI (g_E Γ), 20, .inl (A1 16))), (r 1 17, .inl (gCh (g_E Γ), 100, .inl (A1 17))), (r 2 8, .inl (gI (g_E Γ), 10, .inl (A2 8))), (r 2 9, .inl (gI (g_E Γ), 10, .inl (A2 9))), (r 2 10, .inl (gI (g_E Γ), 10, .inl (A2 10))), (r 2 11, .inl (gI (g_E Γ), 10, .inl (A2 11))), (r 2 12, .inl (gI (g_E Γ), 10, .inl (A2 12))), (r 2 13, .inl (gO (g_E Γ), 4, .inr (.inr (.inr (.inr C2))))), (r 2 14, .inl (gI (g_E Γ), 20, .inl (A2 14))), (r 2 15, .inl (gI (g_E Γ), 20, .inl (A2 15))), (r 2 16, .inl (gI (g_E Γ), 20, .inl (A2 16))), (r 2 17, .inl (gCh (g_E Γ), 100, .inl (A2 17))), (r 3 0, .inl (gI (g_E Γ), 10, .inl (gA 0))), (r 3 1, .inl (gI (g_E Γ), 10, .inl (gA 1))), (r 3 2, .inl (gI (g_E Γ), 10, .inl (gA 2))), (r 3 3, .inl (gI (g_E Γ), 10, .inl (gA 3))), (r 3 5, .inl (gI (g_E Γ), 6, .inl (gA 5))), (r 4 0, .inl (gI (g_E Γ), 20, .inl tA0)), (r 5 5, .inl (gI (g_E Γ), 10, .inl bf0))] (hw (g_E Γ) q1 (r 0 17) (hRRf a b c) T (hOf T) (hAf (A0 17)) ++ cwT (g_E Γ) q r (gpl F) o0 A0 C0 h0 o1 A1 C1 h1 o2 A2 C2 h2 gs0 gA tb0 tA0 bf0 hi0) [3, 19, 2, 1, 0, 4, 5, 6, 7, 8, 9, 10, 11, 12, 13, 14, 15, 16, 17, 18, 20, 21, 22, 23, 24, 25, 26, 27, 28, 29, 30, 31, 32, 33, 34, 35, 36, 37, 38, 39, 40, 41, 42, 43, 44, 45, 46] (by decide) rfl ?_
  refine g_ws (ws' := hw (g_E Γ) q1 (r 0 17) (hRRf a b c) T (hOf T) (hAf (A0 17)) ++ ([] ++ cwT (g_E Γ) q r (gpl F) o0 A0 C0 h0 o1 A1 C1 h1 o2 A2 C2 h2 gs0 gA tb0 tA0 bf0 hi0)) (List.append_nil _) ?_
  refine g_cutVi (As := []) (bytes := cX2_read) (maxL := 3) (ret := (some .int)) K [] (cwT (g_E Γ) q r (gpl F) o0 A0 C0 h0 o1 A1 C1 h1 o2 A2 C2 h2 gs0 gA tb0 tA0 bf0 hi0) (ctX2_read (E := gExt (g_E Γ) []) (hb := q1) (tx := r 0 17) (N := T) (rr := (hRRf a b c)) (hOf T) (hAf (A0 17)) (res := res) h) 0 rfl rfl rfl (gu_V u_356 u_357 u_358 u_70 u_359) rfl qv_X2_read hRm rfl rfl rfl (by decide) (Nat.le_of_ble_eq_true rfl) (by decide) dX11_house_37 (fun v w hw => ?_)
  obtain ⟨hv9, rfl⟩ := hw; have hv9 := hv9.symm; subst hv9
  refine g_ws (ws' := [(q1, .inr (2, [.int (res.2.2.2.2.1), .int (res.2.2.2.2.2.1), .int (res.2.2.2.2.2.2.1), .ref (r 0 17), .int (nI T), .int (res.2.2.2.2.2.2.2.1), .int (res.2.2.2.2.2.2.2.2.1), .ref a, .ref b, .ref c, .int (res.2.2.2.2.2.2.2.2.2)])), (r 0 17, .inl (gCh (g_E Γ), 100, .inl (A0 17))), (a, .inl (gI (g_E Γ), T, .inl (res.2.1))), (b, .inl (gI (g_E Γ), T, .inl (res.2.2.1))), (c, .inl (gI (g_E Γ), T, .inl (res.2.2.2.1))), (q 5, .inr (11, [.ref (q 0), .ref (q 1), .ref (q 2), .ref (q 3), .ref (q 4), .ref (r 5 5), .int hi0])), (q 0, .inr (10, [.int (o0 0), .int (o0 1), .int (o0 2), .int (o0 3), .int (o0 4), .int (o0 5), .int (o0 6), .int (o0 7), .ref (r 0 8), .ref (r 0 9), .ref (r 0 10), .ref (r 0 11), .ref (r 0 12), .ref (r 0 13), .ref (r 0 14), .ref (r 0 15), .ref (r 0 16), .ref (r 0 17), .ref h0])), (q 1, .inr (10, [.int (o1 0), .int (o1 1), .int (o1 2), .int (o1 3), .int (o1 4), .int (o1 5), .int (o1 6), .int (o1 7), .ref (r 1 8), .ref (r 1 9), .ref (r 1 10), .ref (r 1 11), .ref (r 1 12), .ref (r 1 13), .ref (r 1 14), .ref (r 1 15), .ref (r 1 16), .ref (r 1 17), .ref h1])), (q 2, .inr (10, [.int (o2 0), .int (o2 1), .int (o2 2), .int (o2 3), .int (o2 4), .int (o2 5), .int (o2 6), .int (o2 7), .ref (r 2 8), .ref (r 2 9), .ref (r 2 10), .ref (r 2 11), .ref (r 2 12), .ref (r 2 13), .ref (r 2 14), .ref (r 2 15), .ref (r 2 16), .ref (r 2 17), .ref h2])), (q 3, .inr (1, [.ref (r 3 0), .ref (r 3 1), .ref (r 3 2), .ref (r 3 3), .int gs0, .ref (r 3 5), .ref (gpl F)])), (q 4, .inr (8, [.ref (r 4 0), .int tb0])), (r 0 8, .inl (gI (g_E Γ), 10, .inl (A0 8))), (r 0 9, .inl (gI (g_E Γ), 10, .inl (A0 9))), (r 0 10, .inl (gI (g_E Γ), 10, .inl (A0 10))), (r 0 11, .inl (gI (g_E Γ), 10, .inl (A0 11))), (r 0 12, .inl (gI (g_E Γ), 10, .inl (A0 12))), (r 0 13, .inl (gO (g_E Γ), 4, .inr (.inr (.inr (.inr C0))))), (r 0 14, .inl (gI (g_E Γ), 20, .inl (A0 14))), (r 0 15, .inl (gI (g_E Γ), 20, .inl (A0 15))), (r 0 16, .inl (gI (g_E Γ), 20, .inl (A0 16))), (r 1 8, .inl (gI (g_E Γ), 10, .inl (A1 8))), (r 1 9, .inl (gI (g_E Γ), 10, .inl (A1 9))), (r 1 10, .inl (gI (g_E Γ), 10, .inl (A1 10))), (r 1 11, .inl (gI (g_E Γ), 10, .inl (A1 11))), (r 1 12, .inl (gI (g_E Γ), 10, .inl (A1 12))), (r 1 13, .inl (gO (g_E Γ), 4, .inr (.inr (.inr (.inr C1))))), (r 1 14, .inl (gI (g_E Γ), 20, .inl (A1 14))), (r 1 15, .inl (gI (g_E Γ), 20, .inl (A1 15))), (r 1 16, .inl (gI (g_E Γ), 20, .inl (A1 16))), (r 1 17, .inl (gCh (g_E Γ), 100, .inl (A1 17))), (r 2 8, .inl (gI (g_E Γ), 10, .inl (A2 8))), (r 2 9, .inl (gI (g_E Γ), 10, .inl (A2 9))), (r 2 10, .inl (gI (g_E Γ), 10, .inl (A2 10))), (r 2 11, .inl (gI (g_E Γ), 10, .inl (A2 11))), (r 2 12, .inl (gI (g_E Γ), 10, .inl (A2 12))), (r 2 13, .inl (gO (g_E Γ), 4, .inr (.inr (.inr (.inr C2))))), (r 2 14, .inl (gI (g_E Γ), 20, .inl (A2 14))), (r 2 15, .inl (gI (g_E Γ), 20, .inl (A2 15))), (r 2 16, .inl (gI (g_E Γ), 20, .inl (A2 16))), (r 2 17, .inl (gCh (g_E Γ), 100, .inl (A2 17))), (r 3 0, .inl (gI (g_E Γ), 10, .inl (gA 0))), (r 3 1, .inl (gI (g_E Γ), 10, .inl (gA 1))), (r 3 2, .inl (gI (g_E Γ), 10, .inl (gA 2))), (r 3 3, .inl (gI (g_E Γ), 10, .inl (gA 3))), (r 3 5, .inl (gI (g_E Γ), 6, .inl (gA 5))), (r 4 0, .inl (gI (g_E Γ), 20, .inl tA0)), (r 5 5, .inl (gI (g_E Γ), 10, .inl bf0))] ++ []) rfl ?_
  refine g_perm (ws := []) [(q1, .inr (2, [.int (res.2.2.2.2.1), .int (res.2.2.2.2.2.1), .int (res.2.2.2.2.2.2.1), .ref (r 0 17), .int (nI T), .int (res.2.2.2.2.2.2.2.1), .int (res.2.2.2.2.2.2.2.2.1), .ref a, .ref b, .ref c, .int (res.2.2.2.2.2.2.2.2.2)])), (r 0 17, .inl (gCh (g_E Γ), 100, .inl (A0 17))), (a, .inl (gI (g_E Γ), T, .inl (res.2.1))), (b, .inl (gI (g_E Γ), T, .inl (res.2.2.1))), (c, .inl (gI (g_E Γ), T, .inl (res.2.2.2.1))), (q 5, .inr (11, [.ref (q 0), .ref (q 1), .ref (q 2), .ref (q 3), .ref (q 4), .ref (r 5 5), .int hi0])), (q 0, .inr (10, [.int (o0 0), .int (o0 1), .int (o0 2), .int (o0 3), .int (o0 4), .int (o0 5), .int (o0 6), .int (o0 7), .ref (r 0 8), .ref (r 0 9), .ref (r 0 10), .ref (r 0 11), .ref (r 0 12), .ref (r 0 13), .ref (r 0 14), .ref (r 0 15), .ref (r 0 16), .ref (r 0 17), .ref h0])), (q 1, .inr (10, [.int (o1 0), .int (o1 1), .int (o1 2), .int (o1 3), .int (o1 4), .int (o1 5), .int (o1 6), .int (o1 7), .ref (r 1 8), .ref (r 1 9), .ref (r 1 10), .ref (r 1 11), .ref (r 1 12), .ref (r 1 13), .ref (r 1 14), .ref (r 1 15), .ref (r 1 16), .ref (r 1 17), .ref h1])), (q 2, .inr (10, [.int (o2 0), .int (o2 1), .int (o2 2), .int (o2 3), .int (o2 4), .int (o2 5), .int (o2 6), .int (o2 7), .ref (r 2 8), .ref (r 2 9), .ref (r 2 10), .ref (r 2 11), .ref (r 2 12), .ref (r 2 13), .ref (r 2 14), .ref (r 2 15), .ref (r 2 16), .ref (r 2 17), .ref h2])), (q 3, .inr (1, [.ref (r 3 0), .ref (r 3 1), .ref (r 3 2), .ref (r 3 3), .int gs0, .ref (r 3 5), .ref (gpl F)])), (q 4, .inr (8, [.ref (r 4 0), .int tb0])), (r 0 8, .inl (gI (g_E Γ), 10, .inl (A0 8))), (r 0 9, .inl (gI (g_E Γ), 10, .inl (A0 9))), (r 0 10, .inl (gI (g_E Γ), 10, .inl (A0 10))), (r 0 11, .inl (gI (g_E Γ), 10, .inl (A0 11))), (r 0 12, .inl (gI (g_E Γ), 10, .inl (A0 12))), (r 0 13, .inl (gO (g_E Γ), 4, .inr (.inr (.inr (.inr C0))))), (r 0 14, .inl (gI (g_E Γ), 20, .inl (A0 14))), (r 0 15, .inl (gI (g_E Γ), 20, .inl (A0 15))), (r 0 16, .inl (gI (g_E Γ), 20, .inl (A0 16))), (r 1 8, .inl (gI (g_E Γ), 10, .inl (A1 8))), (r 1 9, .inl (gI (g_E Γ), 10, .inl (A1 9))), (r 1 10, .inl (gI (g_E Γ), 10, .inl (A1 10))), (r 1 11, .inl (gI (g_E Γ), 10, .inl (A1 11))), (r 1 12, .inl (gI (g_E Γ), 10, .inl (A1 12))), (r 1 13, .inl (gO (g_E Γ), 4, .inr (.inr (.inr (.inr C1))))), (r 1 14, .inl (gI (g_E Γ), 20, .inl (A1 14))), (r 1 15, .inl (gI (g_E Γ), 20, .inl (A1 15))), (r 1 16, .inl (gI (g_E Γ), 20, .inl (A1 16))), (r 1 17, .inl (gCh (g_E Γ), 100, .inl (A1 17))), (r 2 8, .inl (gI (g_E Γ), 10, .inl (A2 8))), (r 2 9, .inl (gI (g_E Γ), 10, .inl (A2 9))), (r 2 10, .inl (gI (g_E Γ), 10, .inl (A2 10))), (r 2 11, .inl (gI (g_E Γ), 10, .inl (A2 11))), (r 2 12, .inl (gI (g_E Γ), 10, .inl (A2 12))), (r 2 13, .inl (gO (g_E Γ), 4, .inr (.inr (.inr (.inr C2))))), (r 2 14, .inl (gI (g_E Γ), 20, .inl (A2 14))), (r 2 15, .inl (gI (g_E Γ), 20, .inl (A2 15))), (r 2 16, .inl (gI (g_E Γ), 20, .inl (A2 16))), (r 2 17, .inl (gCh (g_E Γ), 100, .inl (A2 17))), (r 3 0, .inl (gI (g_E Γ), 10, .inl (gA 0))), (r 3 1, .inl (gI (g_E Γ), 10, .inl (gA 1))), (r 3 2, .inl (gI (g_E Γ), 10, .inl (gA 2))), (r 3 3, .inl (gI (g_E Γ), 10, .inl (gA 3))), (r 3 5, .inl (gI (g_E Γ), 6, .inl (gA 5))), (r 4 0, .inl (gI (g_E Γ), 20, .inl tA0)), (r 5 5, .inl (gI (g_E Γ), 10, .inl bf0))] ([(q1, .inr (2, [.int (res.2.2.2.2.1), .int (res.2.2.2.2.2.1), .int (res.2.2.2.2.2.2.1), .ref (r 0 17), .int (nI T), .int (res.2.2.2.2.2.2.2.1), .int (res.2.2.2.2.2.2.2.2.1), .ref a, .ref b, .ref c, .int (res.2.2.2.2.2.2.2.2.2)])), (a, .inl (gI (g_E Γ), T, .inl (res.2.1))), (b, .inl (gI (g_E Γ), T, .inl (res.2.2.1))), (c, .inl (gI (g_E Γ), T, .inl (res.2.2.2.1)))] ++ cw (g_E Γ) q r (gpl F) o0 A0 C0 h0 o1 A1 C1 h1 o2 A2 C2 h2 gs0 gA tb0 tA0 bf0 hi0) [0, 2, 3, 4, 5, 6, 7, 8, 9, 10, 11, 12, 13, 14, 15, 16, 17, 18, 19, 1, 20, 21, 22, 23, 24, 25, 26, 27, 28, 29, 30, 31, 32, 33, 34, 35, 36, 37, 38, 39, 40, 41, 42, 43, 44, 45, 46] (by decide) rfl ?_
  refine g_ws (ws' := [(q1, .inr (2, [.int (res.2.2.2.2.1), .int (res.2.2.2.2.2.1), .int (res.2.2.2.2.2.2.1), .ref (r 0 17), .int (nI T), .int (res.2.2.2.2.2.2.2.1), .int (res.2.2.2.2.2.2.2.2.1), .ref a, .ref b, .ref c, .int (res.2.2.2.2.2.2.2.2.2)])), (a, .inl (gI (g_E Γ), T, .inl (res.2.1))), (b, .inl (gI (g_E Γ), T, .inl (res.2.2.1))), (c, .inl (gI (g_E Γ), T, .inl (res.2.2.2.1)))] ++ cw (g_E Γ) q r (gpl F) o0 A0 C0 h0 o1 A1 C1 h1 o2 A2 C2 h2 gs0 gA tb0 tA0 bf0 hi0) (List.append_nil _) ?_
  refine g_istore_n K dX11_house_40 rfl (hlt 2 (by decide)) rfl ?_
  refine g_aload_n K dX11_house_41 rfl 2 rfl ?_
  refine g_get (v := .ref (q 0)) (T := TX11) (ref := "ChiefGrades") K hin_X11 4 rfl rfl 0 (by decide) u_324 (Or.inl rfl) rfl dX11_house_42 ?_
  refine g_iconst (v := 0) K dX11_house_45 (by decide) ?_
  refine g_put (T := TX10) (ref := "ChiefGrades$World") K hin_X10 tyX10_ok nmX10 5 rfl rfl 4 (by decide) u_168 rfl rfl rfl rfl rfl (Nat.le_of_ble_eq_true rfl) dX11_house_46 (ws' := [(q1, .inr (2, [.int (res.2.2.2.2.1), .int (res.2.2.2.2.2.1), .int (res.2.2.2.2.2.2.1), .ref (r 0 17), .int (nI T), .int (res.2.2.2.2.2.2.2.1), .int (res.2.2.2.2.2.2.2.2.1), .ref a, .ref b, .ref c, .int (res.2.2.2.2.2.2.2.2.2)])), (a, .inl (gI (g_E Γ), T, .inl (res.2.1))), (b, .inl (gI (g_E Γ), T, .inl (res.2.2.1))), (c, .inl (gI (g_E Γ), T, .inl (res.2.2.2.1)))] ++ cw (g_E Γ) q r (gpl F) (gu o0 4 0) A0 C0 h0 o1 A1 C1 h1 o2 A2 C2 h2 gs0 gA tb0 tA0 bf0 hi0) rfl ?_
  refine g_iload_n K dX11_house_49 rfl 0 rfl ?_
  refine g_if_lt (tgt := 58) K dX11_house_50 (by decide) (fun qh => ?_) (fun qh => ?_)
  rotate_left
  · refine g_bipush (v := (-10)) K dX11_house_53 (by decide) ?_
    refine g_iload_n K dX11_house_55 rfl 0 rfl ?_
    refine g_isub K dX11_house_56 ?_
    refine g_perm [(q1, .inr (2, [.int (res.2.2.2.2.1), .int (res.2.2.2.2.2.1), .int (res.2.2.2.2.2.2.1), .ref (r 0 17), .int (nI T), .int (res.2.2.2.2.2.2.2.1), .int (res.2.2.2.2.2.2.2.2.1), .ref a, .ref b, .ref c, .int (res.2.2.2.2.2.2.2.2.2)])), (a, .inl (gI (g_E Γ), T, .inl (res.2.1))), (b, .inl (gI (g_E Γ), T, .inl (res.2.2.1))), (c, .inl (gI (g_E Γ), T, .inl (res.2.2.2.1)))] [] [] rfl rfl ?_
    exact hret _ _ _ _ dX11_house_57 rfl (Or.inr ⟨qh5, Or.inl ⟨qh, rfl, rfl⟩⟩)
  refine g_aload_n K dX11_house_58 rfl 2 rfl ?_
  refine g_get (v := .ref (q 0)) (T := TX11) (ref := "ChiefGrades") K hin_X11 4 rfl rfl 0 (by decide) u_324 (Or.inl rfl) rfl dX11_house_59 ?_
  refine g_aload_n K dX11_house_62 rfl 1 rfl ?_
  refine g_put (T := TX10) (ref := "ChiefGrades$World") K hin_X10 tyX10_ok nmX10 5 rfl rfl 18 (by decide) u_203 rfl rfl rfl rfl rfl (Nat.le_of_ble_eq_true rfl) dX11_house_63 (ws' := [(q1, .inr (2, [.int (res.2.2.2.2.1), .int (res.2.2.2.2.2.1), .int (res.2.2.2.2.2.2.1), .ref (r 0 17), .int (nI T), .int (res.2.2.2.2.2.2.2.1), .int (res.2.2.2.2.2.2.2.2.1), .ref a, .ref b, .ref c, .int (res.2.2.2.2.2.2.2.2.2)])), (a, .inl (gI (g_E Γ), T, .inl (res.2.1))), (b, .inl (gI (g_E Γ), T, .inl (res.2.2.1))), (c, .inl (gI (g_E Γ), T, .inl (res.2.2.2.1)))] ++ cw (g_E Γ) q r (gpl F) (gu o0 4 0) A0 C0 q1 o1 A1 C1 h1 o2 A2 C2 h2 gs0 gA tb0 tA0 bf0 hi0) rfl ?_
  refine g_aload_n K dX11_house_66 rfl 2 rfl ?_
  refine g_get (v := .ref (q 0)) (T := TX11) (ref := "ChiefGrades") K hin_X11 4 rfl rfl 0 (by decide) u_324 (Or.inl rfl) rfl dX11_house_67 ?_
  refine g_dup K dX11_house_70 rfl ?_
  refine g_get (v := .int ((gu o0 4 0) 2)) (T := TX10) (ref := "ChiefGrades$World") K hin_X10 5 rfl rfl 2 (by decide) u_165 (Or.inl rfl) rfl dX11_house_71 ?_
  refine g_iconst (v := 1) K dX11_house_74 (by decide) ?_
  refine g_iadd K dX11_house_75 ?_
  refine g_put (T := TX10) (ref := "ChiefGrades$World") K hin_X10 tyX10_ok nmX10 5 rfl rfl 2 (by decide) u_165 rfl rfl rfl rfl rfl (Nat.le_of_ble_eq_true rfl) dX11_house_76 (ws' := [(q1, .inr (2, [.int (res.2.2.2.2.1), .int (res.2.2.2.2.2.1), .int (res.2.2.2.2.2.2.1), .ref (r 0 17), .int (nI T), .int (res.2.2.2.2.2.2.2.1), .int (res.2.2.2.2.2.2.2.2.1), .ref a, .ref b, .ref c, .int (res.2.2.2.2.2.2.2.2.2)])), (a, .inl (gI (g_E Γ), T, .inl (res.2.1))), (b, .inl (gI (g_E Γ), T, .inl (res.2.2.1))), (c, .inl (gI (g_E Γ), T, .inl (res.2.2.2.1)))] ++ cw (g_E Γ) q r (gpl F) (gu (gu o0 4 0) 2 (((gu o0 4 0) 2) + 1)) A0 C0 q1 o1 A1 C1 h1 o2 A2 C2 h2 gs0 gA tb0 tA0 bf0 hi0) rfl ?_
  refine g_aload_n K dX11_house_79 rfl 2 rfl ?_
  refine g_get (v := .ref (q 0)) (T := TX11) (ref := "ChiefGrades") K hin_X11 4 rfl rfl 0 (by decide) u_324 (Or.inl rfl) rfl dX11_house_80 ?_
  refine g_get (v := .int ((gu (gu o0 4 0) 2 (((gu o0 4 0) 2) + 1)) 2)) (T := TX10) (ref := "ChiefGrades$World") K hin_X10 5 rfl rfl 2 (by decide) u_165 (Or.inl rfl) rfl dX11_house_83 ?_
  refine g_iconst (v := 1) K dX11_house_86 (by decide) ?_
  refine g_isub K dX11_house_87 ?_
  exact hret _ _ _ _ dX11_house_88 rfl (Or.inr ⟨qh5, Or.inr ⟨qh, rfl, q1, a, b, c, rfl⟩⟩)
