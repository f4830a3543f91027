set_option maxHeartbeats 4000000 in
set_option maxRecDepth 100000 in
theorem wX10_worthTogether_w1_4 {Γ : gT} {q : Nat → Nat} {r : Nat → Nat → Nat} {F : gF} (hF : gFz (g_E Γ) F) {o0 : Nat → Int32} {A0 : Nat → Nat → Int32} {C0 : Nat → Option Nat} {h0 : Nat} {o1 : Nat → Int32} {A1 : Nat → Nat → Int32} {C1 : Nat → Option Nat} {h1 : Nat} {o2 : Nat → Int32} {A2 : Nat → Nat → Int32} {C2 : Nat → Option Nat} {h2 : Nat} {gs0 : Int32} {gA : Nat → Nat → Int32} {tb0 : Int32} {tA0 bf0 : Nat → Int32} {hi0 : Int32} (K : gOK Γ cX10_worthTogether gU RX10) (hlt : ∀ i, i < 3 → i < g_n Γ) (hRm : g_R Γ = ({ frames := 4, cells := 0, slots := 0, locals := 150 } : Room)) {res : Int32} (hret : ∀ (pc : Nat) (L : List (Nat × Value)) (v : Int32) (w : va_W), decode cX10_worthTogether pc = .ok (.ireturn, 1) → narrow .int (.int v) = .int v → (v = res ∧ w = cw (g_E Γ) q r (gpl F) o0 A0 C0 h0 o1 A1 C1 h1 o2 A2 C2 h2 gs0 gA tb0 tA0 bf0 hi0) → gGO Γ 0 0 pc L [.int v] w) : ∀ (n : Nat) (x1 : Int32) (x2 : Int32), pX10_worthTogether_w1_4 (o1 0) (A1 8) n x1 x2 = some res → gGO Γ 0 0 4 [(0, .ref (q 1)), (1, .int x1), (2, .int x2)] [] (cw (g_E Γ) q r (gpl F) o0 A0 C0 h0 o1 A1 C1 h1 o2 A2 C2 h2 gs0 gA tb0 tA0 bf0 hi0) := by
  intro n
  induction n with
  | zero => intro _ _ h; cases h
  | succ n ih =>
    intro x1 x2 h
    simp only [pX10_worthTogether_w1_4] at h
    refine g_iload_n K dX10_worthTogether_4 rfl 2 rfl ?_
    refine g_aload_n K dX10_worthTogether_5 rfl 0 rfl ?_
    refine g_get (v := .int (o1 0)) (T := TX10) (ref := "ChiefGrades$World") K hin_X10 2 rfl rfl 0 (by decide) u_158 (Or.inl rfl) rfl dX10_worthTogether_6 ?_
    obtain ⟨ht9, hf9⟩ := gi_br h; clear h
    refine g_icmp_ge (tgt := 27) K dX10_worthTogether_9 (by decide) (fun qh => ?_) (fun qh => ?_)
    · have h := ht9 qh; clear ht9 hf9
      refine g_iload_n K dX10_worthTogether_27 rfl 1 rfl ?_
      obtain rfl := Option.some.inj h
      exact hret _ _ _ _ dX10_worthTogether_28 rfl ⟨rfl, rfl⟩
    · have h := hf9 qh; clear ht9 hf9
      refine g_iload_n K dX10_worthTogether_12 rfl 1 rfl ?_
      refine g_aload_n K dX10_worthTogether_13 rfl 0 rfl ?_
      refine g_get (v := .ref (r 1 8)) (T := TX10) (ref := "ChiefGrades$World") K hin_X10 2 rfl rfl 8 (by decide) u_177 (Or.inl rfl) rfl dX10_worthTogether_14 ?_
      refine g_iload_n K dX10_worthTogether_17 rfl 2 rfl ?_
      obtain ⟨b_1, h⟩ := gi_none h
      refine g_iald (f := (A1 8)) K 16 rfl (ginb_in b_1) dX10_worthTogether_18 ?_
      refine g_iadd K dX10_worthTogether_19 ?_
      obtain ⟨v_2, ev_2, h⟩ := gi_nm h
      refine g_topi ev_2 ?_
      refine g_istore_n (L' := [(1, .int v_2), (0, .ref (q 1)), (2, .int x2)]) K dX10_worthTogether_20 rfl (hlt _ (by decide)) rfl ?_
      refine g_iinc (v := (x2 + 1)) (L' := [(2, .int (x2 + 1)), (1, .int v_2), (0, .ref (q 1))]) K dX10_worthTogether_21 2 rfl rfl (hlt _ (by decide)) rfl ?_
      refine g_goto (tgt := 4) K dX10_worthTogether_24 (by decide) ?_
      refine g_sub (L' := [(0, .ref (q 1)), (1, .int v_2), (2, .int (x2 + 1))]) [2, 1, 0] rfl ?_
      exact ih v_2 (x2 + 1) h

set_option maxHeartbeats 4000000 in
set_option maxRecDepth 100000 in
theorem wX10_worthTogether_w1 {Γ : gT} {q : Nat → Nat} {r : Nat → Nat → Nat} {F : gF} (hF : gFz (g_E Γ) F) {o0 : Nat → Int32} {A0 : Nat → Nat → Int32} {C0 : Nat → Option Nat} {h0 : Nat} {o1 : Nat → Int32} {A1 : Nat → Nat → Int32} {C1 : Nat → Option Nat} {h1 : Nat} {o2 : Nat → Int32} {A2 : Nat → Nat → Int32} {C2 : Nat → Option Nat} {h2 : Nat} {gs0 : Int32} {gA : Nat → Nat → Int32} {tb0 : Int32} {tA0 bf0 : Nat → Int32} {hi0 : Int32} (K : gOK Γ cX10_worthTogether gU RX10) (hlt : ∀ i, i < 3 → i < g_n Γ) (hRm : g_R Γ = ({ frames := 4, cells := 0, slots := 0, locals := 150 } : Room)) {res : Int32} (hret : ∀ (pc : Nat) (L : List (Nat × Value)) (v : Int32) (w : va_W), decode cX10_worthTogether pc = .ok (.ireturn, 1) → narrow .int (.int v) = .int v → (v = res ∧ w = cw (g_E Γ) q r (gpl F) o0 A0 C0 h0 o1 A1 C1 h1 o2 A2 C2 h2 gs0 gA tb0 tA0 bf0 hi0) → gGO Γ 0 0 pc L [.int v] w) (h : pX10_worthTogether_w1 (o1 0) (A1 8) = some res) : gGO Γ 0 0 0 [(0, .ref (q 1))] [] (cw (g_E Γ) q r (gpl F) o0 A0 C0 h0 o1 A1 C1 h1 o2 A2 C2 h2 gs0 gA tb0 tA0 bf0 hi0) := by
    unfold pX10_worthTogether_w1 at h
    refine g_iconst (v := 0) K dX10_worthTogether_0 (by decide) ?_
    refine g_istore_n (L' := [(1, .int 0), (0, .ref (q 1))]) K dX10_worthTogether_1 rfl (hlt _ (by decide)) rfl ?_
    refine g_iconst (v := 0) K dX10_worthTogether_2 (by decide) ?_
    refine g_istore_n (L' := [(2, .int 0), (1, .int 0), (0, .ref (q 1))]) K dX10_worthTogether_3 rfl (hlt _ (by decide)) rfl ?_
    refine g_sub (L' := [(0, .ref (q 1)), (1, .int 0), (2, .int 0)]) [2, 1, 0] rfl ?_
    exact wX10_worthTogether_w1_4 (C0 := C0) (h0 := h0) (C1 := C1) (h1 := h1) (C2 := C2) (h2 := h2) (gs0 := gs0) (tb0 := tb0) (tA0 := tA0) (bf0 := bf0) (hi0 := hi0) hF K hlt hRm hret 1000 0 0 h

set_option maxRecDepth 100000 in
theorem ctX10_worthTogether_w1 {E : gE} {q : Nat → Nat} {r : Nat → Nat → Nat} {F : gF} (hF : gFz E F) (o0 : Nat → Int32) (A0 : Nat → Nat → Int32) (C0 : Nat → Option Nat) (h0 : Nat) (o1 : Nat → Int32) (A1 : Nat → Nat → Int32) (C1 : Nat → Option Nat) (h1 : Nat) (o2 : Nat → Int32) (A2 : Nat → Nat → Int32) (C2 : Nat → Option Nat) (h2 : Nat) (gs0 : Int32) (gA : Nat → Nat → Int32) (tb0 : Int32) (tA0 bf0 : Nat → Int32) (hi0 : Int32) {res : Int32} (h : pX10_worthTogether_w1 (o1 0) (A1 8) = some res) : gMi yX10_worthTogether (.code yX10_worthTogether cX10_worthTogether 3 (some .int) :: gU) ({ frames := 4, cells := 0, slots := 0, locals := 150 } : Room) 0 0 E [.ref (q 1)] (cw E q r (gpl F) o0 A0 C0 h0 o1 A1 C1 h1 o2 A2 C2 h2 gs0 gA tb0 tA0 bf0 hi0) (fun v w => v = res ∧ w = cw E q r (gpl F) o0 A0 C0 h0 o1 A1 C1 h1 o2 A2 C2 h2 gs0 gA tb0 tA0 bf0 hi0) := by
  refine g_met_i (by decide +kernel) (Nat.le_of_ble_eq_true rfl) (fun Γ K hn hE hRm _ hret => ?_)
  subst hE
  have hlt : ∀ i, i < 3 → i < g_n Γ := fun i q => by rw [hn]; exact q
  refine g_sub (L' := [(0, .ref (q 1))]) [0] rfl ?_
  exact wX10_worthTogether_w1 (C0 := C0) (h0 := h0) (C1 := C1) (h1 := h1) (C2 := C2) (h2 := h2) (gs0 := gs0) (tb0 := tb0) (tA0 := tA0) (bf0 := bf0) (hi0 := hi0) hF K hlt hRm hret h

set_option maxHeartbeats 4000000 in
set_option maxRecDepth 100000 in
theorem wX1_gradeAll_w1_2 {Γ : gT} {q : Nat → Nat} {r : Nat → Nat → Nat} {F : gF} (hF : gFz (g_E Γ) F) {o0 : Nat → Int32} {A0 : Nat → Nat → Int32} {C0 : Nat → Option Nat} {h0 : Nat} {o1 : Nat → Int32} {A1 : Nat → Nat → Int32} {C1 : Nat → Option Nat} {h1 : Nat} {o2 : Nat → Int32} {A2 : Nat → Nat → Int32} {C2 : Nat → Option Nat} {h2 : Nat} {gs0 : Int32} {gA : Nat → Nat → Int32} {tb0 : Int32} {tA0 bf0 : Nat → Int32} {hi0 : Int32} (K : gOK Γ cX1_gradeAll gU RX1) (hlt : ∀ i, i < 4 → i < g_n Γ) (hRm : g_R Γ = ({ frames := 9, cells := 0, slots := 0, locals := 260 } : Room)) {res : Int32 × ((Nat → Int32)) × ((Nat → Int32)) × ((Nat → Int32)) × ((Nat → Int32)) × ((Nat → Int32))} (hret : ∀ (pc : Nat) (L : List (Nat × Value)) (w : va_W), decode cX1_gradeAll pc = .ok (.return_, 1) → (w = cw (g_E Γ) q r (gpl F) o0 A0 C0 h0 o1 A1 C1 h1 o2 A2 C2 h2 res.1 (gu (gu (gu (gu (gu gA 0 res.2.1) 1 res.2.2.1) 2 res.2.2.2.1) 3 res.2.2.2.2.1) 5 res.2.2.2.2.2) tb0 tA0 bf0 hi0) → gGO Γ 0 0 pc L [] w) : ∀ (n : Nat) (gs : Int32) (ga0 : (Nat → Int32)) (ga1 : (Nat → Int32)) (ga2 : (Nat → Int32)) (ga3 : (Nat → Int32)) (ga5 : (Nat → Int32)) (x2 : Int32), pX1_gradeAll_w1_2 F (o1 0) (o1 1) (o1 5) (A1 8) (A1 9) (A1 10) (A1 11) h1 C1 n gs ga0 ga1 ga2 ga3 ga5 x2 = some res → gGO Γ 0 0 2 [(0, .ref (q 3)), (1, .ref (q 1)), (2, .int x2)] [] (cw (g_E Γ) q r (gpl F) o0 A0 C0 h0 o1 A1 C1 h1 o2 A2 C2 h2 gs (gu (gu (gu (gu (gu gA 0 ga0) 1 ga1) 2 ga2) 3 ga3) 5 ga5) tb0 tA0 bf0 hi0) := by
  intro n
  induction n with
  | zero => intro _ _ _ _ _ _ _ h; cases h
  | succ n ih =>
    intro gs ga0 ga1 ga2 ga3 ga5 x2 h
    simp only [pX1_gradeAll_w1_2] at h
    refine g_iload_n K dX1_gradeAll_2 rfl 2 rfl ?_
    refine g_aload_n K dX1_gradeAll_3 rfl 1 rfl ?_
    refine g_get (v := .int (o1 1)) (T := TX10) (ref := "ChiefGrades$World") K hin_X10 2 rfl rfl 1 (by decide) u_162 (Or.inl rfl) rfl dX1_gradeAll_4 ?_
    obtain ⟨ht9, hf9⟩ := gi_br h; clear h
    refine g_icmp_ge (tgt := 33) K dX1_gradeAll_7 (by decide) (fun qh => ?_) (fun qh => ?_)
    · have h := ht9 qh; clear ht9 hf9
      obtain rfl := Option.some.inj h
      exact hret _ _ _ dX1_gradeAll_33 rfl
    · have h := hf9 qh; clear ht9 hf9
      refine g_aload_n K dX1_gradeAll_10 rfl 1 rfl ?_
      refine g_iload_n K dX1_gradeAll_11 rfl 2 rfl ?_
      obtain ⟨z_1, hz_1, h⟩ := gi_bd h
      refine g_callVq (As := [.int x2]) (bytes := cX10_chiefAt) (maxL := 2) (ret := (some (.object "ChiefGrades$Chief"))) K (ctX10_chiefAt_w1 hF o0 A0 C0 h0 o1 A1 C1 h1 o2 A2 C2 h2 gs (gu (gu (gu (gu (gu gA 0 ga0) 1 ga1) 2 ga2) 3 ga3) 5 ga5) tb0 tA0 bf0 hi0 x2 (res := z_1) hz_1) gc_V_RX1_90_X10_chiefAt rfl qv_X10_chiefAt 2 rfl rfl rfl hRm rfl rfl rfl (by decide) (Nat.le_of_ble_eq_true rfl) (by decide) dX1_gradeAll_12 (fun v w hw => ?_)
      obtain ⟨hv9, rfl⟩ := hw; have hv9 := hv9.symm; subst hv9
      rcases gi_mt h with ⟨ez, h⟩ | ⟨b_z1, ez, h⟩
      · rw [ez]
        refine g_astore_nN (L' := [(3, .null), (0, .ref (q 3)), (1, .ref (q 1)), (2, .int x2)]) K dX1_gradeAll_15 rfl (hlt _ (by decide)) rfl ?_
        refine g_aload_nN K dX1_gradeAll_16 rfl 0 rfl ?_
        refine g_ifnullN (tgt := 27) K dX1_gradeAll_17 (by decide) ?_
        refine g_iinc (v := (x2 + 1)) (L' := [(2, .int (x2 + 1)), (3, .null), (0, .ref (q 3)), (1, .ref (q 1))]) K dX1_gradeAll_27 3 rfl rfl (hlt _ (by decide)) rfl ?_
        refine g_goto (tgt := 2) K dX1_gradeAll_30 (by decide) ?_
        refine g_sub (L' := [(0, .ref (q 3)), (1, .ref (q 1)), (2, .int (x2 + 1))]) [2, 3, 0] rfl ?_
        exact ih gs ga0 ga1 ga2 ga3 ga5 (x2 + 1) h
      · rw [ez]
        refine g_astore_n (L' := [(3, .ref b_z1), (0, .ref (q 3)), (1, .ref (q 1)), (2, .int x2)]) K dX1_gradeAll_15 rfl (hlt _ (by decide)) rfl ?_
        refine g_aload_n K dX1_gradeAll_16 rfl 0 rfl ?_
        refine g_ifnull K dX1_gradeAll_17 ?_
        refine g_aload_n K dX1_gradeAll_20 rfl 1 rfl ?_
        refine g_aload_n K dX1_gradeAll_21 rfl 2 rfl ?_
        refine g_aload_n K dX1_gradeAll_22 rfl 0 rfl ?_
        obtain ⟨z_2, hz_2, h⟩ := gi_bd h
        refine g_callVi (As := [.ref (q 1), .ref b_z1]) (bytes := cX1_gradeTeam) (maxL := 3) (ret := (some .int)) K (ctX1_gradeTeam_w1 hF o0 A0 C0 h0 o1 A1 C1 h1 o2 A2 C2 h2 gs (gu (gu (gu (gu (gu gA 0 ga0) 1 ga1) 2 ga2) 3 ga3) 5 ga5) tb0 tA0 bf0 hi0 b_z1 (res := z_2) hz_2) gc_V_RX1_94_X1_gradeTeam rfl qv_X1_gradeTeam 4 rfl rfl rfl hRm rfl rfl rfl (by decide) (Nat.le_of_ble_eq_true rfl) (by decide) dX1_gradeAll_23 (fun v w hw => ?_)
        obtain ⟨hv9, rfl⟩ := hw; have hv9 := hv9.symm; subst hv9
        refine g_ws (ws' := cw (g_E Γ) q r (gpl F) o0 A0 C0 h0 o1 A1 C1 h1 o2 A2 C2 h2 z_2.2.1 (gu (gu (gu (gu (gu gA 0 z_2.2.2.1) 1 z_2.2.2.2.1) 2 z_2.2.2.2.2.1) 3 z_2.2.2.2.2.2.1) 5 z_2.2.2.2.2.2.2) tb0 tA0 bf0 hi0) rfl ?_
        refine g_pop K dX1_gradeAll_26 rfl ?_
        refine g_iinc (v := (x2 + 1)) (L' := [(2, .int (x2 + 1)), (3, .ref b_z1), (0, .ref (q 3)), (1, .ref (q 1))]) K dX1_gradeAll_27 3 rfl rfl (hlt _ (by decide)) rfl ?_
        refine g_goto (tgt := 2) K dX1_gradeAll_30 (by decide) ?_
        refine g_sub (L' := [(0, .ref (q 3)), (1, .ref (q 1)), (2, .int (x2 + 1))]) [2, 3, 0] rfl ?_
        exact ih z_2.2.1 z_2.2.2.1 z_2.2.2.2.1 z_2.2.2.2.2.1 z_2.2.2.2.2.2.1 z_2.2.2.2.2.2.2 (x2 + 1) h

set_option maxHeartbeats 4000000 in
set_option maxRecDepth 100000 in
theorem wX1_gradeAll_w1 {Γ : gT} {q : Nat → Nat} {r : Nat → Nat → Nat} {F : gF} (hF : gFz (g_E Γ) F) {o0 : Nat → Int32} {A0 : Nat → Nat → Int32} {C0 : Nat → Option Nat} {h0 : Nat} {o1 : Nat → Int32} {A1 : Nat → Nat → Int32} {C1 : Nat → Option Nat} {h1 : Nat} {o2 : Nat → Int32} {A2 : Nat → Nat → Int32} {C2 : Nat → Option Nat} {h2 : Nat} {gs0 : Int32} {gA : Nat → Nat → Int32} {tb0 : Int32} {tA0 bf0 : Nat → Int32} {hi0 : Int32} (K : gOK Γ cX1_gradeAll gU RX1) (hlt : ∀ i, i < 4 → i < g_n Γ) (hRm : g_R Γ = ({ frames := 9, cells := 0, slots := 0, locals := 260 } : Room)) {res : Int32 × ((Nat → Int32)) × ((Nat → Int32)) × ((Nat → Int32)) × ((Nat → Int32)) × ((Nat → Int32))} (hret : ∀ (pc : Nat) (L : List (Nat × Value)) (w : va_W), decode cX1_gradeAll pc = .ok (.return_, 1) → (w = cw (g_E Γ) q r (gpl F) o0 A0 C0 h0 o1 A1 C1 h1 o2 A2 C2 h2 res.1 (gu (gu (gu (gu (gu gA 0 res.2.1) 1 res.2.2.1) 2 res.2.2.2.1) 3 res.2.2.2.2.1) 5 res.2.2.2.2.2) tb0 tA0 bf0 hi0) → gGO Γ 0 0 pc L [] w) (gs : Int32) (ga0 : (Nat → Int32)) (ga1 : (Nat → Int32)) (ga2 : (Nat → Int32)) (ga3 : (Nat → Int32)) (ga5 : (Nat → Int32)) (h : pX1_gradeAll_w1 F (o1 0) (o1 1) (o1 5) (A1 8) (A1 9) (A1 10) (A1 11) h1 C1 gs ga0 ga1 ga2 ga3 ga5 = some res) : gGO Γ 0 0 0 [(0, .ref (q 3)), (1, .ref (q 1))] [] (cw (g_E Γ) q r (gpl F) o0 A0 C0 h0 o1 A1 C1 h1 o2 A2 C2 h2 gs (gu (gu (gu (gu (gu gA 0 ga0) 1 ga1) 2 ga2) 3 ga3) 5 ga5) tb0 tA0 bf0 hi0) := by
    unfold pX1_gradeAll_w1 at h
    refine g_iconst (v := 0) K dX1_gradeAll_0 (by decide) ?_
    refine g_istore_n (L' := [(2, .int 0), (0, .ref (q 3)), (1, .ref (q 1))]) K dX1_gradeAll_1 rfl (hlt _ (by decide)) rfl ?_
    refine g_sub (L' := [(0, .ref (q 3)), (1, .ref (q 1)), (2, .int 0)]) [1, 2, 0] rfl ?_
    exact wX1_gradeAll_w1_2 (C0 := C0) (h0 := h0) (C1 := C1) (h1 := h1) (C2 := C2) (h2 := h2) (gs0 := gs0) (tb0 := tb0) (tA0 := tA0) (bf0 := bf0) (hi0 := hi0) hF K hlt hRm hret 1000 gs ga0 ga1 ga2 ga3 ga5 0 h

set_option maxRecDepth 100000 in
theorem ctX1_gradeAll_w1 {E : gE} {q : Nat → Nat} {r : Nat → Nat → Nat} {F : gF} (hF : gFz E F) (o0 : Nat → Int32) (A0 : Nat → Nat → Int32) (C0 : Nat → Option Nat) (h0 : Nat) (o1 : Nat → Int32) (A1 : Nat → Nat → Int32) (C1 : Nat → Option Nat) (h1 : Nat) (o2 : Nat → Int32) (A2 : Nat → Nat → Int32) (C2 : Nat → Option Nat) (h2 : Nat) (gs0 : Int32) (gA : Nat → Nat → Int32) (tb0 : Int32) (tA0 bf0 : Nat → Int32) (hi0 : Int32) {res : Int32 × ((Nat → Int32)) × ((Nat → Int32)) × ((Nat → Int32)) × ((Nat → Int32)) × ((Nat → Int32))} (h : pX1_gradeAll_w1 F (o1 0) (o1 1) (o1 5) (A1 8) (A1 9) (A1 10) (A1 11) h1 C1 gs0 (gA 0) (gA 1) (gA 2) (gA 3) (gA 5) = some res) : gMv yX1_gradeAll (.code yX1_gradeAll cX1_gradeAll 4 none :: gU) ({ frames := 9, cells := 0, slots := 0, locals := 260 } : Room) 0 0 E [.ref (q 3), .ref (q 1)] (cw E q r (gpl F) o0 A0 C0 h0 o1 A1 C1 h1 o2 A2 C2 h2 gs0 gA tb0 tA0 bf0 hi0) (fun w => w = cw E q r (gpl F) o0 A0 C0 h0 o1 A1 C1 h1 o2 A2 C2 h2 res.1 (gu (gu (gu (gu (gu gA 0 res.2.1) 1 res.2.2.1) 2 res.2.2.2.1) 3 res.2.2.2.2.1) 5 res.2.2.2.2.2) tb0 tA0 bf0 hi0) := by
  refine g_met_v (by decide +kernel) (Nat.le_of_ble_eq_true rfl) (fun Γ K hn hE hRm _ hret => ?_)
  subst hE
  have hlt : ∀ i, i < 4 → i < g_n Γ := fun i q => by rw [hn]; exact q
  refine g_ws (ws' := cw (g_E Γ) q r (gpl F) o0 A0 C0 h0 o1 A1 C1 h1 o2 A2 C2 h2 gs0 (gu (gu (gu (gu (gu gA 0 (gA 0)) 1 (gA 1)) 2 (gA 2)) 3 (gA 3)) 5 (gA 5)) tb0 tA0 bf0 hi0) rfl ?_
  refine g_sub (L' := [(0, .ref (q 3)), (1, .ref (q 1))]) [0, 1] rfl ?_
  exact wX1_gradeAll_w1 (C0 := C0) (h0 := h0) (C1 := C1) (h1 := h1) (C2 := C2) (h2 := h2) (gs0 := gs0) (tb0 := tb0) (tA0 := tA0) (bf0 := bf0) (hi0 := hi0) hF K hlt hRm hret gs0 (gA 0) (gA 1) (gA 2) (gA 3) (gA 5) h

set_option maxHeartbeats 4000000 in
set_option maxRecDepth 100000 in
theorem wX10_replace_w1 {Γ : gT} {q : Nat → Nat} {r : Nat → Nat → Nat} {F : gF} (hF : gFz (g_E Γ) F) {o0 : Nat → Int32} {A0 : Nat → Nat → Int32} {C0 : Nat → Option Nat} {h0 : Nat} {o1 : Nat → Int32} {A1 : Nat → Nat → Int32} {C1 : Nat → Option Nat} {h1 : Nat} {o2 : Nat → Int32} {A2 : Nat → Nat → Int32} {C2 : Nat → Option Nat} {h2 : Nat} {gs0 : Int32} {gA : Nat → Nat → Int32} {tb0 : Int32} {tA0 bf0 : Nat → Int32} {hi0 : Int32} (K : gOK Γ cX10_replace gU RX10) (hlt : ∀ i, i < 2 → i < g_n Γ) (hRm : g_R Γ = ({ frames := 5, cells := 0, slots := 0, locals := 171 } : Room)) {res : ((Nat → Int32)) × ((Nat → Int32)) × ((Nat → Int32))} (hret : ∀ (pc : Nat) (L : List (Nat × Value)) (w : va_W), decode cX10_replace pc = .ok (.return_, 1) → (w = cw (g_E Γ) q r (gpl F) o0 A0 C0 h0 o1 (gu (gu (gu A1 8 res.1) 9 res.2.1) 12 res.2.2) C1 h1 o2 A2 C2 h2 gs0 gA tb0 tA0 bf0 hi0) → gGO Γ 0 0 pc L [] w) (w1a8 : (Nat → Int32)) (w1a9 : (Nat → Int32)) (w1a12 : (Nat → Int32)) (x1 : Int32) (h : pX10_replace_w1 (o1 0) (o1 6) (o1 7) w1a8 w1a9 w1a12 x1 = some res) : gGO Γ 0 0 0 [(0, .ref (q 1)), (1, .int x1)] [] (cw (g_E Γ) q r (gpl F) o0 A0 C0 h0 o1 (gu (gu (gu A1 8 w1a8) 9 w1a9) 12 w1a12) C1 h1 o2 A2 C2 h2 gs0 gA tb0 tA0 bf0 hi0) := by
    unfold pX10_replace_w1 at h
    refine g_aload_n K dX10_replace_0 rfl 0 rfl ?_
    refine g_iload_n K dX10_replace_1 rfl 1 rfl ?_
    obtain ⟨z_1, hz_1, h⟩ := gi_bd h
    refine g_callVi (As := [.int x1]) (bytes := cX10_hasWorker) (maxL := 2) (ret := (some .boolean)) K (ctX10_hasWorker_w1 hF o0 A0 C0 h0 o1 (gu (gu (gu A1 8 w1a8) 9 w1a9) 12 w1a12) C1 h1 o2 A2 C2 h2 gs0 gA tb0 tA0 bf0 hi0 x1 (res := z_1) hz_1) gc_V_RX10_86_X10_hasWorker rfl qv_X10_hasWorker 2 rfl rfl rfl hRm rfl rfl rfl (by decide) (Nat.le_of_ble_eq_true rfl) (by decide) dX10_replace_2 (fun v w hw => ?_)
    obtain ⟨hv9, rfl⟩ := hw; have hv9 := hv9.symm; subst hv9
    obtain ⟨ht9, hf9⟩ := gi_br h; clear h
    refine g_if_ne (tgt := 9) K dX10_replace_5 (by decide) (fun qh => ?_) (fun qh => ?_)
    · have h := hf9 qh; clear ht9 hf9
      refine g_aload_n K dX10_replace_9 rfl 0 rfl ?_
      refine g_get (v := .ref (r 1 8)) (T := TX10) (ref := "ChiefGrades$World") K hin_X10 2 rfl rfl 8 (by decide) u_177 (Or.inl rfl) rfl dX10_replace_10 ?_
      refine g_iload_n K dX10_replace_13 rfl 1 rfl ?_
      refine g_aload_n K dX10_replace_14 rfl 0 rfl ?_
      refine g_get (v := .int (o1 6)) (T := TX10) (ref := "ChiefGrades$World") K hin_X10 2 rfl rfl 6 (by decide) u_173 (Or.inl rfl) rfl dX10_replace_15 ?_
      obtain ⟨b_2, h⟩ := gi_none h
      obtain ⟨f_3, ef_3, h⟩ := gi_nm h
      refine g_iast (f := w1a8) (ws' := cw (g_E Γ) q r (gpl F) o0 A0 C0 h0 o1 (gu (gu (gu A1 8 f_3) 9 w1a9) 12 w1a12) C1 h1 o2 A2 C2 h2 gs0 gA tb0 tA0 bf0 hi0) K 16 rfl (ginb_in b_2) dX10_replace_18 (by rw [ef_3]; rfl) ?_
      refine g_aload_n K dX10_replace_19 rfl 0 rfl ?_
      refine g_get (v := .ref (r 1 9)) (T := TX10) (ref := "ChiefGrades$World") K hin_X10 2 rfl rfl 9 (by decide) u_180 (Or.inl rfl) rfl dX10_replace_20 ?_
      refine g_iload_n K dX10_replace_23 rfl 1 rfl ?_
      refine g_aload_n K dX10_replace_24 rfl 0 rfl ?_
      refine g_get (v := .int (o1 7)) (T := TX10) (ref := "ChiefGrades$World") K hin_X10 2 rfl rfl 7 (by decide) u_175 (Or.inl rfl) rfl dX10_replace_25 ?_
      obtain ⟨b_4, h⟩ := gi_none h
      obtain ⟨f_5, ef_5, h⟩ := gi_nm h
      refine g_iast (f := w1a9) (ws' := cw (g_E Γ) q r (gpl F) o0 A0 C0 h0 o1 (gu (gu (gu A1 8 f_3) 9 f_5) 12 w1a12) C1 h1 o2 A2 C2 h2 gs0 gA tb0 tA0 bf0 hi0) K 17 rfl (ginb_in b_4) dX10_replace_28 (by rw [ef_5]; rfl) ?_
      refine g_aload_n K dX10_replace_29 rfl 0 rfl ?_
      refine g_get (v := .ref (r 1 12)) (T := TX10) (ref := "ChiefGrades$World") K hin_X10 2 rfl rfl 12 (by decide) u_189 (Or.inl rfl) rfl dX10_replace_30 ?_
      refine g_iload_n K dX10_replace_33 rfl 1 rfl ?_
      refine g_iconst (v := 0) K dX10_replace_34 (by decide) ?_
      obtain ⟨b_6, h⟩ := gi_none h
      obtain ⟨f_7, ef_7, h⟩ := gi_nm h
      refine g_iast (f := w1a12) (ws' := cw (g_E Γ) q r (gpl F) o0 A0 C0 h0 o1 (gu (gu (gu A1 8 f_3) 9 f_5) 12 f_7) C1 h1 o2 A2 C2 h2 gs0 gA tb0 tA0 bf0 hi0) K 20 rfl (ginb_in b_6) dX10_replace_35 (by rw [ef_7]; rfl) ?_
      obtain rfl := Option.some.inj h
      exact hret _ _ _ dX10_replace_36 rfl
    · have h := ht9 qh; clear ht9 hf9
      obtain rfl := Option.some.inj h
      exact hret _ _ _ dX10_replace_8 rfl

set_option maxRecDepth 100000 in
theorem ctX10_replace_w1 {E : gE} {q : Nat → Nat} {r : Nat → Nat → Nat} {F : gF} (hF : gFz E F) (o0 : Nat → Int32) (A0 : Nat → Nat → Int32) (C0 : Nat → Option Nat) (h0 : Nat) (o1 : Nat → Int32) (A1 : Nat → Nat → Int32) (C1 : Nat → Option Nat) (h1 : Nat) (o2 : Nat → Int32) (A2 : Nat → Nat → Int32) (C2 : Nat → Option Nat) (h2 : Nat) (gs0 : Int32) (gA : Nat → Nat → Int32) (tb0 : Int32) (tA0 bf0 : Nat → Int32) (hi0 : Int32) (x1 : Int32) {res : ((Nat → Int32)) × ((Nat → Int32)) × ((Nat → Int32))} (h : pX10_replace_w1 (o1 0) (o1 6) (o1 7) (A1 8) (A1 9) (A1 12) x1 = some res) : gMv yX10_replace (.code yX10_replace cX10_replace 2 none :: gU) ({ frames := 5, cells := 0, slots := 0, locals := 171 } : Room) 0 0 E [.ref (q 1), .int x1] (cw E q r (gpl F) o0 A0 C0 h0 o1 A1 C1 h1 o2 A2 C2 h2 gs0 gA tb0 tA0 bf0 hi0) (fun w => w = cw E q r (gpl F) o0 A0 C0 h0 o1 (gu (gu (gu A1 8 res.1) 9 res.2.1) 12 res.2.2) C1 h1 o2 A2 C2 h2 gs0 gA tb0 tA0 bf0 hi0) := by
  refine g_met_v (by decide +kernel) (Nat.le_of_ble_eq_true rfl) (fun Γ K hn hE hRm _ hret => ?_)
  subst hE
  have hlt : ∀ i, i < 2 → i < g_n Γ := fun i q => by rw [hn]; exact q
  refine g_ws (ws' := cw (g_E Γ) q r (gpl F) o0 A0 C0 h0 o1 (gu (gu (gu A1 8 (A1 8)) 9 (A1 9)) 12 (A1 12)) C1 h1 o2 A2 C2 h2 gs0 gA tb0 tA0 bf0 hi0) rfl ?_
  refine g_sub (L' := [(0, .ref (q 1)), (1, .int x1)]) [0, 1] rfl ?_
  exact wX10_replace_w1 (C0 := C0) (h0 := h0) (C1 := C1) (h1 := h1) (C2 := C2) (h2 := h2) (gs0 := gs0) (tb0 := tb0) (tA0 := tA0) (bf0 := bf0) (hi0 := hi0) hF K hlt hRm hret (A1 8) (A1 9) (A1 12) x1 h

set_option maxHeartbeats 4000000 in
set_option maxRecDepth 100000 in
theorem wX11_outByGrade_w1_2 {Γ : gT} {q : Nat → Nat} {r : Nat → Nat → Nat} {F : gF} (hF : gFz (g_E Γ) F) {o0 : Nat → Int32} {A0 : Nat → Nat → Int32} {C0 : Nat → Option Nat} {h0 : Nat} {o1 : Nat → Int32} {A1 : Nat → Nat → Int32} {C1 : Nat → Option Nat} {h1 : Nat} {o2 : Nat → Int32} {A2 : Nat → Nat → Int32} {C2 : Nat → Option Nat} {h2 : Nat} {gs0 : Int32} {gA : Nat → Nat → Int32} {tb0 : Int32} {tA0 bf0 : Nat → Int32} {hi0 : Int32} (K : gOK Γ cX11_outByGrade gU RX11) (hlt : ∀ i, i < 3 → i < g_n Γ) (hRm : g_R Γ = ({ frames := 6, cells := 0, slots := 0, locals := 192 } : Room)) {res : ((Nat → Int32)) × ((Nat → Int32)) × ((Nat → Int32))} (hret : ∀ (pc : Nat) (L : List (Nat × Value)) (w : va_W), decode cX11_outByGrade pc = .ok (.return_, 1) → (w = cw (g_E Γ) q r (gpl F) o0 A0 C0 h0 o1 (gu (gu (gu A1 8 res.1) 9 res.2.1) 12 res.2.2) C1 h1 o2 A2 C2 h2 gs0 gA tb0 tA0 bf0 hi0) → gGO Γ 0 0 pc L [] w) : ∀ (n : Nat) (w1a8 : (Nat → Int32)) (w1a9 : (Nat → Int32)) (w1a12 : (Nat → Int32)) (x2 : Int32), pX11_outByGrade_w1_2 (o1 0) (o1 6) (o1 7) (gA 0) n w1a8 w1a9 w1a12 x2 = some res → gGO Γ 0 0 2 [(0, .ref (q 5)), (1, .ref (q 1)), (2, .int x2)] [] (cw (g_E Γ) q r (gpl F) o0 A0 C0 h0 o1 (gu (gu (gu A1 8 w1a8) 9 w1a9) 12 w1a12) C1 h1 o2 A2 C2 h2 gs0 gA tb0 tA0 bf0 hi0) := by
  intro n
  induction n with
  | zero => intro _ _ _ _ h; cases h
  | succ n ih =>
    intro w1a8 w1a9 w1a12 x2 h
    simp only [pX11_outByGrade_w1_2] at h
    refine g_iload_n K dX11_outByGrade_2 rfl 2 rfl ?_
    refine g_aload_n K dX11_outByGrade_3 rfl 1 rfl ?_
    refine g_get (v := .int (o1 0)) (T := TX10) (ref := "ChiefGrades$World") K hin_X10 2 rfl rfl 0 (by decide) u_160 (Or.inl rfl) rfl dX11_outByGrade_4 ?_
    obtain ⟨ht9, hf9⟩ := gi_br h; clear h
    refine g_icmp_ge (tgt := 34) K dX11_outByGrade_7 (by decide) (fun qh => ?_) (fun qh => ?_)
    · have h := ht9 qh; clear ht9 hf9
      obtain rfl := Option.some.inj h
      exact hret _ _ _ dX11_outByGrade_34 rfl
    · have h := hf9 qh; clear ht9 hf9
      refine g_aload_n K dX11_outByGrade_10 rfl 0 rfl ?_
      refine g_get (v := .ref (q 3)) (T := TX11) (ref := "ChiefGrades") K hin_X11 0 rfl rfl 3 (by decide) u_327 (Or.inl rfl) rfl dX11_outByGrade_11 ?_
      refine g_get (v := .ref (r 3 0)) (T := TX1) (ref := "ChiefGrades$Grader") K hin_X1 4 rfl rfl 0 (by decide) u_287 (Or.inl rfl) rfl dX11_outByGrade_14 ?_
      refine g_iload_n K dX11_outByGrade_17 rfl 2 rfl ?_
      obtain ⟨b_1, h⟩ := gi_none h
      refine g_iald (f := (gA 0)) K 36 rfl (ginb_in b_1) dX11_outByGrade_18 ?_
      refine g_iconst (v := 1) K dX11_outByGrade_19 (by decide) ?_
      obtain ⟨ht9, hf9⟩ := gi_br h; clear h
      refine g_icmp_ne (tgt := 28) K dX11_outByGrade_20 (by decide) (fun qh => ?_) (fun qh => ?_)
      · have h := hf9 qh; clear ht9 hf9
        refine g_iinc (v := (x2 + 1)) (L' := [(2, .int (x2 + 1)), (0, .ref (q 5)), (1, .ref (q 1))]) K dX11_outByGrade_28 2 rfl rfl (hlt _ (by decide)) rfl ?_
        refine g_goto (tgt := 2) K dX11_outByGrade_31 (by decide) ?_
        refine g_sub (L' := [(0, .ref (q 5)), (1, .ref (q 1)), (2, .int (x2 + 1))]) [1, 2, 0] rfl ?_
        exact ih w1a8 w1a9 w1a12 (x2 + 1) h
      · have h := ht9 qh; clear ht9 hf9
        refine g_aload_n K dX11_outByGrade_23 rfl 1 rfl ?_
        refine g_iload_n K dX11_outByGrade_24 rfl 2 rfl ?_
        obtain ⟨z_2, hz_2, h⟩ := gi_bd h
        refine g_callVv (As := [.int x2]) (bytes := cX10_replace) (maxL := 2) (ret := none) K (ctX10_replace_w1 hF o0 A0 C0 h0 o1 (gu (gu (gu A1 8 w1a8) 9 w1a9) 12 w1a12) C1 h1 o2 A2 C2 h2 gs0 gA tb0 tA0 bf0 hi0 x2 (res := z_2) hz_2) gc_V_RX11_267_X10_replace rfl qv_X10_replace 2 rfl rfl rfl hRm rfl rfl rfl (by decide) (Nat.le_of_ble_eq_true rfl) (by decide) dX11_outByGrade_25 (fun w hw => ?_)
        subst hw
        refine g_ws (ws' := cw (g_E Γ) q r (gpl F) o0 A0 C0 h0 o1 (gu (gu (gu A1 8 z_2.1) 9 z_2.2.1) 12 z_2.2.2) C1 h1 o2 A2 C2 h2 gs0 gA tb0 tA0 bf0 hi0) rfl ?_
        refine g_iinc (v := (x2 + 1)) (L' := [(2, .int (x2 + 1)), (0, .ref (q 5)), (1, .ref (q 1))]) K dX11_outByGrade_28 2 rfl rfl (hlt _ (by decide)) rfl ?_
        refine g_goto (tgt := 2) K dX11_outByGrade_31 (by decide) ?_
        refine g_sub (L' := [(0, .ref (q 5)), (1, .ref (q 1)), (2, .int (x2 + 1))]) [1, 2, 0] rfl ?_
        exact ih z_2.1 z_2.2.1 z_2.2.2 (x2 + 1) h

set_option maxHeartbeats 4000000 in
set_option maxRecDepth 100000 in
theorem wX11_outByGrade_w1 {Γ : gT} {q : Nat → Nat} {r : Nat → Nat → Nat} {F : gF} (hF : gFz (g_E Γ) F) {o0 : Nat → Int32} {A0 : Nat → Nat → Int32} {C0 : Nat → Option Nat} {h0 : Nat} {o1 : Nat → Int32} {A1 : Nat → Nat → Int32} {C1 : Nat → Option Nat} {h1 : Nat} {o2 : Nat → Int32} {A2 : Nat → Nat → Int32} {C2 : Nat → Option Nat} {h2 : Nat} {gs0 : Int32} {gA : Nat → Nat → Int32} {tb0 : Int32} {tA0 bf0 : Nat → Int32} {hi0 : Int32} (K : gOK Γ cX11_outByGrade gU RX11) (hlt : ∀ i, i < 3 → i < g_n Γ) (hRm : g_R Γ = ({ frames := 6, cells := 0, slots := 0, locals := 192 } : Room)) {res : ((Nat → Int32)) × ((Nat → Int32)) × ((Nat → Int32))} (hret : ∀ (pc : Nat) (L : List (Nat × Value)) (w : va_W), decode cX11_outByGrade pc = .ok (.return_, 1) → (w = cw (g_E Γ) q r (gpl F) o0 A0 C0 h0 o1 (gu (gu (gu A1 8 res.1) 9 res.2.1) 12 res.2.2) C1 h1 o2 A2 C2 h2 gs0 gA tb0 tA0 bf0 hi0) → gGO Γ 0 0 pc L [] w) (w1a8 : (Nat → Int32)) (w1a9 : (Nat → Int32)) (w1a12 : (Nat → Int32)) (h : pX11_outByGrade_w1 (o1 0) (o1 6) (o1 7) (gA 0) w1a8 w1a9 w1a12 = some res) : gGO Γ 0 0 0 [(0, .ref (q 5)), (1, .ref (q 1))] [] (cw (g_E Γ) q r (gpl F) o0 A0 C0 h0 o1 (gu (gu (gu A1 8 w1a8) 9 w1a9) 12 w1a12) C1 h1 o2 A2 C2 h2 gs0 gA tb0 tA0 bf0 hi0) := by
    unfold pX11_outByGrade_w1 at h
    refine g_iconst (v := 0) K dX11_outByGrade_0 (by decide) ?_
    refine g_istore_n (L' := [(2, .int 0), (0, .ref (q 5)), (1, .ref (q 1))]) K dX11_outByGrade_1 rfl (hlt _ (by decide)) rfl ?_
    refine g_sub (L' := [(0, .ref (q 5)), (1, .ref (q 1)), (2, .int 0)]) [1, 2, 0] rfl ?_
    exact wX11_outByGrade_w1_2 (C0 := C0) (h0 := h0) (C1 := C1) (h1 := h1) (C2 := C2) (h2 := h2) (gs0 := gs0) (tb0 := tb0) (tA0 := tA0) (bf0 := bf0) (hi0 := hi0) hF K hlt hRm hret 1000 w1a8 w1a9 w1a12 0 h

set_option maxRecDepth 100000 in
theorem ctX11_outByGrade_w1 {E : gE} {q : Nat → Nat} {r : Nat → Nat → Nat} {F : gF} (hF : gFz E F) (o0 : Nat → Int32) (A0 : Nat → Nat → Int32) (C0 : Nat → Option Nat) (h0 : Nat) (o1 : Nat → Int32) (A1 : Nat → Nat → Int32) (C1 : Nat → Option Nat) (h1 : Nat) (o2 : Nat → Int32) (A2 : Nat → Nat → Int32) (C2 : Nat → Option Nat) (h2 : Nat) (gs0 : Int32) (gA : Nat → Nat → Int32) (tb0 : Int32) (tA0 bf0 : Nat → Int32) (hi0 : Int32) {res : ((Nat → Int32)) × ((Nat → Int32)) × ((Nat → Int32))} (h : pX11_outByGrade_w1 (o1 0) (o1 6) (o1 7) (gA 0) (A1 8) (A1 9) (A1 12) = some res) : gMv yX11_outByGrade (.code yX11_outByGrade cX11_outByGrade 3 none :: gU) ({ frames := 6, cells := 0, slots := 0, locals := 192 } : Room) 0 0 E [.ref (q 5), .ref (q 1)] (cw E q r (gpl F) o0 A0 C0 h0 o1 A1 C1 h1 o2 A2 C2 h2 gs0 gA tb0 tA0 bf0 hi0) (fun w => w = cw E q r (gpl F) o0 A0 C0 h0 o1 (gu (gu (gu A1 8 res.1) 9 res.2.1) 12 res.2.2) C1 h1 o2 A2 C2 h2 gs0 gA tb0 tA0 bf0 hi0) := by
  refine g_met_v (by decide +kernel) (Nat.le_of_ble_eq_true rfl) (fun Γ K hn hE hRm _ hret => ?_)
  subst hE
  have hlt : ∀ i, i < 3 → i < g_n Γ := fun i q => by rw [hn]; exact q
  refine g_ws (ws' := cw (g_E Γ) q r (gpl F) o0 A0 C0 h0 o1 (gu (gu (gu A1 8 (A1 8)) 9 (A1 9)) 12 (A1 12)) C1 h1 o2 A2 C2 h2 gs0 gA tb0 tA0 bf0 hi0) rfl ?_
  refine g_sub (L' := [(0, .ref (q 5)), (1, .ref (q 1))]) [0, 1] rfl ?_
  exact wX11_outByGrade_w1 (C0 := C0) (h0 := h0) (C1 := C1) (h1 := h1) (C2 := C2) (h2 := h2) (gs0 := gs0) (tb0 := tb0) (tA0 := tA0) (bf0 := bf0) (hi0 := hi0) hF K hlt hRm hret (A1 8) (A1 9) (A1 12) h

set_option maxHeartbeats 4000000 in
set_option maxRecDepth 100000 in
theorem wX11_outByLot_w1_10 {Γ : gT} {q : Nat → Nat} {r : Nat → Nat → Nat} {F : gF} (hF : gFz (g_E Γ) F) {o0 : Nat → Int32} {A0 : Nat → Nat → Int32} {C0 : Nat → Option Nat} {h0 : Nat} {o1 : Nat → Int32} {A1 : Nat → Nat → Int32} {C1 : Nat → Option Nat} {h1 : Nat} {o2 : Nat → Int32} {A2 : Nat → Nat → Int32} {C2 : Nat → Option Nat} {h2 : Nat} {gs0 : Int32} {gA : Nat → Nat → Int32} {tb0 : Int32} {tA0 bf0 : Nat → Int32} {hi0 : Int32} (K : gOK Γ cX11_outByLot gU RX11) (hlt : ∀ i, i < 3 → i < g_n Γ) (hRm : g_R Γ = ({ frames := 6, cells := 0, slots := 0, locals := 192 } : Room)) {res : ((Nat → Int32)) × ((Nat → Int32)) × ((Nat → Int32))} (hret : ∀ (pc : Nat) (L : List (Nat × Value)) (w : va_W), decode cX11_outByLot pc = .ok (.return_, 1) → (w = cw (g_E Γ) q r (gpl F) o0 A0 C0 h0 o1 (gu (gu (gu A1 8 res.1) 9 res.2.1) 12 res.2.2) C1 h1 o2 A2 C2 h2 gs0 gA tb0 tA0 bf0 hi0) → gGO Γ 0 0 pc L [] w) : ∀ (n : Nat) (w1a8 : (Nat → Int32)) (w1a9 : (Nat → Int32)) (w1a12 : (Nat → Int32)) (x1 : Int32) (x2 : Int32), pX11_outByLot_w1_10 (o1 0) (o1 5) (o1 6) (o1 7) n w1a8 w1a9 w1a12 x1 x2 = some res → gGO Γ 0 0 10 [(0, .ref (q 1)), (1, .int x1), (2, .int x2)] [] (cw (g_E Γ) q r (gpl F) o0 A0 C0 h0 o1 (gu (gu (gu A1 8 w1a8) 9 w1a9) 12 w1a12) C1 h1 o2 A2 C2 h2 gs0 gA tb0 tA0 bf0 hi0) := by
  intro n
  induction n with
  | zero => intro _ _ _ _ _ h; cases h
  | succ n ih =>
    intro w1a8 w1a9 w1a12 x1 x2 h
    simp only [pX11_outByLot_w1_10] at h
    refine g_iload_n K dX11_outByLot_10 rfl 2 rfl ?_
    refine g_iload_n K dX11_outByLot_11 rfl 1 rfl ?_
    obtain ⟨ht9, hf9⟩ := gi_br h; clear h
    refine g_icmp_ge (tgt := 39) K dX11_outByLot_12 (by decide) (fun qh => ?_) (fun qh => ?_)
    · have h := ht9 qh; clear ht9 hf9
      obtain rfl := Option.some.inj h
      exact hret _ _ _ dX11_outByLot_39 rfl
    · have h := hf9 qh; clear ht9 hf9
      refine g_aload_n K dX11_outByLot_15 rfl 0 rfl ?_
      refine g_aload_n K dX11_outByLot_16 rfl 0 rfl ?_
      refine g_get (v := .int (o1 5)) (T := TX10) (ref := "ChiefGrades$World") K hin_X10 2 rfl rfl 5 (by decide) u_172 (Or.inl rfl) rfl dX11_outByLot_17 ?_
      refine g_bipush (v := 7) K dX11_outByLot_20 (by decide) ?_
      refine g_imul K dX11_outByLot_22 ?_
      refine g_iload_n K dX11_outByLot_23 rfl 2 rfl ?_
      refine g_iadd K dX11_outByLot_24 ?_
      refine g_aload_n K dX11_outByLot_25 rfl 0 rfl ?_
      refine g_get (v := .int (o1 0)) (T := TX10) (ref := "ChiefGrades$World") K hin_X10 2 rfl rfl 0 (by decide) u_160 (Or.inl rfl) rfl dX11_outByLot_26 ?_
      obtain ⟨c_1, h⟩ := gi_none h
      refine g_irem K dX11_outByLot_29 c_1 ?_
      obtain ⟨z_2, hz_2, h⟩ := gi_bd h
      refine g_callVv (As := [.int ((((o1 5) * 7) + x2) - (((o1 5) * 7) + x2) / (o1 0) * (o1 0))]) (bytes := cX10_replace) (maxL := 2) (ret := none) K (ctX10_replace_w1 hF o0 A0 C0 h0 o1 (gu (gu (gu A1 8 w1a8) 9 w1a9) 12 w1a12) C1 h1 o2 A2 C2 h2 gs0 gA tb0 tA0 bf0 hi0 ((((o1 5) * 7) + x2) - (((o1 5) * 7) + x2) / (o1 0) * (o1 0)) (res := z_2) hz_2) gc_V_RX11_267_X10_replace rfl qv_X10_replace 2 rfl rfl rfl hRm rfl rfl rfl (by decide) (Nat.le_of_ble_eq_true rfl) (by decide) dX11_outByLot_30 (fun w hw => ?_)
      subst hw
      refine g_ws (ws' := cw (g_E Γ) q r (gpl F) o0 A0 C0 h0 o1 (gu (gu (gu A1 8 z_2.1) 9 z_2.2.1) 12 z_2.2.2) C1 h1 o2 A2 C2 h2 gs0 gA tb0 tA0 bf0 hi0) rfl ?_
      refine g_iinc (v := (x2 + 1)) (L' := [(2, .int (x2 + 1)), (0, .ref (q 1)), (1, .int x1)]) K dX11_outByLot_33 2 rfl rfl (hlt _ (by decide)) rfl ?_
      refine g_goto (tgt := 10) K dX11_outByLot_36 (by decide) ?_
      refine g_sub (L' := [(0, .ref (q 1)), (1, .int x1), (2, .int (x2 + 1))]) [1, 2, 0] rfl ?_
      exact ih z_2.1 z_2.2.1 z_2.2.2 x1 (x2 + 1) h

set_option maxHeartbeats 4000000 in
set_option maxRecDepth 100000 in
theorem wX11_outByLot_w1 {Γ : gT} {q : Nat → Nat} {r : Nat → Nat → Nat} {F : gF} (hF : gFz (g_E Γ) F) {o0 : Nat → Int32} {A0 : Nat → Nat → Int32} {C0 : Nat → Option Nat} {h0 : Nat} {o1 : Nat → Int32} {A1 : Nat → Nat → Int32} {C1 : Nat → Option Nat} {h1 : Nat} {o2 : Nat → Int32} {A2 : Nat → Nat → Int32} {C2 : Nat → Option Nat} {h2 : Nat} {gs0 : Int32} {gA : Nat → Nat → Int32} {tb0 : Int32} {tA0 bf0 : Nat → Int32} {hi0 : Int32} (K : gOK Γ cX11_outByLot gU RX11) (hlt : ∀ i, i < 3 → i < g_n Γ) (hRm : g_R Γ = ({ frames := 6, cells := 0, slots := 0, locals := 192 } : Room)) {res : ((Nat → Int32)) × ((Nat → Int32)) × ((Nat → Int32))} (hret : ∀ (pc : Nat) (L : List (Nat × Value)) (w : va_W), decode cX11_outByLot pc = .ok (.return_, 1) → (w = cw (g_E Γ) q r (gpl F) o0 A0 C0 h0 o1 (gu (gu (gu A1 8 res.1) 9 res.2.1) 12 res.2.2) C1 h1 o2 A2 C2 h2 gs0 gA tb0 tA0 bf0 hi0) → gGO Γ 0 0 pc L [] w) (w1a8 : (Nat → Int32)) (w1a9 : (Nat → Int32)) (w1a12 : (Nat → Int32)) (x1 : Int32) (h : pX11_outByLot_w1 (o1 0) (o1 5) (o1 6) (o1 7) w1a8 w1a9 w1a12 x1 = some res) : gGO Γ 0 0 0 [(0, .ref (q 1)), (1, .int x1)] [] (cw (g_E Γ) q r (gpl F) o0 A0 C0 h0 o1 (gu (gu (gu A1 8 w1a8) 9 w1a9) 12 w1a12) C1 h1 o2 A2 C2 h2 gs0 gA tb0 tA0 bf0 hi0) := by
    unfold pX11_outByLot_w1 at h
    refine g_aload_n K dX11_outByLot_0 rfl 0 rfl ?_
    refine g_get (v := .int (o1 0)) (T := TX10) (ref := "ChiefGrades$World") K hin_X10 2 rfl rfl 0 (by decide) u_160 (Or.inl rfl) rfl dX11_outByLot_1 ?_
    obtain ⟨ht9, hf9⟩ := gi_br h; clear h
    refine g_if_ne (tgt := 8) K dX11_outByLot_4 (by decide) (fun qh => ?_) (fun qh => ?_)
    · have h := hf9 qh; clear ht9 hf9
      refine g_iconst (v := 0) K dX11_outByLot_8 (by decide) ?_
      refine g_istore_n (L' := [(2, .int 0), (0, .ref (q 1)), (1, .int x1)]) K dX11_outByLot_9 rfl (hlt _ (by decide)) rfl ?_
      refine g_sub (L' := [(0, .ref (q 1)), (1, .int x1), (2, .int 0)]) [1, 2, 0] rfl ?_
      exact wX11_outByLot_w1_10 (C0 := C0) (h0 := h0) (C1 := C1) (h1 := h1) (C2 := C2) (h2 := h2) (gs0 := gs0) (tb0 := tb0) (tA0 := tA0) (bf0 := bf0) (hi0 := hi0) hF K hlt hRm hret 1000 w1a8 w1a9 w1a12 x1 0 h
    · have h := ht9 qh; clear ht9 hf9
      obtain rfl := Option.some.inj h
      exact hret _ _ _ dX11_outByLot_7 rfl

set_option maxRecDepth 100000 in
theorem ctX11_outByLot_w1 {E : gE} {q : Nat → Nat} {r : Nat → Nat → Nat} {F : gF} (hF : gFz E F) (o0 : Nat → Int32) (A0 : Nat → Nat → Int32) (C0 : Nat → Option Nat) (h0 : Nat) (o1 : Nat → Int32) (A1 : Nat → Nat → Int32) (C1 : Nat → Option Nat) (h1 : Nat) (o2 : Nat → Int32) (A2 : Nat → Nat → Int32) (C2 : Nat → Option Nat) (h2 : Nat) (gs0 : Int32) (gA : Nat → Nat → Int32) (tb0 : Int32) (tA0 bf0 : Nat → Int32) (hi0 : Int32) (x1 : Int32) {res : ((Nat → Int32)) × ((Nat → Int32)) × ((Nat → Int32))} (h : pX11_outByLot_w1 (o1 0) (o1 5) (o1 6) (o1 7) (A1 8) (A1 9) (A1 12) x1 = some res) : gMv yX11_outByLot (.code yX11_outByLot cX11_outByLot 3 none :: gU) ({ frames := 6, cells := 0, slots := 0, locals := 192 } : Room) 0 0 E [.ref (q 1), .int x1] (cw E q r (gpl F) o0 A0 C0 h0 o1 A1 C1 h1 o2 A2 C2 h2 gs0 gA tb0 tA0 bf0 hi0) (fun w => w = cw E q r (gpl F) o0 A0 C0 h0 o1 (gu (gu (gu A1 8 res.1) 9 res.2.1) 12 res.2.2) C1 h1 o2 A2 C2 h2 gs0 gA tb0 tA0 bf0 hi0) := by
  refine g_met_v (by decide +kernel) (Nat.le_of_ble_eq_true rfl) (fun Γ K hn hE hRm _ hret => ?_)
  subst hE
  have hlt : ∀ i, i < 3 → i < g_n Γ := fun i q => by rw [hn]; exact q
  refine g_ws (ws' := cw (g_E Γ) q r (gpl F) o0 A0 C0 h0 o1 (gu (gu (gu A1 8 (A1 8)) 9 (A1 9)) 12 (A1 12)) C1 h1 o2 A2 C2 h2 gs0 gA tb0 tA0 bf0 hi0) rfl ?_
  refine g_sub (L' := [(0, .ref (q 1)), (1, .int x1)]) [0, 1] rfl ?_
  exact wX11_outByLot_w1 (C0 := C0) (h0 := h0) (C1 := C1) (h1 := h1) (C2 := C2) (h2 := h2) (gs0 := gs0) (tb0 := tb0) (tA0 := tA0) (bf0 := bf0) (hi0 := hi0) hF K hlt hRm hret (A1 8) (A1 9) (A1 12) x1 h

set_option maxHeartbeats 4000000 in
set_option maxRecDepth 100000 in
theorem wX1_gradeDue_w1_14 {Γ : gT} {q : Nat → Nat} {r : Nat → Nat → Nat} {F : gF} (hF : gFz (g_E Γ) F) {o0 : Nat → Int32} {A0 : Nat → Nat → Int32} {C0 : Nat → Option Nat} {h0 : Nat} {o1 : Nat → Int32} {A1 : Nat → Nat → Int32} {C1 : Nat → Option Nat} {h1 : Nat} {o2 : Nat → Int32} {A2 : Nat → Nat → Int32} {C2 : Nat → Option Nat} {h2 : Nat} {gs0 : Int32} {gA : Nat → Nat → Int32} {tb0 : Int32} {tA0 bf0 : Nat → Int32} {hi0 : Int32} (K : gOK Γ cX1_gradeDue gU RX1) (hlt : ∀ i, i < 3 → i < g_n Γ) (hRm : g_R Γ = ({ frames := 7, cells := 0, slots := 0, locals := 230 } : Room)) {res : Int32 × ((Nat → Int32)) × ((Nat → Int32)) × ((Nat → Int32)) × ((Nat → Int32))} (hret : ∀ (pc : Nat) (L : List (Nat × Value)) (w : va_W), decode cX1_gradeDue pc = .ok (.return_, 1) → (w = cw (g_E Γ) q r (gpl F) o0 A0 C0 h0 o1 A1 C1 h1 o2 A2 C2 h2 res.1 (gu (gu (gu (gu gA 0 res.2.1) 1 res.2.2.1) 2 res.2.2.2.1) 3 res.2.2.2.2) tb0 tA0 bf0 hi0) → gGO Γ 0 0 pc L [] w) : ∀ (n : Nat) (gs : Int32) (ga0 : (Nat → Int32)) (ga1 : (Nat → Int32)) (ga2 : (Nat → Int32)) (ga3 : (Nat → Int32)) (x2 : Int32), pX1_gradeDue_w1_14 F (o1 0) (o1 5) (A1 8) h1 n gs ga0 ga1 ga2 ga3 x2 = some res → gGO Γ 0 0 14 [(0, .ref (q 3)), (1, .ref (q 1)), (2, .int x2)] [] (cw (g_E Γ) q r (gpl F) o0 A0 C0 h0 o1 A1 C1 h1 o2 A2 C2 h2 gs (gu (gu (gu (gu gA 0 ga0) 1 ga1) 2 ga2) 3 ga3) tb0 tA0 bf0 hi0) := by
  intro n
  induction n with
  | zero => intro _ _ _ _ _ _ h; cases h
  | succ n ih =>
    intro gs ga0 ga1 ga2 ga3 x2 h
    simp only [pX1_gradeDue_w1_14] at h
    refine g_iload_n K dX1_gradeDue_14 rfl 2 rfl ?_
    refine g_aload_n K dX1_gradeDue_15 rfl 0 rfl ?_
    refine g_get (v := .int gs) (T := TX1) (ref := "ChiefGrades$Grader") K hin_X1 4 rfl rfl 4 (by decide) u_291 (Or.inl rfl) rfl dX1_gradeDue_16 ?_
    obtain ⟨ht9, hf9⟩ := gi_br h; clear h
    refine g_icmp_ge (tgt := 50) K dX1_gradeDue_19 (by decide) (fun qh => ?_) (fun qh => ?_)
    · have h := ht9 qh; clear ht9 hf9
      refine g_aload_n K dX1_gradeDue_50 rfl 0 rfl ?_
      refine g_aload_n K dX1_gradeDue_51 rfl 1 rfl ?_
      refine g_aload_n K dX1_gradeDue_52 rfl 0 rfl ?_
      refine g_get (v := .ref (gpl F)) (T := TX1) (ref := "ChiefGrades$Grader") K hin_X1 4 rfl rfl 6 (by decide) u_293 (Or.inl rfl) rfl dX1_gradeDue_53 ?_
      obtain ⟨z_1, hz_1, h⟩ := gi_bd h
      refine g_callVi (As := [.ref (q 1), .ref (gpl F)]) (bytes := cX1_share) (maxL := 8) (ret := (some .int)) K (ctX1_share_w1 hF o0 A0 C0 h0 o1 A1 C1 h1 o2 A2 C2 h2 gs (gu (gu (gu (gu gA 0 ga0) 1 ga1) 2 ga2) 3 ga3) tb0 tA0 bf0 hi0 (gpl F) (res := z_1) hz_1) gc_V_RX1_109_X1_share rfl qv_X1_share 4 rfl rfl rfl hRm rfl rfl rfl (by decide) (Nat.le_of_ble_eq_true rfl) (by decide) dX1_gradeDue_56 (fun v w hw => ?_)
      obtain ⟨hv9, rfl⟩ := hw; have hv9 := hv9.symm; subst hv9
      refine g_ws (ws' := cw (g_E Γ) q r (gpl F) o0 A0 C0 h0 o1 A1 C1 h1 o2 A2 C2 h2 gs (gu (gu (gu (gu gA 0 z_1.2.1) 1 ga1) 2 ga2) 3 z_1.2.2) tb0 tA0 bf0 hi0) rfl ?_
      refine g_pop K dX1_gradeDue_59 rfl ?_
      obtain rfl := Option.some.inj h
      exact hret _ _ _ dX1_gradeDue_60 rfl
    · have h := hf9 qh; clear ht9 hf9
      refine g_aload_n K dX1_gradeDue_22 rfl 0 rfl ?_
      refine g_get (v := .ref (r 3 1)) (T := TX1) (ref := "ChiefGrades$Grader") K hin_X1 4 rfl rfl 1 (by decide) u_288 (Or.inl rfl) rfl dX1_gradeDue_23 ?_
      refine g_aload_n K dX1_gradeDue_26 rfl 0 rfl ?_
      refine g_get (v := .ref (r 3 2)) (T := TX1) (ref := "ChiefGrades$Grader") K hin_X1 4 rfl rfl 2 (by decide) u_289 (Or.inl rfl) rfl dX1_gradeDue_27 ?_
      refine g_iload_n K dX1_gradeDue_30 rfl 2 rfl ?_
      obtain ⟨b_2, h⟩ := gi_none h
      refine g_iald (f := ga2) K 38 rfl (ginb_in b_2) dX1_gradeDue_31 ?_
      refine g_aload_n K dX1_gradeDue_32 rfl 1 rfl ?_
      refine g_get (v := .ref (r 1 8)) (T := TX10) (ref := "ChiefGrades$World") K hin_X10 2 rfl rfl 8 (by decide) u_178 (Or.inl rfl) rfl dX1_gradeDue_33 ?_
      refine g_aload_n K dX1_gradeDue_36 rfl 0 rfl ?_
      refine g_get (v := .ref (r 3 2)) (T := TX1) (ref := "ChiefGrades$Grader") K hin_X1 4 rfl rfl 2 (by decide) u_289 (Or.inl rfl) rfl dX1_gradeDue_37 ?_
      refine g_iload_n K dX1_gradeDue_40 rfl 2 rfl ?_
      obtain ⟨b_3, h⟩ := gi_none h
      refine g_iald (f := ga2) K 38 rfl (ginb_in b_3) dX1_gradeDue_41 ?_
      obtain ⟨b_4, h⟩ := gi_none h
      refine g_iald (f := (A1 8)) K 16 rfl (ginb_in b_4) dX1_gradeDue_42 ?_
      obtain ⟨b_5, h⟩ := gi_none h
      obtain ⟨f_6, ef_6, h⟩ := gi_nm h
      refine g_iast (f := ga1) (ws' := cw (g_E Γ) q r (gpl F) o0 A0 C0 h0 o1 A1 C1 h1 o2 A2 C2 h2 gs (gu (gu (gu (gu gA 0 ga0) 1 f_6) 2 ga2) 3 ga3) tb0 tA0 bf0 hi0) K 37 rfl (ginb_in b_5) dX1_gradeDue_43 (by rw [ef_6]; rfl) ?_
      refine g_iinc (v := (x2 + 1)) (L' := [(2, .int (x2 + 1)), (0, .ref (q 3)), (1, .ref (q 1))]) K dX1_gradeDue_44 2 rfl rfl (hlt _ (by decide)) rfl ?_
      refine g_goto (tgt := 14) K dX1_gradeDue_47 (by decide) ?_
      refine g_sub (L' := [(0, .ref (q 3)), (1, .ref (q 1)), (2, .int (x2 + 1))]) [1, 2, 0] rfl ?_
      exact ih gs ga0 f_6 ga2 ga3 (x2 + 1) h

set_option maxHeartbeats 4000000 in
set_option maxRecDepth 100000 in
theorem wX1_gradeDue_w1 {Γ : gT} {q : Nat → Nat} {r : Nat → Nat → Nat} {F : gF} (hF : gFz (g_E Γ) F) {o0 : Nat → Int32} {A0 : Nat → Nat → Int32} {C0 : Nat → Option Nat} {h0 : Nat} {o1 : Nat → Int32} {A1 : Nat → Nat → Int32} {C1 : Nat → Option Nat} {h1 : Nat} {o2 : Nat → Int32} {A2 : Nat → Nat → Int32} {C2 : Nat → Option Nat} {h2 : Nat} {gs0 : Int32} {gA : Nat → Nat → Int32} {tb0 : Int32} {tA0 bf0 : Nat → Int32} {hi0 : Int32} (K : gOK Γ cX1_gradeDue gU RX1) (hlt : ∀ i, i < 3 → i < g_n Γ) (hRm : g_R Γ = ({ frames := 7, cells := 0, slots := 0, locals := 230 } : Room)) {res : Int32 × ((Nat → Int32)) × ((Nat → Int32)) × ((Nat → Int32)) × ((Nat → Int32))} (hret : ∀ (pc : Nat) (L : List (Nat × Value)) (w : va_W), decode cX1_gradeDue pc = .ok (.return_, 1) → (w = cw (g_E Γ) q r (gpl F) o0 A0 C0 h0 o1 A1 C1 h1 o2 A2 C2 h2 res.1 (gu (gu (gu (gu gA 0 res.2.1) 1 res.2.2.1) 2 res.2.2.2.1) 3 res.2.2.2.2) tb0 tA0 bf0 hi0) → gGO Γ 0 0 pc L [] w) (gs : Int32) (ga0 : (Nat → Int32)) (ga1 : (Nat → Int32)) (ga2 : (Nat → Int32)) (ga3 : (Nat → Int32)) (h : pX1_gradeDue_w1 F (o1 0) (o1 5) (A1 8) h1 gs ga0 ga1 ga2 ga3 = some res) : gGO Γ 0 0 0 [(0, .ref (q 3)), (1, .ref (q 1))] [] (cw (g_E Γ) q r (gpl F) o0 A0 C0 h0 o1 A1 C1 h1 o2 A2 C2 h2 gs (gu (gu (gu (gu gA 0 ga0) 1 ga1) 2 ga2) 3 ga3) tb0 tA0 bf0 hi0) := by
    unfold pX1_gradeDue_w1 at h
    refine g_aload_n K dX1_gradeDue_0 rfl 0 rfl ?_
    refine g_iconst (v := 1) K dX1_gradeDue_1 (by decide) ?_
    refine g_aload_n K dX1_gradeDue_2 rfl 1 rfl ?_
    refine g_get (v := .int (o1 0)) (T := TX10) (ref := "ChiefGrades$World") K hin_X10 2 rfl rfl 0 (by decide) u_159 (Or.inl rfl) rfl dX1_gradeDue_3 ?_
    refine g_ishl K dX1_gradeDue_6 ?_
    refine g_iconst (v := 1) K dX1_gradeDue_7 (by decide) ?_
    refine g_isub K dX1_gradeDue_8 ?_
    obtain ⟨z_1, hz_1, h⟩ := gi_bd h
    refine g_callVv (As := [.int ((1 <<< ((o1 0) &&& 31)) - 1)]) (bytes := cX1_gather) (maxL := 3) (ret := none) K (ctX1_gather hF o0 A0 C0 h0 o1 A1 C1 h1 o2 A2 C2 h2 gs (gu (gu (gu (gu gA 0 ga0) 1 ga1) 2 ga2) 3 ga3) tb0 tA0 bf0 hi0 ((1 <<< ((o1 0) &&& 31)) - 1) (res := z_1) hz_1) gc_V_RX1_101_X1_gather rfl qv_X1_gather 4 rfl rfl rfl hRm rfl rfl rfl (by decide) (Nat.le_of_ble_eq_true rfl) (by decide) dX1_gradeDue_9 (fun w hw => ?_)
    subst hw
    refine g_ws (ws' := cw (g_E Γ) q r (gpl F) o0 A0 C0 h0 o1 A1 C1 h1 o2 A2 C2 h2 z_1.1 (gu (gu (gu (gu gA 0 ga0) 1 ga1) 2 z_1.2) 3 ga3) tb0 tA0 bf0 hi0) rfl ?_
    refine g_iconst (v := 0) K dX1_gradeDue_12 (by decide) ?_
    refine g_istore_n (L' := [(2, .int 0), (0, .ref (q 3)), (1, .ref (q 1))]) K dX1_gradeDue_13 rfl (hlt _ (by decide)) rfl ?_
    refine g_sub (L' := [(0, .ref (q 3)), (1, .ref (q 1)), (2, .int 0)]) [1, 2, 0] rfl ?_
    exact wX1_gradeDue_w1_14 (C0 := C0) (h0 := h0) (C1 := C1) (h1 := h1) (C2 := C2) (h2 := h2) (gs0 := gs0) (tb0 := tb0) (tA0 := tA0) (bf0 := bf0) (hi0 := hi0) hF K hlt hRm hret 1000 z_1.1 ga0 ga1 z_1.2 ga3 0 h

set_option maxRecDepth 100000 in
theorem ctX1_gradeDue_w1 {E : gE} {q : Nat → Nat} {r : Nat → Nat → Nat} {F : gF} (hF : gFz E F) (o0 : Nat → Int32) (A0 : Nat → Nat → Int32) (C0 : Nat → Option Nat) (h0 : Nat) (o1 : Nat → Int32) (A1 : Nat → Nat → Int32) (C1 : Nat → Option Nat) (h1 : Nat) (o2 : Nat → Int32) (A2 : Nat → Nat → Int32) (C2 : Nat → Option Nat) (h2 : Nat) (gs0 : Int32) (gA : Nat → Nat → Int32) (tb0 : Int32) (tA0 bf0 : Nat → Int32) (hi0 : Int32) {res : Int32 × ((Nat → Int32)) × ((Nat → Int32)) × ((Nat → Int32)) × ((Nat → Int32))} (h : pX1_gradeDue_w1 F (o1 0) (o1 5) (A1 8) h1 gs0 (gA 0) (gA 1) (gA 2) (gA 3) = some res) : gMv yX1_gradeDue (.code yX1_gradeDue cX1_gradeDue 3 none :: gU) ({ frames := 7, cells := 0, slots := 0, locals := 230 } : Room) 0 0 E [.ref (q 3), .ref (q 1)] (cw E q r (gpl F) o0 A0 C0 h0 o1 A1 C1 h1 o2 A2 C2 h2 gs0 gA tb0 tA0 bf0 hi0) (fun w => w = cw E q r (gpl F) o0 A0 C0 h0 o1 A1 C1 h1 o2 A2 C2 h2 res.1 (gu (gu (gu (gu gA 0 res.2.1) 1 res.2.2.1) 2 res.2.2.2.1) 3 res.2.2.2.2) tb0 tA0 bf0 hi0) := by
  refine g_met_v (by decide +kernel) (Nat.le_of_ble_eq_true rfl) (fun Γ K hn hE hRm _ hret => ?_)
  subst hE
  have hlt : ∀ i, i < 3 → i < g_n Γ := fun i q => by rw [hn]; exact q
  refine g_ws (ws' := cw (g_E Γ) q r (gpl F) o0 A0 C0 h0 o1 A1 C1 h1 o2 A2 C2 h2 gs0 (gu (gu (gu (gu gA 0 (gA 0)) 1 (gA 1)) 2 (gA 2)) 3 (gA 3)) tb0 tA0 bf0 hi0) rfl ?_
  refine g_sub (L' := [(0, .ref (q 3)), (1, .ref (q 1))]) [0, 1] rfl ?_
  exact wX1_gradeDue_w1 (C0 := C0) (h0 := h0) (C1 := C1) (h1 := h1) (C2 := C2) (h2 := h2) (gs0 := gs0) (tb0 := tb0) (tA0 := tA0) (bf0 := bf0) (hi0 := hi0) hF K hlt hRm hret gs0 (gA 0) (gA 1) (gA 2) (gA 3) h

set_option maxHeartbeats 4000000 in
set_option maxRecDepth 100000 in
theorem wX11_goYear_w1_96 {Γ : gT} {q : Nat → Nat} {r : Nat → Nat → Nat} {F : gF} (hF : gFz (g_E Γ) F) {o0 : Nat → Int32} {A0 : Nat → Nat → Int32} {C0 : Nat → Option Nat} {h0 : Nat} {o1 : Nat → Int32} {A1 : Nat → Nat → Int32} {C1 : Nat → Option Nat} {h1 : Nat} {o2 : Nat → Int32} {A2 : Nat → Nat → Int32} {C2 : Nat → Option Nat} {h2 : Nat} {gs0 : Int32} {gA : Nat → Nat → Int32} {tb0 : Int32} {tA0 bf0 : Nat → Int32} {hi0 : Int32} (K : gOK Γ cX11_goYear gU RX11) (hlt : ∀ i, i < 6 → i < g_n Γ) (hRm : g_R Γ = ({ frames := 10, cells := 0, slots := 0, locals := 283 } : Room)) {res : Int32 × Int32 × ((Nat → Int32)) × ((Nat → Int32)) × ((Nat → Int32)) × Int32 × ((Nat → Int32)) × ((Nat → Int32)) × ((Nat → Int32)) × ((Nat → Int32)) × ((Nat → Int32))} (hret : ∀ (pc : Nat) (L : List (Nat × Value)) (v : Int32) (w : va_W), decode cX11_goYear pc = .ok (.ireturn, 1) → narrow .int (.int v) = .int v → (v = res.1 ∧ w = cw (g_E Γ) q r (gpl F) o0 A0 C0 h0 (gu o1 5 res.2.1) (gu (gu (gu A1 8 res.2.2.1) 9 res.2.2.2.1) 12 res.2.2.2.2.1) C1 h1 o2 A2 C2 h2 res.2.2.2.2.2.1 (gu (gu (gu (gu (gu gA 0 res.2.2.2.2.2.2.1) 1 res.2.2.2.2.2.2.2.1) 2 res.2.2.2.2.2.2.2.2.1) 3 res.2.2.2.2.2.2.2.2.2.1) 5 res.2.2.2.2.2.2.2.2.2.2) tb0 tA0 bf0 hi0) → gGO Γ 0 0 pc L [.int v] w) (w1o5 : Int32) (w1a8 : (Nat → Int32)) (w1a9 : (Nat → Int32)) (w1a12 : (Nat → Int32)) (gs : Int32) (ga0 : (Nat → Int32)) (ga1 : (Nat → Int32)) (ga2 : (Nat → Int32)) (ga3 : (Nat → Int32)) (ga5 : (Nat → Int32)) (x2 : Int32) (x3 : Int32) (h : pX11_goYear_w1_96 F (o1 0) (o1 1) (o1 6) (o1 7) (A1 10) (A1 11) h1 C1 w1o5 w1a8 w1a9 w1a12 gs ga0 ga1 ga2 ga3 ga5 x2 x3 = some res) : gGO Γ 0 0 96 [(0, .ref (q 5)), (1, .ref (q 1)), (2, .int x2), (3, .int x3)] [] (cw (g_E Γ) q r (gpl F) o0 A0 C0 h0 (gu o1 5 w1o5) (gu (gu (gu A1 8 w1a8) 9 w1a9) 12 w1a12) C1 h1 o2 A2 C2 h2 gs (gu (gu (gu (gu (gu gA 0 ga0) 1 ga1) 2 ga2) 3 ga3) 5 ga5) tb0 tA0 bf0 hi0) := by
    unfold pX11_goYear_w1_96 at h
    refine g_iload_n K dX11_goYear_96 rfl 2 rfl ?_
    refine g_iconst (v := 1) K dX11_goYear_97 (by decide) ?_
    obtain ⟨ht9, hf9⟩ := gi_br h; clear h
    refine g_icmp_ne (tgt := 106) K dX11_goYear_98 (by decide) (fun qh => ?_) (fun qh => ?_)
    · have h := hf9 qh; clear ht9 hf9
      refine g_iload_n K dX11_goYear_106 rfl 2 rfl ?_
      refine g_iconst (v := 2) K dX11_goYear_107 (by decide) ?_
      obtain ⟨ht9, hf9⟩ := gi_br h; clear h
      refine g_icmp_ne (tgt := 119) K dX11_goYear_108 (by decide) (fun qh => ?_) (fun qh => ?_)
      · have h := hf9 qh; clear ht9 hf9
        refine g_aload_n K dX11_goYear_119 rfl 0 rfl ?_
        refine g_aload_n K dX11_goYear_120 rfl 1 rfl ?_
        obtain ⟨z_1, hz_1, h⟩ := gi_bd h
        refine g_callVv (As := [.ref (q 1)]) (bytes := cX11_outByGrade) (maxL := 3) (ret := none) K (ctX11_outByGrade_w1 hF o0 A0 C0 h0 (gu o1 5 w1o5) (gu (gu (gu A1 8 w1a8) 9 w1a9) 12 w1a12) C1 h1 o2 A2 C2 h2 gs (gu (gu (gu (gu (gu gA 0 ga0) 1 ga1) 2 ga2) 3 ga3) 5 ga5) tb0 tA0 bf0 hi0 (res := z_1) hz_1) gc_V_RX11_264_X11_outByGrade rfl qv_X11_outByGrade 0 rfl rfl rfl hRm rfl rfl rfl (by decide) (Nat.le_of_ble_eq_true rfl) (by decide) dX11_goYear_121 (fun w hw => ?_)
        subst hw
        refine g_ws (ws' := cw (g_E Γ) q r (gpl F) o0 A0 C0 h0 (gu o1 5 w1o5) (gu (gu (gu A1 8 z_1.1) 9 z_1.2.1) 12 z_1.2.2) C1 h1 o2 A2 C2 h2 gs (gu (gu (gu (gu (gu gA 0 ga0) 1 ga1) 2 ga2) 3 ga3) 5 ga5) tb0 tA0 bf0 hi0) rfl ?_
        refine g_aload_n K dX11_goYear_124 rfl 1 rfl ?_
        refine g_dup K dX11_goYear_125 rfl ?_
        refine g_get (v := .int w1o5) (T := TX10) (ref := "ChiefGrades$World") K hin_X10 2 rfl rfl 5 (by decide) u_172 (Or.inl rfl) rfl dX11_goYear_126 ?_
        refine g_iconst (v := 1) K dX11_goYear_129 (by decide) ?_
        refine g_iadd K dX11_goYear_130 ?_
        refine g_put (v := .int (w1o5 + 1)) (ws' := cw (g_E Γ) q r (gpl F) o0 A0 C0 h0 (gu o1 5 (w1o5 + 1)) (gu (gu (gu A1 8 z_1.1) 9 z_1.2.1) 12 z_1.2.2) C1 h1 o2 A2 C2 h2 gs (gu (gu (gu (gu (gu gA 0 ga0) 1 ga1) 2 ga2) 3 ga3) 5 ga5) tb0 tA0 bf0 hi0) (T := TX10) (ref := "ChiefGrades$World") (ty := .int) K hin_X10 tyX10_ok nmX10 2 rfl rfl 5 (by decide) u_172 rfl rfl (by decide +kernel) rfl rfl (Nat.le_of_ble_eq_true rfl) dX11_goYear_131 rfl ?_
        refine g_iload_n K dX11_goYear_134 rfl 3 rfl ?_
        obtain rfl := Option.some.inj h
        exact hret _ _ _ _ dX11_goYear_135 rfl ⟨rfl, rfl⟩
      · have h := ht9 qh; clear ht9 hf9
        refine g_aload_n K dX11_goYear_111 rfl 1 rfl ?_
        refine g_iload_n K dX11_goYear_112 rfl 3 rfl ?_
        obtain ⟨z_2, hz_2, h⟩ := gi_bd h
        refine g_callSv (As := [.ref (q 1), .int x3]) (bytes := cX11_outByLot) (maxL := 3) (ret := none) K (ctX11_outByLot_w1 hF o0 A0 C0 h0 (gu o1 5 w1o5) (gu (gu (gu A1 8 w1a8) 9 w1a9) 12 w1a12) C1 h1 o2 A2 C2 h2 gs (gu (gu (gu (gu (gu gA 0 ga0) 1 ga1) 2 ga2) 3 ga3) 5 ga5) tb0 tA0 bf0 hi0 x3 (res := z_2) hz_2) gc_S_RX11_260_X11_outByLot rfl qs_X11_outByLot hRm rfl rfl rfl (by decide) (Nat.le_of_ble_eq_true rfl) (by decide) dX11_goYear_113 (fun w hw => ?_)
        subst hw
        refine g_ws (ws' := cw (g_E Γ) q r (gpl F) o0 A0 C0 h0 (gu o1 5 w1o5) (gu (gu (gu A1 8 z_2.1) 9 z_2.2.1) 12 z_2.2.2) C1 h1 o2 A2 C2 h2 gs (gu (gu (gu (gu (gu gA 0 ga0) 1 ga1) 2 ga2) 3 ga3) 5 ga5) tb0 tA0 bf0 hi0) rfl ?_
        refine g_goto (tgt := 124) K dX11_goYear_116 (by decide) ?_
        refine g_aload_n K dX11_goYear_124 rfl 1 rfl ?_
        refine g_dup K dX11_goYear_125 rfl ?_
        refine g_get (v := .int w1o5) (T := TX10) (ref := "ChiefGrades$World") K hin_X10 2 rfl rfl 5 (by decide) u_172 (Or.inl rfl) rfl dX11_goYear_126 ?_
        refine g_iconst (v := 1) K dX11_goYear_129 (by decide) ?_
        refine g_iadd K dX11_goYear_130 ?_
        refine g_put (v := .int (w1o5 + 1)) (ws' := cw (g_E Γ) q r (gpl F) o0 A0 C0 h0 (gu o1 5 (w1o5 + 1)) (gu (gu (gu A1 8 z_2.1) 9 z_2.2.1) 12 z_2.2.2) C1 h1 o2 A2 C2 h2 gs (gu (gu (gu (gu (gu gA 0 ga0) 1 ga1) 2 ga2) 3 ga3) 5 ga5) tb0 tA0 bf0 hi0) (T := TX10) (ref := "ChiefGrades$World") (ty := .int) K hin_X10 tyX10_ok nmX10 2 rfl rfl 5 (by decide) u_172 rfl rfl (by decide +kernel) rfl rfl (Nat.le_of_ble_eq_true rfl) dX11_goYear_131 rfl ?_
        refine g_iload_n K dX11_goYear_134 rfl 3 rfl ?_
        obtain rfl := Option.some.inj h
        exact hret _ _ _ _ dX11_goYear_135 rfl ⟨rfl, rfl⟩
    · have h := ht9 qh; clear ht9 hf9
      refine g_iconst (v := 0) K dX11_goYear_101 (by decide) ?_
      refine g_istore_n (L' := [(3, .int 0), (0, .ref (q 5)), (1, .ref (q 1)), (2, .int x2)]) K dX11_goYear_102 rfl (hlt _ (by decide)) rfl ?_
      refine g_goto (tgt := 124) K dX11_goYear_103 (by decide) ?_
      refine g_aload_n K dX11_goYear_124 rfl 2 rfl ?_
      refine g_dup K dX11_goYear_125 rfl ?_
      refine g_get (v := .int w1o5) (T := TX10) (ref := "ChiefGrades$World") K hin_X10 2 rfl rfl 5 (by decide) u_172 (Or.inl rfl) rfl dX11_goYear_126 ?_
      refine g_iconst (v := 1) K dX11_goYear_129 (by decide) ?_
      refine g_iadd K dX11_goYear_130 ?_
      refine g_put (v := .int (w1o5 + 1)) (ws' := cw (g_E Γ) q r (gpl F) o0 A0 C0 h0 (gu o1 5 (w1o5 + 1)) (gu (gu (gu A1 8 w1a8) 9 w1a9) 12 w1a12) C1 h1 o2 A2 C2 h2 gs (gu (gu (gu (gu (gu gA 0 ga0) 1 ga1) 2 ga2) 3 ga3) 5 ga5) tb0 tA0 bf0 hi0) (T := TX10) (ref := "ChiefGrades$World") (ty := .int) K hin_X10 tyX10_ok nmX10 2 rfl rfl 5 (by decide) u_172 rfl rfl (by decide +kernel) rfl rfl (Nat.le_of_ble_eq_true rfl) dX11_goYear_131 rfl ?_
      refine g_iload_n K dX11_goYear_134 rfl 0 rfl ?_
      obtain rfl := Option.some.inj h
      exact hret _ _ _ _ dX11_goYear_135 rfl ⟨rfl, rfl⟩

set_option maxHeartbeats 4000000 in
set_option maxRecDepth 100000 in
theorem wX11_goYear_w1_29 {Γ : gT} {q : Nat → Nat} {r : Nat → Nat → Nat} {F : gF} (hF : gFz (g_E Γ) F) {o0 : Nat → Int32} {A0 : Nat → Nat → Int32} {C0 : Nat → Option Nat} {h0 : Nat} {o1 : Nat → Int32} {A1 : Nat → Nat → Int32} {C1 : Nat → Option Nat} {h1 : Nat} {o2 : Nat → Int32} {A2 : Nat → Nat → Int32} {C2 : Nat → Option Nat} {h2 : Nat} {gs0 : Int32} {gA : Nat → Nat → Int32} {tb0 : Int32} {tA0 bf0 : Nat → Int32} {hi0 : Int32} (K : gOK Γ cX11_goYear gU RX11) (hlt : ∀ i, i < 6 → i < g_n Γ) (hRm : g_R Γ = ({ frames := 10, cells := 0, slots := 0, locals := 283 } : Room)) {res : Int32 × Int32 × ((Nat → Int32)) × ((Nat → Int32)) × ((Nat → Int32)) × Int32 × ((Nat → Int32)) × ((Nat → Int32)) × ((Nat → Int32)) × ((Nat → Int32)) × ((Nat → Int32))} (hret : ∀ (pc : Nat) (L : List (Nat × Value)) (v : Int32) (w : va_W), decode cX11_goYear pc = .ok (.ireturn, 1) → narrow .int (.int v) = .int v → (v = res.1 ∧ w = cw (g_E Γ) q r (gpl F) o0 A0 C0 h0 (gu o1 5 res.2.1) (gu (gu (gu A1 8 res.2.2.1) 9 res.2.2.2.1) 12 res.2.2.2.2.1) C1 h1 o2 A2 C2 h2 res.2.2.2.2.2.1 (gu (gu (gu (gu (gu gA 0 res.2.2.2.2.2.2.1) 1 res.2.2.2.2.2.2.2.1) 2 res.2.2.2.2.2.2.2.2.1) 3 res.2.2.2.2.2.2.2.2.2.1) 5 res.2.2.2.2.2.2.2.2.2.2) tb0 tA0 bf0 hi0) → gGO Γ 0 0 pc L [.int v] w) : ∀ (n : Nat) (w1o5 : Int32) (w1a8 : (Nat → Int32)) (w1a9 : (Nat → Int32)) (w1a12 : (Nat → Int32)) (gs : Int32) (ga0 : (Nat → Int32)) (ga1 : (Nat → Int32)) (ga2 : (Nat → Int32)) (ga3 : (Nat → Int32)) (ga5 : (Nat → Int32)) (x2 : Int32) (x3 : Int32) (x4 : Int32), pX11_goYear_w1_29 F (o1 0) (o1 1) (o1 6) (o1 7) (A1 10) (A1 11) h1 C1 n w1o5 w1a8 w1a9 w1a12 gs ga0 ga1 ga2 ga3 ga5 x2 x3 x4 = some res → gGO Γ 0 0 29 [(0, .ref (q 5)), (1, .ref (q 1)), (2, .int x2), (3, .int x3), (4, .int x4)] [] (cw (g_E Γ) q r (gpl F) o0 A0 C0 h0 (gu o1 5 w1o5) (gu (gu (gu A1 8 w1a8) 9 w1a9) 12 w1a12) C1 h1 o2 A2 C2 h2 gs (gu (gu (gu (gu (gu gA 0 ga0) 1 ga1) 2 ga2) 3 ga3) 5 ga5) tb0 tA0 bf0 hi0) := by
  intro n
  induction n with
  | zero => intro _ _ _ _ _ _ _ _ _ _ _ _ _ h; cases h
  | succ n ih =>
    intro w1o5 w1a8 w1a9 w1a12 gs ga0 ga1 ga2 ga3 ga5 x2 x3 x4 h
    simp only [pX11_goYear_w1_29] at h
    refine g_iload K dX11_goYear_29 4 rfl ?_
    refine g_aload_n K dX11_goYear_31 rfl 1 rfl ?_
    refine g_get (v := .int (o1 0)) (T := TX10) (ref := "ChiefGrades$World") K hin_X10 2 rfl rfl 0 (by decide) u_160 (Or.inl rfl) rfl dX11_goYear_32 ?_
    obtain ⟨ht9, hf9⟩ := gi_br h; clear h
    refine g_icmp_ge (tgt := 96) K dX11_goYear_35 (by decide) (fun qh => ?_) (fun qh => ?_)
    · have h := ht9 qh; clear ht9 hf9
      refine g_sub (L' := [(0, .ref (q 5)), (1, .ref (q 1)), (2, .int x2), (3, .int x3)]) [0, 1, 2, 3] rfl ?_
      exact wX11_goYear_w1_96 (C0 := C0) (h0 := h0) (C1 := C1) (h1 := h1) (C2 := C2) (h2 := h2) (gs0 := gs0) (tb0 := tb0) (tA0 := tA0) (bf0 := bf0) (hi0 := hi0) hF K hlt hRm hret w1o5 w1a8 w1a9 w1a12 gs ga0 ga1 ga2 ga3 ga5 x2 x3 h
    · have h := hf9 qh; clear ht9 hf9
      refine g_aload_n K dX11_goYear_38 rfl 0 rfl ?_
      refine g_get (v := .ref (q 3)) (T := TX11) (ref := "ChiefGrades") K hin_X11 0 rfl rfl 3 (by decide) u_327 (Or.inl rfl) rfl dX11_goYear_39 ?_
      refine g_get (v := .ref (r 3 0)) (T := TX1) (ref := "ChiefGrades$Grader") K hin_X1 4 rfl rfl 0 (by decide) u_287 (Or.inl rfl) rfl dX11_goYear_42 ?_
      refine g_iload K dX11_goYear_45 4 rfl ?_
      obtain ⟨b_1, h⟩ := gi_none h
      refine g_iald (f := ga0) K 36 rfl (ginb_in b_1) dX11_goYear_47 ?_
      obtain ⟨v_2, ev_2, h⟩ := gi_nm h
      refine g_topi ev_2 ?_
      refine g_istore (L' := [(5, .int v_2), (0, .ref (q 5)), (1, .ref (q 1)), (2, .int x2), (3, .int x3), (4, .int x4)]) K dX11_goYear_48 (hlt _ (by decide)) rfl ?_
      refine g_aload_n K dX11_goYear_50 rfl 2 rfl ?_
      refine g_get (v := .ref (r 1 12)) (T := TX10) (ref := "ChiefGrades$World") K hin_X10 2 rfl rfl 12 (by decide) u_190 (Or.inl rfl) rfl dX11_goYear_51 ?_
      refine g_iload K dX11_goYear_54 5 rfl ?_
      refine g_sipush (v := 9999) K dX11_goYear_56 (by decide) ?_
      refine g_aload_n K dX11_goYear_59 rfl 2 rfl ?_
      refine g_get (v := .ref (r 1 12)) (T := TX10) (ref := "ChiefGrades$World") K hin_X10 2 rfl rfl 12 (by decide) u_190 (Or.inl rfl) rfl dX11_goYear_60 ?_
      refine g_iload K dX11_goYear_63 5 rfl ?_
      obtain ⟨b_3, h⟩ := gi_none h
      refine g_iald (f := w1a12) K 20 rfl (ginb_in b_3) dX11_goYear_65 ?_
      refine g_aload_n K dX11_goYear_66 rfl 2 rfl ?_
      refine g_get (v := .ref h1) (T := TX10) (ref := "ChiefGrades$World") K hin_X10 2 rfl rfl 18 (by decide) u_203 (Or.inl rfl) rfl dX11_goYear_67 ?_
      obtain ⟨b_4, h⟩ := gi_none h
      refine hsg_2 K hF b_4 hin_X2 u_124 dX11_goYear_70 ?_
      refine g_iload K dX11_goYear_73 0 rfl ?_
      refine g_imul K dX11_goYear_75 ?_
      refine g_iadd K dX11_goYear_76 ?_
      refine g_mmin K u_795 u_112 u_71 u_113 hRm ⟨by decide, Nat.le_of_ble_eq_true rfl, by decide, by decide⟩ dX11_goYear_77 ?_
      obtain ⟨v_5, ev_5, h⟩ := gi_nm h
      refine g_topi ev_5 ?_
      obtain ⟨b_6, h⟩ := gi_none h
      obtain ⟨f_7, ef_7, h⟩ := gi_nm h
      refine g_iast (f := w1a12) (ws' := cw (g_E Γ) q r (gpl F) o0 A0 C0 h0 (gu o1 5 w1o5) (gu (gu (gu A1 8 w1a8) 9 w1a9) 12 f_7) C1 h1 o2 A2 C2 h2 gs (gu (gu (gu (gu (gu gA 0 ga0) 1 ga1) 2 ga2) 3 ga3) 5 ga5) tb0 tA0 bf0 hi0) K 20 rfl (ginb_in b_6) dX11_goYear_80 (by rw [ef_7]; rfl) ?_
      refine g_iload K dX11_goYear_81 0 rfl ?_
      refine g_iconst (v := 1) K dX11_goYear_83 (by decide) ?_
      obtain ⟨ht9, hf9⟩ := gi_br h; clear h
      refine g_icmp_ne (tgt := 90) K dX11_goYear_84 (by decide) (fun qh => ?_) (fun qh => ?_)
      · have h := hf9 qh; clear ht9 hf9
        refine g_iinc (v := (x4 + 1)) (L' := [(4, .int (x4 + 1)), (5, .int v_2), (0, .ref (q 5)), (1, .ref (q 1)), (2, .int x2), (3, .int x3)]) K dX11_goYear_90 5 rfl rfl (hlt _ (by decide)) rfl ?_
        refine g_goto (tgt := 29) K dX11_goYear_93 (by decide) ?_
        refine g_sub (L' := [(0, .ref (q 5)), (1, .ref (q 1)), (2, .int x2), (3, .int x3), (4, .int (x4 + 1))]) [2, 3, 4, 5, 0] rfl ?_
        exact ih w1o5 w1a8 w1a9 f_7 gs ga0 ga1 ga2 ga3 ga5 x2 x3 (x4 + 1) h
      · have h := ht9 qh; clear ht9 hf9
        refine g_iinc (v := (x3 + 1)) (L' := [(3, .int (x3 + 1)), (5, .int v_2), (0, .ref (q 5)), (1, .ref (q 1)), (2, .int x2), (4, .int x4)]) K dX11_goYear_87 4 rfl rfl (hlt _ (by decide)) rfl ?_
        refine g_iinc (v := (x4 + 1)) (L' := [(4, .int (x4 + 1)), (3, .int (x3 + 1)), (5, .int v_2), (0, .ref (q 5)), (1, .ref (q 1)), (2, .int x2)]) K dX11_goYear_90 5 rfl rfl (hlt _ (by decide)) rfl ?_
        refine g_goto (tgt := 29) K dX11_goYear_93 (by decide) ?_
        refine g_sub (L' := [(0, .ref (q 5)), (1, .ref (q 1)), (2, .int x2), (3, .int (x3 + 1)), (4, .int (x4 + 1))]) [3, 4, 5, 1, 0] rfl ?_
        exact ih w1o5 w1a8 w1a9 f_7 gs ga0 ga1 ga2 ga3 ga5 x2 (x3 + 1) (x4 + 1) h

set_option maxHeartbeats 4000000 in
set_option maxRecDepth 100000 in
theorem wX11_goYear_w1 {Γ : gT} {q : Nat → Nat} {r : Nat → Nat → Nat} {F : gF} (hF : gFz (g_E Γ) F) {o0 : Nat → Int32} {A0 : Nat → Nat → Int32} {C0 : Nat → Option Nat} {h0 : Nat} {o1 : Nat → Int32} {A1 : Nat → Nat → Int32} {C1 : Nat → Option Nat} {h1 : Nat} {o2 : Nat → Int32} {A2 : Nat → Nat → Int32} {C2 : Nat → Option Nat} {h2 : Nat} {gs0 : Int32} {gA : Nat → Nat → Int32} {tb0 : Int32} {tA0 bf0 : Nat → Int32} {hi0 : Int32} (K : gOK Γ cX11_goYear gU RX11) (hlt : ∀ i, i < 6 → i < g_n Γ) (hRm : g_R Γ = ({ frames := 10, cells := 0, slots := 0, locals := 283 } : Room)) {res : Int32 × Int32 × ((Nat → Int32)) × ((Nat → Int32)) × ((Nat → Int32)) × Int32 × ((Nat → Int32)) × ((Nat → Int32)) × ((Nat → Int32)) × ((Nat → Int32)) × ((Nat → Int32))} (hret : ∀ (pc : Nat) (L : List (Nat × Value)) (v : Int32) (w : va_W), decode cX11_goYear pc = .ok (.ireturn, 1) → narrow .int (.int v) = .int v → (v = res.1 ∧ w = cw (g_E Γ) q r (gpl F) o0 A0 C0 h0 (gu o1 5 res.2.1) (gu (gu (gu A1 8 res.2.2.1) 9 res.2.2.2.1) 12 res.2.2.2.2.1) C1 h1 o2 A2 C2 h2 res.2.2.2.2.2.1 (gu (gu (gu (gu (gu gA 0 res.2.2.2.2.2.2.1) 1 res.2.2.2.2.2.2.2.1) 2 res.2.2.2.2.2.2.2.2.1) 3 res.2.2.2.2.2.2.2.2.2.1) 5 res.2.2.2.2.2.2.2.2.2.2) tb0 tA0 bf0 hi0) → gGO Γ 0 0 pc L [.int v] w) (w1o5 : Int32) (w1a8 : (Nat → Int32)) (w1a9 : (Nat → Int32)) (w1a12 : (Nat → Int32)) (gs : Int32) (ga0 : (Nat → Int32)) (ga1 : (Nat → Int32)) (ga2 : (Nat → Int32)) (ga3 : (Nat → Int32)) (ga5 : (Nat → Int32)) (x2 : Int32) (h : pX11_goYear_w1 F (o1 0) (o1 1) (o1 6) (o1 7) (A1 10) (A1 11) h1 C1 w1o5 w1a8 w1a9 w1a12 gs ga0 ga1 ga2 ga3 ga5 x2 = some res) : gGO Γ 0 0 0 [(0, .ref (q 5)), (1, .ref (q 1)), (2, .int x2)] [] (cw (g_E Γ) q r (gpl F) o0 A0 C0 h0 (gu o1 5 w1o5) (gu (gu (gu A1 8 w1a8) 9 w1a9) 12 w1a12) C1 h1 o2 A2 C2 h2 gs (gu (gu (gu (gu (gu gA 0 ga0) 1 ga1) 2 ga2) 3 ga3) 5 ga5) tb0 tA0 bf0 hi0) := by
    unfold pX11_goYear_w1 at h
    refine g_iload_n K dX11_goYear_0 rfl 2 rfl ?_
    refine g_iconst (v := 3) K dX11_goYear_1 (by decide) ?_
    obtain ⟨ht9, hf9⟩ := gi_br h; clear h
    refine g_icmp_ne (tgt := 16) K dX11_goYear_2 (by decide) (fun qh => ?_) (fun qh => ?_)
    · have h := hf9 qh; clear ht9 hf9
      refine g_aload_n K dX11_goYear_16 rfl 0 rfl ?_
      refine g_get (v := .ref (q 3)) (T := TX11) (ref := "ChiefGrades") K hin_X11 0 rfl rfl 3 (by decide) u_327 (Or.inl rfl) rfl dX11_goYear_17 ?_
      refine g_aload_n K dX11_goYear_20 rfl 1 rfl ?_
      obtain ⟨z_1, hz_1, h⟩ := gi_bd h
      refine g_callVv (As := [.ref (q 1)]) (bytes := cX1_gradeAll) (maxL := 4) (ret := none) K (ctX1_gradeAll_w1 hF o0 A0 C0 h0 (gu o1 5 w1o5) (gu (gu (gu A1 8 w1a8) 9 w1a9) 12 w1a12) C1 h1 o2 A2 C2 h2 gs (gu (gu (gu (gu (gu gA 0 ga0) 1 ga1) 2 ga2) 3 ga3) 5 ga5) tb0 tA0 bf0 hi0 (res := z_1) hz_1) gc_V_RX11_171_X1_gradeAll rfl qv_X1_gradeAll 4 rfl rfl rfl hRm rfl rfl rfl (by decide) (Nat.le_of_ble_eq_true rfl) (by decide) dX11_goYear_21 (fun w hw => ?_)
      subst hw
      refine g_ws (ws' := cw (g_E Γ) q r (gpl F) o0 A0 C0 h0 (gu o1 5 w1o5) (gu (gu (gu A1 8 w1a8) 9 w1a9) 12 w1a12) C1 h1 o2 A2 C2 h2 z_1.1 (gu (gu (gu (gu (gu gA 0 z_1.2.1) 1 z_1.2.2.1) 2 z_1.2.2.2.1) 3 z_1.2.2.2.2.1) 5 z_1.2.2.2.2.2) tb0 tA0 bf0 hi0) rfl ?_
      refine g_iconst (v := 0) K dX11_goYear_24 (by decide) ?_
      refine g_istore_n (L' := [(3, .int 0), (0, .ref (q 5)), (1, .ref (q 1)), (2, .int x2)]) K dX11_goYear_25 rfl (hlt _ (by decide)) rfl ?_
      refine g_iconst (v := 0) K dX11_goYear_26 (by decide) ?_
      refine g_istore (L' := [(4, .int 0), (3, .int 0), (0, .ref (q 5)), (1, .ref (q 1)), (2, .int x2)]) K dX11_goYear_27 (hlt _ (by decide)) rfl ?_
      refine g_sub (L' := [(0, .ref (q 5)), (1, .ref (q 1)), (2, .int x2), (3, .int 0), (4, .int 0)]) [2, 3, 4, 1, 0] rfl ?_
      exact wX11_goYear_w1_29 (C0 := C0) (h0 := h0) (C1 := C1) (h1 := h1) (C2 := C2) (h2 := h2) (gs0 := gs0) (tb0 := tb0) (tA0 := tA0) (bf0 := bf0) (hi0 := hi0) hF K hlt hRm hret 1000 w1o5 w1a8 w1a9 w1a12 z_1.1 z_1.2.1 z_1.2.2.1 z_1.2.2.2.1 z_1.2.2.2.2.1 z_1.2.2.2.2.2 x2 0 0 h
    · have h := ht9 qh; clear ht9 hf9
      refine g_aload_n K dX11_goYear_5 rfl 0 rfl ?_
      refine g_get (v := .ref (q 3)) (T := TX11) (ref := "ChiefGrades") K hin_X11 0 rfl rfl 3 (by decide) u_327 (Or.inl rfl) rfl dX11_goYear_6 ?_
      refine g_aload_n K dX11_goYear_9 rfl 1 rfl ?_
      obtain ⟨z_2, hz_2, h⟩ := gi_bd h
      refine g_callVv (As := [.ref (q 1)]) (bytes := cX1_gradeDue) (maxL := 3) (ret := none) K (ctX1_gradeDue_w1 hF o0 A0 C0 h0 (gu o1 5 w1o5) (gu (gu (gu A1 8 w1a8) 9 w1a9) 12 w1a12) C1 h1 o2 A2 C2 h2 gs (gu (gu (gu (gu (gu gA 0 ga0) 1 ga1) 2 ga2) 3 ga3) 5 ga5) tb0 tA0 bf0 hi0 (res := z_2) hz_2) gc_V_RX11_134_X1_gradeDue rfl qv_X1_gradeDue 4 rfl rfl rfl hRm rfl rfl rfl (by decide) (Nat.le_of_ble_eq_true rfl) (by decide) dX11_goYear_10 (fun w hw => ?_)
      subst hw
      refine g_ws (ws' := cw (g_E Γ) q r (gpl F) o0 A0 C0 h0 (gu o1 5 w1o5) (gu (gu (gu A1 8 w1a8) 9 w1a9) 12 w1a12) C1 h1 o2 A2 C2 h2 z_2.1 (gu (gu (gu (gu (gu gA 0 z_2.2.1) 1 z_2.2.2.1) 2 z_2.2.2.2.1) 3 z_2.2.2.2.2) 5 ga5) tb0 tA0 bf0 hi0) rfl ?_
      refine g_goto (tgt := 24) K dX11_goYear_13 (by decide) ?_
      refine g_iconst (v := 0) K dX11_goYear_24 (by decide) ?_
      refine g_istore_n (L' := [(3, .int 0), (0, .ref (q 5)), (1, .ref (q 1)), (2, .int x2)]) K dX11_goYear_25 rfl (hlt _ (by decide)) rfl ?_
      refine g_iconst (v := 0) K dX11_goYear_26 (by decide) ?_
      refine g_istore (L' := [(4, .int 0), (3, .int 0), (0, .ref (q 5)), (1, .ref (q 1)), (2, .int x2)]) K dX11_goYear_27 (hlt _ (by decide)) rfl ?_
      refine g_sub (L' := [(0, .ref (q 5)), (1, .ref (q 1)), (2, .int x2), (3, .int 0), (4, .int 0)]) [2, 3, 4, 1, 0] rfl ?_
      exact wX11_goYear_w1_29 (C0 := C0) (h0 := h0) (C1 := C1) (h1 := h1) (C2 := C2) (h2 := h2) (gs0 := gs0) (tb0 := tb0) (tA0 := tA0) (bf0 := bf0) (hi0 := hi0) hF K hlt hRm hret 1000 w1o5 w1a8 w1a9 w1a12 z_2.1 z_2.2.1 z_2.2.2.1 z_2.2.2.2.1 z_2.2.2.2.2 ga5 x2 0 0 h

set_option maxRecDepth 100000 in
theorem ctX11_goYear_w1 {E : gE} {q : Nat → Nat} {r : Nat → Nat → Nat} {F : gF} (hF : gFz E F) (o0 : Nat → Int32) (A0 : Nat → Nat → Int32) (C0 : Nat → Option Nat) (h0 : Nat) (o1 : Nat → Int32) (A1 : Nat → Nat → Int32) (C1 : Nat → Option Nat) (h1 : Nat) (o2 : Nat → Int32) (A2 : Nat → Nat → Int32) (C2 : Nat → Option Nat) (h2 : Nat) (gs0 : Int32) (gA : Nat → Nat → Int32) (tb0 : Int32) (tA0 bf0 : Nat → Int32) (hi0 : Int32) (x2 : Int32) {res : Int32 × Int32 × ((Nat → Int32)) × ((Nat → Int32)) × ((Nat → Int32)) × Int32 × ((Nat → Int32)) × ((Nat → Int32)) × ((Nat → Int32)) × ((Nat → Int32)) × ((Nat → Int32))} (h : pX11_goYear_w1 F (o1 0) (o1 1) (o1 6) (o1 7) (A1 10) (A1 11) h1 C1 (o1 5) (A1 8) (A1 9) (A1 12) gs0 (gA 0) (gA 1) (gA 2) (gA 3) (gA 5) x2 = some res) : gMi yX11_goYear (.code yX11_goYear cX11_goYear 6 (some .int) :: gU) ({ frames := 10, cells := 0, slots := 0, locals := 283 } : Room) 0 0 E [.ref (q 5), .ref (q 1), .int x2] (cw E q r (gpl F) o0 A0 C0 h0 o1 A1 C1 h1 o2 A2 C2 h2 gs0 gA tb0 tA0 bf0 hi0) (fun v w => v = res.1 ∧ w = cw E q r (gpl F) o0 A0 C0 h0 (gu o1 5 res.2.1) (gu (gu (gu A1 8 res.2.2.1) 9 res.2.2.2.1) 12 res.2.2.2.2.1) C1 h1 o2 A2 C2 h2 res.2.2.2.2.2.1 (gu (gu (gu (gu (gu gA 0 res.2.2.2.2.2.2.1) 1 res.2.2.2.2.2.2.2.1) 2 res.2.2.2.2.2.2.2.2.1) 3 res.2.2.2.2.2.2.2.2.2.1) 5 res.2.2.2.2.2.2.2.2.2.2) tb0 tA0 bf0 hi0) := by
  refine g_met_i (by decide +kernel) (Nat.le_of_ble_eq_true rfl) (fun Γ K hn hE hRm _ hret => ?_)
  subst hE
  have hlt : ∀ i, i < 6 → i < g_n Γ := fun i q => by rw [hn]; exact q
  refine g_ws (ws' := cw (g_E Γ) q r (gpl F) o0 A0 C0 h0 (gu o1 5 (o1 5)) (gu (gu (gu A1 8 (A1 8)) 9 (A1 9)) 12 (A1 12)) C1 h1 o2 A2 C2 h2 gs0 (gu (gu (gu (gu (gu gA 0 (gA 0)) 1 (gA 1)) 2 (gA 2)) 3 (gA 3)) 5 (gA 5)) tb0 tA0 bf0 hi0) rfl ?_
  refine g_sub (L' := [(0, .ref (q 5)), (1, .ref (q 1)), (2, .int x2)]) [0, 1, 2] rfl ?_
  exact wX11_goYear_w1 (C0 := C0) (h0 := h0) (C1 := C1) (h1 := h1) (C2 := C2) (h2 := h2) (gs0 := gs0) (tb0 := tb0) (tA0 := tA0) (bf0 := bf0) (hi0 := hi0) hF K hlt hRm hret (o1 5) (A1 8) (A1 9) (A1 12) gs0 (gA 0) (gA 1) (gA 2) (gA 3) (gA 5) x2 h

set_option maxHeartbeats 4000000 in
set_option maxRecDepth 100000 in
theorem wX11_years_102 {Γ : gT} {q : Nat → Nat} {r : Nat → Nat → Nat} {F : gF} (hF : gFz (g_E Γ) F) {o0 : Nat → Int32} {A0 : Nat → Nat → Int32} {C0 : Nat → Option Nat} {h0 : Nat} {o1 : Nat → Int32} {A1 : Nat → Nat → Int32} {C1 : Nat → Option Nat} {h1 : Nat} {o2 : Nat → Int32} {A2 : Nat → Nat → Int32} {C2 : Nat → Option Nat} {h2 : Nat} {gs0 : Int32} {gA : Nat → Nat → Int32} {tb0 : Int32} {tA0 bf0 : Nat → Int32} {hi0 : Int32} (K : gOK Γ cX11_years gU RX11) (hlt : ∀ i, i < 6 → i < g_n Γ) (hRm : g_R Γ = ({ frames := 11, cells := 0, slots := 0, locals := 308 } : Room)) {res : Int32 × Int32 × Int32 × Int32 × Int32 × Int32 × Int32 × Int32 × Int32 × ((Nat → Int32)) × ((Nat → Int32)) × ((Nat → Int32)) × ((Nat → Int32)) × ((Nat → Int32)) × ((Nat → Int32)) × ((Nat → Int32)) × ((Nat → Int32)) × ((Nat → Int32)) × Nat × ((Nat → Option Nat)) × Int32 × ((Nat → Int32)) × ((Nat → Int32)) × ((Nat → Int32)) × ((Nat → Int32)) × ((Nat → Int32))} (hret : ∀ (pc : Nat) (L : List (Nat × Value)) (v : Int32) (w : va_W), decode cX11_years pc = .ok (.ireturn, 1) → narrow .int (.int v) = .int v → (v = res.1 ∧ w = cw (g_E Γ) q r (gpl F) o0 A0 C0 h0 (gu (gu (gu (gu (gu (gu (gu (gu o1 0 res.2.1) 1 res.2.2.1) 2 res.2.2.2.1) 3 res.2.2.2.2.1) 4 res.2.2.2.2.2.1) 5 res.2.2.2.2.2.2.1) 6 res.2.2.2.2.2.2.2.1) 7 res.2.2.2.2.2.2.2.2.1) (gu (gu (gu (gu (gu (gu (gu (gu (gu A1 8 res.2.2.2.2.2.2.2.2.2.1) 9 res.2.2.2.2.2.2.2.2.2.2.1) 10 res.2.2.2.2.2.2.2.2.2.2.2.1) 11 res.2.2.2.2.2.2.2.2.2.2.2.2.1) 12 res.2.2.2.2.2.2.2.2.2.2.2.2.2.1) 14 res.2.2.2.2.2.2.2.2.2.2.2.2.2.2.1) 15 res.2.2.2.2.2.2.2.2.2.2.2.2.2.2.2.1) 16 res.2.2.2.2.2.2.2.2.2.2.2.2.2.2.2.2.1) 17 res.2.2.2.2.2.2.2.2.2.2.2.2.2.2.2.2.2.1) res.2.2.2.2.2.2.2.2.2.2.2.2.2.2.2.2.2.2.2.1 res.2.2.2.2.2.2.2.2.2.2.2.2.2.2.2.2.2.2.1 o2 A2 C2 h2 res.2.2.2.2.2.2.2.2.2.2.2.2.2.2.2.2.2.2.2.2.1 (gu (gu (gu (gu (gu gA 0 res.2.2.2.2.2.2.2.2.2.2.2.2.2.2.2.2.2.2.2.2.2.1) 1 res.2.2.2.2.2.2.2.2.2.2.2.2.2.2.2.2.2.2.2.2.2.2.1) 2 res.2.2.2.2.2.2.2.2.2.2.2.2.2.2.2.2.2.2.2.2.2.2.2.1) 3 res.2.2.2.2.2.2.2.2.2.2.2.2.2.2.2.2.2.2.2.2.2.2.2.2.1) 5 res.2.2.2.2.2.2.2.2.2.2.2.2.2.2.2.2.2.2.2.2.2.2.2.2.2) tb0 tA0 bf0 hi0) → gGO Γ 0 0 pc L [.int v] w) (w1o0 : Int32) (w1o1 : Int32) (w1o2 : Int32) (w1o3 : Int32) (w1o4 : Int32) (w1o5 : Int32) (w1o6 : Int32) (w1o7 : Int32) (w1a8 : (Nat → Int32)) (w1a9 : (Nat → Int32)) (w1a10 : (Nat → Int32)) (w1a11 : (Nat → Int32)) (w1a12 : (Nat → Int32)) (w1a14 : (Nat → Int32)) (w1a15 : (Nat → Int32)) (w1a16 : (Nat → Int32)) (w1a17 : (Nat → Int32)) (w1h : Nat) (w1c : (Nat → Option Nat)) (gs : Int32) (ga0 : (Nat → Int32)) (ga1 : (Nat → Int32)) (ga2 : (Nat → Int32)) (ga3 : (Nat → Int32)) (ga5 : (Nat → Int32)) (x3 : Int32) (x4 : Int32) (h : pX11_years_102 F (o0 0) (o0 1) (o0 2) (o0 3) (o0 4) (o0 5) (o0 6) (o0 7) (A0 8) (A0 9) (A0 10) (A0 11) (A0 12) (A0 14) (A0 15) (A0 16) (A0 17) h0 C0 w1o0 w1o1 w1o2 w1o3 w1o4 w1o5 w1o6 w1o7 w1a8 w1a9 w1a10 w1a11 w1a12 w1a14 w1a15 w1a16 w1a17 w1h w1c gs ga0 ga1 ga2 ga3 ga5 x3 x4 = some res) : gGO Γ 0 0 102 [(0, .ref (q 5)), (3, .int x3), (4, .int x4)] [] (cw (g_E Γ) q r (gpl F) o0 A0 C0 h0 (gu (gu (gu (gu (gu (gu (gu (gu o1 0 w1o0) 1 w1o1) 2 w1o2) 3 w1o3) 4 w1o4) 5 w1o5) 6 w1o6) 7 w1o7) (gu (gu (gu (gu (gu (gu (gu (gu (gu A1 8 w1a8) 9 w1a9) 10 w1a10) 11 w1a11) 12 w1a12) 14 w1a14) 15 w1a15) 16 w1a16) 17 w1a17) w1c w1h o2 A2 C2 h2 gs (gu (gu (gu (gu (gu gA 0 ga0) 1 ga1) 2 ga2) 3 ga3) 5 ga5) tb0 tA0 bf0 hi0) := by
    unfold pX11_years_102 at h
    refine g_iload_n K dX11_years_102 rfl 1 rfl ?_
    refine g_iconst (v := 1) K dX11_years_103 (by decide) ?_
    obtain ⟨ht9, hf9⟩ := gi_br h; clear h
    refine g_icmp_ne (tgt := 110) K dX11_years_104 (by decide) (fun qh => ?_) (fun qh => ?_)
    · have h := hf9 qh; clear ht9 hf9
      refine g_iload_n K dX11_years_110 rfl 1 rfl ?_
      obtain ⟨ht9, hf9⟩ := gi_br h; clear h
      refine g_if_ne (tgt := 124) K dX11_years_111 (by decide) (fun qh => ?_) (fun qh => ?_)
      · have h := hf9 qh; clear ht9 hf9
        refine g_aload_n K dX11_years_124 rfl 0 rfl ?_
        refine g_get (v := .ref (q 1)) (T := TX11) (ref := "ChiefGrades") K hin_X11 0 rfl rfl 1 (by decide) u_325 (Or.inl rfl) rfl dX11_years_125 ?_
        refine g_get (v := .ref (r 1 12)) (T := TX10) (ref := "ChiefGrades$World") K hin_X10 2 rfl rfl 12 (by decide) u_190 (Or.inl rfl) rfl dX11_years_128 ?_
        refine g_iload_n K dX11_years_131 rfl 1 rfl ?_
        refine g_bipush (v := 10) K dX11_years_132 (by decide) ?_
        refine g_isub K dX11_years_134 ?_
        obtain ⟨b_1, h⟩ := gi_none h
        refine g_iald (f := w1a12) K 20 rfl (ginb_in b_1) dX11_years_135 ?_
        obtain rfl := Option.some.inj h
        exact hret _ _ _ _ dX11_years_136 rfl ⟨rfl, rfl⟩
      · have h := ht9 qh; clear ht9 hf9
        refine g_aload_n K dX11_years_114 rfl 0 rfl ?_
        refine g_get (v := .ref (q 1)) (T := TX11) (ref := "ChiefGrades") K hin_X11 0 rfl rfl 1 (by decide) u_325 (Or.inl rfl) rfl dX11_years_115 ?_
        obtain ⟨z_2, hz_2, h⟩ := gi_bd h
        refine g_callVi (As := []) (bytes := cX10_worthTogether) (maxL := 3) (ret := (some .int)) K (ctX10_worthTogether_w1 hF o0 A0 C0 h0 (gu (gu (gu (gu (gu (gu (gu (gu o1 0 w1o0) 1 w1o1) 2 w1o2) 3 w1o3) 4 w1o4) 5 w1o5) 6 w1o6) 7 w1o7) (gu (gu (gu (gu (gu (gu (gu (gu (gu A1 8 w1a8) 9 w1a9) 10 w1a10) 11 w1a11) 12 w1a12) 14 w1a14) 15 w1a15) 16 w1a16) 17 w1a17) w1c w1h o2 A2 C2 h2 gs (gu (gu (gu (gu (gu gA 0 ga0) 1 ga1) 2 ga2) 3 ga3) 5 ga5) tb0 tA0 bf0 hi0 (res := z_2) hz_2) gc_V_RX11_194_X10_worthTogether rfl qv_X10_worthTogether 2 rfl rfl rfl hRm rfl rfl rfl (by decide) (Nat.le_of_ble_eq_true rfl) (by decide) dX11_years_118 (fun v w hw => ?_)
        obtain ⟨hv9, rfl⟩ := hw; have hv9 := hv9.symm; subst hv9
        refine g_goto (tgt := 136) K dX11_years_121 (by decide) ?_
        obtain rfl := Option.some.inj h
        exact hret _ _ _ _ dX11_years_136 rfl ⟨rfl, rfl⟩
    · have h := ht9 qh; clear ht9 hf9
      refine g_iload K dX11_years_107 2 rfl ?_
      obtain rfl := Option.some.inj h
      exact hret _ _ _ _ dX11_years_109 rfl ⟨rfl, rfl⟩

set_option maxHeartbeats 4000000 in
set_option maxRecDepth 100000 in
theorem wX11_years_76 {Γ : gT} {q : Nat → Nat} {r : Nat → Nat → Nat} {F : gF} (hF : gFz (g_E Γ) F) {o0 : Nat → Int32} {A0 : Nat → Nat → Int32} {C0 : Nat → Option Nat} {h0 : Nat} {o1 : Nat → Int32} {A1 : Nat → Nat → Int32} {C1 : Nat → Option Nat} {h1 : Nat} {o2 : Nat → Int32} {A2 : Nat → Nat → Int32} {C2 : Nat → Option Nat} {h2 : Nat} {gs0 : Int32} {gA : Nat → Nat → Int32} {tb0 : Int32} {tA0 bf0 : Nat → Int32} {hi0 : Int32} (K : gOK Γ cX11_years gU RX11) (hlt : ∀ i, i < 6 → i < g_n Γ) (hRm : g_R Γ = ({ frames := 11, cells := 0, slots := 0, locals := 308 } : Room)) {res : Int32 × Int32 × Int32 × Int32 × Int32 × Int32 × Int32 × Int32 × Int32 × ((Nat → Int32)) × ((Nat → Int32)) × ((Nat → Int32)) × ((Nat → Int32)) × ((Nat → Int32)) × ((Nat → Int32)) × ((Nat → Int32)) × ((Nat → Int32)) × ((Nat → Int32)) × Nat × ((Nat → Option Nat)) × Int32 × ((Nat → Int32)) × ((Nat → Int32)) × ((Nat → Int32)) × ((Nat → Int32)) × ((Nat → Int32))} (hret : ∀ (pc : Nat) (L : List (Nat × Value)) (v : Int32) (w : va_W), decode cX11_years pc = .ok (.ireturn, 1) → narrow .int (.int v) = .int v → (v = res.1 ∧ w = cw (g_E Γ) q r (gpl F) o0 A0 C0 h0 (gu (gu (gu (gu (gu (gu (gu (gu o1 0 res.2.1) 1 res.2.2.1) 2 res.2.2.2.1) 3 res.2.2.2.2.1) 4 res.2.2.2.2.2.1) 5 res.2.2.2.2.2.2.1) 6 res.2.2.2.2.2.2.2.1) 7 res.2.2.2.2.2.2.2.2.1) (gu (gu (gu (gu (gu (gu (gu (gu (gu A1 8 res.2.2.2.2.2.2.2.2.2.1) 9 res.2.2.2.2.2.2.2.2.2.2.1) 10 res.2.2.2.2.2.2.2.2.2.2.2.1) 11 res.2.2.2.2.2.2.2.2.2.2.2.2.1) 12 res.2.2.2.2.2.2.2.2.2.2.2.2.2.1) 14 res.2.2.2.2.2.2.2.2.2.2.2.2.2.2.1) 15 res.2.2.2.2.2.2.2.2.2.2.2.2.2.2.2.1) 16 res.2.2.2.2.2.2.2.2.2.2.2.2.2.2.2.2.1) 17 res.2.2.2.2.2.2.2.2.2.2.2.2.2.2.2.2.2.1) res.2.2.2.2.2.2.2.2.2.2.2.2.2.2.2.2.2.2.2.1 res.2.2.2.2.2.2.2.2.2.2.2.2.2.2.2.2.2.2.1 o2 A2 C2 h2 res.2.2.2.2.2.2.2.2.2.2.2.2.2.2.2.2.2.2.2.2.1 (gu (gu (gu (gu (gu gA 0 res.2.2.2.2.2.2.2.2.2.2.2.2.2.2.2.2.2.2.2.2.2.1) 1 res.2.2.2.2.2.2.2.2.2.2.2.2.2.2.2.2.2.2.2.2.2.2.1) 2 res.2.2.2.2.2.2.2.2.2.2.2.2.2.2.2.2.2.2.2.2.2.2.2.1) 3 res.2.2.2.2.2.2.2.2.2.2.2.2.2.2.2.2.2.2.2.2.2.2.2.2.1) 5 res.2.2.2.2.2.2.2.2.2.2.2.2.2.2.2.2.2.2.2.2.2.2.2.2.2) tb0 tA0 bf0 hi0) → gGO Γ 0 0 pc L [.int v] w) : ∀ (n : Nat) (w1o0 : Int32) (w1o1 : Int32) (w1o2 : Int32) (w1o3 : Int32) (w1o4 : Int32) (w1o5 : Int32) (w1o6 : Int32) (w1o7 : Int32) (w1a8 : (Nat → Int32)) (w1a9 : (Nat → Int32)) (w1a10 : (Nat → Int32)) (w1a11 : (Nat → Int32)) (w1a12 : (Nat → Int32)) (w1a14 : (Nat → Int32)) (w1a15 : (Nat → Int32)) (w1a16 : (Nat → Int32)) (w1a17 : (Nat → Int32)) (w1h : Nat) (w1c : (Nat → Option Nat)) (gs : Int32) (ga0 : (Nat → Int32)) (ga1 : (Nat → Int32)) (ga2 : (Nat → Int32)) (ga3 : (Nat → Int32)) (ga5 : (Nat → Int32)) (x1 : Int32) (x2 : Int32) (x3 : Int32) (x4 : Int32) (x5 : Int32), pX11_years_76 F (o0 0) (o0 1) (o0 2) (o0 3) (o0 4) (o0 5) (o0 6) (o0 7) (A0 8) (A0 9) (A0 10) (A0 11) (A0 12) (A0 14) (A0 15) (A0 16) (A0 17) h0 C0 n w1o0 w1o1 w1o2 w1o3 w1o4 w1o5 w1o6 w1o7 w1a8 w1a9 w1a10 w1a11 w1a12 w1a14 w1a15 w1a16 w1a17 w1h w1c gs ga0 ga1 ga2 ga3 ga5 x1 x2 x3 x4 x5 = some res → gGO Γ 0 0 76 [(0, .ref (q 5)), (1, .int x1), (2, .int x2), (3, .int x3), (4, .int x4), (5, .int x5)] [] (cw (g_E Γ) q r (gpl F) o0 A0 C0 h0 (gu (gu (gu (gu (gu (gu (gu (gu o1 0 w1o0) 1 w1o1) 2 w1o2) 3 w1o3) 4 w1o4) 5 w1o5) 6 w1o6) 7 w1o7) (gu (gu (gu (gu (gu (gu (gu (gu (gu A1 8 w1a8) 9 w1a9) 10 w1a10) 11 w1a11) 12 w1a12) 14 w1a14) 15 w1a15) 16 w1a16) 17 w1a17) w1c w1h o2 A2 C2 h2 gs (gu (gu (gu (gu (gu gA 0 ga0) 1 ga1) 2 ga2) 3 ga3) 5 ga5) tb0 tA0 bf0 hi0) := by
  intro n
  induction n with
  | zero => intro _ _ _ _ _ _ _ _ _ _ _ _ _ _ _ _ _ _ _ _ _ _ _ _ _ _ _ _ _ _ h; cases h
  | succ n ih =>
    intro w1o0 w1o1 w1o2 w1o3 w1o4 w1o5 w1o6 w1o7 w1a8 w1a9 w1a10 w1a11 w1a12 w1a14 w1a15 w1a16 w1a17 w1h w1c gs ga0 ga1 ga2 ga3 ga5 x1 x2 x3 x4 x5 h
    simp only [pX11_years_76] at h
    refine g_iload K dX11_years_76 5 rfl ?_
    refine g_iload_n K dX11_years_78 rfl 1 rfl ?_
    obtain ⟨ht9, hf9⟩ := gi_br h; clear h
    refine g_icmp_ge (tgt := 102) K dX11_years_79 (by decide) (fun qh => ?_) (fun qh => ?_)
    · have h := ht9 qh; clear ht9 hf9
      refine g_sub (L' := [(0, .ref (q 5)), (3, .int x3), (4, .int x4)]) [0, 3, 4] rfl ?_
      exact wX11_years_102 (C0 := C0) (h0 := h0) (C1 := C1) (h1 := h1) (C2 := C2) (h2 := h2) (gs0 := gs0) (tb0 := tb0) (tA0 := tA0) (bf0 := bf0) (hi0 := hi0) hF K hlt hRm hret w1o0 w1o1 w1o2 w1o3 w1o4 w1o5 w1o6 w1o7 w1a8 w1a9 w1a10 w1a11 w1a12 w1a14 w1a15 w1a16 w1a17 w1h w1c gs ga0 ga1 ga2 ga3 ga5 x3 x4 h
    · have h := hf9 qh; clear ht9 hf9
      refine g_iload K dX11_years_82 4 rfl ?_
      refine g_aload_n K dX11_years_84 rfl 0 rfl ?_
      refine g_aload_n K dX11_years_85 rfl 0 rfl ?_
      refine g_get (v := .ref (q 1)) (T := TX11) (ref := "ChiefGrades") K hin_X11 0 rfl rfl 1 (by decide) u_325 (Or.inl rfl) rfl dX11_years_86 ?_
      refine g_iload_n K dX11_years_89 rfl 2 rfl ?_
      obtain ⟨z_1, hz_1, h⟩ := gi_bd h
      refine g_callVi (As := [.ref (q 1), .int x2]) (bytes := cX11_goYear) (maxL := 6) (ret := (some .int)) K (ctX11_goYear_w1 hF o0 A0 C0 h0 (gu (gu (gu (gu (gu (gu (gu (gu o1 0 w1o0) 1 w1o1) 2 w1o2) 3 w1o3) 4 w1o4) 5 w1o5) 6 w1o6) 7 w1o7) (gu (gu (gu (gu (gu (gu (gu (gu (gu A1 8 w1a8) 9 w1a9) 10 w1a10) 11 w1a11) 12 w1a12) 14 w1a14) 15 w1a15) 16 w1a16) 17 w1a17) w1c w1h o2 A2 C2 h2 gs (gu (gu (gu (gu (gu gA 0 ga0) 1 ga1) 2 ga2) 3 ga3) 5 ga5) tb0 tA0 bf0 hi0 x2 (res := z_1) hz_1) gc_V_RX11_191_X11_goYear rfl qv_X11_goYear 0 rfl rfl rfl hRm rfl rfl rfl (by decide) (Nat.le_of_ble_eq_true rfl) (by decide) dX11_years_90 (fun v w hw => ?_)
      obtain ⟨hv9, rfl⟩ := hw; have hv9 := hv9.symm; subst hv9
      refine g_ws (ws' := cw (g_E Γ) q r (gpl F) o0 A0 C0 h0 (gu (gu (gu (gu (gu (gu (gu (gu o1 0 w1o0) 1 w1o1) 2 w1o2) 3 w1o3) 4 w1o4) 5 z_1.2.1) 6 w1o6) 7 w1o7) (gu (gu (gu (gu (gu (gu (gu (gu (gu A1 8 z_1.2.2.1) 9 z_1.2.2.2.1) 10 w1a10) 11 w1a11) 12 z_1.2.2.2.2.1) 14 w1a14) 15 w1a15) 16 w1a16) 17 w1a17) w1c w1h o2 A2 C2 h2 z_1.2.2.2.2.2.1 (gu (gu (gu (gu (gu gA 0 z_1.2.2.2.2.2.2.1) 1 z_1.2.2.2.2.2.2.2.1) 2 z_1.2.2.2.2.2.2.2.2.1) 3 z_1.2.2.2.2.2.2.2.2.2.1) 5 z_1.2.2.2.2.2.2.2.2.2.2) tb0 tA0 bf0 hi0) rfl ?_
      refine g_iadd K dX11_years_93 ?_
      obtain ⟨v_2, ev_2, h⟩ := gi_nm h
      refine g_topi ev_2 ?_
      refine g_istore (L' := [(4, .int v_2), (0, .ref (q 5)), (1, .int x1), (2, .int x2), (3, .int x3), (5, .int x5)]) K dX11_years_94 (hlt _ (by decide)) rfl ?_
      refine g_iinc (v := (x5 + 1)) (L' := [(5, .int (x5 + 1)), (4, .int v_2), (0, .ref (q 5)), (1, .int x1), (2, .int x2), (3, .int x3)]) K dX11_years_96 5 rfl rfl (hlt _ (by decide)) rfl ?_
      refine g_goto (tgt := 76) K dX11_years_99 (by decide) ?_
      refine g_sub (L' := [(0, .ref (q 5)), (1, .int x1), (2, .int x2), (3, .int x3), (4, .int v_2), (5, .int (x5 + 1))]) [2, 3, 4, 5, 1, 0] rfl ?_
      exact ih w1o0 w1o1 w1o2 w1o3 w1o4 z_1.2.1 w1o6 w1o7 z_1.2.2.1 z_1.2.2.2.1 w1a10 w1a11 z_1.2.2.2.2.1 w1a14 w1a15 w1a16 w1a17 w1h w1c z_1.2.2.2.2.2.1 z_1.2.2.2.2.2.2.1 z_1.2.2.2.2.2.2.2.1 z_1.2.2.2.2.2.2.2.2.1 z_1.2.2.2.2.2.2.2.2.2.1 z_1.2.2.2.2.2.2.2.2.2.2 x1 x2 x3 v_2 (x5 + 1) h

set_option maxHeartbeats 4000000 in
set_option maxRecDepth 100000 in
theorem wX11_years_46 {Γ : gT} {q : Nat → Nat} {r : Nat → Nat → Nat} {F : gF} (hF : gFz (g_E Γ) F) {o0 : Nat → Int32} {A0 : Nat → Nat → Int32} {C0 : Nat → Option Nat} {h0 : Nat} {o1 : Nat → Int32} {A1 : Nat → Nat → Int32} {C1 : Nat → Option Nat} {h1 : Nat} {o2 : Nat → Int32} {A2 : Nat → Nat → Int32} {C2 : Nat → Option Nat} {h2 : Nat} {gs0 : Int32} {gA : Nat → Nat → Int32} {tb0 : Int32} {tA0 bf0 : Nat → Int32} {hi0 : Int32} (K : gOK Γ cX11_years gU RX11) (hlt : ∀ i, i < 6 → i < g_n Γ) (hRm : g_R Γ = ({ frames := 11, cells := 0, slots := 0, locals := 308 } : Room)) {res : Int32 × Int32 × Int32 × Int32 × Int32 × Int32 × Int32 × Int32 × Int32 × ((Nat → Int32)) × ((Nat → Int32)) × ((Nat → Int32)) × ((Nat → Int32)) × ((Nat → Int32)) × ((Nat → Int32)) × ((Nat → Int32)) × ((Nat → Int32)) × ((Nat → Int32)) × Nat × ((Nat → Option Nat)) × Int32 × ((Nat → Int32)) × ((Nat → Int32)) × ((Nat → Int32)) × ((Nat → Int32)) × ((Nat → Int32))} (hret : ∀ (pc : Nat) (L : List (Nat × Value)) (v : Int32) (w : va_W), decode cX11_years pc = .ok (.ireturn, 1) → narrow .int (.int v) = .int v → (v = res.1 ∧ w = cw (g_E Γ) q r (gpl F) o0 A0 C0 h0 (gu (gu (gu (gu (gu (gu (gu (gu o1 0 res.2.1) 1 res.2.2.1) 2 res.2.2.2.1) 3 res.2.2.2.2.1) 4 res.2.2.2.2.2.1) 5 res.2.2.2.2.2.2.1) 6 res.2.2.2.2.2.2.2.1) 7 res.2.2.2.2.2.2.2.2.1) (gu (gu (gu (gu (gu (gu (gu (gu (gu A1 8 res.2.2.2.2.2.2.2.2.2.1) 9 res.2.2.2.2.2.2.2.2.2.2.1) 10 res.2.2.2.2.2.2.2.2.2.2.2.1) 11 res.2.2.2.2.2.2.2.2.2.2.2.2.1) 12 res.2.2.2.2.2.2.2.2.2.2.2.2.2.1) 14 res.2.2.2.2.2.2.2.2.2.2.2.2.2.2.1) 15 res.2.2.2.2.2.2.2.2.2.2.2.2.2.2.2.1) 16 res.2.2.2.2.2.2.2.2.2.2.2.2.2.2.2.2.1) 17 res.2.2.2.2.2.2.2.2.2.2.2.2.2.2.2.2.2.1) res.2.2.2.2.2.2.2.2.2.2.2.2.2.2.2.2.2.2.2.1 res.2.2.2.2.2.2.2.2.2.2.2.2.2.2.2.2.2.2.1 o2 A2 C2 h2 res.2.2.2.2.2.2.2.2.2.2.2.2.2.2.2.2.2.2.2.2.1 (gu (gu (gu (gu (gu gA 0 res.2.2.2.2.2.2.2.2.2.2.2.2.2.2.2.2.2.2.2.2.2.1) 1 res.2.2.2.2.2.2.2.2.2.2.2.2.2.2.2.2.2.2.2.2.2.2.1) 2 res.2.2.2.2.2.2.2.2.2.2.2.2.2.2.2.2.2.2.2.2.2.2.2.1) 3 res.2.2.2.2.2.2.2.2.2.2.2.2.2.2.2.2.2.2.2.2.2.2.2.2.1) 5 res.2.2.2.2.2.2.2.2.2.2.2.2.2.2.2.2.2.2.2.2.2.2.2.2.2) tb0 tA0 bf0 hi0) → gGO Γ 0 0 pc L [.int v] w) (w1o0 : Int32) (w1o1 : Int32) (w1o2 : Int32) (w1o3 : Int32) (w1o4 : Int32) (w1o5 : Int32) (w1o6 : Int32) (w1o7 : Int32) (w1a8 : (Nat → Int32)) (w1a9 : (Nat → Int32)) (w1a10 : (Nat → Int32)) (w1a11 : (Nat → Int32)) (w1a12 : (Nat → Int32)) (w1a14 : (Nat → Int32)) (w1a15 : (Nat → Int32)) (w1a16 : (Nat → Int32)) (w1a17 : (Nat → Int32)) (w1h : Nat) (w1c : (Nat → Option Nat)) (gs : Int32) (ga0 : (Nat → Int32)) (ga1 : (Nat → Int32)) (ga2 : (Nat → Int32)) (ga3 : (Nat → Int32)) (ga5 : (Nat → Int32)) (x1 : Int32) (x2 : Int32) (x3 : Int32) (h : pX11_years_46 F (o0 0) (o0 1) (o0 2) (o0 3) (o0 4) (o0 5) (o0 6) (o0 7) (A0 8) (A0 9) (A0 10) (A0 11) (A0 12) (A0 14) (A0 15) (A0 16) (A0 17) h0 C0 w1o0 w1o1 w1o2 w1o3 w1o4 w1o5 w1o6 w1o7 w1a8 w1a9 w1a10 w1a11 w1a12 w1a14 w1a15 w1a16 w1a17 w1h w1c gs ga0 ga1 ga2 ga3 ga5 x1 x2 x3 = some res) : gGO Γ 0 0 46 [(0, .ref (q 5)), (1, .int x1), (2, .int x2), (3, .int x3)] [] (cw (g_E Γ) q r (gpl F) o0 A0 C0 h0 (gu (gu (gu (gu (gu (gu (gu (gu o1 0 w1o0) 1 w1o1) 2 w1o2) 3 w1o3) 4 w1o4) 5 w1o5) 6 w1o6) 7 w1o7) (gu (gu (gu (gu (gu (gu (gu (gu (gu A1 8 w1a8) 9 w1a9) 10 w1a10) 11 w1a11) 12 w1a12) 14 w1a14) 15 w1a15) 16 w1a16) 17 w1a17) w1c w1h o2 A2 C2 h2 gs (gu (gu (gu (gu (gu gA 0 ga0) 1 ga1) 2 ga2) 3 ga3) 5 ga5) tb0 tA0 bf0 hi0) := by
    unfold pX11_years_46 at h
    refine g_iload_n K dX11_years_46 rfl 1 rfl ?_
    refine g_bipush (v := 20) K dX11_years_47 (by decide) ?_
    obtain ⟨z_1, hz_1, h⟩ := gi_bd h
    refine g_callSi (As := [.int x1, .int 20]) (bytes := cX11_isWithin) (maxL := 2) (ret := (some .boolean)) K (ctX11_isWithin (ws := cw (g_E Γ) q r (gpl F) o0 A0 C0 h0 (gu (gu (gu (gu (gu (gu (gu (gu o1 0 w1o0) 1 w1o1) 2 w1o2) 3 w1o3) 4 w1o4) 5 w1o5) 6 w1o6) 7 w1o7) (gu (gu (gu (gu (gu (gu (gu (gu (gu A1 8 w1a8) 9 w1a9) 10 w1a10) 11 w1a11) 12 w1a12) 14 w1a14) 15 w1a15) 16 w1a16) 17 w1a17) w1c w1h o2 A2 C2 h2 gs (gu (gu (gu (gu (gu gA 0 ga0) 1 ga1) 2 ga2) 3 ga3) 5 ga5) tb0 tA0 bf0 hi0) x1 20 (res := z_1) hz_1) gc_S_RX11_84_X11_isWithin rfl qs_X11_isWithin hRm rfl rfl rfl (by decide) (Nat.le_of_ble_eq_true rfl) (by decide) dX11_years_49 (fun v w hw => ?_)
    obtain ⟨hv9, rfl⟩ := hw; have hv9 := hv9.symm; subst hv9
    obtain ⟨ht9, hf9⟩ := gi_br h; clear h
    refine g_if_ne (tgt := 59) K dX11_years_52 (by decide) (fun qh => ?_) (fun qh => ?_)
    · have h := hf9 qh; clear ht9 hf9
      refine g_aload_n K dX11_years_59 rfl 0 rfl ?_
      refine g_get (v := .ref (q 1)) (T := TX11) (ref := "ChiefGrades") K hin_X11 0 rfl rfl 1 (by decide) u_325 (Or.inl rfl) rfl dX11_years_60 ?_
      refine g_aload_n K dX11_years_63 rfl 0 rfl ?_
      refine g_get (v := .ref (q 0)) (T := TX11) (ref := "ChiefGrades") K hin_X11 0 rfl rfl 0 (by decide) u_324 (Or.inl rfl) rfl dX11_years_64 ?_
      obtain ⟨z_2, hz_2, h⟩ := gi_bd h
      refine g_callVv (As := [.ref (q 0)]) (bytes := cX10_become) (maxL := 3) (ret := none) K (ctX10_become_w1_w0 hF o0 A0 C0 h0 (gu (gu (gu (gu (gu (gu (gu (gu o1 0 w1o0) 1 w1o1) 2 w1o2) 3 w1o3) 4 w1o4) 5 w1o5) 6 w1o6) 7 w1o7) (gu (gu (gu (gu (gu (gu (gu (gu (gu A1 8 w1a8) 9 w1a9) 10 w1a10) 11 w1a11) 12 w1a12) 14 w1a14) 15 w1a15) 16 w1a16) 17 w1a17) w1c w1h o2 A2 C2 h2 gs (gu (gu (gu (gu (gu gA 0 ga0) 1 ga1) 2 ga2) 3 ga3) 5 ga5) tb0 tA0 bf0 hi0 (res := z_2) hz_2) gc_V_RX11_185_X10_become rfl qv_X10_become 2 rfl rfl rfl hRm rfl rfl rfl (by decide) (Nat.le_of_ble_eq_true rfl) (by decide) dX11_years_67 (fun w hw => ?_)
      subst hw
      refine g_ws (ws' := cw (g_E Γ) q r (gpl F) o0 A0 C0 h0 (gu (gu (gu (gu (gu (gu (gu (gu o1 0 z_2.1) 1 z_2.2.1) 2 z_2.2.2.1) 3 z_2.2.2.2.1) 4 z_2.2.2.2.2.1) 5 z_2.2.2.2.2.2.1) 6 z_2.2.2.2.2.2.2.1) 7 z_2.2.2.2.2.2.2.2.1) (gu (gu (gu (gu (gu (gu (gu (gu (gu A1 8 z_2.2.2.2.2.2.2.2.2.1) 9 z_2.2.2.2.2.2.2.2.2.2.1) 10 z_2.2.2.2.2.2.2.2.2.2.2.1) 11 z_2.2.2.2.2.2.2.2.2.2.2.2.1) 12 z_2.2.2.2.2.2.2.2.2.2.2.2.2.1) 14 z_2.2.2.2.2.2.2.2.2.2.2.2.2.2.1) 15 z_2.2.2.2.2.2.2.2.2.2.2.2.2.2.2.1) 16 z_2.2.2.2.2.2.2.2.2.2.2.2.2.2.2.2.1) 17 z_2.2.2.2.2.2.2.2.2.2.2.2.2.2.2.2.2.1) z_2.2.2.2.2.2.2.2.2.2.2.2.2.2.2.2.2.2.2 z_2.2.2.2.2.2.2.2.2.2.2.2.2.2.2.2.2.2.1 o2 A2 C2 h2 gs (gu (gu (gu (gu (gu gA 0 ga0) 1 ga1) 2 ga2) 3 ga3) 5 ga5) tb0 tA0 bf0 hi0) rfl ?_
      refine g_iconst (v := 0) K dX11_years_70 (by decide) ?_
      refine g_istore (L' := [(4, .int 0), (0, .ref (q 5)), (1, .int x1), (2, .int x2), (3, .int x3)]) K dX11_years_71 (hlt _ (by decide)) rfl ?_
      refine g_iconst (v := 0) K dX11_years_73 (by decide) ?_
      refine g_istore (L' := [(5, .int 0), (4, .int 0), (0, .ref (q 5)), (1, .int x1), (2, .int x2), (3, .int x3)]) K dX11_years_74 (hlt _ (by decide)) rfl ?_
      refine g_sub (L' := [(0, .ref (q 5)), (1, .int x1), (2, .int x2), (3, .int x3), (4, .int 0), (5, .int 0)]) [2, 3, 4, 5, 1, 0] rfl ?_
      exact wX11_years_76 (C0 := C0) (h0 := h0) (C1 := C1) (h1 := h1) (C2 := C2) (h2 := h2) (gs0 := gs0) (tb0 := tb0) (tA0 := tA0) (bf0 := bf0) (hi0 := hi0) hF K hlt hRm hret 1000 z_2.1 z_2.2.1 z_2.2.2.1 z_2.2.2.2.1 z_2.2.2.2.2.1 z_2.2.2.2.2.2.1 z_2.2.2.2.2.2.2.1 z_2.2.2.2.2.2.2.2.1 z_2.2.2.2.2.2.2.2.2.1 z_2.2.2.2.2.2.2.2.2.2.1 z_2.2.2.2.2.2.2.2.2.2.2.1 z_2.2.2.2.2.2.2.2.2.2.2.2.1 z_2.2.2.2.2.2.2.2.2.2.2.2.2.1 z_2.2.2.2.2.2.2.2.2.2.2.2.2.2.1 z_2.2.2.2.2.2.2.2.2.2.2.2.2.2.2.1 z_2.2.2.2.2.2.2.2.2.2.2.2.2.2.2.2.1 z_2.2.2.2.2.2.2.2.2.2.2.2.2.2.2.2.2.1 z_2.2.2.2.2.2.2.2.2.2.2.2.2.2.2.2.2.2.1 z_2.2.2.2.2.2.2.2.2.2.2.2.2.2.2.2.2.2.2 gs ga0 ga1 ga2 ga3 ga5 x1 x2 x3 0 0 h
    · have h := ht9 qh; clear ht9 hf9
      refine g_sipush (v := (-1002)) K dX11_years_55 (by decide) ?_
      obtain rfl := Option.some.inj h
      exact hret _ _ _ _ dX11_years_58 rfl ⟨rfl, rfl⟩

set_option maxHeartbeats 4000000 in
set_option maxRecDepth 100000 in
theorem wX11_years {Γ : gT} {q : Nat → Nat} {r : Nat → Nat → Nat} {F : gF} (hF : gFz (g_E Γ) F) {o0 : Nat → Int32} {A0 : Nat → Nat → Int32} {C0 : Nat → Option Nat} {h0 : Nat} {o1 : Nat → Int32} {A1 : Nat → Nat → Int32} {C1 : Nat → Option Nat} {h1 : Nat} {o2 : Nat → Int32} {A2 : Nat → Nat → Int32} {C2 : Nat → Option Nat} {h2 : Nat} {gs0 : Int32} {gA : Nat → Nat → Int32} {tb0 : Int32} {tA0 bf0 : Nat → Int32} {hi0 : Int32} (K : gOK Γ cX11_years gU RX11) (hlt : ∀ i, i < 6 → i < g_n Γ) (hRm : g_R Γ = ({ frames := 11, cells := 0, slots := 0, locals := 308 } : Room)) {res : Int32 × Int32 × Int32 × Int32 × Int32 × Int32 × Int32 × Int32 × Int32 × ((Nat → Int32)) × ((Nat → Int32)) × ((Nat → Int32)) × ((Nat → Int32)) × ((Nat → Int32)) × ((Nat → Int32)) × ((Nat → Int32)) × ((Nat → Int32)) × ((Nat → Int32)) × Nat × ((Nat → Option Nat)) × Int32 × ((Nat → Int32)) × ((Nat → Int32)) × ((Nat → Int32)) × ((Nat → Int32)) × ((Nat → Int32))} (hret : ∀ (pc : Nat) (L : List (Nat × Value)) (v : Int32) (w : va_W), decode cX11_years pc = .ok (.ireturn, 1) → narrow .int (.int v) = .int v → (v = res.1 ∧ w = cw (g_E Γ) q r (gpl F) o0 A0 C0 h0 (gu (gu (gu (gu (gu (gu (gu (gu o1 0 res.2.1) 1 res.2.2.1) 2 res.2.2.2.1) 3 res.2.2.2.2.1) 4 res.2.2.2.2.2.1) 5 res.2.2.2.2.2.2.1) 6 res.2.2.2.2.2.2.2.1) 7 res.2.2.2.2.2.2.2.2.1) (gu (gu (gu (gu (gu (gu (gu (gu (gu A1 8 res.2.2.2.2.2.2.2.2.2.1) 9 res.2.2.2.2.2.2.2.2.2.2.1) 10 res.2.2.2.2.2.2.2.2.2.2.2.1) 11 res.2.2.2.2.2.2.2.2.2.2.2.2.1) 12 res.2.2.2.2.2.2.2.2.2.2.2.2.2.1) 14 res.2.2.2.2.2.2.2.2.2.2.2.2.2.2.1) 15 res.2.2.2.2.2.2.2.2.2.2.2.2.2.2.2.1) 16 res.2.2.2.2.2.2.2.2.2.2.2.2.2.2.2.2.1) 17 res.2.2.2.2.2.2.2.2.2.2.2.2.2.2.2.2.2.1) res.2.2.2.2.2.2.2.2.2.2.2.2.2.2.2.2.2.2.2.1 res.2.2.2.2.2.2.2.2.2.2.2.2.2.2.2.2.2.2.1 o2 A2 C2 h2 res.2.2.2.2.2.2.2.2.2.2.2.2.2.2.2.2.2.2.2.2.1 (gu (gu (gu (gu (gu gA 0 res.2.2.2.2.2.2.2.2.2.2.2.2.2.2.2.2.2.2.2.2.2.1) 1 res.2.2.2.2.2.2.2.2.2.2.2.2.2.2.2.2.2.2.2.2.2.2.1) 2 res.2.2.2.2.2.2.2.2.2.2.2.2.2.2.2.2.2.2.2.2.2.2.2.1) 3 res.2.2.2.2.2.2.2.2.2.2.2.2.2.2.2.2.2.2.2.2.2.2.2.2.1) 5 res.2.2.2.2.2.2.2.2.2.2.2.2.2.2.2.2.2.2.2.2.2.2.2.2.2) tb0 tA0 bf0 hi0) → gGO Γ 0 0 pc L [.int v] w) (w1o0 : Int32) (w1o1 : Int32) (w1o2 : Int32) (w1o3 : Int32) (w1o4 : Int32) (w1o5 : Int32) (w1o6 : Int32) (w1o7 : Int32) (w1a8 : (Nat → Int32)) (w1a9 : (Nat → Int32)) (w1a10 : (Nat → Int32)) (w1a11 : (Nat → Int32)) (w1a12 : (Nat → Int32)) (w1a14 : (Nat → Int32)) (w1a15 : (Nat → Int32)) (w1a16 : (Nat → Int32)) (w1a17 : (Nat → Int32)) (w1h : Nat) (w1c : (Nat → Option Nat)) (gs : Int32) (ga0 : (Nat → Int32)) (ga1 : (Nat → Int32)) (ga2 : (Nat → Int32)) (ga3 : (Nat → Int32)) (ga5 : (Nat → Int32)) (x1 : Int32) (x2 : Int32) (x3 : Int32) (h : pX11_years F (o0 0) (o0 1) (o0 2) (o0 3) (o0 4) (o0 5) (o0 6) (o0 7) (A0 8) (A0 9) (A0 10) (A0 11) (A0 12) (A0 14) (A0 15) (A0 16) (A0 17) h0 C0 w1o0 w1o1 w1o2 w1o3 w1o4 w1o5 w1o6 w1o7 w1a8 w1a9 w1a10 w1a11 w1a12 w1a14 w1a15 w1a16 w1a17 w1h w1c gs ga0 ga1 ga2 ga3 ga5 x1 x2 x3 = some res) : gGO Γ 0 0 0 [(0, .ref (q 5)), (1, .int x1), (2, .int x2), (3, .int x3)] [] (cw (g_E Γ) q r (gpl F) o0 A0 C0 h0 (gu (gu (gu (gu (gu (gu (gu (gu o1 0 w1o0) 1 w1o1) 2 w1o2) 3 w1o3) 4 w1o4) 5 w1o5) 6 w1o6) 7 w1o7) (gu (gu (gu (gu (gu (gu (gu (gu (gu A1 8 w1a8) 9 w1a9) 10 w1a10) 11 w1a11) 12 w1a12) 14 w1a14) 15 w1a15) 16 w1a16) 17 w1a17) w1c w1h o2 A2 C2 h2 gs (gu (gu (gu (gu (gu gA 0 ga0) 1 ga1) 2 ga2) 3 ga3) 5 ga5) tb0 tA0 bf0 hi0) := by
    unfold pX11_years at h
    refine g_iload_n K dX11_years_0 rfl 2 rfl ?_
    obtain ⟨ht9, hf9⟩ := gi_br h; clear h
    refine g_if_lt (tgt := 9) K dX11_years_1 (by decide) (fun qh => ?_) (fun qh => ?_)
    · have h := ht9 qh; clear ht9 hf9
      refine g_sipush (v := (-1001)) K dX11_years_9 (by decide) ?_
      obtain rfl := Option.some.inj h
      exact hret _ _ _ _ dX11_years_12 rfl ⟨rfl, rfl⟩
    · have h := hf9 qh; clear ht9 hf9
      refine g_iload_n K dX11_years_4 rfl 2 rfl ?_
      refine g_iconst (v := 3) K dX11_years_5 (by decide) ?_
      obtain ⟨ht9, hf9⟩ := gi_br h; clear h
      refine g_icmp_le (tgt := 13) K dX11_years_6 (by decide) (fun qh => ?_) (fun qh => ?_)
      · have h := ht9 qh; clear ht9 hf9
        refine g_iload_n K dX11_years_13 rfl 3 rfl ?_
        obtain ⟨ht9, hf9⟩ := gi_br h; clear h
        refine g_if_lt (tgt := 42) K dX11_years_14 (by decide) (fun qh => ?_) (fun qh => ?_)
        · have h := ht9 qh; clear ht9 hf9
          refine g_sipush (v := (-1001)) K dX11_years_42 (by decide) ?_
          obtain rfl := Option.some.inj h
          exact hret _ _ _ _ dX11_years_45 rfl ⟨rfl, rfl⟩
        · have h := hf9 qh; clear ht9 hf9
          refine g_iload_n K dX11_years_17 rfl 3 rfl ?_
          refine g_iconst (v := 1) K dX11_years_18 (by decide) ?_
          obtain ⟨ht9, hf9⟩ := gi_br h; clear h
          refine g_icmp_le (tgt := 46) K dX11_years_19 (by decide) (fun qh => ?_) (fun qh => ?_)
          · have h := ht9 qh; clear ht9 hf9
            exact wX11_years_46 (C0 := C0) (h0 := h0) (C1 := C1) (h1 := h1) (C2 := C2) (h2 := h2) (gs0 := gs0) (tb0 := tb0) (tA0 := tA0) (bf0 := bf0) (hi0 := hi0) hF K hlt hRm hret w1o0 w1o1 w1o2 w1o3 w1o4 w1o5 w1o6 w1o7 w1a8 w1a9 w1a10 w1a11 w1a12 w1a14 w1a15 w1a16 w1a17 w1h w1c gs ga0 ga1 ga2 ga3 ga5 x1 x2 x3 h
          · have h := hf9 qh; clear ht9 hf9
            refine g_iload_n K dX11_years_22 rfl 3 rfl ?_
            refine g_bipush (v := 10) K dX11_years_23 (by decide) ?_
            obtain ⟨ht9, hf9⟩ := gi_br h; clear h
            refine g_icmp_lt (tgt := 42) K dX11_years_25 (by decide) (fun qh => ?_) (fun qh => ?_)
            · have h := ht9 qh; clear ht9 hf9
              refine g_sipush (v := (-1001)) K dX11_years_42 (by decide) ?_
              obtain rfl := Option.some.inj h
              exact hret _ _ _ _ dX11_years_45 rfl ⟨rfl, rfl⟩
            · have h := hf9 qh; clear ht9 hf9
              refine g_aload_n K dX11_years_28 rfl 0 rfl ?_
              refine g_get (v := .ref (q 0)) (T := TX11) (ref := "ChiefGrades") K hin_X11 0 rfl rfl 0 (by decide) u_324 (Or.inl rfl) rfl dX11_years_29 ?_
              refine g_iload_n K dX11_years_32 rfl 3 rfl ?_
              refine g_bipush (v := 10) K dX11_years_33 (by decide) ?_
              refine g_isub K dX11_years_35 ?_
              obtain ⟨z_1, hz_1, h⟩ := gi_bd h
              refine g_callVi (As := [.int (x3 - 10)]) (bytes := cX10_hasWorker) (maxL := 2) (ret := (some .boolean)) K (ctX10_hasWorker_w0 hF o0 A0 C0 h0 (gu (gu (gu (gu (gu (gu (gu (gu o1 0 w1o0) 1 w1o1) 2 w1o2) 3 w1o3) 4 w1o4) 5 w1o5) 6 w1o6) 7 w1o7) (gu (gu (gu (gu (gu (gu (gu (gu (gu A1 8 w1a8) 9 w1a9) 10 w1a10) 11 w1a11) 12 w1a12) 14 w1a14) 15 w1a15) 16 w1a16) 17 w1a17) w1c w1h o2 A2 C2 h2 gs (gu (gu (gu (gu (gu gA 0 ga0) 1 ga1) 2 ga2) 3 ga3) 5 ga5) tb0 tA0 bf0 hi0 (x3 - 10) (res := z_1) hz_1) gc_V_RX11_122_X10_hasWorker rfl qv_X10_hasWorker 1 rfl rfl rfl hRm rfl rfl rfl (by decide) (Nat.le_of_ble_eq_true rfl) (by decide) dX11_years_36 (fun v w hw => ?_)
              obtain ⟨hv9, rfl⟩ := hw; have hv9 := hv9.symm; subst hv9
              obtain ⟨ht9, hf9⟩ := gi_br h; clear h
              refine g_if_ne (tgt := 46) K dX11_years_39 (by decide) (fun qh => ?_) (fun qh => ?_)
              · have h := hf9 qh; clear ht9 hf9
                exact wX11_years_46 (C0 := C0) (h0 := h0) (C1 := C1) (h1 := h1) (C2 := C2) (h2 := h2) (gs0 := gs0) (tb0 := tb0) (tA0 := tA0) (bf0 := bf0) (hi0 := hi0) hF K hlt hRm hret w1o0 w1o1 w1o2 w1o3 w1o4 w1o5 w1o6 w1o7 w1a8 w1a9 w1a10 w1a11 w1a12 w1a14 w1a15 w1a16 w1a17 w1h w1c gs ga0 ga1 ga2 ga3 ga5 x1 x2 x3 h
              · have h := ht9 qh; clear ht9 hf9
                refine g_sipush (v := (-1001)) K dX11_years_42 (by decide) ?_
                obtain rfl := Option.some.inj h
                exact hret _ _ _ _ dX11_years_45 rfl ⟨rfl, rfl⟩
      · have h := hf9 qh; clear ht9 hf9
        refine g_sipush (v := (-1001)) K dX11_years_9 (by decide) ?_
        obtain rfl := Option.some.inj h
        exact hret _ _ _ _ dX11_years_12 rfl ⟨rfl, rfl⟩

set_option maxRecDepth 100000 in
theorem ctX11_years {E : gE} {q : Nat → Nat} {r : Nat → Nat → Nat} {F : gF} (hF : gFz E F) (o0 : Nat → Int32) (A0 : Nat → Nat → Int32) (C0 : Nat → Option Nat) (h0 : Nat) (o1 : Nat → Int32) (A1 : Nat → Nat → Int32) (C1 : Nat → Option Nat) (h1 : Nat) (o2 : Nat → Int32) (A2 : Nat → Nat → Int32) (C2 : Nat → Option Nat) (h2 : Nat) (gs0 : Int32) (gA : Nat → Nat → Int32) (tb0 : Int32) (tA0 bf0 : Nat → Int32) (hi0 : Int32) (x1 : Int32) (x2 : Int32) (x3 : Int32) {res : Int32 × Int32 × Int32 × Int32 × Int32 × Int32 × Int32 × Int32 × Int32 × ((Nat → Int32)) × ((Nat → Int32)) × ((Nat → Int32)) × ((Nat → Int32)) × ((Nat → Int32)) × ((Nat → Int32)) × ((Nat → Int32)) × ((Nat → Int32)) × ((Nat → Int32)) × Nat × ((Nat → Option Nat)) × Int32 × ((Nat → Int32)) × ((Nat → Int32)) × ((Nat → Int32)) × ((Nat → Int32)) × ((Nat → Int32))} (h : pX11_years F (o0 0) (o0 1) (o0 2) (o0 3) (o0 4) (o0 5) (o0 6) (o0 7) (A0 8) (A0 9) (A0 10) (A0 11) (A0 12) (A0 14) (A0 15) (A0 16) (A0 17) h0 C0 (o1 0) (o1 1) (o1 2) (o1 3) (o1 4) (o1 5) (o1 6) (o1 7) (A1 8) (A1 9) (A1 10) (A1 11) (A1 12) (A1 14) (A1 15) (A1 16) (A1 17) h1 C1 gs0 (gA 0) (gA 1) (gA 2) (gA 3) (gA 5) x1 x2 x3 = some res) : gMi yX11_years (.code yX11_years cX11_years 6 (some .int) :: gU) ({ frames := 11, cells := 0, slots := 0, locals := 308 } : Room) 0 0 E [.ref (q 5), .int x1, .int x2, .int x3] (cw E q r (gpl F) o0 A0 C0 h0 o1 A1 C1 h1 o2 A2 C2 h2 gs0 gA tb0 tA0 bf0 hi0) (fun v w => v = res.1 ∧ w = cw E q r (gpl F) o0 A0 C0 h0 (gu (gu (gu (gu (gu (gu (gu (gu o1 0 res.2.1) 1 res.2.2.1) 2 res.2.2.2.1) 3 res.2.2.2.2.1) 4 res.2.2.2.2.2.1) 5 res.2.2.2.2.2.2.1) 6 res.2.2.2.2.2.2.2.1) 7 res.2.2.2.2.2.2.2.2.1) (gu (gu (gu (gu (gu (gu (gu (gu (gu A1 8 res.2.2.2.2.2.2.2.2.2.1) 9 res.2.2.2.2.2.2.2.2.2.2.1) 10 res.2.2.2.2.2.2.2.2.2.2.2.1) 11 res.2.2.2.2.2.2.2.2.2.2.2.2.1) 12 res.2.2.2.2.2.2.2.2.2.2.2.2.2.1) 14 res.2.2.2.2.2.2.2.2.2.2.2.2.2.2.1) 15 res.2.2.2.2.2.2.2.2.2.2.2.2.2.2.2.1) 16 res.2.2.2.2.2.2.2.2.2.2.2.2.2.2.2.2.1) 17 res.2.2.2.2.2.2.2.2.2.2.2.2.2.2.2.2.2.1) res.2.2.2.2.2.2.2.2.2.2.2.2.2.2.2.2.2.2.2.1 res.2.2.2.2.2.2.2.2.2.2.2.2.2.2.2.2.2.2.1 o2 A2 C2 h2 res.2.2.2.2.2.2.2.2.2.2.2.2.2.2.2.2.2.2.2.2.1 (gu (gu (gu (gu (gu gA 0 res.2.2.2.2.2.2.2.2.2.2.2.2.2.2.2.2.2.2.2.2.2.1) 1 res.2.2.2.2.2.2.2.2.2.2.2.2.2.2.2.2.2.2.2.2.2.2.1) 2 res.2.2.2.2.2.2.2.2.2.2.2.2.2.2.2.2.2.2.2.2.2.2.2.1) 3 res.2.2.2.2.2.2.2.2.2.2.2.2.2.2.2.2.2.2.2.2.2.2.2.2.1) 5 res.2.2.2.2.2.2.2.2.2.2.2.2.2.2.2.2.2.2.2.2.2.2.2.2.2) tb0 tA0 bf0 hi0) := by
  refine g_met_i (by decide +kernel) (Nat.le_of_ble_eq_true rfl) (fun Γ K hn hE hRm _ hret => ?_)
  subst hE
  have hlt : ∀ i, i < 6 → i < g_n Γ := fun i q => by rw [hn]; exact q
  refine g_ws (ws' := cw (g_E Γ) q r (gpl F) o0 A0 C0 h0 (gu (gu (gu (gu (gu (gu (gu (gu o1 0 (o1 0)) 1 (o1 1)) 2 (o1 2)) 3 (o1 3)) 4 (o1 4)) 5 (o1 5)) 6 (o1 6)) 7 (o1 7)) (gu (gu (gu (gu (gu (gu (gu (gu (gu A1 8 (A1 8)) 9 (A1 9)) 10 (A1 10)) 11 (A1 11)) 12 (A1 12)) 14 (A1 14)) 15 (A1 15)) 16 (A1 16)) 17 (A1 17)) C1 h1 o2 A2 C2 h2 gs0 (gu (gu (gu (gu (gu gA 0 (gA 0)) 1 (gA 1)) 2 (gA 2)) 3 (gA 3)) 5 (gA 5)) tb0 tA0 bf0 hi0) rfl ?_
  refine g_sub (L' := [(0, .ref (q 5)), (1, .int x1), (2, .int x2), (3, .int x3)]) [0, 1, 2, 3] rfl ?_
  exact wX11_years (C0 := C0) (h0 := h0) (C1 := C1) (h1 := h1) (C2 := C2) (h2 := h2) (gs0 := gs0) (tb0 := tb0) (tA0 := tA0) (bf0 := bf0) (hi0 := hi0) hF K hlt hRm hret (o1 0) (o1 1) (o1 2) (o1 3) (o1 4) (o1 5) (o1 6) (o1 7) (A1 8) (A1 9) (A1 10) (A1 11) (A1 12) (A1 14) (A1 15) (A1 16) (A1 17) h1 C1 gs0 (gA 0) (gA 1) (gA 2) (gA 3) (gA 5) x1 x2 x3 h

set_option maxHeartbeats 4000000 in
set_option maxRecDepth 100000 in
theorem wX11_choices_16 {Γ : gT} {ws : va_W} (K : gOK Γ cX11_choices gU RX11) (hlt : ∀ i, i < 5 → i < g_n Γ) (hRm : g_R Γ = ({ frames := 4, cells := 0, slots := 0, locals := 150 } : Room)) {res : Int64} (hret : ∀ (pc : Nat) (L : List (Nat × Value)) (v : Int64) (w : va_W), decode cX11_choices pc = .ok (.lreturn, 1) → (v = res ∧ w = ws) → gGO Γ 0 0 pc L [.long v] w) : ∀ (n : Nat) (x0 : Int32) (x1 : Int32) (x2 : Int64) (x4 : Int32), pX11_choices_16 n x0 x1 x2 x4 = some res → gGO Γ 0 0 16 [(0, .int x0), (1, .int x1), (2, .long x2), (4, .int x4)] [] (ws) := by
  intro n
  induction n with
  | zero => intro _ _ _ _ h; cases h
  | succ n ih =>
    intro x0 x1 x2 x4 h
    simp only [pX11_choices_16] at h
    refine g_iload K dX11_choices_16 3 rfl ?_
    refine g_iload_n K dX11_choices_18 rfl 1 rfl ?_
    obtain ⟨ht9, hf9⟩ := gi_br h; clear h
    refine g_icmp_ge (tgt := 42) K dX11_choices_19 (by decide) (fun qh => ?_) (fun qh => ?_)
    · have h := ht9 qh; clear ht9 hf9
      refine g_lload_n K dX11_choices_42 rfl 2 rfl ?_
      obtain rfl := Option.some.inj h
      exact hret _ _ _ _ dX11_choices_43 ⟨rfl, rfl⟩
    · have h := hf9 qh; clear ht9 hf9
      refine g_lload_n K dX11_choices_22 rfl 2 rfl ?_
      refine g_iload_n K dX11_choices_23 rfl 0 rfl ?_
      refine g_iload K dX11_choices_24 3 rfl ?_
      refine g_isub K dX11_choices_26 ?_
      refine g_i2l K dX11_choices_27 ?_
      refine g_lmul K dX11_choices_28 ?_
      refine g_iload K dX11_choices_29 3 rfl ?_
      refine g_iconst (v := 1) K dX11_choices_31 (by decide) ?_
      refine g_iadd K dX11_choices_32 ?_
      refine g_i2l K dX11_choices_33 ?_
      obtain ⟨c_1, h⟩ := gi_none h
      refine g_ldiv K dX11_choices_34 c_1 ?_
      obtain ⟨v_2, ev_2, h⟩ := gi_nm h
      refine g_topl ev_2 ?_
      refine g_lstore_n (L' := [(2, .long v_2), (0, .int x0), (1, .int x1), (4, .int x4)]) K dX11_choices_35 rfl (hlt _ (by decide)) rfl ?_
      refine g_iinc (v := (x4 + 1)) (L' := [(4, .int (x4 + 1)), (2, .long v_2), (0, .int x0), (1, .int x1)]) K dX11_choices_36 3 rfl rfl (hlt _ (by decide)) rfl ?_
      refine g_goto (tgt := 16) K dX11_choices_39 (by decide) ?_
      refine g_sub (L' := [(0, .int x0), (1, .int x1), (2, .long v_2), (4, .int (x4 + 1))]) [2, 3, 1, 0] rfl ?_
      exact ih x0 x1 v_2 (x4 + 1) h

set_option maxHeartbeats 4000000 in
set_option maxRecDepth 100000 in
theorem wX11_choices {Γ : gT} {ws : va_W} (K : gOK Γ cX11_choices gU RX11) (hlt : ∀ i, i < 5 → i < g_n Γ) (hRm : g_R Γ = ({ frames := 4, cells := 0, slots := 0, locals := 150 } : Room)) {res : Int64} (hret : ∀ (pc : Nat) (L : List (Nat × Value)) (v : Int64) (w : va_W), decode cX11_choices pc = .ok (.lreturn, 1) → (v = res ∧ w = ws) → gGO Γ 0 0 pc L [.long v] w) (x0 : Int32) (x1 : Int32) (h : pX11_choices x0 x1 = some res) : gGO Γ 0 0 0 [(0, .int x0), (1, .int x1)] [] (ws) := by
    unfold pX11_choices at h
    refine g_iload_n K dX11_choices_0 rfl 1 rfl ?_
    obtain ⟨ht9, hf9⟩ := gi_br h; clear h
    refine g_if_lt (tgt := 9) K dX11_choices_1 (by decide) (fun qh => ?_) (fun qh => ?_)
    · have h := ht9 qh; clear ht9 hf9
      refine g_lconst (v := 0) K dX11_choices_9 (by decide) ?_
      obtain rfl := Option.some.inj h
      exact hret _ _ _ _ dX11_choices_10 ⟨rfl, rfl⟩
    · have h := hf9 qh; clear ht9 hf9
      refine g_iload_n K dX11_choices_4 rfl 1 rfl ?_
      refine g_iload_n K dX11_choices_5 rfl 0 rfl ?_
      obtain ⟨ht9, hf9⟩ := gi_br h; clear h
      refine g_icmp_le (tgt := 11) K dX11_choices_6 (by decide) (fun qh => ?_) (fun qh => ?_)
      · have h := ht9 qh; clear ht9 hf9
        refine g_lconst (v := 1) K dX11_choices_11 (by decide) ?_
        refine g_lstore_n (L' := [(2, .long 1), (0, .int x0), (1, .int x1)]) K dX11_choices_12 rfl (hlt _ (by decide)) rfl ?_
        refine g_iconst (v := 0) K dX11_choices_13 (by decide) ?_
        refine g_istore (L' := [(4, .int 0), (2, .long 1), (0, .int x0), (1, .int x1)]) K dX11_choices_14 (hlt _ (by decide)) rfl ?_
        refine g_sub (L' := [(0, .int x0), (1, .int x1), (2, .long 1), (4, .int 0)]) [2, 3, 1, 0] rfl ?_
        exact wX11_choices_16 K hlt hRm hret 1000 x0 x1 1 0 h
      · have h := hf9 qh; clear ht9 hf9
        refine g_lconst (v := 0) K dX11_choices_9 (by decide) ?_
        obtain rfl := Option.some.inj h
        exact hret _ _ _ _ dX11_choices_10 ⟨rfl, rfl⟩

set_option maxRecDepth 100000 in
theorem ctX11_choices {E : gE} {ws : va_W} (x0 : Int32) (x1 : Int32) {res : Int64} (h : pX11_choices x0 x1 = some res) : gMl yX11_choices (.code yX11_choices cX11_choices 5 (some .long) :: gU) ({ frames := 4, cells := 0, slots := 0, locals := 150 } : Room) 0 0 E [.int x0, .int x1] ws (fun v w => v = res ∧ w = ws) := by
  refine g_met_l (by decide +kernel) (Nat.le_of_ble_eq_true rfl) (fun Γ K hn hE hRm _ hret => ?_)
  subst hE
  have hlt : ∀ i, i < 5 → i < g_n Γ := fun i q => by rw [hn]; exact q
  refine g_sub (L' := [(0, .int x0), (1, .int x1)]) [0, 1] rfl ?_
  exact wX11_choices K hlt hRm hret x0 x1 h

set_option maxHeartbeats 4000000 in
set_option maxRecDepth 100000 in
theorem wX11_lowest_33 {Γ : gT} {ws : va_W} (K : gOK Γ cX11_lowest gU RX11) (hlt : ∀ i, i < 12 → i < g_n Γ) (hRm : g_R Γ = ({ frames := 4, cells := 0, slots := 0, locals := 150 } : Room)) {res : Int64} (hret : ∀ (pc : Nat) (L : List (Nat × Value)) (v : Int64) (w : va_W), decode cX11_lowest pc = .ok (.lreturn, 1) → (v = res ∧ w = ws) → gGO Γ 0 0 pc L [.long v] w) : ∀ (n : Nat) (x0 : Int64) (x2 : Int64) (x4 : Int32) (x5 : Int64) (x7 : Int64) (x9 : Int32), pX11_lowest_33 n x0 x2 x4 x5 x7 x9 = some res → gGO Γ 0 0 33 [(0, .long x0), (2, .long x2), (4, .int x4), (5, .long x5), (7, .long x7), (9, .int x9)] [] (ws) := by
  intro n
  induction n with
  | zero => intro _ _ _ _ _ _ h; cases h
  | succ n ih =>
    intro x0 x2 x4 x5 x7 x9 h
    simp only [pX11_lowest_33] at h
    refine g_iload K dX11_lowest_33 5 rfl ?_
    refine g_bipush (v := 100) K dX11_lowest_35 (by decide) ?_
    obtain ⟨ht9, hf9⟩ := gi_br h; clear h
    refine g_icmp_ge (tgt := 68) K dX11_lowest_37 (by decide) (fun qh => ?_) (fun qh => ?_)
    · have h := ht9 qh; clear ht9 hf9
      refine g_iload K dX11_lowest_68 2 rfl ?_
      obtain ⟨ht9, hf9⟩ := gi_br h; clear h
      refine g_if_ne (tgt := 77) K dX11_lowest_70 (by decide) (fun qh => ?_) (fun qh => ?_)
      · have h := hf9 qh; clear ht9 hf9
        refine g_lload_n K dX11_lowest_77 rfl 1 rfl ?_
        refine g_lload K dX11_lowest_78 4 rfl ?_
        obtain ⟨c_1, h⟩ := gi_none h
        refine g_ldiv K dX11_lowest_80 c_1 ?_
        obtain rfl := Option.some.inj h
        exact hret _ _ _ _ dX11_lowest_81 ⟨rfl, rfl⟩
      · have h := ht9 qh; clear ht9 hf9
        refine g_lload_n K dX11_lowest_73 rfl 0 rfl ?_
        refine g_goto (tgt := 78) K dX11_lowest_74 (by decide) ?_
        refine g_lload K dX11_lowest_78 4 rfl ?_
        obtain ⟨c_2, h⟩ := gi_none h
        refine g_ldiv K dX11_lowest_80 c_2 ?_
        obtain rfl := Option.some.inj h
        exact hret _ _ _ _ dX11_lowest_81 ⟨rfl, rfl⟩
    · have h := hf9 qh; clear ht9 hf9
      refine g_lload K dX11_lowest_40 3 rfl ?_
      refine g_lconst (v := 0) K dX11_lowest_42 (by decide) ?_
      refine g_lcmp K dX11_lowest_43 ?_
      obtain ⟨ht9, hf9⟩ := gi_br h; clear h
      refine g_if_eq (tgt := 68) K dX11_lowest_44 (by decide) (fun qh => ?_) (fun qh => ?_)
      · have h := ht9 qh; clear ht9 hf9
        refine g_iload K dX11_lowest_68 2 rfl ?_
        obtain ⟨ht9, hf9⟩ := gi_br h; clear h
        refine g_if_ne (tgt := 77) K dX11_lowest_70 (by decide) (fun qh => ?_) (fun qh => ?_)
        · have h := hf9 qh; clear ht9 hf9
          refine g_lload_n K dX11_lowest_77 rfl 1 rfl ?_
          refine g_lload K dX11_lowest_78 4 rfl ?_
          obtain ⟨c_3, h⟩ := gi_none h
          refine g_ldiv K dX11_lowest_80 c_3 ?_
          obtain rfl := Option.some.inj h
          exact hret _ _ _ _ dX11_lowest_81 ⟨rfl, rfl⟩
        · have h := ht9 qh; clear ht9 hf9
          refine g_lload_n K dX11_lowest_73 rfl 0 rfl ?_
          refine g_goto (tgt := 78) K dX11_lowest_74 (by decide) ?_
          refine g_lload K dX11_lowest_78 4 rfl ?_
          obtain ⟨c_4, h⟩ := gi_none h
          refine g_ldiv K dX11_lowest_80 c_4 ?_
          obtain rfl := Option.some.inj h
          exact hret _ _ _ _ dX11_lowest_81 ⟨rfl, rfl⟩
      · have h := hf9 qh; clear ht9 hf9
        refine g_lload K dX11_lowest_47 4 rfl ?_
        refine g_lload K dX11_lowest_49 3 rfl ?_
        obtain ⟨c_5, h⟩ := gi_none h
        refine g_lrem K dX11_lowest_51 c_5 ?_
        obtain ⟨v_6, ev_6, h⟩ := gi_nm h
        refine g_topl ev_6 ?_
        refine g_lstore (L' := [(10, .long v_6), (0, .long x0), (2, .long x2), (4, .int x4), (5, .long x5), (7, .long x7), (9, .int x9)]) K dX11_lowest_52 (hlt _ (by decide)) rfl ?_
        refine g_lload K dX11_lowest_54 4 rfl ?_
        refine g_lstore (L' := [(7, .long x5), (10, .long v_6), (0, .long x0), (2, .long x2), (4, .int x4), (5, .long x5), (9, .int x9)]) K dX11_lowest_56 (hlt _ (by decide)) rfl ?_
        refine g_lload K dX11_lowest_58 1 rfl ?_
        refine g_lstore (L' := [(5, .long v_6), (7, .long x5), (10, .long v_6), (0, .long x0), (2, .long x2), (4, .int x4), (9, .int x9)]) K dX11_lowest_60 (hlt _ (by decide)) rfl ?_
        refine g_iinc (v := (x9 + 1)) (L' := [(9, .int (x9 + 1)), (5, .long v_6), (7, .long x5), (10, .long v_6), (0, .long x0), (2, .long x2), (4, .int x4)]) K dX11_lowest_62 6 rfl rfl (hlt _ (by decide)) rfl ?_
        refine g_goto (tgt := 33) K dX11_lowest_65 (by decide) ?_
        refine g_sub (L' := [(0, .long x0), (2, .long x2), (4, .int x4), (5, .long v_6), (7, .long x5), (9, .int (x9 + 1))]) [4, 5, 6, 1, 2, 0] rfl ?_
        exact ih x0 x2 x4 v_6 x5 (x9 + 1) h

set_option maxHeartbeats 4000000 in
set_option maxRecDepth 100000 in
theorem wX11_lowest {Γ : gT} {ws : va_W} (K : gOK Γ cX11_lowest gU RX11) (hlt : ∀ i, i < 12 → i < g_n Γ) (hRm : g_R Γ = ({ frames := 4, cells := 0, slots := 0, locals := 150 } : Room)) {res : Int64} (hret : ∀ (pc : Nat) (L : List (Nat × Value)) (v : Int64) (w : va_W), decode cX11_lowest pc = .ok (.lreturn, 1) → (v = res ∧ w = ws) → gGO Γ 0 0 pc L [.long v] w) (x0 : Int64) (x2 : Int64) (x4 : Int32) (h : pX11_lowest x0 x2 x4 = some res) : gGO Γ 0 0 0 [(0, .long x0), (2, .long x2), (4, .int x4)] [] (ws) := by
    unfold pX11_lowest at h
    refine g_lload_n K dX11_lowest_0 rfl 1 rfl ?_
    refine g_lconst (v := 0) K dX11_lowest_1 (by decide) ?_
    refine g_lcmp K dX11_lowest_2 ?_
    obtain ⟨ht9, hf9⟩ := gi_br h; clear h
    refine g_if_le (tgt := 17) K dX11_lowest_3 (by decide) (fun qh => ?_) (fun qh => ?_)
    · have h := ht9 qh; clear ht9 hf9
      refine g_ldc2 (v := (-9223372036854775808)) K u_820 dX11_lowest_17 ?_
      obtain rfl := Option.some.inj h
      exact hret _ _ _ _ dX11_lowest_20 ⟨rfl, rfl⟩
    · have h := hf9 qh; clear ht9 hf9
      refine g_iload K dX11_lowest_6 2 rfl ?_
      obtain ⟨ht9, hf9⟩ := gi_br h; clear h
      refine g_if_lt (tgt := 17) K dX11_lowest_8 (by decide) (fun qh => ?_) (fun qh => ?_)
      · have h := ht9 qh; clear ht9 hf9
        refine g_ldc2 (v := (-9223372036854775808)) K u_820 dX11_lowest_17 ?_
        obtain rfl := Option.some.inj h
        exact hret _ _ _ _ dX11_lowest_20 ⟨rfl, rfl⟩
      · have h := hf9 qh; clear ht9 hf9
        refine g_iload K dX11_lowest_11 2 rfl ?_
        refine g_iconst (v := 1) K dX11_lowest_13 (by decide) ?_
        obtain ⟨ht9, hf9⟩ := gi_br h; clear h
        refine g_icmp_le (tgt := 21) K dX11_lowest_14 (by decide) (fun qh => ?_) (fun qh => ?_)
        · have h := ht9 qh; clear ht9 hf9
          refine g_lload_n K dX11_lowest_21 rfl 0 rfl ?_
          refine g_mabsl K u_827 u_828 u_71 u_829 hRm ⟨by decide, Nat.le_of_ble_eq_true rfl, by decide, by decide⟩ dX11_lowest_22 ?_
          obtain ⟨v_1, ev_1, h⟩ := gi_nm h
          refine g_topl ev_1 ?_
          refine g_lstore (L' := [(5, .long v_1), (0, .long x0), (2, .long x2), (4, .int x4)]) K dX11_lowest_25 (hlt _ (by decide)) rfl ?_
          refine g_lload_n K dX11_lowest_27 rfl 2 rfl ?_
          refine g_lstore (L' := [(7, .long x2), (5, .long v_1), (0, .long x0), (2, .long x2), (4, .int x4)]) K dX11_lowest_28 (hlt _ (by decide)) rfl ?_
          refine g_iconst (v := 0) K dX11_lowest_30 (by decide) ?_
          refine g_istore (L' := [(9, .int 0), (7, .long x2), (5, .long v_1), (0, .long x0), (2, .long x2), (4, .int x4)]) K dX11_lowest_31 (hlt _ (by decide)) rfl ?_
          refine g_sub (L' := [(0, .long x0), (2, .long x2), (4, .int x4), (5, .long v_1), (7, .long x2), (9, .int 0)]) [3, 4, 5, 2, 1, 0] rfl ?_
          exact wX11_lowest_33 K hlt hRm hret 1000 x0 x2 x4 v_1 x2 0 h
        · have h := hf9 qh; clear ht9 hf9
          refine g_ldc2 (v := (-9223372036854775808)) K u_820 dX11_lowest_17 ?_
          obtain rfl := Option.some.inj h
          exact hret _ _ _ _ dX11_lowest_20 ⟨rfl, rfl⟩

set_option maxRecDepth 100000 in
theorem ctX11_lowest {E : gE} {ws : va_W} (x0 : Int64) (x2 : Int64) (x4 : Int32) {res : Int64} (h : pX11_lowest x0 x2 x4 = some res) : gMl yX11_lowest (.code yX11_lowest cX11_lowest 12 (some .long) :: gU) ({ frames := 4, cells := 0, slots := 0, locals := 150 } : Room) 0 0 E [.long x0, .long x2, .int x4] ws (fun v w => v = res ∧ w = ws) := by
  refine g_met_l (by decide +kernel) (Nat.le_of_ble_eq_true rfl) (fun Γ K hn hE hRm _ hret => ?_)
  subst hE
  have hlt : ∀ i, i < 12 → i < g_n Γ := fun i q => by rw [hn]; exact q
  refine g_sub (L' := [(0, .long x0), (2, .long x2), (4, .int x4)]) [0, 1, 2] rfl ?_
  exact wX11_lowest K hlt hRm hret x0 x2 x4 h

set_option maxHeartbeats 4000000 in
set_option maxRecDepth 100000 in
theorem wX11_chance {Γ : gT} {q : Nat → Nat} {r : Nat → Nat → Nat} {F : gF} (hF : gFz (g_E Γ) F) {o0 : Nat → Int32} {A0 : Nat → Nat → Int32} {C0 : Nat → Option Nat} {h0 : Nat} {o1 : Nat → Int32} {A1 : Nat → Nat → Int32} {C1 : Nat → Option Nat} {h1 : Nat} {o2 : Nat → Int32} {A2 : Nat → Nat → Int32} {C2 : Nat → Option Nat} {h2 : Nat} {gs0 : Int32} {gA : Nat → Nat → Int32} {tb0 : Int32} {tA0 bf0 : Nat → Int32} {hi0 : Int32} (K : gOK Γ cX11_chance gU RX11) (hlt : ∀ i, i < 6 → i < g_n Γ) (hRm : g_R Γ = ({ frames := 5, cells := 0, slots := 0, locals := 181 } : Room)) {res : Int64} (hret : ∀ (pc : Nat) (L : List (Nat × Value)) (v : Int64) (w : va_W), decode cX11_chance pc = .ok (.lreturn, 1) → (v = res ∧ w = cw (g_E Γ) q r (gpl F) o0 A0 C0 h0 o1 A1 C1 h1 o2 A2 C2 h2 gs0 gA tb0 tA0 bf0 hi0) → gGO Γ 0 0 pc L [.long v] w) (x1 : Int32) (x2 : Int32) (x3 : Int32) (x4 : Int32) (x5 : Int32) (h : pX11_chance x1 x2 x3 x4 x5 = some res) : gGO Γ 0 0 0 [(0, .ref (q 5)), (1, .int x1), (2, .int x2), (3, .int x3), (4, .int x4), (5, .int x5)] [] (cw (g_E Γ) q r (gpl F) o0 A0 C0 h0 o1 A1 C1 h1 o2 A2 C2 h2 gs0 gA tb0 tA0 bf0 hi0) := by
    unfold pX11_chance at h
    refine g_iload_n K dX11_chance_0 rfl 1 rfl ?_
    refine g_iconst (v := 1) K dX11_chance_1 (by decide) ?_
    obtain ⟨ht9, hf9⟩ := gi_br h; clear h
    refine g_icmp_lt (tgt := 11) K dX11_chance_2 (by decide) (fun qh => ?_) (fun qh => ?_)
    · have h := ht9 qh; clear ht9 hf9
      refine g_ldc2 (v := (-9223372036854775808)) K u_820 dX11_chance_11 ?_
      obtain rfl := Option.some.inj h
      exact hret _ _ _ _ dX11_chance_14 ⟨rfl, rfl⟩
    · have h := hf9 qh; clear ht9 hf9
      refine g_iload_n K dX11_chance_5 rfl 1 rfl ?_
      refine g_bipush (v := 30) K dX11_chance_6 (by decide) ?_
      obtain ⟨ht9, hf9⟩ := gi_br h; clear h
      refine g_icmp_le (tgt := 15) K dX11_chance_8 (by decide) (fun qh => ?_) (fun qh => ?_)
      · have h := ht9 qh; clear ht9 hf9
        refine g_iload_n K dX11_chance_15 rfl 2 rfl ?_
        refine g_iload_n K dX11_chance_16 rfl 1 rfl ?_
        obtain ⟨z_1, hz_1, h⟩ := gi_bd h
        refine g_callSi (As := [.int x2, .int x1]) (bytes := cX11_isWithin) (maxL := 2) (ret := (some .boolean)) K (ctX11_isWithin (ws := cw (g_E Γ) q r (gpl F) o0 A0 C0 h0 o1 A1 C1 h1 o2 A2 C2 h2 gs0 gA tb0 tA0 bf0 hi0) x2 x1 (res := z_1) hz_1) gc_S_RX11_84_X11_isWithin rfl qs_X11_isWithin hRm rfl rfl rfl (by decide) (Nat.le_of_ble_eq_true rfl) (by decide) dX11_chance_17 (fun v w hw => ?_)
        obtain ⟨hv9, rfl⟩ := hw; have hv9 := hv9.symm; subst hv9
        obtain ⟨ht9, hf9⟩ := gi_br h; clear h
        refine g_if_eq (tgt := 40) K dX11_chance_20 (by decide) (fun qh => ?_) (fun qh => ?_)
        · have h := ht9 qh; clear ht9 hf9
          refine g_ldc2 (v := (-9223372036854775808)) K u_820 dX11_chance_40 ?_
          obtain rfl := Option.some.inj h
          exact hret _ _ _ _ dX11_chance_43 ⟨rfl, rfl⟩
        · have h := hf9 qh; clear ht9 hf9
          refine g_iload_n K dX11_chance_23 rfl 3 rfl ?_
          refine g_iload_n K dX11_chance_24 rfl 1 rfl ?_
          obtain ⟨z_2, hz_2, h⟩ := gi_bd h
          refine g_callSi (As := [.int x3, .int x1]) (bytes := cX11_isWithin) (maxL := 2) (ret := (some .boolean)) K (ctX11_isWithin (ws := cw (g_E Γ) q r (gpl F) o0 A0 C0 h0 o1 A1 C1 h1 o2 A2 C2 h2 gs0 gA tb0 tA0 bf0 hi0) x3 x1 (res := z_2) hz_2) gc_S_RX11_84_X11_isWithin rfl qs_X11_isWithin hRm rfl rfl rfl (by decide) (Nat.le_of_ble_eq_true rfl) (by decide) dX11_chance_25 (fun v w hw => ?_)
          obtain ⟨hv9, rfl⟩ := hw; have hv9 := hv9.symm; subst hv9
          obtain ⟨ht9, hf9⟩ := gi_br h; clear h
          refine g_if_eq (tgt := 40) K dX11_chance_28 (by decide) (fun qh => ?_) (fun qh => ?_)
          · have h := ht9 qh; clear ht9 hf9
            refine g_ldc2 (v := (-9223372036854775808)) K u_820 dX11_chance_40 ?_
            obtain rfl := Option.some.inj h
            exact hret _ _ _ _ dX11_chance_43 ⟨rfl, rfl⟩
          · have h := hf9 qh; clear ht9 hf9
            refine g_iload K dX11_chance_31 4 rfl ?_
            refine g_iload_n K dX11_chance_33 rfl 3 rfl ?_
            obtain ⟨z_3, hz_3, h⟩ := gi_bd h
            refine g_callSi (As := [.int x4, .int x3]) (bytes := cX11_isWithin) (maxL := 2) (ret := (some .boolean)) K (ctX11_isWithin (ws := cw (g_E Γ) q r (gpl F) o0 A0 C0 h0 o1 A1 C1 h1 o2 A2 C2 h2 gs0 gA tb0 tA0 bf0 hi0) x4 x3 (res := z_3) hz_3) gc_S_RX11_84_X11_isWithin rfl qs_X11_isWithin hRm rfl rfl rfl (by decide) (Nat.le_of_ble_eq_true rfl) (by decide) dX11_chance_34 (fun v w hw => ?_)
            obtain ⟨hv9, rfl⟩ := hw; have hv9 := hv9.symm; subst hv9
            obtain ⟨ht9, hf9⟩ := gi_br h; clear h
            refine g_if_ne (tgt := 44) K dX11_chance_37 (by decide) (fun qh => ?_) (fun qh => ?_)
            · have h := hf9 qh; clear ht9 hf9
              refine g_iload_n K dX11_chance_44 rfl 2 rfl ?_
              refine g_iload K dX11_chance_45 4 rfl ?_
              obtain ⟨z_4, hz_4, h⟩ := gi_bd h
              refine g_callSl (As := [.int x2, .int x4]) (bytes := cX11_choices) (maxL := 5) (ret := (some .long)) K (ctX11_choices (ws := cw (g_E Γ) q r (gpl F) o0 A0 C0 h0 o1 A1 C1 h1 o2 A2 C2 h2 gs0 gA tb0 tA0 bf0 hi0) x2 x4 (res := z_4) hz_4) gc_S_RX11_199_X11_choices rfl qs_X11_choices hRm rfl rfl rfl (by decide) (Nat.le_of_ble_eq_true rfl) (by decide) dX11_chance_47 (fun v w hw => ?_)
              obtain ⟨hv9, rfl⟩ := hw; have hv9 := hv9.symm; subst hv9
              refine g_iload_n K dX11_chance_50 rfl 1 rfl ?_
              refine g_iload_n K dX11_chance_51 rfl 2 rfl ?_
              refine g_isub K dX11_chance_52 ?_
              refine g_iload_n K dX11_chance_53 rfl 3 rfl ?_
              refine g_iload K dX11_chance_54 4 rfl ?_
              refine g_isub K dX11_chance_56 ?_
              obtain ⟨z_5, hz_5, h⟩ := gi_bd h
              refine g_callSl (As := [.int (x1 - x2), .int (x3 - x4)]) (bytes := cX11_choices) (maxL := 5) (ret := (some .long)) K (ctX11_choices (ws := cw (g_E Γ) q r (gpl F) o0 A0 C0 h0 o1 A1 C1 h1 o2 A2 C2 h2 gs0 gA tb0 tA0 bf0 hi0) (x1 - x2) (x3 - x4) (res := z_5) hz_5) gc_S_RX11_199_X11_choices rfl qs_X11_choices hRm rfl rfl rfl (by decide) (Nat.le_of_ble_eq_true rfl) (by decide) dX11_chance_57 (fun v w hw => ?_)
              obtain ⟨hv9, rfl⟩ := hw; have hv9 := hv9.symm; subst hv9
              refine g_lmul K dX11_chance_60 ?_
              refine g_iload_n K dX11_chance_61 rfl 1 rfl ?_
              refine g_iload_n K dX11_chance_62 rfl 3 rfl ?_
              obtain ⟨z_6, hz_6, h⟩ := gi_bd h
              refine g_callSl (As := [.int x1, .int x3]) (bytes := cX11_choices) (maxL := 5) (ret := (some .long)) K (ctX11_choices (ws := cw (g_E Γ) q r (gpl F) o0 A0 C0 h0 o1 A1 C1 h1 o2 A2 C2 h2 gs0 gA tb0 tA0 bf0 hi0) x1 x3 (res := z_6) hz_6) gc_S_RX11_199_X11_choices rfl qs_X11_choices hRm rfl rfl rfl (by decide) (Nat.le_of_ble_eq_true rfl) (by decide) dX11_chance_63 (fun v w hw => ?_)
              obtain ⟨hv9, rfl⟩ := hw; have hv9 := hv9.symm; subst hv9
              refine g_iload K dX11_chance_66 5 rfl ?_
              obtain ⟨z_7, hz_7, h⟩ := gi_bd h
              refine g_callSl (As := [.long (z_4 * z_5), .long z_6, .int x5]) (bytes := cX11_lowest) (maxL := 12) (ret := (some .long)) K (ctX11_lowest (ws := cw (g_E Γ) q r (gpl F) o0 A0 C0 h0 o1 A1 C1 h1 o2 A2 C2 h2 gs0 gA tb0 tA0 bf0 hi0) (z_4 * z_5) z_6 x5 (res := z_7) hz_7) gc_S_RX11_203_X11_lowest rfl qs_X11_lowest hRm rfl rfl rfl (by decide) (Nat.le_of_ble_eq_true rfl) (by decide) dX11_chance_68 (fun v w hw => ?_)
              obtain ⟨hv9, rfl⟩ := hw; have hv9 := hv9.symm; subst hv9
              obtain rfl := Option.some.inj h
              exact hret _ _ _ _ dX11_chance_71 ⟨rfl, rfl⟩
            · have h := ht9 qh; clear ht9 hf9
              refine g_ldc2 (v := (-9223372036854775808)) K u_820 dX11_chance_40 ?_
              obtain rfl := Option.some.inj h
              exact hret _ _ _ _ dX11_chance_43 ⟨rfl, rfl⟩
      · have h := hf9 qh; clear ht9 hf9
        refine g_ldc2 (v := (-9223372036854775808)) K u_820 dX11_chance_11 ?_
        obtain rfl := Option.some.inj h
        exact hret _ _ _ _ dX11_chance_14 ⟨rfl, rfl⟩

set_option maxRecDepth 100000 in
theorem ctX11_chance {E : gE} {q : Nat → Nat} {r : Nat → Nat → Nat} {F : gF} (hF : gFz E F) (o0 : Nat → Int32) (A0 : Nat → Nat → Int32) (C0 : Nat → Option Nat) (h0 : Nat) (o1 : Nat → Int32) (A1 : Nat → Nat → Int32) (C1 : Nat → Option Nat) (h1 : Nat) (o2 : Nat → Int32) (A2 : Nat → Nat → Int32) (C2 : Nat → Option Nat) (h2 : Nat) (gs0 : Int32) (gA : Nat → Nat → Int32) (tb0 : Int32) (tA0 bf0 : Nat → Int32) (hi0 : Int32) (x1 : Int32) (x2 : Int32) (x3 : Int32) (x4 : Int32) (x5 : Int32) {res : Int64} (h : pX11_chance x1 x2 x3 x4 x5 = some res) : gMl yX11_chance (.code yX11_chance cX11_chance 6 (some .long) :: gU) ({ frames := 5, cells := 0, slots := 0, locals := 181 } : Room) 0 0 E [.ref (q 5), .int x1, .int x2, .int x3, .int x4, .int x5] (cw E q r (gpl F) o0 A0 C0 h0 o1 A1 C1 h1 o2 A2 C2 h2 gs0 gA tb0 tA0 bf0 hi0) (fun v w => v = res ∧ w = cw E q r (gpl F) o0 A0 C0 h0 o1 A1 C1 h1 o2 A2 C2 h2 gs0 gA tb0 tA0 bf0 hi0) := by
  refine g_met_l (by decide +kernel) (Nat.le_of_ble_eq_true rfl) (fun Γ K hn hE hRm _ hret => ?_)
  subst hE
  have hlt : ∀ i, i < 6 → i < g_n Γ := fun i q => by rw [hn]; exact q
  refine g_sub (L' := [(0, .ref (q 5)), (1, .int x1), (2, .int x2), (3, .int x3), (4, .int x4), (5, .int x5)]) [0, 1, 2, 3, 4, 5] rfl ?_
  exact wX11_chance (C0 := C0) (h0 := h0) (C1 := C1) (h1 := h1) (C2 := C2) (h2 := h2) (gs0 := gs0) (tb0 := tb0) (tA0 := tA0) (bf0 := bf0) (hi0 := hi0) hF K hlt hRm hret x1 x2 x3 x4 x5 h

set_option maxHeartbeats 4000000 in
set_option maxRecDepth 100000 in
theorem wX11_book {Γ : gT} {q : Nat → Nat} {r : Nat → Nat → Nat} {F : gF} (hF : gFz (g_E Γ) F) {o0 : Nat → Int32} {A0 : Nat → Nat → Int32} {C0 : Nat → Option Nat} {h0 : Nat} {o1 : Nat → Int32} {A1 : Nat → Nat → Int32} {C1 : Nat → Option Nat} {h1 : Nat} {o2 : Nat → Int32} {A2 : Nat → Nat → Int32} {C2 : Nat → Option Nat} {h2 : Nat} {gs0 : Int32} {gA : Nat → Nat → Int32} {tb0 : Int32} {tA0 bf0 : Nat → Int32} {hi0 : Int32} (K : gOK Γ cX11_book gU RX11) (hlt : ∀ i, i < 4 → i < g_n Γ) (hRm : g_R Γ = ({ frames := 5, cells := 0, slots := 0, locals := 171 } : Room)) {res : Int32 × Int32 × ((Nat → Int32)) × ((Nat → Int32)) × ((Nat → Int32))} (hret : ∀ (pc : Nat) (L : List (Nat × Value)) (v : Int32) (w : va_W), decode cX11_book pc = .ok (.ireturn, 1) → narrow .int (.int v) = .int v → (v = res.1 ∧ w = cw (g_E Γ) q r (gpl F) (gu o0 3 res.2.1) (gu (gu (gu A0 14 res.2.2.1) 15 res.2.2.2.1) 16 res.2.2.2.2) C0 h0 o1 A1 C1 h1 o2 A2 C2 h2 gs0 gA tb0 tA0 bf0 hi0) → gGO Γ 0 0 pc L [.int v] w) (w0o3 : Int32) (w0a14 : (Nat → Int32)) (w0a15 : (Nat → Int32)) (w0a16 : (Nat → Int32)) (x1 : Int32) (x2 : Int32) (x3 : Int32) (h : pX11_book (o0 0) (o0 1) C0 w0o3 w0a14 w0a15 w0a16 x1 x2 x3 = some res) : gGO Γ 0 0 0 [(0, .ref (q 5)), (1, .int x1), (2, .int x2), (3, .int x3)] [] (cw (g_E Γ) q r (gpl F) (gu o0 3 w0o3) (gu (gu (gu A0 14 w0a14) 15 w0a15) 16 w0a16) C0 h0 o1 A1 C1 h1 o2 A2 C2 h2 gs0 gA tb0 tA0 bf0 hi0) := by
    unfold pX11_book at h
    refine g_aload_n K dX11_book_0 rfl 0 rfl ?_
    refine g_get (v := .ref (q 0)) (T := TX11) (ref := "ChiefGrades") K hin_X11 0 rfl rfl 0 (by decide) u_324 (Or.inl rfl) rfl dX11_book_1 ?_
    refine g_iload_n K dX11_book_4 rfl 1 rfl ?_
    obtain ⟨z_1, hz_1, h⟩ := gi_bd h
    refine g_callVi (As := [.int x1]) (bytes := cX10_hasWorker) (maxL := 2) (ret := (some .boolean)) K (ctX10_hasWorker_w0 hF (gu o0 3 w0o3) (gu (gu (gu A0 14 w0a14) 15 w0a15) 16 w0a16) C0 h0 o1 A1 C1 h1 o2 A2 C2 h2 gs0 gA tb0 tA0 bf0 hi0 x1 (res := z_1) hz_1) gc_V_RX11_122_X10_hasWorker rfl qv_X10_hasWorker 1 rfl rfl rfl hRm rfl rfl rfl (by decide) (Nat.le_of_ble_eq_true rfl) (by decide) dX11_book_5 (fun v w hw => ?_)
    obtain ⟨hv9, rfl⟩ := hw; have hv9 := hv9.symm; subst hv9
    obtain ⟨ht9, hf9⟩ := gi_br h; clear h
    refine g_if_eq (tgt := 22) K dX11_book_8 (by decide) (fun qh => ?_) (fun qh => ?_)
    · have h := ht9 qh; clear ht9 hf9
      refine g_iconst (v := (-1)) K dX11_book_22 (by decide) ?_
      obtain rfl := Option.some.inj h
      exact hret _ _ _ _ dX11_book_23 rfl ⟨rfl, rfl⟩
    · have h := hf9 qh; clear ht9 hf9
      refine g_aload_n K dX11_book_11 rfl 0 rfl ?_
      refine g_get (v := .ref (q 0)) (T := TX11) (ref := "ChiefGrades") K hin_X11 0 rfl rfl 0 (by decide) u_324 (Or.inl rfl) rfl dX11_book_12 ?_
      refine g_iload_n K dX11_book_15 rfl 2 rfl ?_
      obtain ⟨z_2, hz_2, h⟩ := gi_bd h
      refine g_callVq (As := [.int x2]) (bytes := cX10_chiefAt) (maxL := 2) (ret := (some (.object "ChiefGrades$Chief"))) K (ctX10_chiefAt_w0 hF (gu o0 3 w0o3) (gu (gu (gu A0 14 w0a14) 15 w0a15) 16 w0a16) C0 h0 o1 A1 C1 h1 o2 A2 C2 h2 gs0 gA tb0 tA0 bf0 hi0 x2 (res := z_2) hz_2) gc_V_RX11_101_X10_chiefAt rfl qv_X10_chiefAt 1 rfl rfl rfl hRm rfl rfl rfl (by decide) (Nat.le_of_ble_eq_true rfl) (by decide) dX11_book_16 (fun v w hw => ?_)
      obtain ⟨hv9, rfl⟩ := hw; have hv9 := hv9.symm; subst hv9
      rcases gi_mt h with ⟨ez, h⟩ | ⟨b_z2, ez, h⟩
      · rw [ez]
        refine g_ifnonnullN K dX11_book_19 ?_
        refine g_iconst (v := (-1)) K dX11_book_22 (by decide) ?_
        obtain rfl := Option.some.inj h
        exact hret _ _ _ _ dX11_book_23 rfl ⟨rfl, rfl⟩
      · rw [ez]
        refine g_ifnonnull (tgt := 24) K dX11_book_19 (by decide) ?_
        refine g_iload_n K dX11_book_24 rfl 3 rfl ?_
        refine g_iconst (v := 1) K dX11_book_25 (by decide) ?_
        obtain ⟨ht9, hf9⟩ := gi_br h; clear h
        refine g_icmp_lt (tgt := 34) K dX11_book_26 (by decide) (fun qh => ?_) (fun qh => ?_)
        · have h := ht9 qh; clear ht9 hf9
          refine g_bipush (v := (-2)) K dX11_book_34 (by decide) ?_
          obtain rfl := Option.some.inj h
          exact hret _ _ _ _ dX11_book_36 rfl ⟨rfl, rfl⟩
        · have h := hf9 qh; clear ht9 hf9
          refine g_iload_n K dX11_book_29 rfl 3 rfl ?_
          refine g_iconst (v := 5) K dX11_book_30 (by decide) ?_
          obtain ⟨ht9, hf9⟩ := gi_br h; clear h
          refine g_icmp_le (tgt := 37) K dX11_book_31 (by decide) (fun qh => ?_) (fun qh => ?_)
          · have h := ht9 qh; clear ht9 hf9
            refine g_aload_n K dX11_book_37 rfl 0 rfl ?_
            refine g_get (v := .ref (q 0)) (T := TX11) (ref := "ChiefGrades") K hin_X11 0 rfl rfl 0 (by decide) u_324 (Or.inl rfl) rfl dX11_book_38 ?_
            refine g_get (v := .int w0o3) (T := TX10) (ref := "ChiefGrades$World") K hin_X10 1 rfl rfl 3 (by decide) u_167 (Or.inl rfl) rfl dX11_book_41 ?_
            refine g_bipush (v := 20) K dX11_book_44 (by decide) ?_
            obtain ⟨ht9, hf9⟩ := gi_br h; clear h
            refine g_icmp_lt (tgt := 52) K dX11_book_46 (by decide) (fun qh => ?_) (fun qh => ?_)
            · have h := ht9 qh; clear ht9 hf9
              refine g_aload_n K dX11_book_52 rfl 0 rfl ?_
              refine g_get (v := .ref (q 0)) (T := TX11) (ref := "ChiefGrades") K hin_X11 0 rfl rfl 0 (by decide) u_324 (Or.inl rfl) rfl dX11_book_53 ?_
              refine g_get (v := .ref (r 0 14)) (T := TX10) (ref := "ChiefGrades$World") K hin_X10 1 rfl rfl 14 (by decide) u_194 (Or.inl rfl) rfl dX11_book_56 ?_
              refine g_aload_n K dX11_book_59 rfl 0 rfl ?_
              refine g_get (v := .ref (q 0)) (T := TX11) (ref := "ChiefGrades") K hin_X11 0 rfl rfl 0 (by decide) u_324 (Or.inl rfl) rfl dX11_book_60 ?_
              refine g_get (v := .int w0o3) (T := TX10) (ref := "ChiefGrades$World") K hin_X10 1 rfl rfl 3 (by decide) u_167 (Or.inl rfl) rfl dX11_book_63 ?_
              refine g_iload_n K dX11_book_66 rfl 1 rfl ?_
              obtain ⟨b_3, h⟩ := gi_none h
              obtain ⟨f_4, ef_4, h⟩ := gi_nm h
              refine g_iast (f := w0a14) (ws' := cw (g_E Γ) q r (gpl F) (gu o0 3 w0o3) (gu (gu (gu A0 14 f_4) 15 w0a15) 16 w0a16) C0 h0 o1 A1 C1 h1 o2 A2 C2 h2 gs0 gA tb0 tA0 bf0 hi0) K 12 rfl (ginb_in b_3) dX11_book_67 (by rw [ef_4]; rfl) ?_
              refine g_aload_n K dX11_book_68 rfl 0 rfl ?_
              refine g_get (v := .ref (q 0)) (T := TX11) (ref := "ChiefGrades") K hin_X11 0 rfl rfl 0 (by decide) u_324 (Or.inl rfl) rfl dX11_book_69 ?_
              refine g_get (v := .ref (r 0 15)) (T := TX10) (ref := "ChiefGrades$World") K hin_X10 1 rfl rfl 15 (by decide) u_196 (Or.inl rfl) rfl dX11_book_72 ?_
              refine g_aload_n K dX11_book_75 rfl 0 rfl ?_
              refine g_get (v := .ref (q 0)) (T := TX11) (ref := "ChiefGrades") K hin_X11 0 rfl rfl 0 (by decide) u_324 (Or.inl rfl) rfl dX11_book_76 ?_
              refine g_get (v := .int w0o3) (T := TX10) (ref := "ChiefGrades$World") K hin_X10 1 rfl rfl 3 (by decide) u_167 (Or.inl rfl) rfl dX11_book_79 ?_
              refine g_iload_n K dX11_book_82 rfl 2 rfl ?_
              obtain ⟨b_5, h⟩ := gi_none h
              obtain ⟨f_6, ef_6, h⟩ := gi_nm h
              refine g_iast (f := w0a15) (ws' := cw (g_E Γ) q r (gpl F) (gu o0 3 w0o3) (gu (gu (gu A0 14 f_4) 15 f_6) 16 w0a16) C0 h0 o1 A1 C1 h1 o2 A2 C2 h2 gs0 gA tb0 tA0 bf0 hi0) K 13 rfl (ginb_in b_5) dX11_book_83 (by rw [ef_6]; rfl) ?_
              refine g_aload_n K dX11_book_84 rfl 0 rfl ?_
              refine g_get (v := .ref (q 0)) (T := TX11) (ref := "ChiefGrades") K hin_X11 0 rfl rfl 0 (by decide) u_324 (Or.inl rfl) rfl dX11_book_85 ?_
              refine g_get (v := .ref (r 0 16)) (T := TX10) (ref := "ChiefGrades$World") K hin_X10 1 rfl rfl 16 (by decide) u_198 (Or.inl rfl) rfl dX11_book_88 ?_
              refine g_aload_n K dX11_book_91 rfl 0 rfl ?_
              refine g_get (v := .ref (q 0)) (T := TX11) (ref := "ChiefGrades") K hin_X11 0 rfl rfl 0 (by decide) u_324 (Or.inl rfl) rfl dX11_book_92 ?_
              refine g_get (v := .int w0o3) (T := TX10) (ref := "ChiefGrades$World") K hin_X10 1 rfl rfl 3 (by decide) u_167 (Or.inl rfl) rfl dX11_book_95 ?_
              refine g_iload_n K dX11_book_98 rfl 3 rfl ?_
              obtain ⟨b_7, h⟩ := gi_none h
              obtain ⟨f_8, ef_8, h⟩ := gi_nm h
              refine g_iast (f := w0a16) (ws' := cw (g_E Γ) q r (gpl F) (gu o0 3 w0o3) (gu (gu (gu A0 14 f_4) 15 f_6) 16 f_8) C0 h0 o1 A1 C1 h1 o2 A2 C2 h2 gs0 gA tb0 tA0 bf0 hi0) K 14 rfl (ginb_in b_7) dX11_book_99 (by rw [ef_8]; rfl) ?_
              refine g_aload_n K dX11_book_100 rfl 0 rfl ?_
              refine g_get (v := .ref (q 0)) (T := TX11) (ref := "ChiefGrades") K hin_X11 0 rfl rfl 0 (by decide) u_324 (Or.inl rfl) rfl dX11_book_101 ?_
              refine g_dup K dX11_book_104 rfl ?_
              refine g_get (v := .int w0o3) (T := TX10) (ref := "ChiefGrades$World") K hin_X10 1 rfl rfl 3 (by decide) u_167 (Or.inl rfl) rfl dX11_book_105 ?_
              refine g_iconst (v := 1) K dX11_book_108 (by decide) ?_
              refine g_iadd K dX11_book_109 ?_
              refine g_put (v := .int (w0o3 + 1)) (ws' := cw (g_E Γ) q r (gpl F) (gu o0 3 (w0o3 + 1)) (gu (gu (gu A0 14 f_4) 15 f_6) 16 f_8) C0 h0 o1 A1 C1 h1 o2 A2 C2 h2 gs0 gA tb0 tA0 bf0 hi0) (T := TX10) (ref := "ChiefGrades$World") (ty := .int) K hin_X10 tyX10_ok nmX10 1 rfl rfl 3 (by decide) u_167 rfl rfl (by decide +kernel) rfl rfl (Nat.le_of_ble_eq_true rfl) dX11_book_110 rfl ?_
              refine g_aload_n K dX11_book_113 rfl 0 rfl ?_
              refine g_get (v := .ref (q 0)) (T := TX11) (ref := "ChiefGrades") K hin_X11 0 rfl rfl 0 (by decide) u_324 (Or.inl rfl) rfl dX11_book_114 ?_
              refine g_get (v := .int (w0o3 + 1)) (T := TX10) (ref := "ChiefGrades$World") K hin_X10 1 rfl rfl 3 (by decide) u_167 (Or.inl rfl) rfl dX11_book_117 ?_
              obtain rfl := Option.some.inj h
              exact hret _ _ _ _ dX11_book_120 rfl ⟨rfl, rfl⟩
            · have h := hf9 qh; clear ht9 hf9
              refine g_bipush (v := (-4)) K dX11_book_49 (by decide) ?_
              obtain rfl := Option.some.inj h
              exact hret _ _ _ _ dX11_book_51 rfl ⟨rfl, rfl⟩
          · have h := hf9 qh; clear ht9 hf9
            refine g_bipush (v := (-2)) K dX11_book_34 (by decide) ?_
            obtain rfl := Option.some.inj h
            exact hret _ _ _ _ dX11_book_36 rfl ⟨rfl, rfl⟩

set_option maxRecDepth 100000 in
theorem ctX11_book {E : gE} {q : Nat → Nat} {r : Nat → Nat → Nat} {F : gF} (hF : gFz E F) (o0 : Nat → Int32) (A0 : Nat → Nat → Int32) (C0 : Nat → Option Nat) (h0 : Nat) (o1 : Nat → Int32) (A1 : Nat → Nat → Int32) (C1 : Nat → Option Nat) (h1 : Nat) (o2 : Nat → Int32) (A2 : Nat → Nat → Int32) (C2 : Nat → Option Nat) (h2 : Nat) (gs0 : Int32) (gA : Nat → Nat → Int32) (tb0 : Int32) (tA0 bf0 : Nat → Int32) (hi0 : Int32) (x1 : Int32) (x2 : Int32) (x3 : Int32) {res : Int32 × Int32 × ((Nat → Int32)) × ((Nat → Int32)) × ((Nat → Int32))} (h : pX11_book (o0 0) (o0 1) C0 (o0 3) (A0 14) (A0 15) (A0 16) x1 x2 x3 = some res) : gMi yX11_book (.code yX11_book cX11_book 4 (some .int) :: gU) ({ frames := 5, cells := 0, slots := 0, locals := 171 } : Room) 0 0 E [.ref (q 5), .int x1, .int x2, .int x3] (cw E q r (gpl F) o0 A0 C0 h0 o1 A1 C1 h1 o2 A2 C2 h2 gs0 gA tb0 tA0 bf0 hi0) (fun v w => v = res.1 ∧ w = cw E q r (gpl F) (gu o0 3 res.2.1) (gu (gu (gu A0 14 res.2.2.1) 15 res.2.2.2.1) 16 res.2.2.2.2) C0 h0 o1 A1 C1 h1 o2 A2 C2 h2 gs0 gA tb0 tA0 bf0 hi0) := by
  refine g_met_i (by decide +kernel) (Nat.le_of_ble_eq_true rfl) (fun Γ K hn hE hRm _ hret => ?_)
  subst hE
  have hlt : ∀ i, i < 4 → i < g_n Γ := fun i q => by rw [hn]; exact q
  refine g_ws (ws' := cw (g_E Γ) q r (gpl F) (gu o0 3 (o0 3)) (gu (gu (gu A0 14 (A0 14)) 15 (A0 15)) 16 (A0 16)) C0 h0 o1 A1 C1 h1 o2 A2 C2 h2 gs0 gA tb0 tA0 bf0 hi0) rfl ?_
  refine g_sub (L' := [(0, .ref (q 5)), (1, .int x1), (2, .int x2), (3, .int x3)]) [0, 1, 2, 3] rfl ?_
  exact wX11_book (C0 := C0) (h0 := h0) (C1 := C1) (h1 := h1) (C2 := C2) (h2 := h2) (gs0 := gs0) (tb0 := tb0) (tA0 := tA0) (bf0 := bf0) (hi0 := hi0) hF K hlt hRm hret (o0 3) (A0 14) (A0 15) (A0 16) x1 x2 x3 h

set_option maxHeartbeats 4000000 in
set_option maxRecDepth 100000 in
theorem wX11_clear {Γ : gT} {q : Nat → Nat} {r : Nat → Nat → Nat} {F : gF} (hF : gFz (g_E Γ) F) {o0 : Nat → Int32} {A0 : Nat → Nat → Int32} {C0 : Nat → Option Nat} {h0 : Nat} {o1 : Nat → Int32} {A1 : Nat → Nat → Int32} {C1 : Nat → Option Nat} {h1 : Nat} {o2 : Nat → Int32} {A2 : Nat → Nat → Int32} {C2 : Nat → Option Nat} {h2 : Nat} {gs0 : Int32} {gA : Nat → Nat → Int32} {tb0 : Int32} {tA0 bf0 : Nat → Int32} {hi0 : Int32} (K : gOK Γ cX11_clear gU RX11) (hlt : ∀ i, i < 2 → i < g_n Γ) (hRm : g_R Γ = ({ frames := 4, cells := 0, slots := 0, locals := 150 } : Room)) {res : Int32 × Int32} (hret : ∀ (pc : Nat) (L : List (Nat × Value)) (v : Int32) (w : va_W), decode cX11_clear pc = .ok (.ireturn, 1) → narrow .int (.int v) = .int v → (v = res.1 ∧ w = cw (g_E Γ) q r (gpl F) (gu o0 3 res.2) A0 C0 h0 o1 A1 C1 h1 o2 A2 C2 h2 gs0 gA tb0 tA0 bf0 hi0) → gGO Γ 0 0 pc L [.int v] w) (w0o3 : Int32) (h : pX11_clear w0o3 = some res) : gGO Γ 0 0 0 [(0, .ref (q 5))] [] (cw (g_E Γ) q r (gpl F) (gu o0 3 w0o3) A0 C0 h0 o1 A1 C1 h1 o2 A2 C2 h2 gs0 gA tb0 tA0 bf0 hi0) := by
    unfold pX11_clear at h
    refine g_aload_n K dX11_clear_0 rfl 0 rfl ?_
    refine g_get (v := .ref (q 0)) (T := TX11) (ref := "ChiefGrades") K hin_X11 0 rfl rfl 0 (by decide) u_324 (Or.inl rfl) rfl dX11_clear_1 ?_
    refine g_get (v := .int w0o3) (T := TX10) (ref := "ChiefGrades$World") K hin_X10 1 rfl rfl 3 (by decide) u_167 (Or.inl rfl) rfl dX11_clear_4 ?_
    refine g_istore_n (L' := [(1, .int w0o3), (0, .ref (q 5))]) K dX11_clear_7 rfl (hlt _ (by decide)) rfl ?_
    refine g_aload_n K dX11_clear_8 rfl 1 rfl ?_
    refine g_get (v := .ref (q 0)) (T := TX11) (ref := "ChiefGrades") K hin_X11 0 rfl rfl 0 (by decide) u_324 (Or.inl rfl) rfl dX11_clear_9 ?_
    refine g_iconst (v := 0) K dX11_clear_12 (by decide) ?_
    refine g_put (v := .int 0) (ws' := cw (g_E Γ) q r (gpl F) (gu o0 3 0) A0 C0 h0 o1 A1 C1 h1 o2 A2 C2 h2 gs0 gA tb0 tA0 bf0 hi0) (T := TX10) (ref := "ChiefGrades$World") (ty := .int) K hin_X10 tyX10_ok nmX10 1 rfl rfl 3 (by decide) u_167 rfl rfl (by decide +kernel) rfl rfl (Nat.le_of_ble_eq_true rfl) dX11_clear_13 rfl ?_
    refine g_iload_n K dX11_clear_16 rfl 0 rfl ?_
    obtain rfl := Option.some.inj h
    exact hret _ _ _ _ dX11_clear_17 rfl ⟨rfl, rfl⟩

set_option maxRecDepth 100000 in
theorem ctX11_clear {E : gE} {q : Nat → Nat} {r : Nat → Nat → Nat} {F : gF} (hF : gFz E F) (o0 : Nat → Int32) (A0 : Nat → Nat → Int32) (C0 : Nat → Option Nat) (h0 : Nat) (o1 : Nat → Int32) (A1 : Nat → Nat → Int32) (C1 : Nat → Option Nat) (h1 : Nat) (o2 : Nat → Int32) (A2 : Nat → Nat → Int32) (C2 : Nat → Option Nat) (h2 : Nat) (gs0 : Int32) (gA : Nat → Nat → Int32) (tb0 : Int32) (tA0 bf0 : Nat → Int32) (hi0 : Int32) {res : Int32 × Int32} (h : pX11_clear (o0 3) = some res) : gMi yX11_clear (.code yX11_clear cX11_clear 2 (some .int) :: gU) ({ frames := 4, cells := 0, slots := 0, locals := 150 } : Room) 0 0 E [.ref (q 5)] (cw E q r (gpl F) o0 A0 C0 h0 o1 A1 C1 h1 o2 A2 C2 h2 gs0 gA tb0 tA0 bf0 hi0) (fun v w => v = res.1 ∧ w = cw E q r (gpl F) (gu o0 3 res.2) A0 C0 h0 o1 A1 C1 h1 o2 A2 C2 h2 gs0 gA tb0 tA0 bf0 hi0) := by
  refine g_met_i (by decide +kernel) (Nat.le_of_ble_eq_true rfl) (fun Γ K hn hE hRm _ hret => ?_)
  subst hE
  have hlt : ∀ i, i < 2 → i < g_n Γ := fun i q => by rw [hn]; exact q
  refine g_ws (ws' := cw (g_E Γ) q r (gpl F) (gu o0 3 (o0 3)) A0 C0 h0 o1 A1 C1 h1 o2 A2 C2 h2 gs0 gA tb0 tA0 bf0 hi0) rfl ?_
  refine g_sub (L' := [(0, .ref (q 5))]) [0] rfl ?_
  exact wX11_clear (C0 := C0) (h0 := h0) (C1 := C1) (h1 := h1) (C2 := C2) (h2 := h2) (gs0 := gs0) (tb0 := tb0) (tA0 := tA0) (bf0 := bf0) (hi0 := hi0) hF K hlt hRm hret (o0 3) h

