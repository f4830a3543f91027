set_option maxHeartbeats 4000000 in
set_option maxRecDepth 100000 in
theorem wX4_levels_k3 {Γ : gT} {q : Nat → Nat} {r : Nat → Nat → Nat} {F : gF} (hF : gFz (g_E Γ) F) {o0 : Nat → Int32} {A0 : Nat → Nat → Int32} {C0 : Nat → Option Nat} {h0 : Nat} {o1 : Nat → Int32} {A1 : Nat → Nat → Int32} {C1 : Nat → Option Nat} {h1 : Nat} {o2 : Nat → Int32} {A2 : Nat → Nat → Int32} {C2 : Nat → Option Nat} {h2 : Nat} {gs0 : Int32} {gA : Nat → Nat → Int32} {tb0 : Int32} {tA0 bf0 : Nat → Int32} {hi0 : Int32} {b0 : Nat} (hb : chv F b0 = true) (hk0 : ck F b0 = 3) (K : gOK Γ cX4_levels gU RX4) (hlt : ∀ i, i < 3 → i < g_n Γ) (hRm : g_R Γ = ({ frames := 8, cells := 0, slots := 0, locals := 237 } : Room)) {res : Int32 × Int32 × ((Nat → Int32))} (hret : ∀ (pc : Nat) (L : List (Nat × Value)) (v : Int32) (w : va_W), decode cX4_levels pc = .ok (.ireturn, 1) → narrow .int (.int v) = .int v → (v = res.1 ∧ w = cw (g_E Γ) q r (gpl F) o0 A0 C0 h0 o1 A1 C1 h1 o2 A2 C2 h2 gs0 gA res.2.1 res.2.2 bf0 hi0) → gGO Γ 0 0 pc L [.int v] w) (tb : Int32) (ta : (Nat → Int32)) (x1 : Int32) (h : pX4_levels_k3 F b0 tb ta x1 = some res) : gGO Γ 0 0 0 [(0, .ref b0), (1, .int x1), (2, .ref (q 4))] [] (cw (g_E Γ) q r (gpl F) o0 A0 C0 h0 o1 A1 C1 h1 o2 A2 C2 h2 gs0 gA tb ta bf0 hi0) := by
    unfold pX4_levels_k3 at h
    refine g_aload_n K dX4_levels_0 rfl 2 rfl ?_
    refine g_bipush (v := 31) K dX4_levels_1 (by decide) ?_
    obtain ⟨z_1, hz_1, h⟩ := gi_bd h
    refine g_callVv (As := [.int 31]) (bytes := cX8_begin) (maxL := 2) (ret := none) K (ctX8_begin hF o0 A0 C0 h0 o1 A1 C1 h1 o2 A2 C2 h2 gs0 gA tb ta bf0 hi0 31 (res := z_1) hz_1) gc_V_RX4_13_X8_begin rfl qv_X8_begin 5 rfl rfl rfl hRm rfl rfl rfl (by decide) (Nat.le_of_ble_eq_true rfl) (by decide) dX4_levels_3 (fun w hw => ?_)
    subst hw
    refine g_ws (ws' := cw (g_E Γ) q r (gpl F) o0 A0 C0 h0 o1 A1 C1 h1 o2 A2 C2 h2 gs0 gA z_1.1 z_1.2 bf0 hi0) rfl ?_
    refine g_aload_n K dX4_levels_6 rfl 0 rfl ?_
    refine g_iload_n K dX4_levels_7 rfl 1 rfl ?_
    refine g_aload_n K dX4_levels_8 rfl 2 rfl ?_
    obtain ⟨z_2, hz_2, h⟩ := gi_bd h
    refine g_callSUiF (As := [.int x1, .ref (q 4)]) (bytes := cX0_levels) (maxL := 3) (ret := (some .int)) K (ctX0_levels_k3 hF (b0 := b0) hb hk0 o0 A0 C0 h0 o1 A1 C1 h1 o2 A2 C2 h2 gs0 gA z_1.1 z_1.2 bf0 hi0 x1 (res := z_2) hz_2) gc_SU_RX4_19_X0_levels rfl qsu_X0_levels (gF_at (j := 3) hF hb hk0 (by decide)) rfl rfl hRm rfl rfl rfl (by decide) (Nat.le_of_ble_eq_true rfl) (by decide) dX4_levels_9 (fun v w hw => ?_)
    obtain ⟨hv9, rfl⟩ := hw; have hv9 := hv9.symm; subst hv9
    refine g_ws (ws' := cw (g_E Γ) q r (gpl F) o0 A0 C0 h0 o1 A1 C1 h1 o2 A2 C2 h2 gs0 gA z_2.2.1 z_2.2.2 bf0 hi0) rfl ?_
    refine g_bipush (v := 7) K dX4_levels_12 (by decide) ?_
    refine g_ixor K dX4_levels_14 ?_
    obtain rfl := Option.some.inj h
    exact hret _ _ _ _ dX4_levels_15 rfl ⟨rfl, rfl⟩

set_option maxRecDepth 100000 in
theorem ctX4_levels_k3 {E : gE} {q : Nat → Nat} {r : Nat → Nat → Nat} {F : gF} (hF : gFz E F) {b0 : Nat} (hb : chv F b0 = true) (hk0 : ck F b0 = 3) (o0 : Nat → Int32) (A0 : Nat → Nat → Int32) (C0 : Nat → Option Nat) (h0 : Nat) (o1 : Nat → Int32) (A1 : Nat → Nat → Int32) (C1 : Nat → Option Nat) (h1 : Nat) (o2 : Nat → Int32) (A2 : Nat → Nat → Int32) (C2 : Nat → Option Nat) (h2 : Nat) (gs0 : Int32) (gA : Nat → Nat → Int32) (tb0 : Int32) (tA0 bf0 : Nat → Int32) (hi0 : Int32) (x1 : Int32) {res : Int32 × Int32 × ((Nat → Int32))} (h : pX4_levels_k3 F b0 tb0 tA0 x1 = some res) : gMi yX4_levels (.code yX4_levels cX4_levels 3 (some .int) :: gU) ({ frames := 8, cells := 0, slots := 0, locals := 237 } : Room) 0 0 E [.ref b0, .int x1, .ref (q 4)] (cw E q r (gpl F) o0 A0 C0 h0 o1 A1 C1 h1 o2 A2 C2 h2 gs0 gA tb0 tA0 bf0 hi0) (fun v w => v = res.1 ∧ w = cw E q r (gpl F) o0 A0 C0 h0 o1 A1 C1 h1 o2 A2 C2 h2 gs0 gA res.2.1 res.2.2 bf0 hi0) := by
  refine g_met_i (by decide +kernel) (Nat.le_of_ble_eq_true rfl) (fun Γ K hn hE hRm _ hret => ?_)
  subst hE
  have hlt : ∀ i, i < 3 → i < g_n Γ := fun i q => by rw [hn]; exact q
  refine g_ws (ws' := cw (g_E Γ) q r (gpl F) o0 A0 C0 h0 o1 A1 C1 h1 o2 A2 C2 h2 gs0 gA tb0 tA0 bf0 hi0) rfl ?_
  refine g_sub (L' := [(0, .ref b0), (1, .int x1), (2, .ref (q 4))]) [0, 1, 2] rfl ?_
  exact wX4_levels_k3 (C0 := C0) (h0 := h0) (C1 := C1) (h1 := h1) (C2 := C2) (h2 := h2) (gs0 := gs0) (tb0 := tb0) (tA0 := tA0) (bf0 := bf0) (hi0 := hi0) hF hb hk0 K hlt hRm hret tb0 tA0 x1 h

set_option maxHeartbeats 4000000 in
set_option maxRecDepth 100000 in
theorem wX0_works_k4 {Γ : gT} {q : Nat → Nat} {r : Nat → Nat → Nat} {F : gF} (hF : gFz (g_E Γ) F) {o0 : Nat → Int32} {A0 : Nat → Nat → Int32} {C0 : Nat → Option Nat} {h0 : Nat} {o1 : Nat → Int32} {A1 : Nat → Nat → Int32} {C1 : Nat → Option Nat} {h1 : Nat} {o2 : Nat → Int32} {A2 : Nat → Nat → Int32} {C2 : Nat → Option Nat} {h2 : Nat} {gs0 : Int32} {gA : Nat → Nat → Int32} {tb0 : Int32} {tA0 bf0 : Nat → Int32} {hi0 : Int32} {b0 : Nat} (hb : chv F b0 = true) (hk0 : ck F b0 = 4) (K : gOK Γ cX0_works gU RX0) (hlt : ∀ i, i < 3 → i < g_n Γ) (hRm : g_R Γ = ({ frames := 5, cells := 0, slots := 0, locals := 171 } : Room)) {res : Int32 × Int32 × ((Nat → Int32))} (hret : ∀ (pc : Nat) (L : List (Nat × Value)) (v : Int32) (w : va_W), decode cX0_works pc = .ok (.ireturn, 1) → narrow .int (.int v) = .int v → (v = res.1 ∧ w = cw (g_E Γ) q r (gpl F) o0 A0 C0 h0 o1 A1 C1 h1 o2 A2 C2 h2 gs0 gA res.2.1 res.2.2 bf0 hi0) → gGO Γ 0 0 pc L [.int v] w) (tb : Int32) (ta : (Nat → Int32)) (x1 : Int32) (h : pX0_works_k4 F b0 tb ta x1 = some res) : gGO Γ 0 0 0 [(0, .ref b0), (1, .int x1), (2, .ref (q 4))] [] (cw (g_E Γ) q r (gpl F) o0 A0 C0 h0 o1 A1 C1 h1 o2 A2 C2 h2 gs0 gA tb ta bf0 hi0) := by
    unfold pX0_works_k4 at h
    refine g_aload_n K dX0_works_0 rfl 2 rfl ?_
    refine g_iconst (v := 1) K dX0_works_1 (by decide) ?_
    obtain ⟨z_1, hz_1, h⟩ := gi_bd h
    refine g_callVv (As := [.int 1]) (bytes := cX8_begin) (maxL := 2) (ret := none) K (ctX8_begin hF o0 A0 C0 h0 o1 A1 C1 h1 o2 A2 C2 h2 gs0 gA tb ta bf0 hi0 1 (res := z_1) hz_1) gc_V_RX0_43_X8_begin rfl qv_X8_begin 5 rfl rfl rfl hRm rfl rfl rfl (by decide) (Nat.le_of_ble_eq_true rfl) (by decide) dX0_works_2 (fun w hw => ?_)
    subst hw
    refine g_ws (ws' := cw (g_E Γ) q r (gpl F) o0 A0 C0 h0 o1 A1 C1 h1 o2 A2 C2 h2 gs0 gA z_1.1 z_1.2 bf0 hi0) rfl ?_
    refine g_iload_n K dX0_works_5 rfl 1 rfl ?_
    refine g_aload_n K dX0_works_6 rfl 0 rfl ?_
    refine g_getF (v := .int (cn F b0)) (T := TX6) (ref := "ChiefGrades$Chief") K hin_X6 (gF_at (j := 4) hF hb hk0 (by decide)) rfl 1 (by decide) u_258 (Or.inl rfl) rfl dX0_works_7 ?_
    refine g_iadd K dX0_works_10 ?_
    obtain rfl := Option.some.inj h
    exact hret _ _ _ _ dX0_works_11 rfl ⟨rfl, rfl⟩

set_option maxRecDepth 100000 in
theorem ctX0_works_k4 {E : gE} {q : Nat → Nat} {r : Nat → Nat → Nat} {F : gF} (hF : gFz E F) {b0 : Nat} (hb : chv F b0 = true) (hk0 : ck F b0 = 4) (o0 : Nat → Int32) (A0 : Nat → Nat → Int32) (C0 : Nat → Option Nat) (h0 : Nat) (o1 : Nat → Int32) (A1 : Nat → Nat → Int32) (C1 : Nat → Option Nat) (h1 : Nat) (o2 : Nat → Int32) (A2 : Nat → Nat → Int32) (C2 : Nat → Option Nat) (h2 : Nat) (gs0 : Int32) (gA : Nat → Nat → Int32) (tb0 : Int32) (tA0 bf0 : Nat → Int32) (hi0 : Int32) (x1 : Int32) {res : Int32 × Int32 × ((Nat → Int32))} (h : pX0_works_k4 F b0 tb0 tA0 x1 = some res) : gMi yX0_works (.code yX0_works cX0_works 3 (some .int) :: gU) ({ frames := 5, cells := 0, slots := 0, locals := 171 } : Room) 0 0 E [.ref b0, .int x1, .ref (q 4)] (cw E q r (gpl F) o0 A0 C0 h0 o1 A1 C1 h1 o2 A2 C2 h2 gs0 gA tb0 tA0 bf0 hi0) (fun v w => v = res.1 ∧ w = cw E q r (gpl F) o0 A0 C0 h0 o1 A1 C1 h1 o2 A2 C2 h2 gs0 gA res.2.1 res.2.2 bf0 hi0) := by
  refine g_met_i (by decide +kernel) (Nat.le_of_ble_eq_true rfl) (fun Γ K hn hE hRm _ hret => ?_)
  subst hE
  have hlt : ∀ i, i < 3 → i < g_n Γ := fun i q => by rw [hn]; exact q
  refine g_ws (ws' := cw (g_E Γ) q r (gpl F) o0 A0 C0 h0 o1 A1 C1 h1 o2 A2 C2 h2 gs0 gA tb0 tA0 bf0 hi0) rfl ?_
  refine g_sub (L' := [(0, .ref b0), (1, .int x1), (2, .ref (q 4))]) [0, 1, 2] rfl ?_
  exact wX0_works_k4 (C0 := C0) (h0 := h0) (C1 := C1) (h1 := h1) (C2 := C2) (h2 := h2) (gs0 := gs0) (tb0 := tb0) (tA0 := tA0) (bf0 := bf0) (hi0 := hi0) hF hb hk0 K hlt hRm hret tb0 tA0 x1 h

set_option maxHeartbeats 4000000 in
set_option maxRecDepth 100000 in
theorem wX5_works_k4 {Γ : gT} {q : Nat → Nat} {r : Nat → Nat → Nat} {F : gF} (hF : gFz (g_E Γ) F) {o0 : Nat → Int32} {A0 : Nat → Nat → Int32} {C0 : Nat → Option Nat} {h0 : Nat} {o1 : Nat → Int32} {A1 : Nat → Nat → Int32} {C1 : Nat → Option Nat} {h1 : Nat} {o2 : Nat → Int32} {A2 : Nat → Nat → Int32} {C2 : Nat → Option Nat} {h2 : Nat} {gs0 : Int32} {gA : Nat → Nat → Int32} {tb0 : Int32} {tA0 bf0 : Nat → Int32} {hi0 : Int32} {b0 : Nat} (hb : chv F b0 = true) (hk0 : ck F b0 = 4) (K : gOK Γ cX5_works gU RX5) (hlt : ∀ i, i < 3 → i < g_n Γ) (hRm : g_R Γ = ({ frames := 6, cells := 0, slots := 0, locals := 193 } : Room)) {res : Int32 × Int32 × ((Nat → Int32))} (hret : ∀ (pc : Nat) (L : List (Nat × Value)) (v : Int32) (w : va_W), decode cX5_works pc = .ok (.ireturn, 1) → narrow .int (.int v) = .int v → (v = res.1 ∧ w = cw (g_E Γ) q r (gpl F) o0 A0 C0 h0 o1 A1 C1 h1 o2 A2 C2 h2 gs0 gA res.2.1 res.2.2 bf0 hi0) → gGO Γ 0 0 pc L [.int v] w) (tb : Int32) (ta : (Nat → Int32)) (x1 : Int32) (h : pX5_works_k4 F b0 tb ta x1 = some res) : gGO Γ 0 0 0 [(0, .ref b0), (1, .int x1), (2, .ref (q 4))] [] (cw (g_E Γ) q r (gpl F) o0 A0 C0 h0 o1 A1 C1 h1 o2 A2 C2 h2 gs0 gA tb ta bf0 hi0) := by
    unfold pX5_works_k4 at h
    refine g_aload_n K dX5_works_0 rfl 2 rfl ?_
    refine g_bipush (v := 11) K dX5_works_1 (by decide) ?_
    obtain ⟨z_1, hz_1, h⟩ := gi_bd h
    refine g_callVv (As := [.int 11]) (bytes := cX8_begin) (maxL := 2) (ret := none) K (ctX8_begin hF o0 A0 C0 h0 o1 A1 C1 h1 o2 A2 C2 h2 gs0 gA tb ta bf0 hi0 11 (res := z_1) hz_1) gc_V_RX5_13_X8_begin rfl qv_X8_begin 5 rfl rfl rfl hRm rfl rfl rfl (by decide) (Nat.le_of_ble_eq_true rfl) (by decide) dX5_works_3 (fun w hw => ?_)
    subst hw
    refine g_ws (ws' := cw (g_E Γ) q r (gpl F) o0 A0 C0 h0 o1 A1 C1 h1 o2 A2 C2 h2 gs0 gA z_1.1 z_1.2 bf0 hi0) rfl ?_
    refine g_aload_n K dX5_works_6 rfl 0 rfl ?_
    refine g_iload_n K dX5_works_7 rfl 1 rfl ?_
    refine g_iconst (v := 3) K dX5_works_8 (by decide) ?_
    refine g_imul K dX5_works_9 ?_
    refine g_aload_n K dX5_works_10 rfl 2 rfl ?_
    obtain ⟨z_2, hz_2, h⟩ := gi_bd h
    refine g_callSUiF (As := [.int (x1 * 3), .ref (q 4)]) (bytes := cX0_works) (maxL := 3) (ret := (some .int)) K (ctX0_works_k4 hF (b0 := b0) hb hk0 o0 A0 C0 h0 o1 A1 C1 h1 o2 A2 C2 h2 gs0 gA z_1.1 z_1.2 bf0 hi0 (x1 * 3) (res := z_2) hz_2) gc_SU_RX5_19_X0_works rfl qsu_X0_works (gF_at (j := 4) hF hb hk0 (by decide)) rfl rfl hRm rfl rfl rfl (by decide) (Nat.le_of_ble_eq_true rfl) (by decide) dX5_works_11 (fun v w hw => ?_)
    obtain ⟨hv9, rfl⟩ := hw; have hv9 := hv9.symm; subst hv9
    refine g_ws (ws' := cw (g_E Γ) q r (gpl F) o0 A0 C0 h0 o1 A1 C1 h1 o2 A2 C2 h2 gs0 gA z_2.2.1 z_2.2.2 bf0 hi0) rfl ?_
    obtain rfl := Option.some.inj h
    exact hret _ _ _ _ dX5_works_14 rfl ⟨rfl, rfl⟩

set_option maxRecDepth 100000 in
theorem ctX5_works_k4 {E : gE} {q : Nat → Nat} {r : Nat → Nat → Nat} {F : gF} (hF : gFz E F) {b0 : Nat} (hb : chv F b0 = true) (hk0 : ck F b0 = 4) (o0 : Nat → Int32) (A0 : Nat → Nat → Int32) (C0 : Nat → Option Nat) (h0 : Nat) (o1 : Nat → Int32) (A1 : Nat → Nat → Int32) (C1 : Nat → Option Nat) (h1 : Nat) (o2 : Nat → Int32) (A2 : Nat → Nat → Int32) (C2 : Nat → Option Nat) (h2 : Nat) (gs0 : Int32) (gA : Nat → Nat → Int32) (tb0 : Int32) (tA0 bf0 : Nat → Int32) (hi0 : Int32) (x1 : Int32) {res : Int32 × Int32 × ((Nat → Int32))} (h : pX5_works_k4 F b0 tb0 tA0 x1 = some res) : gMi yX5_works (.code yX5_works cX5_works 3 (some .int) :: gU) ({ frames := 6, cells := 0, slots := 0, locals := 193 } : Room) 0 0 E [.ref b0, .int x1, .ref (q 4)] (cw E q r (gpl F) o0 A0 C0 h0 o1 A1 C1 h1 o2 A2 C2 h2 gs0 gA tb0 tA0 bf0 hi0) (fun v w => v = res.1 ∧ w = cw E q r (gpl F) o0 A0 C0 h0 o1 A1 C1 h1 o2 A2 C2 h2 gs0 gA res.2.1 res.2.2 bf0 hi0) := by
  refine g_met_i (by decide +kernel) (Nat.le_of_ble_eq_true rfl) (fun Γ K hn hE hRm _ hret => ?_)
  subst hE
  have hlt : ∀ i, i < 3 → i < g_n Γ := fun i q => by rw [hn]; exact q
  refine g_ws (ws' := cw (g_E Γ) q r (gpl F) o0 A0 C0 h0 o1 A1 C1 h1 o2 A2 C2 h2 gs0 gA tb0 tA0 bf0 hi0) rfl ?_
  refine g_sub (L' := [(0, .ref b0), (1, .int x1), (2, .ref (q 4))]) [0, 1, 2] rfl ?_
  exact wX5_works_k4 (C0 := C0) (h0 := h0) (C1 := C1) (h1 := h1) (C2 := C2) (h2 := h2) (gs0 := gs0) (tb0 := tb0) (tA0 := tA0) (bf0 := bf0) (hi0 := hi0) hF hb hk0 K hlt hRm hret tb0 tA0 x1 h

set_option maxHeartbeats 4000000 in
set_option maxRecDepth 100000 in
theorem wX0_grades_k4 {Γ : gT} {q : Nat → Nat} {r : Nat → Nat → Nat} {F : gF} (hF : gFz (g_E Γ) F) {o0 : Nat → Int32} {A0 : Nat → Nat → Int32} {C0 : Nat → Option Nat} {h0 : Nat} {o1 : Nat → Int32} {A1 : Nat → Nat → Int32} {C1 : Nat → Option Nat} {h1 : Nat} {o2 : Nat → Int32} {A2 : Nat → Nat → Int32} {C2 : Nat → Option Nat} {h2 : Nat} {gs0 : Int32} {gA : Nat → Nat → Int32} {tb0 : Int32} {tA0 bf0 : Nat → Int32} {hi0 : Int32} {b0 : Nat} (hb : chv F b0 = true) (hk0 : ck F b0 = 4) (K : gOK Γ cX0_grades gU RX0) (hlt : ∀ i, i < 3 → i < g_n Γ) (hRm : g_R Γ = ({ frames := 7, cells := 0, slots := 0, locals := 215 } : Room)) {res : Int32 × Int32 × ((Nat → Int32))} (hret : ∀ (pc : Nat) (L : List (Nat × Value)) (v : Int32) (w : va_W), decode cX0_grades pc = .ok (.ireturn, 1) → narrow .int (.int v) = .int v → (v = res.1 ∧ w = cw (g_E Γ) q r (gpl F) o0 A0 C0 h0 o1 A1 C1 h1 o2 A2 C2 h2 gs0 gA res.2.1 res.2.2 bf0 hi0) → gGO Γ 0 0 pc L [.int v] w) (tb : Int32) (ta : (Nat → Int32)) (x1 : Int32) (h : pX0_grades_k4 F b0 tb ta x1 = some res) : gGO Γ 0 0 0 [(0, .ref b0), (1, .int x1), (2, .ref (q 4))] [] (cw (g_E Γ) q r (gpl F) o0 A0 C0 h0 o1 A1 C1 h1 o2 A2 C2 h2 gs0 gA tb ta bf0 hi0) := by
    unfold pX0_grades_k4 at h
    refine g_aload_n K dX0_grades_0 rfl 2 rfl ?_
    refine g_iconst (v := 2) K dX0_grades_1 (by decide) ?_
    obtain ⟨z_1, hz_1, h⟩ := gi_bd h
    refine g_callVv (As := [.int 2]) (bytes := cX8_begin) (maxL := 2) (ret := none) K (ctX8_begin hF o0 A0 C0 h0 o1 A1 C1 h1 o2 A2 C2 h2 gs0 gA tb ta bf0 hi0 2 (res := z_1) hz_1) gc_V_RX0_43_X8_begin rfl qv_X8_begin 5 rfl rfl rfl hRm rfl rfl rfl (by decide) (Nat.le_of_ble_eq_true rfl) (by decide) dX0_grades_2 (fun w hw => ?_)
    subst hw
    refine g_ws (ws' := cw (g_E Γ) q r (gpl F) o0 A0 C0 h0 o1 A1 C1 h1 o2 A2 C2 h2 gs0 gA z_1.1 z_1.2 bf0 hi0) rfl ?_
    refine g_aload_n K dX0_grades_5 rfl 0 rfl ?_
    refine g_iload_n K dX0_grades_6 rfl 1 rfl ?_
    refine g_aload_n K dX0_grades_7 rfl 2 rfl ?_
    obtain ⟨z_2, hz_2, h⟩ := gi_bd h
    refine g_callOiF (n := 2) (owner := "ChiefGrades$Chief") (x := ⟨"ChiefGrades$Chief", "works", "(ILChiefGrades$Trace;)I"⟩) (As := [.int x1, .ref (q 4)]) (bytes := cX5_works) (maxL := 3) (ret := (some .int)) K (ctX5_works_k4 hF (b0 := b0) hb hk0 o0 A0 C0 h0 o1 A1 C1 h1 o2 A2 C2 h2 gs0 gA z_1.1 z_1.2 bf0 hi0 x1 (res := z_2) hz_2) gc_OX6_RX0_49_X5_works rfl u_893 (by decide +kernel) (gF_at (j := 4) hF hb hk0 (by decide)) rfl rfl hRm rfl rfl rfl (by decide) (Nat.le_of_ble_eq_true rfl) (by decide) dX0_grades_8 (fun v w hw => ?_)
    obtain ⟨hv9, rfl⟩ := hw; have hv9 := hv9.symm; subst hv9
    refine g_ws (ws' := cw (g_E Γ) q r (gpl F) o0 A0 C0 h0 o1 A1 C1 h1 o2 A2 C2 h2 gs0 gA z_2.2.1 z_2.2.2 bf0 hi0) rfl ?_
    refine g_aload_n K dX0_grades_11 rfl 0 rfl ?_
    refine g_getF (v := .int (cv F b0)) (T := TX6) (ref := "ChiefGrades$Chief") K hin_X6 (gF_at (j := 4) hF hb hk0 (by decide)) rfl 2 (by decide) u_263 (Or.inl rfl) rfl dX0_grades_12 ?_
    refine g_isub K dX0_grades_15 ?_
    obtain rfl := Option.some.inj h
    exact hret _ _ _ _ dX0_grades_16 rfl ⟨rfl, rfl⟩

set_option maxRecDepth 100000 in
theorem ctX0_grades_k4 {E : gE} {q : Nat → Nat} {r : Nat → Nat → Nat} {F : gF} (hF : gFz E F) {b0 : Nat} (hb : chv F b0 = true) (hk0 : ck F b0 = 4) (o0 : Nat → Int32) (A0 : Nat → Nat → Int32) (C0 : Nat → Option Nat) (h0 : Nat) (o1 : Nat → Int32) (A1 : Nat → Nat → Int32) (C1 : Nat → Option Nat) (h1 : Nat) (o2 : Nat → Int32) (A2 : Nat → Nat → Int32) (C2 : Nat → Option Nat) (h2 : Nat) (gs0 : Int32) (gA : Nat → Nat → Int32) (tb0 : Int32) (tA0 bf0 : Nat → Int32) (hi0 : Int32) (x1 : Int32) {res : Int32 × Int32 × ((Nat → Int32))} (h : pX0_grades_k4 F b0 tb0 tA0 x1 = some res) : gMi yX0_grades (.code yX0_grades cX0_grades 3 (some .int) :: gU) ({ frames := 7, cells := 0, slots := 0, locals := 215 } : Room) 0 0 E [.ref b0, .int x1, .ref (q 4)] (cw E q r (gpl F) o0 A0 C0 h0 o1 A1 C1 h1 o2 A2 C2 h2 gs0 gA tb0 tA0 bf0 hi0) (fun v w => v = res.1 ∧ w = cw E q r (gpl F) o0 A0 C0 h0 o1 A1 C1 h1 o2 A2 C2 h2 gs0 gA res.2.1 res.2.2 bf0 hi0) := by
  refine g_met_i (by decide +kernel) (Nat.le_of_ble_eq_true rfl) (fun Γ K hn hE hRm _ hret => ?_)
  subst hE
  have hlt : ∀ i, i < 3 → i < g_n Γ := fun i q => by rw [hn]; exact q
  refine g_ws (ws' := cw (g_E Γ) q r (gpl F) o0 A0 C0 h0 o1 A1 C1 h1 o2 A2 C2 h2 gs0 gA tb0 tA0 bf0 hi0) rfl ?_
  refine g_sub (L' := [(0, .ref b0), (1, .int x1), (2, .ref (q 4))]) [0, 1, 2] rfl ?_
  exact wX0_grades_k4 (C0 := C0) (h0 := h0) (C1 := C1) (h1 := h1) (C2 := C2) (h2 := h2) (gs0 := gs0) (tb0 := tb0) (tA0 := tA0) (bf0 := bf0) (hi0 := hi0) hF hb hk0 K hlt hRm hret tb0 tA0 x1 h

set_option maxHeartbeats 4000000 in
set_option maxRecDepth 100000 in
theorem wX0_levels_k4 {Γ : gT} {q : Nat → Nat} {r : Nat → Nat → Nat} {F : gF} (hF : gFz (g_E Γ) F) {o0 : Nat → Int32} {A0 : Nat → Nat → Int32} {C0 : Nat → Option Nat} {h0 : Nat} {o1 : Nat → Int32} {A1 : Nat → Nat → Int32} {C1 : Nat → Option Nat} {h1 : Nat} {o2 : Nat → Int32} {A2 : Nat → Nat → Int32} {C2 : Nat → Option Nat} {h2 : Nat} {gs0 : Int32} {gA : Nat → Nat → Int32} {tb0 : Int32} {tA0 bf0 : Nat → Int32} {hi0 : Int32} {b0 : Nat} (hb : chv F b0 = true) (hk0 : ck F b0 = 4) (K : gOK Γ cX0_levels gU RX0) (hlt : ∀ i, i < 3 → i < g_n Γ) (hRm : g_R Γ = ({ frames := 8, cells := 0, slots := 0, locals := 237 } : Room)) {res : Int32 × Int32 × ((Nat → Int32))} (hret : ∀ (pc : Nat) (L : List (Nat × Value)) (v : Int32) (w : va_W), decode cX0_levels pc = .ok (.ireturn, 1) → narrow .int (.int v) = .int v → (v = res.1 ∧ w = cw (g_E Γ) q r (gpl F) o0 A0 C0 h0 o1 A1 C1 h1 o2 A2 C2 h2 gs0 gA res.2.1 res.2.2 bf0 hi0) → gGO Γ 0 0 pc L [.int v] w) (tb : Int32) (ta : (Nat → Int32)) (x1 : Int32) (h : pX0_levels_k4 F b0 tb ta x1 = some res) : gGO Γ 0 0 0 [(0, .ref b0), (1, .int x1), (2, .ref (q 4))] [] (cw (g_E Γ) q r (gpl F) o0 A0 C0 h0 o1 A1 C1 h1 o2 A2 C2 h2 gs0 gA tb ta bf0 hi0) := by
    unfold pX0_levels_k4 at h
    refine g_aload_n K dX0_levels_0 rfl 2 rfl ?_
    refine g_iconst (v := 3) K dX0_levels_1 (by decide) ?_
    obtain ⟨z_1, hz_1, h⟩ := gi_bd h
    refine g_callVv (As := [.int 3]) (bytes := cX8_begin) (maxL := 2) (ret := none) K (ctX8_begin hF o0 A0 C0 h0 o1 A1 C1 h1 o2 A2 C2 h2 gs0 gA tb ta bf0 hi0 3 (res := z_1) hz_1) gc_V_RX0_43_X8_begin rfl qv_X8_begin 5 rfl rfl rfl hRm rfl rfl rfl (by decide) (Nat.le_of_ble_eq_true rfl) (by decide) dX0_levels_2 (fun w hw => ?_)
    subst hw
    refine g_ws (ws' := cw (g_E Γ) q r (gpl F) o0 A0 C0 h0 o1 A1 C1 h1 o2 A2 C2 h2 gs0 gA z_1.1 z_1.2 bf0 hi0) rfl ?_
    refine g_aload_n K dX0_levels_5 rfl 0 rfl ?_
    refine g_iload_n K dX0_levels_6 rfl 1 rfl ?_
    refine g_aload_n K dX0_levels_7 rfl 2 rfl ?_
    obtain ⟨z_2, hz_2, h⟩ := gi_bd h
    refine g_callUiF (n := 2) (owner := "ChiefGrades$Chief") (x := ⟨"ChiefGrades$Chief", "grades", "(ILChiefGrades$Trace;)I"⟩) (As := [.int x1, .ref (q 4)]) (bytes := cX0_grades) (maxL := 3) (ret := (some .int)) K (ctX0_grades_k4 hF (b0 := b0) hb hk0 o0 A0 C0 h0 o1 A1 C1 h1 o2 A2 C2 h2 gs0 gA z_1.1 z_1.2 bf0 hi0 x1 (res := z_2) hz_2) gc_UX6_RX0_53_X0_grades rfl rfl (by decide +kernel) (gF_at (j := 4) hF hb hk0 (by decide)) rfl rfl hRm rfl rfl rfl (by decide) (Nat.le_of_ble_eq_true rfl) (by decide) dX0_levels_8 (fun v w hw => ?_)
    obtain ⟨hv9, rfl⟩ := hw; have hv9 := hv9.symm; subst hv9
    refine g_ws (ws' := cw (g_E Γ) q r (gpl F) o0 A0 C0 h0 o1 A1 C1 h1 o2 A2 C2 h2 gs0 gA z_2.2.1 z_2.2.2 bf0 hi0) rfl ?_
    refine g_iconst (v := 2) K dX0_levels_11 (by decide) ?_
    refine g_imul K dX0_levels_12 ?_
    obtain rfl := Option.some.inj h
    exact hret _ _ _ _ dX0_levels_13 rfl ⟨rfl, rfl⟩

set_option maxRecDepth 100000 in
theorem ctX0_levels_k4 {E : gE} {q : Nat → Nat} {r : Nat → Nat → Nat} {F : gF} (hF : gFz E F) {b0 : Nat} (hb : chv F b0 = true) (hk0 : ck F b0 = 4) (o0 : Nat → Int32) (A0 : Nat → Nat → Int32) (C0 : Nat → Option Nat) (h0 : Nat) (o1 : Nat → Int32) (A1 : Nat → Nat → Int32) (C1 : Nat → Option Nat) (h1 : Nat) (o2 : Nat → Int32) (A2 : Nat → Nat → Int32) (C2 : Nat → Option Nat) (h2 : Nat) (gs0 : Int32) (gA : Nat → Nat → Int32) (tb0 : Int32) (tA0 bf0 : Nat → Int32) (hi0 : Int32) (x1 : Int32) {res : Int32 × Int32 × ((Nat → Int32))} (h : pX0_levels_k4 F b0 tb0 tA0 x1 = some res) : gMi yX0_levels (.code yX0_levels cX0_levels 3 (some .int) :: gU) ({ frames := 8, cells := 0, slots := 0, locals := 237 } : Room) 0 0 E [.ref b0, .int x1, .ref (q 4)] (cw E q r (gpl F) o0 A0 C0 h0 o1 A1 C1 h1 o2 A2 C2 h2 gs0 gA tb0 tA0 bf0 hi0) (fun v w => v = res.1 ∧ w = cw E q r (gpl F) o0 A0 C0 h0 o1 A1 C1 h1 o2 A2 C2 h2 gs0 gA res.2.1 res.2.2 bf0 hi0) := by
  refine g_met_i (by decide +kernel) (Nat.le_of_ble_eq_true rfl) (fun Γ K hn hE hRm _ hret => ?_)
  subst hE
  have hlt : ∀ i, i < 3 → i < g_n Γ := fun i q => by rw [hn]; exact q
  refine g_ws (ws' := cw (g_E Γ) q r (gpl F) o0 A0 C0 h0 o1 A1 C1 h1 o2 A2 C2 h2 gs0 gA tb0 tA0 bf0 hi0) rfl ?_
  refine g_sub (L' := [(0, .ref b0), (1, .int x1), (2, .ref (q 4))]) [0, 1, 2] rfl ?_
  exact wX0_levels_k4 (C0 := C0) (h0 := h0) (C1 := C1) (h1 := h1) (C2 := C2) (h2 := h2) (gs0 := gs0) (tb0 := tb0) (tA0 := tA0) (bf0 := bf0) (hi0 := hi0) hF hb hk0 K hlt hRm hret tb0 tA0 x1 h

set_option maxHeartbeats 4000000 in
set_option maxRecDepth 100000 in
theorem wX6_levels_k4 {Γ : gT} {q : Nat → Nat} {r : Nat → Nat → Nat} {F : gF} (hF : gFz (g_E Γ) F) {o0 : Nat → Int32} {A0 : Nat → Nat → Int32} {C0 : Nat → Option Nat} {h0 : Nat} {o1 : Nat → Int32} {A1 : Nat → Nat → Int32} {C1 : Nat → Option Nat} {h1 : Nat} {o2 : Nat → Int32} {A2 : Nat → Nat → Int32} {C2 : Nat → Option Nat} {h2 : Nat} {gs0 : Int32} {gA : Nat → Nat → Int32} {tb0 : Int32} {tA0 bf0 : Nat → Int32} {hi0 : Int32} {b0 : Nat} (hb : chv F b0 = true) (hk0 : ck F b0 = 4) (K : gOK Γ cX6_levels gU RX6) (hlt : ∀ i, i < 3 → i < g_n Γ) (hRm : g_R Γ = ({ frames := 9, cells := 0, slots := 0, locals := 259 } : Room)) {res : Int32 × Int32 × ((Nat → Int32))} (hret : ∀ (pc : Nat) (L : List (Nat × Value)) (v : Int32) (w : va_W), decode cX6_levels pc = .ok (.ireturn, 1) → narrow .int (.int v) = .int v → (v = res.1 ∧ w = cw (g_E Γ) q r (gpl F) o0 A0 C0 h0 o1 A1 C1 h1 o2 A2 C2 h2 gs0 gA res.2.1 res.2.2 bf0 hi0) → gGO Γ 0 0 pc L [.int v] w) (tb : Int32) (ta : (Nat → Int32)) (x1 : Int32) (h : pX6_levels_k4 F b0 tb ta x1 = some res) : gGO Γ 0 0 0 [(0, .ref b0), (1, .int x1), (2, .ref (q 4))] [] (cw (g_E Γ) q r (gpl F) o0 A0 C0 h0 o1 A1 C1 h1 o2 A2 C2 h2 gs0 gA tb ta bf0 hi0) := by
    unfold pX6_levels_k4 at h
    refine g_aload_n K dX6_levels_0 rfl 2 rfl ?_
    refine g_bipush (v := 41) K dX6_levels_1 (by decide) ?_
    obtain ⟨z_1, hz_1, h⟩ := gi_bd h
    refine g_callVv (As := [.int 41]) (bytes := cX8_begin) (maxL := 2) (ret := none) K (ctX8_begin hF o0 A0 C0 h0 o1 A1 C1 h1 o2 A2 C2 h2 gs0 gA tb ta bf0 hi0 41 (res := z_1) hz_1) gc_V_RX6_22_X8_begin rfl qv_X8_begin 5 rfl rfl rfl hRm rfl rfl rfl (by decide) (Nat.le_of_ble_eq_true rfl) (by decide) dX6_levels_3 (fun w hw => ?_)
    subst hw
    refine g_ws (ws' := cw (g_E Γ) q r (gpl F) o0 A0 C0 h0 o1 A1 C1 h1 o2 A2 C2 h2 gs0 gA z_1.1 z_1.2 bf0 hi0) rfl ?_
    refine g_aload_n K dX6_levels_6 rfl 0 rfl ?_
    refine g_iload_n K dX6_levels_7 rfl 1 rfl ?_
    refine g_iconst (v := 1) K dX6_levels_8 (by decide) ?_
    refine g_isub K dX6_levels_9 ?_
    refine g_aload_n K dX6_levels_10 rfl 2 rfl ?_
    obtain ⟨z_2, hz_2, h⟩ := gi_bd h
    refine g_callSXiF (n := 2) (x := ⟨"ChiefGrades$Lenient", "levels", "(ILChiefGrades$Trace;)I"⟩) (As := [.int (x1 - 1), .ref (q 4)]) (bytes := cX0_levels) (maxL := 3) (ret := (some .int)) K (ctX0_levels_k4 hF (b0 := b0) hb hk0 o0 A0 C0 h0 o1 A1 C1 h1 o2 A2 C2 h2 gs0 gA z_1.1 z_1.2 bf0 hi0 (x1 - 1) (res := z_2) hz_2) u_932 u_933 u_567 u_534 u_918 u_73 (gu_c u_941) rfl rfl qsu_X0_levels (gF_at (j := 4) hF hb hk0 (by decide)) rfl rfl hRm rfl rfl rfl (by decide) (Nat.le_of_ble_eq_true rfl) (by decide) dX6_levels_11 (fun v w hw => ?_)
    obtain ⟨hv9, rfl⟩ := hw; have hv9 := hv9.symm; subst hv9
    refine g_ws (ws' := cw (g_E Γ) q r (gpl F) o0 A0 C0 h0 o1 A1 C1 h1 o2 A2 C2 h2 gs0 gA z_2.2.1 z_2.2.2 bf0 hi0) rfl ?_
    refine g_aload_n K dX6_levels_14 rfl 0 rfl ?_
    refine g_iconst (v := 2) K dX6_levels_15 (by decide) ?_
    refine g_aload_n K dX6_levels_16 rfl 2 rfl ?_
    obtain ⟨z_3, hz_3, h⟩ := gi_bd h
    refine g_callUiF (n := 2) (owner := "ChiefGrades$Lenient") (x := ⟨"ChiefGrades$Near", "works", "(ILChiefGrades$Trace;)I"⟩) (As := [.int 2, .ref (q 4)]) (bytes := cX5_works) (maxL := 3) (ret := (some .int)) K (ctX5_works_k4 hF (b0 := b0) hb hk0 o0 A0 C0 h0 o1 A1 C1 h1 o2 A2 C2 h2 gs0 gA z_2.2.1 z_2.2.2 bf0 hi0 2 (res := z_3) hz_3) gc_UX6_RX6_32_X5_works rfl rfl (by decide +kernel) (gF_at (j := 4) hF hb hk0 (by decide)) rfl rfl hRm rfl rfl rfl (by decide) (Nat.le_of_ble_eq_true rfl) (by decide) dX6_levels_17 (fun v w hw => ?_)
    obtain ⟨hv9, rfl⟩ := hw; have hv9 := hv9.symm; subst hv9
    refine g_ws (ws' := cw (g_E Γ) q r (gpl F) o0 A0 C0 h0 o1 A1 C1 h1 o2 A2 C2 h2 gs0 gA z_3.2.1 z_3.2.2 bf0 hi0) rfl ?_
    refine g_iadd K dX6_levels_20 ?_
    obtain rfl := Option.some.inj h
    exact hret _ _ _ _ dX6_levels_21 rfl ⟨rfl, rfl⟩

set_option maxRecDepth 100000 in
theorem ctX6_levels_k4 {E : gE} {q : Nat → Nat} {r : Nat → Nat → Nat} {F : gF} (hF : gFz E F) {b0 : Nat} (hb : chv F b0 = true) (hk0 : ck F b0 = 4) (o0 : Nat → Int32) (A0 : Nat → Nat → Int32) (C0 : Nat → Option Nat) (h0 : Nat) (o1 : Nat → Int32) (A1 : Nat → Nat → Int32) (C1 : Nat → Option Nat) (h1 : Nat) (o2 : Nat → Int32) (A2 : Nat → Nat → Int32) (C2 : Nat → Option Nat) (h2 : Nat) (gs0 : Int32) (gA : Nat → Nat → Int32) (tb0 : Int32) (tA0 bf0 : Nat → Int32) (hi0 : Int32) (x1 : Int32) {res : Int32 × Int32 × ((Nat → Int32))} (h : pX6_levels_k4 F b0 tb0 tA0 x1 = some res) : gMi yX6_levels (.code yX6_levels cX6_levels 3 (some .int) :: gU) ({ frames := 9, cells := 0, slots := 0, locals := 259 } : Room) 0 0 E [.ref b0, .int x1, .ref (q 4)] (cw E q r (gpl F) o0 A0 C0 h0 o1 A1 C1 h1 o2 A2 C2 h2 gs0 gA tb0 tA0 bf0 hi0) (fun v w => v = res.1 ∧ w = cw E q r (gpl F) o0 A0 C0 h0 o1 A1 C1 h1 o2 A2 C2 h2 gs0 gA res.2.1 res.2.2 bf0 hi0) := by
  refine g_met_i (by decide +kernel) (Nat.le_of_ble_eq_true rfl) (fun Γ K hn hE hRm _ hret => ?_)
  subst hE
  have hlt : ∀ i, i < 3 → i < g_n Γ := fun i q => by rw [hn]; exact q
  refine g_ws (ws' := cw (g_E Γ) q r (gpl F) o0 A0 C0 h0 o1 A1 C1 h1 o2 A2 C2 h2 gs0 gA tb0 tA0 bf0 hi0) rfl ?_
  refine g_sub (L' := [(0, .ref b0), (1, .int x1), (2, .ref (q 4))]) [0, 1, 2] rfl ?_
  exact wX6_levels_k4 (C0 := C0) (h0 := h0) (C1 := C1) (h1 := h1) (C2 := C2) (h2 := h2) (gs0 := gs0) (tb0 := tb0) (tA0 := tA0) (bf0 := bf0) (hi0 := hi0) hF hb hk0 K hlt hRm hret tb0 tA0 x1 h

set_option maxHeartbeats 4000000 in
set_option maxRecDepth 100000 in
theorem wX0_works_k5 {Γ : gT} {q : Nat → Nat} {r : Nat → Nat → Nat} {F : gF} (hF : gFz (g_E Γ) F) {o0 : Nat → Int32} {A0 : Nat → Nat → Int32} {C0 : Nat → Option Nat} {h0 : Nat} {o1 : Nat → Int32} {A1 : Nat → Nat → Int32} {C1 : Nat → Option Nat} {h1 : Nat} {o2 : Nat → Int32} {A2 : Nat → Nat → Int32} {C2 : Nat → Option Nat} {h2 : Nat} {gs0 : Int32} {gA : Nat → Nat → Int32} {tb0 : Int32} {tA0 bf0 : Nat → Int32} {hi0 : Int32} {b0 : Nat} (hb : chv F b0 = true) (hk0 : ck F b0 = 5) (K : gOK Γ cX0_works gU RX0) (hlt : ∀ i, i < 3 → i < g_n Γ) (hRm : g_R Γ = ({ frames := 5, cells := 0, slots := 0, locals := 171 } : Room)) {res : Int32 × Int32 × ((Nat → Int32))} (hret : ∀ (pc : Nat) (L : List (Nat × Value)) (v : Int32) (w : va_W), decode cX0_works pc = .ok (.ireturn, 1) → narrow .int (.int v) = .int v → (v = res.1 ∧ w = cw (g_E Γ) q r (gpl F) o0 A0 C0 h0 o1 A1 C1 h1 o2 A2 C2 h2 gs0 gA res.2.1 res.2.2 bf0 hi0) → gGO Γ 0 0 pc L [.int v] w) (tb : Int32) (ta : (Nat → Int32)) (x1 : Int32) (h : pX0_works_k5 F b0 tb ta x1 = some res) : gGO Γ 0 0 0 [(0, .ref b0), (1, .int x1), (2, .ref (q 4))] [] (cw (g_E Γ) q r (gpl F) o0 A0 C0 h0 o1 A1 C1 h1 o2 A2 C2 h2 gs0 gA tb ta bf0 hi0) := by
    unfold pX0_works_k5 at h
    refine g_aload_n K dX0_works_0 rfl 2 rfl ?_
    refine g_iconst (v := 1) K dX0_works_1 (by decide) ?_
    obtain ⟨z_1, hz_1, h⟩ := gi_bd h
    refine g_callVv (As := [.int 1]) (bytes := cX8_begin) (maxL := 2) (ret := none) K (ctX8_begin hF o0 A0 C0 h0 o1 A1 C1 h1 o2 A2 C2 h2 gs0 gA tb ta bf0 hi0 1 (res := z_1) hz_1) gc_V_RX0_43_X8_begin rfl qv_X8_begin 5 rfl rfl rfl hRm rfl rfl rfl (by decide) (Nat.le_of_ble_eq_true rfl) (by decide) dX0_works_2 (fun w hw => ?_)
    subst hw
    refine g_ws (ws' := cw (g_E Γ) q r (gpl F) o0 A0 C0 h0 o1 A1 C1 h1 o2 A2 C2 h2 gs0 gA z_1.1 z_1.2 bf0 hi0) rfl ?_
    refine g_iload_n K dX0_works_5 rfl 1 rfl ?_
    refine g_aload_n K dX0_works_6 rfl 0 rfl ?_
    refine g_getF (v := .int (cn F b0)) (T := TX3) (ref := "ChiefGrades$Chief") K hin_X3 (gF_at (j := 5) hF hb hk0 (by decide)) rfl 1 (by decide) u_258 (Or.inl rfl) rfl dX0_works_7 ?_
    refine g_iadd K dX0_works_10 ?_
    obtain rfl := Option.some.inj h
    exact hret _ _ _ _ dX0_works_11 rfl ⟨rfl, rfl⟩

set_option maxRecDepth 100000 in
theorem ctX0_works_k5 {E : gE} {q : Nat → Nat} {r : Nat → Nat → Nat} {F : gF} (hF : gFz E F) {b0 : Nat} (hb : chv F b0 = true) (hk0 : ck F b0 = 5) (o0 : Nat → Int32) (A0 : Nat → Nat → Int32) (C0 : Nat → Option Nat) (h0 : Nat) (o1 : Nat → Int32) (A1 : Nat → Nat → Int32) (C1 : Nat → Option Nat) (h1 : Nat) (o2 : Nat → Int32) (A2 : Nat → Nat → Int32) (C2 : Nat → Option Nat) (h2 : Nat) (gs0 : Int32) (gA : Nat → Nat → Int32) (tb0 : Int32) (tA0 bf0 : Nat → Int32) (hi0 : Int32) (x1 : Int32) {res : Int32 × Int32 × ((Nat → Int32))} (h : pX0_works_k5 F b0 tb0 tA0 x1 = some res) : gMi yX0_works (.code yX0_works cX0_works 3 (some .int) :: gU) ({ frames := 5, cells := 0, slots := 0, locals := 171 } : Room) 0 0 E [.ref b0, .int x1, .ref (q 4)] (cw E q r (gpl F) o0 A0 C0 h0 o1 A1 C1 h1 o2 A2 C2 h2 gs0 gA tb0 tA0 bf0 hi0) (fun v w => v = res.1 ∧ w = cw E q r (gpl F) o0 A0 C0 h0 o1 A1 C1 h1 o2 A2 C2 h2 gs0 gA res.2.1 res.2.2 bf0 hi0) := by
  refine g_met_i (by decide +kernel) (Nat.le_of_ble_eq_true rfl) (fun Γ K hn hE hRm _ hret => ?_)
  subst hE
  have hlt : ∀ i, i < 3 → i < g_n Γ := fun i q => by rw [hn]; exact q
  refine g_ws (ws' := cw (g_E Γ) q r (gpl F) o0 A0 C0 h0 o1 A1 C1 h1 o2 A2 C2 h2 gs0 gA tb0 tA0 bf0 hi0) rfl ?_
  refine g_sub (L' := [(0, .ref b0), (1, .int x1), (2, .ref (q 4))]) [0, 1, 2] rfl ?_
  exact wX0_works_k5 (C0 := C0) (h0 := h0) (C1 := C1) (h1 := h1) (C2 := C2) (h2 := h2) (gs0 := gs0) (tb0 := tb0) (tA0 := tA0) (bf0 := bf0) (hi0 := hi0) hF hb hk0 K hlt hRm hret tb0 tA0 x1 h

set_option maxHeartbeats 4000000 in
set_option maxRecDepth 100000 in
theorem wX3_works_k5 {Γ : gT} {q : Nat → Nat} {r : Nat → Nat → Nat} {F : gF} (hF : gFz (g_E Γ) F) {o0 : Nat → Int32} {A0 : Nat → Nat → Int32} {C0 : Nat → Option Nat} {h0 : Nat} {o1 : Nat → Int32} {A1 : Nat → Nat → Int32} {C1 : Nat → Option Nat} {h1 : Nat} {o2 : Nat → Int32} {A2 : Nat → Nat → Int32} {C2 : Nat → Option Nat} {h2 : Nat} {gs0 : Int32} {gA : Nat → Nat → Int32} {tb0 : Int32} {tA0 bf0 : Nat → Int32} {hi0 : Int32} {b0 : Nat} (hb : chv F b0 = true) (hk0 : ck F b0 = 5) (K : gOK Γ cX3_works gU RX3) (hlt : ∀ i, i < 3 → i < g_n Γ) (hRm : g_R Γ = ({ frames := 6, cells := 0, slots := 0, locals := 193 } : Room)) {res : Int32 × Int32 × ((Nat → Int32))} (hret : ∀ (pc : Nat) (L : List (Nat × Value)) (v : Int32) (w : va_W), decode cX3_works pc = .ok (.ireturn, 1) → narrow .int (.int v) = .int v → (v = res.1 ∧ w = cw (g_E Γ) q r (gpl F) o0 A0 C0 h0 o1 A1 C1 h1 o2 A2 C2 h2 gs0 gA res.2.1 res.2.2 bf0 hi0) → gGO Γ 0 0 pc L [.int v] w) (tb : Int32) (ta : (Nat → Int32)) (x1 : Int32) (h : pX3_works_k5 F b0 tb ta x1 = some res) : gGO Γ 0 0 0 [(0, .ref b0), (1, .int x1), (2, .ref (q 4))] [] (cw (g_E Γ) q r (gpl F) o0 A0 C0 h0 o1 A1 C1 h1 o2 A2 C2 h2 gs0 gA tb ta bf0 hi0) := by
    unfold pX3_works_k5 at h
    refine g_aload_n K dX3_works_0 rfl 2 rfl ?_
    refine g_bipush (v := 51) K dX3_works_1 (by decide) ?_
    obtain ⟨z_1, hz_1, h⟩ := gi_bd h
    refine g_callVv (As := [.int 51]) (bytes := cX8_begin) (maxL := 2) (ret := none) K (ctX8_begin hF o0 A0 C0 h0 o1 A1 C1 h1 o2 A2 C2 h2 gs0 gA tb ta bf0 hi0 51 (res := z_1) hz_1) gc_V_RX3_17_X8_begin rfl qv_X8_begin 5 rfl rfl rfl hRm rfl rfl rfl (by decide) (Nat.le_of_ble_eq_true rfl) (by decide) dX3_works_3 (fun w hw => ?_)
    subst hw
    refine g_ws (ws' := cw (g_E Γ) q r (gpl F) o0 A0 C0 h0 o1 A1 C1 h1 o2 A2 C2 h2 gs0 gA z_1.1 z_1.2 bf0 hi0) rfl ?_
    refine g_aload_n K dX3_works_6 rfl 0 rfl ?_
    refine g_iload_n K dX3_works_7 rfl 1 rfl ?_
    refine g_aload_n K dX3_works_8 rfl 2 rfl ?_
    obtain ⟨z_2, hz_2, h⟩ := gi_bd h
    refine g_callSXiF (n := 2) (x := ⟨"ChiefGrades$Turning", "works", "(ILChiefGrades$Trace;)I"⟩) (As := [.int x1, .ref (q 4)]) (bytes := cX0_works) (maxL := 3) (ret := (some .int)) K (ctX0_works_k5 hF (b0 := b0) hb hk0 o0 A0 C0 h0 o1 A1 C1 h1 o2 A2 C2 h2 gs0 gA z_1.1 z_1.2 bf0 hi0 x1 (res := z_2) hz_2) u_881 u_882 u_578 u_545 u_871 u_73 (gu_c u_893) rfl rfl qsu_X0_works (gF_at (j := 5) hF hb hk0 (by decide)) rfl rfl hRm rfl rfl rfl (by decide) (Nat.le_of_ble_eq_true rfl) (by decide) dX3_works_9 (fun v w hw => ?_)
    obtain ⟨hv9, rfl⟩ := hw; have hv9 := hv9.symm; subst hv9
    refine g_ws (ws' := cw (g_E Γ) q r (gpl F) o0 A0 C0 h0 o1 A1 C1 h1 o2 A2 C2 h2 gs0 gA z_2.2.1 z_2.2.2 bf0 hi0) rfl ?_
    refine g_aload_n K dX3_works_12 rfl 0 rfl ?_
    refine g_getF (v := .int (cn F b0)) (T := TX3) (ref := "ChiefGrades$Keeping") K hin_X3 (gF_at (j := 5) hF hb hk0 (by decide)) rfl 1 (by decide) u_260 (Or.inr u_261) rfl dX3_works_13 ?_
    refine g_ixor K dX3_works_16 ?_
    obtain rfl := Option.some.inj h
    exact hret _ _ _ _ dX3_works_17 rfl ⟨rfl, rfl⟩

set_option maxRecDepth 100000 in
theorem ctX3_works_k5 {E : gE} {q : Nat → Nat} {r : Nat → Nat → Nat} {F : gF} (hF : gFz E F) {b0 : Nat} (hb : chv F b0 = true) (hk0 : ck F b0 = 5) (o0 : Nat → Int32) (A0 : Nat → Nat → Int32) (C0 : Nat → Option Nat) (h0 : Nat) (o1 : Nat → Int32) (A1 : Nat → Nat → Int32) (C1 : Nat → Option Nat) (h1 : Nat) (o2 : Nat → Int32) (A2 : Nat → Nat → Int32) (C2 : Nat → Option Nat) (h2 : Nat) (gs0 : Int32) (gA : Nat → Nat → Int32) (tb0 : Int32) (tA0 bf0 : Nat → Int32) (hi0 : Int32) (x1 : Int32) {res : Int32 × Int32 × ((Nat → Int32))} (h : pX3_works_k5 F b0 tb0 tA0 x1 = some res) : gMi yX3_works (.code yX3_works cX3_works 3 (some .int) :: gU) ({ frames := 6, cells := 0, slots := 0, locals := 193 } : Room) 0 0 E [.ref b0, .int x1, .ref (q 4)] (cw E q r (gpl F) o0 A0 C0 h0 o1 A1 C1 h1 o2 A2 C2 h2 gs0 gA tb0 tA0 bf0 hi0) (fun v w => v = res.1 ∧ w = cw E q r (gpl F) o0 A0 C0 h0 o1 A1 C1 h1 o2 A2 C2 h2 gs0 gA res.2.1 res.2.2 bf0 hi0) := by
  refine g_met_i (by decide +kernel) (Nat.le_of_ble_eq_true rfl) (fun Γ K hn hE hRm _ hret => ?_)
  subst hE
  have hlt : ∀ i, i < 3 → i < g_n Γ := fun i q => by rw [hn]; exact q
  refine g_ws (ws' := cw (g_E Γ) q r (gpl F) o0 A0 C0 h0 o1 A1 C1 h1 o2 A2 C2 h2 gs0 gA tb0 tA0 bf0 hi0) rfl ?_
  refine g_sub (L' := [(0, .ref b0), (1, .int x1), (2, .ref (q 4))]) [0, 1, 2] rfl ?_
  exact wX3_works_k5 (C0 := C0) (h0 := h0) (C1 := C1) (h1 := h1) (C2 := C2) (h2 := h2) (gs0 := gs0) (tb0 := tb0) (tA0 := tA0) (bf0 := bf0) (hi0 := hi0) hF hb hk0 K hlt hRm hret tb0 tA0 x1 h

set_option maxHeartbeats 4000000 in
set_option maxRecDepth 100000 in
theorem wX0_grades_k5 {Γ : gT} {q : Nat → Nat} {r : Nat → Nat → Nat} {F : gF} (hF : gFz (g_E Γ) F) {o0 : Nat → Int32} {A0 : Nat → Nat → Int32} {C0 : Nat → Option Nat} {h0 : Nat} {o1 : Nat → Int32} {A1 : Nat → Nat → Int32} {C1 : Nat → Option Nat} {h1 : Nat} {o2 : Nat → Int32} {A2 : Nat → Nat → Int32} {C2 : Nat → Option Nat} {h2 : Nat} {gs0 : Int32} {gA : Nat → Nat → Int32} {tb0 : Int32} {tA0 bf0 : Nat → Int32} {hi0 : Int32} {b0 : Nat} (hb : chv F b0 = true) (hk0 : ck F b0 = 5) (K : gOK Γ cX0_grades gU RX0) (hlt : ∀ i, i < 3 → i < g_n Γ) (hRm : g_R Γ = ({ frames := 7, cells := 0, slots := 0, locals := 215 } : Room)) {res : Int32 × Int32 × ((Nat → Int32))} (hret : ∀ (pc : Nat) (L : List (Nat × Value)) (v : Int32) (w : va_W), decode cX0_grades pc = .ok (.ireturn, 1) → narrow .int (.int v) = .int v → (v = res.1 ∧ w = cw (g_E Γ) q r (gpl F) o0 A0 C0 h0 o1 A1 C1 h1 o2 A2 C2 h2 gs0 gA res.2.1 res.2.2 bf0 hi0) → gGO Γ 0 0 pc L [.int v] w) (tb : Int32) (ta : (Nat → Int32)) (x1 : Int32) (h : pX0_grades_k5 F b0 tb ta x1 = some res) : gGO Γ 0 0 0 [(0, .ref b0), (1, .int x1), (2, .ref (q 4))] [] (cw (g_E Γ) q r (gpl F) o0 A0 C0 h0 o1 A1 C1 h1 o2 A2 C2 h2 gs0 gA tb ta bf0 hi0) := by
    unfold pX0_grades_k5 at h
    refine g_aload_n K dX0_grades_0 rfl 2 rfl ?_
    refine g_iconst (v := 2) K dX0_grades_1 (by decide) ?_
    obtain ⟨z_1, hz_1, h⟩ := gi_bd h
    refine g_callVv (As := [.int 2]) (bytes := cX8_begin) (maxL := 2) (ret := none) K (ctX8_begin hF o0 A0 C0 h0 o1 A1 C1 h1 o2 A2 C2 h2 gs0 gA tb ta bf0 hi0 2 (res := z_1) hz_1) gc_V_RX0_43_X8_begin rfl qv_X8_begin 5 rfl rfl rfl hRm rfl rfl rfl (by decide) (Nat.le_of_ble_eq_true rfl) (by decide) dX0_grades_2 (fun w hw => ?_)
    subst hw
    refine g_ws (ws' := cw (g_E Γ) q r (gpl F) o0 A0 C0 h0 o1 A1 C1 h1 o2 A2 C2 h2 gs0 gA z_1.1 z_1.2 bf0 hi0) rfl ?_
    refine g_aload_n K dX0_grades_5 rfl 0 rfl ?_
    refine g_iload_n K dX0_grades_6 rfl 1 rfl ?_
    refine g_aload_n K dX0_grades_7 rfl 2 rfl ?_
    obtain ⟨z_2, hz_2, h⟩ := gi_bd h
    refine g_callOiF (n := 2) (owner := "ChiefGrades$Chief") (x := ⟨"ChiefGrades$Chief", "works", "(ILChiefGrades$Trace;)I"⟩) (As := [.int x1, .ref (q 4)]) (bytes := cX3_works) (maxL := 3) (ret := (some .int)) K (ctX3_works_k5 hF (b0 := b0) hb hk0 o0 A0 C0 h0 o1 A1 C1 h1 o2 A2 C2 h2 gs0 gA z_1.1 z_1.2 bf0 hi0 x1 (res := z_2) hz_2) gc_OX3_RX0_49_X3_works rfl u_893 (by decide +kernel) (gF_at (j := 5) hF hb hk0 (by decide)) rfl rfl hRm rfl rfl rfl (by decide) (Nat.le_of_ble_eq_true rfl) (by decide) dX0_grades_8 (fun v w hw => ?_)
    obtain ⟨hv9, rfl⟩ := hw; have hv9 := hv9.symm; subst hv9
    refine g_ws (ws' := cw (g_E Γ) q r (gpl F) o0 A0 C0 h0 o1 A1 C1 h1 o2 A2 C2 h2 gs0 gA z_2.2.1 z_2.2.2 bf0 hi0) rfl ?_
    refine g_aload_n K dX0_grades_11 rfl 0 rfl ?_
    refine g_getF (v := .int (cv F b0)) (T := TX3) (ref := "ChiefGrades$Chief") K hin_X3 (gF_at (j := 5) hF hb hk0 (by decide)) rfl 2 (by decide) u_263 (Or.inl rfl) rfl dX0_grades_12 ?_
    refine g_isub K dX0_grades_15 ?_
    obtain rfl := Option.some.inj h
    exact hret _ _ _ _ dX0_grades_16 rfl ⟨rfl, rfl⟩

set_option maxRecDepth 100000 in
theorem ctX0_grades_k5 {E : gE} {q : Nat → Nat} {r : Nat → Nat → Nat} {F : gF} (hF : gFz E F) {b0 : Nat} (hb : chv F b0 = true) (hk0 : ck F b0 = 5) (o0 : Nat → Int32) (A0 : Nat → Nat → Int32) (C0 : Nat → Option Nat) (h0 : Nat) (o1 : Nat → Int32) (A1 : Nat → Nat → Int32) (C1 : Nat → Option Nat) (h1 : Nat) (o2 : Nat → Int32) (A2 : Nat → Nat → Int32) (C2 : Nat → Option Nat) (h2 : Nat) (gs0 : Int32) (gA : Nat → Nat → Int32) (tb0 : Int32) (tA0 bf0 : Nat → Int32) (hi0 : Int32) (x1 : Int32) {res : Int32 × Int32 × ((Nat → Int32))} (h : pX0_grades_k5 F b0 tb0 tA0 x1 = some res) : gMi yX0_grades (.code yX0_grades cX0_grades 3 (some .int) :: gU) ({ frames := 7, cells := 0, slots := 0, locals := 215 } : Room) 0 0 E [.ref b0, .int x1, .ref (q 4)] (cw E q r (gpl F) o0 A0 C0 h0 o1 A1 C1 h1 o2 A2 C2 h2 gs0 gA tb0 tA0 bf0 hi0) (fun v w => v = res.1 ∧ w = cw E q r (gpl F) o0 A0 C0 h0 o1 A1 C1 h1 o2 A2 C2 h2 gs0 gA res.2.1 res.2.2 bf0 hi0) := by
  refine g_met_i (by decide +kernel) (Nat.le_of_ble_eq_true rfl) (fun Γ K hn hE hRm _ hret => ?_)
  subst hE
  have hlt : ∀ i, i < 3 → i < g_n Γ := fun i q => by rw [hn]; exact q
  refine g_ws (ws' := cw (g_E Γ) q r (gpl F) o0 A0 C0 h0 o1 A1 C1 h1 o2 A2 C2 h2 gs0 gA tb0 tA0 bf0 hi0) rfl ?_
  refine g_sub (L' := [(0, .ref b0), (1, .int x1), (2, .ref (q 4))]) [0, 1, 2] rfl ?_
  exact wX0_grades_k5 (C0 := C0) (h0 := h0) (C1 := C1) (h1 := h1) (C2 := C2) (h2 := h2) (gs0 := gs0) (tb0 := tb0) (tA0 := tA0) (bf0 := bf0) (hi0 := hi0) hF hb hk0 K hlt hRm hret tb0 tA0 x1 h

set_option maxHeartbeats 4000000 in
set_option maxRecDepth 100000 in
theorem wX9_grades_k5 {Γ : gT} {q : Nat → Nat} {r : Nat → Nat → Nat} {F : gF} (hF : gFz (g_E Γ) F) {o0 : Nat → Int32} {A0 : Nat → Nat → Int32} {C0 : Nat → Option Nat} {h0 : Nat} {o1 : Nat → Int32} {A1 : Nat → Nat → Int32} {C1 : Nat → Option Nat} {h1 : Nat} {o2 : Nat → Int32} {A2 : Nat → Nat → Int32} {C2 : Nat → Option Nat} {h2 : Nat} {gs0 : Int32} {gA : Nat → Nat → Int32} {tb0 : Int32} {tA0 bf0 : Nat → Int32} {hi0 : Int32} {b0 : Nat} (hb : chv F b0 = true) (hk0 : ck F b0 = 5) (K : gOK Γ cX9_grades gU RX9) (hlt : ∀ i, i < 3 → i < g_n Γ) (hRm : g_R Γ = ({ frames := 8, cells := 0, slots := 0, locals := 237 } : Room)) {res : Int32 × Int32 × ((Nat → Int32))} (hret : ∀ (pc : Nat) (L : List (Nat × Value)) (v : Int32) (w : va_W), decode cX9_grades pc = .ok (.ireturn, 1) → narrow .int (.int v) = .int v → (v = res.1 ∧ w = cw (g_E Γ) q r (gpl F) o0 A0 C0 h0 o1 A1 C1 h1 o2 A2 C2 h2 gs0 gA res.2.1 res.2.2 bf0 hi0) → gGO Γ 0 0 pc L [.int v] w) (tb : Int32) (ta : (Nat → Int32)) (x1 : Int32) (h : pX9_grades_k5 F b0 tb ta x1 = some res) : gGO Γ 0 0 0 [(0, .ref b0), (1, .int x1), (2, .ref (q 4))] [] (cw (g_E Γ) q r (gpl F) o0 A0 C0 h0 o1 A1 C1 h1 o2 A2 C2 h2 gs0 gA tb ta bf0 hi0) := by
    unfold pX9_grades_k5 at h
    refine g_aload_n K dX9_grades_0 rfl 2 rfl ?_
    refine g_bipush (v := 21) K dX9_grades_1 (by decide) ?_
    obtain ⟨z_1, hz_1, h⟩ := gi_bd h
    refine g_callVv (As := [.int 21]) (bytes := cX8_begin) (maxL := 2) (ret := none) K (ctX8_begin hF o0 A0 C0 h0 o1 A1 C1 h1 o2 A2 C2 h2 gs0 gA tb ta bf0 hi0 21 (res := z_1) hz_1) gc_V_RX9_7_X8_begin rfl qv_X8_begin 5 rfl rfl rfl hRm rfl rfl rfl (by decide) (Nat.le_of_ble_eq_true rfl) (by decide) dX9_grades_3 (fun w hw => ?_)
    subst hw
    refine g_ws (ws' := cw (g_E Γ) q r (gpl F) o0 A0 C0 h0 o1 A1 C1 h1 o2 A2 C2 h2 gs0 gA z_1.1 z_1.2 bf0 hi0) rfl ?_
    refine g_aload_n K dX9_grades_6 rfl 0 rfl ?_
    refine g_iload_n K dX9_grades_7 rfl 1 rfl ?_
    refine g_aload_n K dX9_grades_8 rfl 2 rfl ?_
    obtain ⟨z_2, hz_2, h⟩ := gi_bd h
    refine g_callSUiF (As := [.int x1, .ref (q 4)]) (bytes := cX0_grades) (maxL := 3) (ret := (some .int)) K (ctX0_grades_k5 hF (b0 := b0) hb hk0 o0 A0 C0 h0 o1 A1 C1 h1 o2 A2 C2 h2 gs0 gA z_1.1 z_1.2 bf0 hi0 x1 (res := z_2) hz_2) gc_SU_RX9_13_X0_grades rfl qsu_X0_grades (gF_at (j := 5) hF hb hk0 (by decide)) rfl rfl hRm rfl rfl rfl (by decide) (Nat.le_of_ble_eq_true rfl) (by decide) dX9_grades_9 (fun v w hw => ?_)
    obtain ⟨hv9, rfl⟩ := hw; have hv9 := hv9.symm; subst hv9
    refine g_ws (ws' := cw (g_E Γ) q r (gpl F) o0 A0 C0 h0 o1 A1 C1 h1 o2 A2 C2 h2 gs0 gA z_2.2.1 z_2.2.2 bf0 hi0) rfl ?_
    refine g_ineg K dX9_grades_12 ?_
    obtain rfl := Option.some.inj h
    exact hret _ _ _ _ dX9_grades_13 rfl ⟨rfl, rfl⟩

set_option maxRecDepth 100000 in
theorem ctX9_grades_k5 {E : gE} {q : Nat → Nat} {r : Nat → Nat → Nat} {F : gF} (hF : gFz E F) {b0 : Nat} (hb : chv F b0 = true) (hk0 : ck F b0 = 5) (o0 : Nat → Int32) (A0 : Nat → Nat → Int32) (C0 : Nat → Option Nat) (h0 : Nat) (o1 : Nat → Int32) (A1 : Nat → Nat → Int32) (C1 : Nat → Option Nat) (h1 : Nat) (o2 : Nat → Int32) (A2 : Nat → Nat → Int32) (C2 : Nat → Option Nat) (h2 : Nat) (gs0 : Int32) (gA : Nat → Nat → Int32) (tb0 : Int32) (tA0 bf0 : Nat → Int32) (hi0 : Int32) (x1 : Int32) {res : Int32 × Int32 × ((Nat → Int32))} (h : pX9_grades_k5 F b0 tb0 tA0 x1 = some res) : gMi yX9_grades (.code yX9_grades cX9_grades 3 (some .int) :: gU) ({ frames := 8, cells := 0, slots := 0, locals := 237 } : Room) 0 0 E [.ref b0, .int x1, .ref (q 4)] (cw E q r (gpl F) o0 A0 C0 h0 o1 A1 C1 h1 o2 A2 C2 h2 gs0 gA tb0 tA0 bf0 hi0) (fun v w => v = res.1 ∧ w = cw E q r (gpl F) o0 A0 C0 h0 o1 A1 C1 h1 o2 A2 C2 h2 gs0 gA res.2.1 res.2.2 bf0 hi0) := by
  refine g_met_i (by decide +kernel) (Nat.le_of_ble_eq_true rfl) (fun Γ K hn hE hRm _ hret => ?_)
  subst hE
  have hlt : ∀ i, i < 3 → i < g_n Γ := fun i q => by rw [hn]; exact q
  refine g_ws (ws' := cw (g_E Γ) q r (gpl F) o0 A0 C0 h0 o1 A1 C1 h1 o2 A2 C2 h2 gs0 gA tb0 tA0 bf0 hi0) rfl ?_
  refine g_sub (L' := [(0, .ref b0), (1, .int x1), (2, .ref (q 4))]) [0, 1, 2] rfl ?_
  exact wX9_grades_k5 (C0 := C0) (h0 := h0) (C1 := C1) (h1 := h1) (C2 := C2) (h2 := h2) (gs0 := gs0) (tb0 := tb0) (tA0 := tA0) (bf0 := bf0) (hi0 := hi0) hF hb hk0 K hlt hRm hret tb0 tA0 x1 h

set_option maxHeartbeats 4000000 in
set_option maxRecDepth 100000 in
theorem wX0_levels_k5 {Γ : gT} {q : Nat → Nat} {r : Nat → Nat → Nat} {F : gF} (hF : gFz (g_E Γ) F) {o0 : Nat → Int32} {A0 : Nat → Nat → Int32} {C0 : Nat → Option Nat} {h0 : Nat} {o1 : Nat → Int32} {A1 : Nat → Nat → Int32} {C1 : Nat → Option Nat} {h1 : Nat} {o2 : Nat → Int32} {A2 : Nat → Nat → Int32} {C2 : Nat → Option Nat} {h2 : Nat} {gs0 : Int32} {gA : Nat → Nat → Int32} {tb0 : Int32} {tA0 bf0 : Nat → Int32} {hi0 : Int32} {b0 : Nat} (hb : chv F b0 = true) (hk0 : ck F b0 = 5) (K : gOK Γ cX0_levels gU RX0) (hlt : ∀ i, i < 3 → i < g_n Γ) (hRm : g_R Γ = ({ frames := 9, cells := 0, slots := 0, locals := 259 } : Room)) {res : Int32 × Int32 × ((Nat → Int32))} (hret : ∀ (pc : Nat) (L : List (Nat × Value)) (v : Int32) (w : va_W), decode cX0_levels pc = .ok (.ireturn, 1) → narrow .int (.int v) = .int v → (v = res.1 ∧ w = cw (g_E Γ) q r (gpl F) o0 A0 C0 h0 o1 A1 C1 h1 o2 A2 C2 h2 gs0 gA res.2.1 res.2.2 bf0 hi0) → gGO Γ 0 0 pc L [.int v] w) (tb : Int32) (ta : (Nat → Int32)) (x1 : Int32) (h : pX0_levels_k5 F b0 tb ta x1 = some res) : gGO Γ 0 0 0 [(0, .ref b0), (1, .int x1), (2, .ref (q 4))] [] (cw (g_E Γ) q r (gpl F) o0 A0 C0 h0 o1 A1 C1 h1 o2 A2 C2 h2 gs0 gA tb ta bf0 hi0) := by
    unfold pX0_levels_k5 at h
    refine g_aload_n K dX0_levels_0 rfl 2 rfl ?_
    refine g_iconst (v := 3) K dX0_levels_1 (by decide) ?_
    obtain ⟨z_1, hz_1, h⟩ := gi_bd h
    refine g_callVv (As := [.int 3]) (bytes := cX8_begin) (maxL := 2) (ret := none) K (ctX8_begin hF o0 A0 C0 h0 o1 A1 C1 h1 o2 A2 C2 h2 gs0 gA tb ta bf0 hi0 3 (res := z_1) hz_1) gc_V_RX0_43_X8_begin rfl qv_X8_begin 5 rfl rfl rfl hRm rfl rfl rfl (by decide) (Nat.le_of_ble_eq_true rfl) (by decide) dX0_levels_2 (fun w hw => ?_)
    subst hw
    refine g_ws (ws' := cw (g_E Γ) q r (gpl F) o0 A0 C0 h0 o1 A1 C1 h1 o2 A2 C2 h2 gs0 gA z_1.1 z_1.2 bf0 hi0) rfl ?_
    refine g_aload_n K dX0_levels_5 rfl 0 rfl ?_
    refine g_iload_n K dX0_levels_6 rfl 1 rfl ?_
    refine g_aload_n K dX0_levels_7 rfl 2 rfl ?_
    obtain ⟨z_2, hz_2, h⟩ := gi_bd h
    refine g_callOiF (n := 2) (owner := "ChiefGrades$Chief") (x := ⟨"ChiefGrades$Chief", "grades", "(ILChiefGrades$Trace;)I"⟩) (As := [.int x1, .ref (q 4)]) (bytes := cX9_grades) (maxL := 3) (ret := (some .int)) K (ctX9_grades_k5 hF (b0 := b0) hb hk0 o0 A0 C0 h0 o1 A1 C1 h1 o2 A2 C2 h2 gs0 gA z_1.1 z_1.2 bf0 hi0 x1 (res := z_2) hz_2) gc_OX3_RX0_53_X9_grades rfl u_915 (by decide +kernel) (gF_at (j := 5) hF hb hk0 (by decide)) rfl rfl hRm rfl rfl rfl (by decide) (Nat.le_of_ble_eq_true rfl) (by decide) dX0_levels_8 (fun v w hw => ?_)
    obtain ⟨hv9, rfl⟩ := hw; have hv9 := hv9.symm; subst hv9
    refine g_ws (ws' := cw (g_E Γ) q r (gpl F) o0 A0 C0 h0 o1 A1 C1 h1 o2 A2 C2 h2 gs0 gA z_2.2.1 z_2.2.2 bf0 hi0) rfl ?_
    refine g_iconst (v := 2) K dX0_levels_11 (by decide) ?_
    refine g_imul K dX0_levels_12 ?_
    obtain rfl := Option.some.inj h
    exact hret _ _ _ _ dX0_levels_13 rfl ⟨rfl, rfl⟩

set_option maxRecDepth 100000 in
theorem ctX0_levels_k5 {E : gE} {q : Nat → Nat} {r : Nat → Nat → Nat} {F : gF} (hF : gFz E F) {b0 : Nat} (hb : chv F b0 = true) (hk0 : ck F b0 = 5) (o0 : Nat → Int32) (A0 : Nat → Nat → Int32) (C0 : Nat → Option Nat) (h0 : Nat) (o1 : Nat → Int32) (A1 : Nat → Nat → Int32) (C1 : Nat → Option Nat) (h1 : Nat) (o2 : Nat → Int32) (A2 : Nat → Nat → Int32) (C2 : Nat → Option Nat) (h2 : Nat) (gs0 : Int32) (gA : Nat → Nat → Int32) (tb0 : Int32) (tA0 bf0 : Nat → Int32) (hi0 : Int32) (x1 : Int32) {res : Int32 × Int32 × ((Nat → Int32))} (h : pX0_levels_k5 F b0 tb0 tA0 x1 = some res) : gMi yX0_levels (.code yX0_levels cX0_levels 3 (some .int) :: gU) ({ frames := 9, cells := 0, slots := 0, locals := 259 } : Room) 0 0 E [.ref b0, .int x1, .ref (q 4)] (cw E q r (gpl F) o0 A0 C0 h0 o1 A1 C1 h1 o2 A2 C2 h2 gs0 gA tb0 tA0 bf0 hi0) (fun v w => v = res.1 ∧ w = cw E q r (gpl F) o0 A0 C0 h0 o1 A1 C1 h1 o2 A2 C2 h2 gs0 gA res.2.1 res.2.2 bf0 hi0) := by
  refine g_met_i (by decide +kernel) (Nat.le_of_ble_eq_true rfl) (fun Γ K hn hE hRm _ hret => ?_)
  subst hE
  have hlt : ∀ i, i < 3 → i < g_n Γ := fun i q => by rw [hn]; exact q
  refine g_ws (ws' := cw (g_E Γ) q r (gpl F) o0 A0 C0 h0 o1 A1 C1 h1 o2 A2 C2 h2 gs0 gA tb0 tA0 bf0 hi0) rfl ?_
  refine g_sub (L' := [(0, .ref b0), (1, .int x1), (2, .ref (q 4))]) [0, 1, 2] rfl ?_
  exact wX0_levels_k5 (C0 := C0) (h0 := h0) (C1 := C1) (h1 := h1) (C2 := C2) (h2 := h2) (gs0 := gs0) (tb0 := tb0) (tA0 := tA0) (bf0 := bf0) (hi0 := hi0) hF hb hk0 K hlt hRm hret tb0 tA0 x1 h

set_option maxHeartbeats 4000000 in
set_option maxRecDepth 100000 in
theorem wX0_works_k6 {Γ : gT} {q : Nat → Nat} {r : Nat → Nat → Nat} {F : gF} (hF : gFz (g_E Γ) F) {o0 : Nat → Int32} {A0 : Nat → Nat → Int32} {C0 : Nat → Option Nat} {h0 : Nat} {o1 : Nat → Int32} {A1 : Nat → Nat → Int32} {C1 : Nat → Option Nat} {h1 : Nat} {o2 : Nat → Int32} {A2 : Nat → Nat → Int32} {C2 : Nat → Option Nat} {h2 : Nat} {gs0 : Int32} {gA : Nat → Nat → Int32} {tb0 : Int32} {tA0 bf0 : Nat → Int32} {hi0 : Int32} {b0 : Nat} (hb : chv F b0 = true) (hk0 : ck F b0 = 6) (K : gOK Γ cX0_works gU RX0) (hlt : ∀ i, i < 3 → i < g_n Γ) (hRm : g_R Γ = ({ frames := 5, cells := 0, slots := 0, locals := 171 } : Room)) {res : Int32 × Int32 × ((Nat → Int32))} (hret : ∀ (pc : Nat) (L : List (Nat × Value)) (v : Int32) (w : va_W), decode cX0_works pc = .ok (.ireturn, 1) → narrow .int (.int v) = .int v → (v = res.1 ∧ w = cw (g_E Γ) q r (gpl F) o0 A0 C0 h0 o1 A1 C1 h1 o2 A2 C2 h2 gs0 gA res.2.1 res.2.2 bf0 hi0) → gGO Γ 0 0 pc L [.int v] w) (tb : Int32) (ta : (Nat → Int32)) (x1 : Int32) (h : pX0_works_k6 F b0 tb ta x1 = some res) : gGO Γ 0 0 0 [(0, .ref b0), (1, .int x1), (2, .ref (q 4))] [] (cw (g_E Γ) q r (gpl F) o0 A0 C0 h0 o1 A1 C1 h1 o2 A2 C2 h2 gs0 gA tb ta bf0 hi0) := by
    unfold pX0_works_k6 at h
    refine g_aload_n K dX0_works_0 rfl 2 rfl ?_
    refine g_iconst (v := 1) K dX0_works_1 (by decide) ?_
    obtain ⟨z_1, hz_1, h⟩ := gi_bd h
    refine g_callVv (As := [.int 1]) (bytes := cX8_begin) (maxL := 2) (ret := none) K (ctX8_begin hF o0 A0 C0 h0 o1 A1 C1 h1 o2 A2 C2 h2 gs0 gA tb ta bf0 hi0 1 (res := z_1) hz_1) gc_V_RX0_43_X8_begin rfl qv_X8_begin 5 rfl rfl rfl hRm rfl rfl rfl (by decide) (Nat.le_of_ble_eq_true rfl) (by decide) dX0_works_2 (fun w hw => ?_)
    subst hw
    refine g_ws (ws' := cw (g_E Γ) q r (gpl F) o0 A0 C0 h0 o1 A1 C1 h1 o2 A2 C2 h2 gs0 gA z_1.1 z_1.2 bf0 hi0) rfl ?_
    refine g_iload_n K dX0_works_5 rfl 1 rfl ?_
    refine g_aload_n K dX0_works_6 rfl 0 rfl ?_
    refine g_getF (v := .int (cn F b0)) (T := TX7) (ref := "ChiefGrades$Chief") K hin_X7 (gF_at (j := 6) hF hb hk0 (by decide)) rfl 1 (by decide) u_258 (Or.inl rfl) rfl dX0_works_7 ?_
    refine g_iadd K dX0_works_10 ?_
    obtain rfl := Option.some.inj h
    exact hret _ _ _ _ dX0_works_11 rfl ⟨rfl, rfl⟩

set_option maxRecDepth 100000 in
theorem ctX0_works_k6 {E : gE} {q : Nat → Nat} {r : Nat → Nat → Nat} {F : gF} (hF : gFz E F) {b0 : Nat} (hb : chv F b0 = true) (hk0 : ck F b0 = 6) (o0 : Nat → Int32) (A0 : Nat → Nat → Int32) (C0 : Nat → Option Nat) (h0 : Nat) (o1 : Nat → Int32) (A1 : Nat → Nat → Int32) (C1 : Nat → Option Nat) (h1 : Nat) (o2 : Nat → Int32) (A2 : Nat → Nat → Int32) (C2 : Nat → Option Nat) (h2 : Nat) (gs0 : Int32) (gA : Nat → Nat → Int32) (tb0 : Int32) (tA0 bf0 : Nat → Int32) (hi0 : Int32) (x1 : Int32) {res : Int32 × Int32 × ((Nat → Int32))} (h : pX0_works_k6 F b0 tb0 tA0 x1 = some res) : gMi yX0_works (.code yX0_works cX0_works 3 (some .int) :: gU) ({ frames := 5, cells := 0, slots := 0, locals := 171 } : Room) 0 0 E [.ref b0, .int x1, .ref (q 4)] (cw E q r (gpl F) o0 A0 C0 h0 o1 A1 C1 h1 o2 A2 C2 h2 gs0 gA tb0 tA0 bf0 hi0) (fun v w => v = res.1 ∧ w = cw E q r (gpl F) o0 A0 C0 h0 o1 A1 C1 h1 o2 A2 C2 h2 gs0 gA res.2.1 res.2.2 bf0 hi0) := by
  refine g_met_i (by decide +kernel) (Nat.le_of_ble_eq_true rfl) (fun Γ K hn hE hRm _ hret => ?_)
  subst hE
  have hlt : ∀ i, i < 3 → i < g_n Γ := fun i q => by rw [hn]; exact q
  refine g_ws (ws' := cw (g_E Γ) q r (gpl F) o0 A0 C0 h0 o1 A1 C1 h1 o2 A2 C2 h2 gs0 gA tb0 tA0 bf0 hi0) rfl ?_
  refine g_sub (L' := [(0, .ref b0), (1, .int x1), (2, .ref (q 4))]) [0, 1, 2] rfl ?_
  exact wX0_works_k6 (C0 := C0) (h0 := h0) (C1 := C1) (h1 := h1) (C2 := C2) (h2 := h2) (gs0 := gs0) (tb0 := tb0) (tA0 := tA0) (bf0 := bf0) (hi0 := hi0) hF hb hk0 K hlt hRm hret tb0 tA0 x1 h

set_option maxHeartbeats 4000000 in
set_option maxRecDepth 100000 in
theorem wX0_grades_k6 {Γ : gT} {q : Nat → Nat} {r : Nat → Nat → Nat} {F : gF} (hF : gFz (g_E Γ) F) {o0 : Nat → Int32} {A0 : Nat → Nat → Int32} {C0 : Nat → Option Nat} {h0 : Nat} {o1 : Nat → Int32} {A1 : Nat → Nat → Int32} {C1 : Nat → Option Nat} {h1 : Nat} {o2 : Nat → Int32} {A2 : Nat → Nat → Int32} {C2 : Nat → Option Nat} {h2 : Nat} {gs0 : Int32} {gA : Nat → Nat → Int32} {tb0 : Int32} {tA0 bf0 : Nat → Int32} {hi0 : Int32} {b0 : Nat} (hb : chv F b0 = true) (hk0 : ck F b0 = 6) (K : gOK Γ cX0_grades gU RX0) (hlt : ∀ i, i < 3 → i < g_n Γ) (hRm : g_R Γ = ({ frames := 6, cells := 0, slots := 0, locals := 193 } : Room)) {res : Int32 × Int32 × ((Nat → Int32))} (hret : ∀ (pc : Nat) (L : List (Nat × Value)) (v : Int32) (w : va_W), decode cX0_grades pc = .ok (.ireturn, 1) → narrow .int (.int v) = .int v → (v = res.1 ∧ w = cw (g_E Γ) q r (gpl F) o0 A0 C0 h0 o1 A1 C1 h1 o2 A2 C2 h2 gs0 gA res.2.1 res.2.2 bf0 hi0) → gGO Γ 0 0 pc L [.int v] w) (tb : Int32) (ta : (Nat → Int32)) (x1 : Int32) (h : pX0_grades_k6 F b0 tb ta x1 = some res) : gGO Γ 0 0 0 [(0, .ref b0), (1, .int x1), (2, .ref (q 4))] [] (cw (g_E Γ) q r (gpl F) o0 A0 C0 h0 o1 A1 C1 h1 o2 A2 C2 h2 gs0 gA tb ta bf0 hi0) := by
    unfold pX0_grades_k6 at h
    refine g_aload_n K dX0_grades_0 rfl 2 rfl ?_
    refine g_iconst (v := 2) K dX0_grades_1 (by decide) ?_
    obtain ⟨z_1, hz_1, h⟩ := gi_bd h
    refine g_callVv (As := [.int 2]) (bytes := cX8_begin) (maxL := 2) (ret := none) K (ctX8_begin hF o0 A0 C0 h0 o1 A1 C1 h1 o2 A2 C2 h2 gs0 gA tb ta bf0 hi0 2 (res := z_1) hz_1) gc_V_RX0_43_X8_begin rfl qv_X8_begin 5 rfl rfl rfl hRm rfl rfl rfl (by decide) (Nat.le_of_ble_eq_true rfl) (by decide) dX0_grades_2 (fun w hw => ?_)
    subst hw
    refine g_ws (ws' := cw (g_E Γ) q r (gpl F) o0 A0 C0 h0 o1 A1 C1 h1 o2 A2 C2 h2 gs0 gA z_1.1 z_1.2 bf0 hi0) rfl ?_
    refine g_aload_n K dX0_grades_5 rfl 0 rfl ?_
    refine g_iload_n K dX0_grades_6 rfl 1 rfl ?_
    refine g_aload_n K dX0_grades_7 rfl 2 rfl ?_
    obtain ⟨z_2, hz_2, h⟩ := gi_bd h
    refine g_callUiF (n := 2) (owner := "ChiefGrades$Chief") (x := ⟨"ChiefGrades$Chief", "works", "(ILChiefGrades$Trace;)I"⟩) (As := [.int x1, .ref (q 4)]) (bytes := cX0_works) (maxL := 3) (ret := (some .int)) K (ctX0_works_k6 hF (b0 := b0) hb hk0 o0 A0 C0 h0 o1 A1 C1 h1 o2 A2 C2 h2 gs0 gA z_1.1 z_1.2 bf0 hi0 x1 (res := z_2) hz_2) gc_UX7_RX0_49_X0_works rfl rfl (by decide +kernel) (gF_at (j := 6) hF hb hk0 (by decide)) rfl rfl hRm rfl rfl rfl (by decide) (Nat.le_of_ble_eq_true rfl) (by decide) dX0_grades_8 (fun v w hw => ?_)
    obtain ⟨hv9, rfl⟩ := hw; have hv9 := hv9.symm; subst hv9
    refine g_ws (ws' := cw (g_E Γ) q r (gpl F) o0 A0 C0 h0 o1 A1 C1 h1 o2 A2 C2 h2 gs0 gA z_2.2.1 z_2.2.2 bf0 hi0) rfl ?_
    refine g_aload_n K dX0_grades_11 rfl 0 rfl ?_
    refine g_getF (v := .int (cv F b0)) (T := TX7) (ref := "ChiefGrades$Chief") K hin_X7 (gF_at (j := 6) hF hb hk0 (by decide)) rfl 2 (by decide) u_263 (Or.inl rfl) rfl dX0_grades_12 ?_
    refine g_isub K dX0_grades_15 ?_
    obtain rfl := Option.some.inj h
    exact hret _ _ _ _ dX0_grades_16 rfl ⟨rfl, rfl⟩

set_option maxRecDepth 100000 in
theorem ctX0_grades_k6 {E : gE} {q : Nat → Nat} {r : Nat → Nat → Nat} {F : gF} (hF : gFz E F) {b0 : Nat} (hb : chv F b0 = true) (hk0 : ck F b0 = 6) (o0 : Nat → Int32) (A0 : Nat → Nat → Int32) (C0 : Nat → Option Nat) (h0 : Nat) (o1 : Nat → Int32) (A1 : Nat → Nat → Int32) (C1 : Nat → Option Nat) (h1 : Nat) (o2 : Nat → Int32) (A2 : Nat → Nat → Int32) (C2 : Nat → Option Nat) (h2 : Nat) (gs0 : Int32) (gA : Nat → Nat → Int32) (tb0 : Int32) (tA0 bf0 : Nat → Int32) (hi0 : Int32) (x1 : Int32) {res : Int32 × Int32 × ((Nat → Int32))} (h : pX0_grades_k6 F b0 tb0 tA0 x1 = some res) : gMi yX0_grades (.code yX0_grades cX0_grades 3 (some .int) :: gU) ({ frames := 6, cells := 0, slots := 0, locals := 193 } : Room) 0 0 E [.ref b0, .int x1, .ref (q 4)] (cw E q r (gpl F) o0 A0 C0 h0 o1 A1 C1 h1 o2 A2 C2 h2 gs0 gA tb0 tA0 bf0 hi0) (fun v w => v = res.1 ∧ w = cw E q r (gpl F) o0 A0 C0 h0 o1 A1 C1 h1 o2 A2 C2 h2 gs0 gA res.2.1 res.2.2 bf0 hi0) := by
  refine g_met_i (by decide +kernel) (Nat.le_of_ble_eq_true rfl) (fun Γ K hn hE hRm _ hret => ?_)
  subst hE
  have hlt : ∀ i, i < 3 → i < g_n Γ := fun i q => by rw [hn]; exact q
  refine g_ws (ws' := cw (g_E Γ) q r (gpl F) o0 A0 C0 h0 o1 A1 C1 h1 o2 A2 C2 h2 gs0 gA tb0 tA0 bf0 hi0) rfl ?_
  refine g_sub (L' := [(0, .ref b0), (1, .int x1), (2, .ref (q 4))]) [0, 1, 2] rfl ?_
  exact wX0_grades_k6 (C0 := C0) (h0 := h0) (C1 := C1) (h1 := h1) (C2 := C2) (h2 := h2) (gs0 := gs0) (tb0 := tb0) (tA0 := tA0) (bf0 := bf0) (hi0 := hi0) hF hb hk0 K hlt hRm hret tb0 tA0 x1 h

set_option maxHeartbeats 4000000 in
set_option maxRecDepth 100000 in
theorem wX7_grades_k6 {Γ : gT} {q : Nat → Nat} {r : Nat → Nat → Nat} {F : gF} (hF : gFz (g_E Γ) F) {o0 : Nat → Int32} {A0 : Nat → Nat → Int32} {C0 : Nat → Option Nat} {h0 : Nat} {o1 : Nat → Int32} {A1 : Nat → Nat → Int32} {C1 : Nat → Option Nat} {h1 : Nat} {o2 : Nat → Int32} {A2 : Nat → Nat → Int32} {C2 : Nat → Option Nat} {h2 : Nat} {gs0 : Int32} {gA : Nat → Nat → Int32} {tb0 : Int32} {tA0 bf0 : Nat → Int32} {hi0 : Int32} {b0 : Nat} (hb : chv F b0 = true) (hk0 : ck F b0 = 6) (K : gOK Γ cX7_grades gU RX7) (hlt : ∀ i, i < 3 → i < g_n Γ) (hRm : g_R Γ = ({ frames := 7, cells := 0, slots := 0, locals := 215 } : Room)) {res : Int32 × Int32 × ((Nat → Int32))} (hret : ∀ (pc : Nat) (L : List (Nat × Value)) (v : Int32) (w : va_W), decode cX7_grades pc = .ok (.ireturn, 1) → narrow .int (.int v) = .int v → (v = res.1 ∧ w = cw (g_E Γ) q r (gpl F) o0 A0 C0 h0 o1 A1 C1 h1 o2 A2 C2 h2 gs0 gA res.2.1 res.2.2 bf0 hi0) → gGO Γ 0 0 pc L [.int v] w) (tb : Int32) (ta : (Nat → Int32)) (x1 : Int32) (h : pX7_grades_k6 F b0 tb ta x1 = some res) : gGO Γ 0 0 0 [(0, .ref b0), (1, .int x1), (2, .ref (q 4))] [] (cw (g_E Γ) q r (gpl F) o0 A0 C0 h0 o1 A1 C1 h1 o2 A2 C2 h2 gs0 gA tb ta bf0 hi0) := by
    unfold pX7_grades_k6 at h
    refine g_aload_n K dX7_grades_0 rfl 2 rfl ?_
    refine g_bipush (v := 61) K dX7_grades_1 (by decide) ?_
    obtain ⟨z_1, hz_1, h⟩ := gi_bd h
    refine g_callVv (As := [.int 61]) (bytes := cX8_begin) (maxL := 2) (ret := none) K (ctX8_begin hF o0 A0 C0 h0 o1 A1 C1 h1 o2 A2 C2 h2 gs0 gA tb ta bf0 hi0 61 (res := z_1) hz_1) gc_V_RX7_13_X8_begin rfl qv_X8_begin 5 rfl rfl rfl hRm rfl rfl rfl (by decide) (Nat.le_of_ble_eq_true rfl) (by decide) dX7_grades_3 (fun w hw => ?_)
    subst hw
    refine g_ws (ws' := cw (g_E Γ) q r (gpl F) o0 A0 C0 h0 o1 A1 C1 h1 o2 A2 C2 h2 gs0 gA z_1.1 z_1.2 bf0 hi0) rfl ?_
    refine g_aload_n K dX7_grades_6 rfl 0 rfl ?_
    refine g_iload_n K dX7_grades_7 rfl 1 rfl ?_
    refine g_aload_n K dX7_grades_8 rfl 2 rfl ?_
    obtain ⟨z_2, hz_2, h⟩ := gi_bd h
    refine g_callSXiF (n := 2) (x := ⟨"ChiefGrades$Lately", "grades", "(ILChiefGrades$Trace;)I"⟩) (As := [.int x1, .ref (q 4)]) (bytes := cX0_grades) (maxL := 3) (ret := (some .int)) K (ctX0_grades_k6 hF (b0 := b0) hb hk0 o0 A0 C0 h0 o1 A1 C1 h1 o2 A2 C2 h2 gs0 gA z_1.1 z_1.2 bf0 hi0 x1 (res := z_2) hz_2) u_911 u_912 u_589 u_556 u_896 u_73 (gu_c u_915) rfl rfl qsu_X0_grades (gF_at (j := 6) hF hb hk0 (by decide)) rfl rfl hRm rfl rfl rfl (by decide) (Nat.le_of_ble_eq_true rfl) (by decide) dX7_grades_9 (fun v w hw => ?_)
    obtain ⟨hv9, rfl⟩ := hw; have hv9 := hv9.symm; subst hv9
    refine g_ws (ws' := cw (g_E Γ) q r (gpl F) o0 A0 C0 h0 o1 A1 C1 h1 o2 A2 C2 h2 gs0 gA z_2.2.1 z_2.2.2 bf0 hi0) rfl ?_
    refine g_aload_n K dX7_grades_12 rfl 0 rfl ?_
    refine g_getF (v := .int (cv F b0)) (T := TX7) (ref := "ChiefGrades$Talking") K hin_X7 (gF_at (j := 6) hF hb hk0 (by decide)) rfl 2 (by decide) u_266 (Or.inr u_267) rfl dX7_grades_13 ?_
    refine g_iadd K dX7_grades_16 ?_
    obtain rfl := Option.some.inj h
    exact hret _ _ _ _ dX7_grades_17 rfl ⟨rfl, rfl⟩

set_option maxRecDepth 100000 in
theorem ctX7_grades_k6 {E : gE} {q : Nat → Nat} {r : Nat → Nat → Nat} {F : gF} (hF : gFz E F) {b0 : Nat} (hb : chv F b0 = true) (hk0 : ck F b0 = 6) (o0 : Nat → Int32) (A0 : Nat → Nat → Int32) (C0 : Nat → Option Nat) (h0 : Nat) (o1 : Nat → Int32) (A1 : Nat → Nat → Int32) (C1 : Nat → Option Nat) (h1 : Nat) (o2 : Nat → Int32) (A2 : Nat → Nat → Int32) (C2 : Nat → Option Nat) (h2 : Nat) (gs0 : Int32) (gA : Nat → Nat → Int32) (tb0 : Int32) (tA0 bf0 : Nat → Int32) (hi0 : Int32) (x1 : Int32) {res : Int32 × Int32 × ((Nat → Int32))} (h : pX7_grades_k6 F b0 tb0 tA0 x1 = some res) : gMi yX7_grades (.code yX7_grades cX7_grades 3 (some .int) :: gU) ({ frames := 7, cells := 0, slots := 0, locals := 215 } : Room) 0 0 E [.ref b0, .int x1, .ref (q 4)] (cw E q r (gpl F) o0 A0 C0 h0 o1 A1 C1 h1 o2 A2 C2 h2 gs0 gA tb0 tA0 bf0 hi0) (fun v w => v = res.1 ∧ w = cw E q r (gpl F) o0 A0 C0 h0 o1 A1 C1 h1 o2 A2 C2 h2 gs0 gA res.2.1 res.2.2 bf0 hi0) := by
  refine g_met_i (by decide +kernel) (Nat.le_of_ble_eq_true rfl) (fun Γ K hn hE hRm _ hret => ?_)
  subst hE
  have hlt : ∀ i, i < 3 → i < g_n Γ := fun i q => by rw [hn]; exact q
  refine g_ws (ws' := cw (g_E Γ) q r (gpl F) o0 A0 C0 h0 o1 A1 C1 h1 o2 A2 C2 h2 gs0 gA tb0 tA0 bf0 hi0) rfl ?_
  refine g_sub (L' := [(0, .ref b0), (1, .int x1), (2, .ref (q 4))]) [0, 1, 2] rfl ?_
  exact wX7_grades_k6 (C0 := C0) (h0 := h0) (C1 := C1) (h1 := h1) (C2 := C2) (h2 := h2) (gs0 := gs0) (tb0 := tb0) (tA0 := tA0) (bf0 := bf0) (hi0 := hi0) hF hb hk0 K hlt hRm hret tb0 tA0 x1 h

set_option maxHeartbeats 4000000 in
set_option maxRecDepth 100000 in
theorem wX0_levels_k6 {Γ : gT} {q : Nat → Nat} {r : Nat → Nat → Nat} {F : gF} (hF : gFz (g_E Γ) F) {o0 : Nat → Int32} {A0 : Nat → Nat → Int32} {C0 : Nat → Option Nat} {h0 : Nat} {o1 : Nat → Int32} {A1 : Nat → Nat → Int32} {C1 : Nat → Option Nat} {h1 : Nat} {o2 : Nat → Int32} {A2 : Nat → Nat → Int32} {C2 : Nat → Option Nat} {h2 : Nat} {gs0 : Int32} {gA : Nat → Nat → Int32} {tb0 : Int32} {tA0 bf0 : Nat → Int32} {hi0 : Int32} {b0 : Nat} (hb : chv F b0 = true) (hk0 : ck F b0 = 6) (K : gOK Γ cX0_levels gU RX0) (hlt : ∀ i, i < 3 → i < g_n Γ) (hRm : g_R Γ = ({ frames := 8, cells := 0, slots := 0, locals := 237 } : Room)) {res : Int32 × Int32 × ((Nat → Int32))} (hret : ∀ (pc : Nat) (L : List (Nat × Value)) (v : Int32) (w : va_W), decode cX0_levels pc = .ok (.ireturn, 1) → narrow .int (.int v) = .int v → (v = res.1 ∧ w = cw (g_E Γ) q r (gpl F) o0 A0 C0 h0 o1 A1 C1 h1 o2 A2 C2 h2 gs0 gA res.2.1 res.2.2 bf0 hi0) → gGO Γ 0 0 pc L [.int v] w) (tb : Int32) (ta : (Nat → Int32)) (x1 : Int32) (h : pX0_levels_k6 F b0 tb ta x1 = some res) : gGO Γ 0 0 0 [(0, .ref b0), (1, .int x1), (2, .ref (q 4))] [] (cw (g_E Γ) q r (gpl F) o0 A0 C0 h0 o1 A1 C1 h1 o2 A2 C2 h2 gs0 gA tb ta bf0 hi0) := by
    unfold pX0_levels_k6 at h
    refine g_aload_n K dX0_levels_0 rfl 2 rfl ?_
    refine g_iconst (v := 3) K dX0_levels_1 (by decide) ?_
    obtain ⟨z_1, hz_1, h⟩ := gi_bd h
    refine g_callVv (As := [.int 3]) (bytes := cX8_begin) (maxL := 2) (ret := none) K (ctX8_begin hF o0 A0 C0 h0 o1 A1 C1 h1 o2 A2 C2 h2 gs0 gA tb ta bf0 hi0 3 (res := z_1) hz_1) gc_V_RX0_43_X8_begin rfl qv_X8_begin 5 rfl rfl rfl hRm rfl rfl rfl (by decide) (Nat.le_of_ble_eq_true rfl) (by decide) dX0_levels_2 (fun w hw => ?_)
    subst hw
    refine g_ws (ws' := cw (g_E Γ) q r (gpl F) o0 A0 C0 h0 o1 A1 C1 h1 o2 A2 C2 h2 gs0 gA z_1.1 z_1.2 bf0 hi0) rfl ?_
    refine g_aload_n K dX0_levels_5 rfl 0 rfl ?_
    refine g_iload_n K dX0_levels_6 rfl 1 rfl ?_
    refine g_aload_n K dX0_levels_7 rfl 2 rfl ?_
    obtain ⟨z_2, hz_2, h⟩ := gi_bd h
    refine g_callOiF (n := 2) (owner := "ChiefGrades$Chief") (x := ⟨"ChiefGrades$Chief", "grades", "(ILChiefGrades$Trace;)I"⟩) (As := [.int x1, .ref (q 4)]) (bytes := cX7_grades) (maxL := 3) (ret := (some .int)) K (ctX7_grades_k6 hF (b0 := b0) hb hk0 o0 A0 C0 h0 o1 A1 C1 h1 o2 A2 C2 h2 gs0 gA z_1.1 z_1.2 bf0 hi0 x1 (res := z_2) hz_2) gc_OX7_RX0_53_X7_grades rfl u_915 (by decide +kernel) (gF_at (j := 6) hF hb hk0 (by decide)) rfl rfl hRm rfl rfl rfl (by decide) (Nat.le_of_ble_eq_true rfl) (by decide) dX0_levels_8 (fun v w hw => ?_)
    obtain ⟨hv9, rfl⟩ := hw; have hv9 := hv9.symm; subst hv9
    refine g_ws (ws' := cw (g_E Γ) q r (gpl F) o0 A0 C0 h0 o1 A1 C1 h1 o2 A2 C2 h2 gs0 gA z_2.2.1 z_2.2.2 bf0 hi0) rfl ?_
    refine g_iconst (v := 2) K dX0_levels_11 (by decide) ?_
    refine g_imul K dX0_levels_12 ?_
    obtain rfl := Option.some.inj h
    exact hret _ _ _ _ dX0_levels_13 rfl ⟨rfl, rfl⟩

set_option maxRecDepth 100000 in
theorem ctX0_levels_k6 {E : gE} {q : Nat → Nat} {r : Nat → Nat → Nat} {F : gF} (hF : gFz E F) {b0 : Nat} (hb : chv F b0 = true) (hk0 : ck F b0 = 6) (o0 : Nat → Int32) (A0 : Nat → Nat → Int32) (C0 : Nat → Option Nat) (h0 : Nat) (o1 : Nat → Int32) (A1 : Nat → Nat → Int32) (C1 : Nat → Option Nat) (h1 : Nat) (o2 : Nat → Int32) (A2 : Nat → Nat → Int32) (C2 : Nat → Option Nat) (h2 : Nat) (gs0 : Int32) (gA : Nat → Nat → Int32) (tb0 : Int32) (tA0 bf0 : Nat → Int32) (hi0 : Int32) (x1 : Int32) {res : Int32 × Int32 × ((Nat → Int32))} (h : pX0_levels_k6 F b0 tb0 tA0 x1 = some res) : gMi yX0_levels (.code yX0_levels cX0_levels 3 (some .int) :: gU) ({ frames := 8, cells := 0, slots := 0, locals := 237 } : Room) 0 0 E [.ref b0, .int x1, .ref (q 4)] (cw E q r (gpl F) o0 A0 C0 h0 o1 A1 C1 h1 o2 A2 C2 h2 gs0 gA tb0 tA0 bf0 hi0) (fun v w => v = res.1 ∧ w = cw E q r (gpl F) o0 A0 C0 h0 o1 A1 C1 h1 o2 A2 C2 h2 gs0 gA res.2.1 res.2.2 bf0 hi0) := by
  refine g_met_i (by decide +kernel) (Nat.le_of_ble_eq_true rfl) (fun Γ K hn hE hRm _ hret => ?_)
  subst hE
  have hlt : ∀ i, i < 3 → i < g_n Γ := fun i q => by rw [hn]; exact q
  refine g_ws (ws' := cw (g_E Γ) q r (gpl F) o0 A0 C0 h0 o1 A1 C1 h1 o2 A2 C2 h2 gs0 gA tb0 tA0 bf0 hi0) rfl ?_
  refine g_sub (L' := [(0, .ref b0), (1, .int x1), (2, .ref (q 4))]) [0, 1, 2] rfl ?_
  exact wX0_levels_k6 (C0 := C0) (h0 := h0) (C1 := C1) (h1 := h1) (C2 := C2) (h2 := h2) (gs0 := gs0) (tb0 := tb0) (tA0 := tA0) (bf0 := bf0) (hi0 := hi0) hF hb hk0 K hlt hRm hret tb0 tA0 x1 h

set_option maxHeartbeats 4000000 in
set_option maxRecDepth 100000 in
theorem wX4_levels_k6 {Γ : gT} {q : Nat → Nat} {r : Nat → Nat → Nat} {F : gF} (hF : gFz (g_E Γ) F) {o0 : Nat → Int32} {A0 : Nat → Nat → Int32} {C0 : Nat → Option Nat} {h0 : Nat} {o1 : Nat → Int32} {A1 : Nat → Nat → Int32} {C1 : Nat → Option Nat} {h1 : Nat} {o2 : Nat → Int32} {A2 : Nat → Nat → Int32} {C2 : Nat → Option Nat} {h2 : Nat} {gs0 : Int32} {gA : Nat → Nat → Int32} {tb0 : Int32} {tA0 bf0 : Nat → Int32} {hi0 : Int32} {b0 : Nat} (hb : chv F b0 = true) (hk0 : ck F b0 = 6) (K : gOK Γ cX4_levels gU RX4) (hlt : ∀ i, i < 3 → i < g_n Γ) (hRm : g_R Γ = ({ frames := 9, cells := 0, slots := 0, locals := 259 } : Room)) {res : Int32 × Int32 × ((Nat → Int32))} (hret : ∀ (pc : Nat) (L : List (Nat × Value)) (v : Int32) (w : va_W), decode cX4_levels pc = .ok (.ireturn, 1) → narrow .int (.int v) = .int v → (v = res.1 ∧ w = cw (g_E Γ) q r (gpl F) o0 A0 C0 h0 o1 A1 C1 h1 o2 A2 C2 h2 gs0 gA res.2.1 res.2.2 bf0 hi0) → gGO Γ 0 0 pc L [.int v] w) (tb : Int32) (ta : (Nat → Int32)) (x1 : Int32) (h : pX4_levels_k6 F b0 tb ta x1 = some res) : gGO Γ 0 0 0 [(0, .ref b0), (1, .int x1), (2, .ref (q 4))] [] (cw (g_E Γ) q r (gpl F) o0 A0 C0 h0 o1 A1 C1 h1 o2 A2 C2 h2 gs0 gA tb ta bf0 hi0) := by
    unfold pX4_levels_k6 at h
    refine g_aload_n K dX4_levels_0 rfl 2 rfl ?_
    refine g_bipush (v := 31) K dX4_levels_1 (by decide) ?_
    obtain ⟨z_1, hz_1, h⟩ := gi_bd h
    refine g_callVv (As := [.int 31]) (bytes := cX8_begin) (maxL := 2) (ret := none) K (ctX8_begin hF o0 A0 C0 h0 o1 A1 C1 h1 o2 A2 C2 h2 gs0 gA tb ta bf0 hi0 31 (res := z_1) hz_1) gc_V_RX4_13_X8_begin rfl qv_X8_begin 5 rfl rfl rfl hRm rfl rfl rfl (by decide) (Nat.le_of_ble_eq_true rfl) (by decide) dX4_levels_3 (fun w hw => ?_)
    subst hw
    refine g_ws (ws' := cw (g_E Γ) q r (gpl F) o0 A0 C0 h0 o1 A1 C1 h1 o2 A2 C2 h2 gs0 gA z_1.1 z_1.2 bf0 hi0) rfl ?_
    refine g_aload_n K dX4_levels_6 rfl 0 rfl ?_
    refine g_iload_n K dX4_levels_7 rfl 1 rfl ?_
    refine g_aload_n K dX4_levels_8 rfl 2 rfl ?_
    obtain ⟨z_2, hz_2, h⟩ := gi_bd h
    refine g_callSUiF (As := [.int x1, .ref (q 4)]) (bytes := cX0_levels) (maxL := 3) (ret := (some .int)) K (ctX0_levels_k6 hF (b0 := b0) hb hk0 o0 A0 C0 h0 o1 A1 C1 h1 o2 A2 C2 h2 gs0 gA z_1.1 z_1.2 bf0 hi0 x1 (res := z_2) hz_2) gc_SU_RX4_19_X0_levels rfl qsu_X0_levels (gF_at (j := 6) hF hb hk0 (by decide)) rfl rfl hRm rfl rfl rfl (by decide) (Nat.le_of_ble_eq_true rfl) (by decide) dX4_levels_9 (fun v w hw => ?_)
    obtain ⟨hv9, rfl⟩ := hw; have hv9 := hv9.symm; subst hv9
    refine g_ws (ws' := cw (g_E Γ) q r (gpl F) o0 A0 C0 h0 o1 A1 C1 h1 o2 A2 C2 h2 gs0 gA z_2.2.1 z_2.2.2 bf0 hi0) rfl ?_
    refine g_bipush (v := 7) K dX4_levels_12 (by decide) ?_
    refine g_ixor K dX4_levels_14 ?_
    obtain rfl := Option.some.inj h
    exact hret _ _ _ _ dX4_levels_15 rfl ⟨rfl, rfl⟩

set_option maxRecDepth 100000 in
theorem ctX4_levels_k6 {E : gE} {q : Nat → Nat} {r : Nat → Nat → Nat} {F : gF} (hF : gFz E F) {b0 : Nat} (hb : chv F b0 = true) (hk0 : ck F b0 = 6) (o0 : Nat → Int32) (A0 : Nat → Nat → Int32) (C0 : Nat → Option Nat) (h0 : Nat) (o1 : Nat → Int32) (A1 : Nat → Nat → Int32) (C1 : Nat → Option Nat) (h1 : Nat) (o2 : Nat → Int32) (A2 : Nat → Nat → Int32) (C2 : Nat → Option Nat) (h2 : Nat) (gs0 : Int32) (gA : Nat → Nat → Int32) (tb0 : Int32) (tA0 bf0 : Nat → Int32) (hi0 : Int32) (x1 : Int32) {res : Int32 × Int32 × ((Nat → Int32))} (h : pX4_levels_k6 F b0 tb0 tA0 x1 = some res) : gMi yX4_levels (.code yX4_levels cX4_levels 3 (some .int) :: gU) ({ frames := 9, cells := 0, slots := 0, locals := 259 } : Room) 0 0 E [.ref b0, .int x1, .ref (q 4)] (cw E q r (gpl F) o0 A0 C0 h0 o1 A1 C1 h1 o2 A2 C2 h2 gs0 gA tb0 tA0 bf0 hi0) (fun v w => v = res.1 ∧ w = cw E q r (gpl F) o0 A0 C0 h0 o1 A1 C1 h1 o2 A2 C2 h2 gs0 gA res.2.1 res.2.2 bf0 hi0) := by
  refine g_met_i (by decide +kernel) (Nat.le_of_ble_eq_true rfl) (fun Γ K hn hE hRm _ hret => ?_)
  subst hE
  have hlt : ∀ i, i < 3 → i < g_n Γ := fun i q => by rw [hn]; exact q
  refine g_ws (ws' := cw (g_E Γ) q r (gpl F) o0 A0 C0 h0 o1 A1 C1 h1 o2 A2 C2 h2 gs0 gA tb0 tA0 bf0 hi0) rfl ?_
  refine g_sub (L' := [(0, .ref b0), (1, .int x1), (2, .ref (q 4))]) [0, 1, 2] rfl ?_
  exact wX4_levels_k6 (C0 := C0) (h0 := h0) (C1 := C1) (h1 := h1) (C2 := C2) (h2 := h2) (gs0 := gs0) (tb0 := tb0) (tA0 := tA0) (bf0 := bf0) (hi0 := hi0) hF hb hk0 K hlt hRm hret tb0 tA0 x1 h

set_option maxHeartbeats 4000000 in
set_option maxRecDepth 100000 in
theorem wX11_act {Γ : gT} {q : Nat → Nat} {r : Nat → Nat → Nat} {F : gF} (hF : gFz (g_E Γ) F) {o0 : Nat → Int32} {A0 : Nat → Nat → Int32} {C0 : Nat → Option Nat} {h0 : Nat} {o1 : Nat → Int32} {A1 : Nat → Nat → Int32} {C1 : Nat → Option Nat} {h1 : Nat} {o2 : Nat → Int32} {A2 : Nat → Nat → Int32} {C2 : Nat → Option Nat} {h2 : Nat} {gs0 : Int32} {gA : Nat → Nat → Int32} {tb0 : Int32} {tA0 bf0 : Nat → Int32} {hi0 : Int32} (K : gOK Γ cX11_act gU RX11) (hlt : ∀ i, i < 5 → i < g_n Γ) (hRm : g_R Γ = ({ frames := 10, cells := 0, slots := 0, locals := 281 } : Room)) {res : Int32 × Int32 × ((Nat → Int32))} (hret : ∀ (pc : Nat) (L : List (Nat × Value)) (v : Int32) (w : va_W), decode cX11_act pc = .ok (.ireturn, 1) → narrow .int (.int v) = .int v → (v = res.1 ∧ w = cw (g_E Γ) q r (gpl F) o0 A0 C0 h0 o1 A1 C1 h1 o2 A2 C2 h2 gs0 gA res.2.1 res.2.2 bf0 hi0) → gGO Γ 0 0 pc L [.int v] w) (tb : Int32) (ta : (Nat → Int32)) (x1 : Int32) (x2 : Int32) (x3 : Int32) (h : pX11_act F (o0 1) C0 tb ta x1 x2 x3 = some res) : gGO Γ 0 0 0 [(0, .ref (q 5)), (1, .int x1), (2, .int x2), (3, .int x3)] [] (cw (g_E Γ) q r (gpl F) o0 A0 C0 h0 o1 A1 C1 h1 o2 A2 C2 h2 gs0 gA tb ta bf0 hi0) := by
    unfold pX11_act at h
    refine g_aload_n K dX11_act_0 rfl 0 rfl ?_
    refine g_get (v := .ref (q 4)) (T := TX11) (ref := "ChiefGrades") K hin_X11 0 rfl rfl 4 (by decide) u_328 (Or.inl rfl) rfl dX11_act_1 ?_
    refine g_iconst (v := 0) K dX11_act_4 (by decide) ?_
    refine g_put (v := .int 0) (ws' := cw (g_E Γ) q r (gpl F) o0 A0 C0 h0 o1 A1 C1 h1 o2 A2 C2 h2 gs0 gA 0 ta bf0 hi0) (T := TX8) (ref := "ChiefGrades$Trace") (ty := .int) K hin_X8 tyX8_ok nmX8 5 rfl rfl 1 (by decide) u_318 rfl rfl (by decide +kernel) rfl rfl (Nat.le_of_ble_eq_true rfl) dX11_act_5 rfl ?_
    refine g_aload_n K dX11_act_8 rfl 0 rfl ?_
    refine g_get (v := .ref (q 0)) (T := TX11) (ref := "ChiefGrades") K hin_X11 0 rfl rfl 0 (by decide) u_324 (Or.inl rfl) rfl dX11_act_9 ?_
    refine g_iload_n K dX11_act_12 rfl 1 rfl ?_
    obtain ⟨z_1, hz_1, h⟩ := gi_bd h
    refine g_callVq (As := [.int x1]) (bytes := cX10_chiefAt) (maxL := 2) (ret := (some (.object "ChiefGrades$Chief"))) K (ctX10_chiefAt_w0 hF o0 A0 C0 h0 o1 A1 C1 h1 o2 A2 C2 h2 gs0 gA 0 ta bf0 hi0 x1 (res := z_1) hz_1) gc_V_RX11_101_X10_chiefAt rfl qv_X10_chiefAt 1 rfl rfl rfl hRm rfl rfl rfl (by decide) (Nat.le_of_ble_eq_true rfl) (by decide) dX11_act_13 (fun v w hw => ?_)
    obtain ⟨hv9, rfl⟩ := hw; have hv9 := hv9.symm; subst hv9
    rcases gi_mt h with ⟨ez, h⟩ | ⟨b_z1, ez, h⟩
    · rw [ez]
      refine g_astoreN (L' := [(4, .null), (0, .ref (q 5)), (1, .int x1), (2, .int x2), (3, .int x3)]) K dX11_act_16 (hlt _ (by decide)) rfl ?_
      refine g_aloadN K dX11_act_18 0 rfl ?_
      refine g_ifnonnullN K dX11_act_20 ?_
      refine g_iconst (v := 0) K dX11_act_23 (by decide) ?_
      obtain rfl := Option.some.inj h
      exact hret _ _ _ _ dX11_act_24 rfl ⟨rfl, rfl⟩
    · rw [ez]
      refine g_astore (L' := [(4, .ref b_z1), (0, .ref (q 5)), (1, .int x1), (2, .int x2), (3, .int x3)]) K dX11_act_16 (hlt _ (by decide)) rfl ?_
      refine g_aload K dX11_act_18 0 rfl ?_
      refine g_ifnonnull (tgt := 25) K dX11_act_20 (by decide) ?_
      refine g_iload_n K dX11_act_25 rfl 3 rfl ?_
      obtain ⟨ht9, hf9⟩ := gi_br h; clear h
      by_cases q0 : x2 = 0
      · have h := ht9 q0; clear ht9 hf9
        refine g_tabIn (tgt := 52) K dX11_act_26 (by rw [q0]; decide) (by rw [q0]; decide) (by rw [q0]; rfl) (by decide) ?_
        refine g_aload K dX11_act_52 0 rfl ?_
        refine g_iload_n K dX11_act_54 rfl 4 rfl ?_
        refine g_aload_n K dX11_act_55 rfl 1 rfl ?_
        refine g_get (v := .ref (q 4)) (T := TX11) (ref := "ChiefGrades") K hin_X11 0 rfl rfl 4 (by decide) u_328 (Or.inl rfl) rfl dX11_act_56 ?_
        obtain ⟨b_2, h⟩ := gi_none h
        obtain ⟨ht9, hf9⟩ := gi_br h; clear h
        by_cases kd_3 : ck F b_z1 = 0
        · have h := ht9 kd_3; clear ht9 hf9
          obtain ⟨z_10, hz_10, h⟩ := gi_bd h
          refine g_callViF (As := [.int x3, .ref (q 4)]) (bytes := cX0_works) (maxL := 3) (ret := (some .int)) K (ctX0_works_k0 hF (b0 := b_z1) b_2 kd_3 o0 A0 C0 h0 o1 A1 C1 h1 o2 A2 C2 h2 gs0 gA 0 ta bf0 hi0 x3 (res := z_10) hz_10) gc_V_RX11_231_X0_works rfl qv_X0_works (gF_at (j := 0) hF b_2 kd_3 (by decide)) rfl rfl hRm rfl rfl rfl (by decide) (Nat.le_of_ble_eq_true rfl) (by decide) dX11_act_59 (fun v w hw => ?_)
          obtain ⟨hv9, rfl⟩ := hw; have hv9 := hv9.symm; subst hv9
          refine g_ws (ws' := cw (g_E Γ) q r (gpl F) o0 A0 C0 h0 o1 A1 C1 h1 o2 A2 C2 h2 gs0 gA z_10.2.1 z_10.2.2 bf0 hi0) rfl ?_
          obtain rfl := Option.some.inj h
          exact hret _ _ _ _ dX11_act_62 rfl ⟨rfl, rfl⟩
        have h := hf9 kd_3; clear ht9 hf9
        obtain ⟨ht9, hf9⟩ := gi_br h; clear h
        by_cases kd_4 : ck F b_z1 = 1
        · have h := ht9 kd_4; clear ht9 hf9
          obtain ⟨z_11, hz_11, h⟩ := gi_bd h
          refine g_callOiF (n := 2) (owner := "ChiefGrades$Chief") (x := ⟨"ChiefGrades$Chief", "works", "(ILChiefGrades$Trace;)I"⟩) (As := [.int x3, .ref (q 4)]) (bytes := cX5_works) (maxL := 3) (ret := (some .int)) K (ctX5_works_k1 hF (b0 := b_z1) b_2 kd_4 o0 A0 C0 h0 o1 A1 C1 h1 o2 A2 C2 h2 gs0 gA 0 ta bf0 hi0 x3 (res := z_11) hz_11) gc_OX5_RX11_231_X5_works rfl u_893 (by decide +kernel) (gF_at (j := 1) hF b_2 kd_4 (by decide)) rfl rfl hRm rfl rfl rfl (by decide) (Nat.le_of_ble_eq_true rfl) (by decide) dX11_act_59 (fun v w hw => ?_)
          obtain ⟨hv9, rfl⟩ := hw; have hv9 := hv9.symm; subst hv9
          refine g_ws (ws' := cw (g_E Γ) q r (gpl F) o0 A0 C0 h0 o1 A1 C1 h1 o2 A2 C2 h2 gs0 gA z_11.2.1 z_11.2.2 bf0 hi0) rfl ?_
          obtain rfl := Option.some.inj h
          exact hret _ _ _ _ dX11_act_62 rfl ⟨rfl, rfl⟩
        have h := hf9 kd_4; clear ht9 hf9
        obtain ⟨ht9, hf9⟩ := gi_br h; clear h
        by_cases kd_5 : ck F b_z1 = 2
        · have h := ht9 kd_5; clear ht9 hf9
          obtain ⟨z_12, hz_12, h⟩ := gi_bd h
          refine g_callUiF (n := 2) (owner := "ChiefGrades$Chief") (x := ⟨"ChiefGrades$Chief", "works", "(ILChiefGrades$Trace;)I"⟩) (As := [.int x3, .ref (q 4)]) (bytes := cX0_works) (maxL := 3) (ret := (some .int)) K (ctX0_works_k2 hF (b0 := b_z1) b_2 kd_5 o0 A0 C0 h0 o1 A1 C1 h1 o2 A2 C2 h2 gs0 gA 0 ta bf0 hi0 x3 (res := z_12) hz_12) gc_UX9_RX11_231_X0_works rfl rfl (by decide +kernel) (gF_at (j := 2) hF b_2 kd_5 (by decide)) rfl rfl hRm rfl rfl rfl (by decide) (Nat.le_of_ble_eq_true rfl) (by decide) dX11_act_59 (fun v w hw => ?_)
          obtain ⟨hv9, rfl⟩ := hw; have hv9 := hv9.symm; subst hv9
          refine g_ws (ws' := cw (g_E Γ) q r (gpl F) o0 A0 C0 h0 o1 A1 C1 h1 o2 A2 C2 h2 gs0 gA z_12.2.1 z_12.2.2 bf0 hi0) rfl ?_
          obtain rfl := Option.some.inj h
          exact hret _ _ _ _ dX11_act_62 rfl ⟨rfl, rfl⟩
        have h := hf9 kd_5; clear ht9 hf9
        obtain ⟨ht9, hf9⟩ := gi_br h; clear h
        by_cases kd_6 : ck F b_z1 = 3
        · have h := ht9 kd_6; clear ht9 hf9
          obtain ⟨z_13, hz_13, h⟩ := gi_bd h
          refine g_callUiF (n := 2) (owner := "ChiefGrades$Chief") (x := ⟨"ChiefGrades$Chief", "works", "(ILChiefGrades$Trace;)I"⟩) (As := [.int x3, .ref (q 4)]) (bytes := cX0_works) (maxL := 3) (ret := (some .int)) K (ctX0_works_k3 hF (b0 := b_z1) b_2 kd_6 o0 A0 C0 h0 o1 A1 C1 h1 o2 A2 C2 h2 gs0 gA 0 ta bf0 hi0 x3 (res := z_13) hz_13) gc_UX4_RX11_231_X0_works rfl rfl (by decide +kernel) (gF_at (j := 3) hF b_2 kd_6 (by decide)) rfl rfl hRm rfl rfl rfl (by decide) (Nat.le_of_ble_eq_true rfl) (by decide) dX11_act_59 (fun v w hw => ?_)
          obtain ⟨hv9, rfl⟩ := hw; have hv9 := hv9.symm; subst hv9
          refine g_ws (ws' := cw (g_E Γ) q r (gpl F) o0 A0 C0 h0 o1 A1 C1 h1 o2 A2 C2 h2 gs0 gA z_13.2.1 z_13.2.2 bf0 hi0) rfl ?_
          obtain rfl := Option.some.inj h
          exact hret _ _ _ _ dX11_act_62 rfl ⟨rfl, rfl⟩
        have h := hf9 kd_6; clear ht9 hf9
        obtain ⟨ht9, hf9⟩ := gi_br h; clear h
        by_cases kd_7 : ck F b_z1 = 4
        · have h := ht9 kd_7; clear ht9 hf9
          obtain ⟨z_14, hz_14, h⟩ := gi_bd h
          refine g_callOiF (n := 2) (owner := "ChiefGrades$Chief") (x := ⟨"ChiefGrades$Chief", "works", "(ILChiefGrades$Trace;)I"⟩) (As := [.int x3, .ref (q 4)]) (bytes := cX5_works) (maxL := 3) (ret := (some .int)) K (ctX5_works_k4 hF (b0 := b_z1) b_2 kd_7 o0 A0 C0 h0 o1 A1 C1 h1 o2 A2 C2 h2 gs0 gA 0 ta bf0 hi0 x3 (res := z_14) hz_14) gc_OX6_RX11_231_X5_works rfl u_893 (by decide +kernel) (gF_at (j := 4) hF b_2 kd_7 (by decide)) rfl rfl hRm rfl rfl rfl (by decide) (Nat.le_of_ble_eq_true rfl) (by decide) dX11_act_59 (fun v w hw => ?_)
          obtain ⟨hv9, rfl⟩ := hw; have hv9 := hv9.symm; subst hv9
          refine g_ws (ws' := cw (g_E Γ) q r (gpl F) o0 A0 C0 h0 o1 A1 C1 h1 o2 A2 C2 h2 gs0 gA z_14.2.1 z_14.2.2 bf0 hi0) rfl ?_
          obtain rfl := Option.some.inj h
          exact hret _ _ _ _ dX11_act_62 rfl ⟨rfl, rfl⟩
        have h := hf9 kd_7; clear ht9 hf9
        obtain ⟨ht9, hf9⟩ := gi_br h; clear h
        by_cases kd_8 : ck F b_z1 = 5
        · have h := ht9 kd_8; clear ht9 hf9
          obtain ⟨z_15, hz_15, h⟩ := gi_bd h
          refine g_callOiF (n := 2) (owner := "ChiefGrades$Chief") (x := ⟨"ChiefGrades$Chief", "works", "(ILChiefGrades$Trace;)I"⟩) (As := [.int x3, .ref (q 4)]) (bytes := cX3_works) (maxL := 3) (ret := (some .int)) K (ctX3_works_k5 hF (b0 := b_z1) b_2 kd_8 o0 A0 C0 h0 o1 A1 C1 h1 o2 A2 C2 h2 gs0 gA 0 ta bf0 hi0 x3 (res := z_15) hz_15) gc_OX3_RX11_231_X3_works rfl u_893 (by decide +kernel) (gF_at (j := 5) hF b_2 kd_8 (by decide)) rfl rfl hRm rfl rfl rfl (by decide) (Nat.le_of_ble_eq_true rfl) (by decide) dX11_act_59 (fun v w hw => ?_)
          obtain ⟨hv9, rfl⟩ := hw; have hv9 := hv9.symm; subst hv9
          refine g_ws (ws' := cw (g_E Γ) q r (gpl F) o0 A0 C0 h0 o1 A1 C1 h1 o2 A2 C2 h2 gs0 gA z_15.2.1 z_15.2.2 bf0 hi0) rfl ?_
          obtain rfl := Option.some.inj h
          exact hret _ _ _ _ dX11_act_62 rfl ⟨rfl, rfl⟩
        have h := hf9 kd_8; clear ht9 hf9
        have kd_9 := gF_last hF b_2 kd_3 kd_4 kd_5 kd_6 kd_7 kd_8
        obtain ⟨z_16, hz_16, h⟩ := gi_bd h
        refine g_callUiF (n := 2) (owner := "ChiefGrades$Chief") (x := ⟨"ChiefGrades$Chief", "works", "(ILChiefGrades$Trace;)I"⟩) (As := [.int x3, .ref (q 4)]) (bytes := cX0_works) (maxL := 3) (ret := (some .int)) K (ctX0_works_k6 hF (b0 := b_z1) b_2 kd_9 o0 A0 C0 h0 o1 A1 C1 h1 o2 A2 C2 h2 gs0 gA 0 ta bf0 hi0 x3 (res := z_16) hz_16) gc_UX7_RX11_231_X0_works rfl rfl (by decide +kernel) (gF_at (j := 6) hF b_2 kd_9 (by decide)) rfl rfl hRm rfl rfl rfl (by decide) (Nat.le_of_ble_eq_true rfl) (by decide) dX11_act_59 (fun v w hw => ?_)
        obtain ⟨hv9, rfl⟩ := hw; have hv9 := hv9.symm; subst hv9
        refine g_ws (ws' := cw (g_E Γ) q r (gpl F) o0 A0 C0 h0 o1 A1 C1 h1 o2 A2 C2 h2 gs0 gA z_16.2.1 z_16.2.2 bf0 hi0) rfl ?_
        obtain rfl := Option.some.inj h
        exact hret _ _ _ _ dX11_act_62 rfl ⟨rfl, rfl⟩
      have h := hf9 q0; clear ht9 hf9
      obtain ⟨ht9, hf9⟩ := gi_br h; clear h
      by_cases q1 : x2 = 1
      · have h := ht9 q1; clear ht9 hf9
        refine g_tabIn (tgt := 63) K dX11_act_26 (by rw [q1]; decide) (by rw [q1]; decide) (by rw [q1]; rfl) (by decide) ?_
        refine g_aload K dX11_act_63 0 rfl ?_
        refine g_iload_n K dX11_act_65 rfl 4 rfl ?_
        refine g_aload_n K dX11_act_66 rfl 1 rfl ?_
        refine g_get (v := .ref (q 4)) (T := TX11) (ref := "ChiefGrades") K hin_X11 0 rfl rfl 4 (by decide) u_328 (Or.inl rfl) rfl dX11_act_67 ?_
        obtain ⟨b_17, h⟩ := gi_none h
        obtain ⟨ht9, hf9⟩ := gi_br h; clear h
        by_cases kd_18 : ck F b_z1 = 0
        · have h := ht9 kd_18; clear ht9 hf9
          obtain ⟨z_25, hz_25, h⟩ := gi_bd h
          refine g_callViF (As := [.int x3, .ref (q 4)]) (bytes := cX0_grades) (maxL := 3) (ret := (some .int)) K (ctX0_grades_k0 hF (b0 := b_z1) b_17 kd_18 o0 A0 C0 h0 o1 A1 C1 h1 o2 A2 C2 h2 gs0 gA 0 ta bf0 hi0 x3 (res := z_25) hz_25) gc_V_RX11_235_X0_grades rfl qv_X0_grades (gF_at (j := 0) hF b_17 kd_18 (by decide)) rfl rfl hRm rfl rfl rfl (by decide) (Nat.le_of_ble_eq_true rfl) (by decide) dX11_act_70 (fun v w hw => ?_)
          obtain ⟨hv9, rfl⟩ := hw; have hv9 := hv9.symm; subst hv9
          refine g_ws (ws' := cw (g_E Γ) q r (gpl F) o0 A0 C0 h0 o1 A1 C1 h1 o2 A2 C2 h2 gs0 gA z_25.2.1 z_25.2.2 bf0 hi0) rfl ?_
          obtain rfl := Option.some.inj h
          exact hret _ _ _ _ dX11_act_73 rfl ⟨rfl, rfl⟩
        have h := hf9 kd_18; clear ht9 hf9
        obtain ⟨ht9, hf9⟩ := gi_br h; clear h
        by_cases kd_19 : ck F b_z1 = 1
        · have h := ht9 kd_19; clear ht9 hf9
          obtain ⟨z_26, hz_26, h⟩ := gi_bd h
          refine g_callUiF (n := 2) (owner := "ChiefGrades$Chief") (x := ⟨"ChiefGrades$Chief", "grades", "(ILChiefGrades$Trace;)I"⟩) (As := [.int x3, .ref (q 4)]) (bytes := cX0_grades) (maxL := 3) (ret := (some .int)) K (ctX0_grades_k1 hF (b0 := b_z1) b_17 kd_19 o0 A0 C0 h0 o1 A1 C1 h1 o2 A2 C2 h2 gs0 gA 0 ta bf0 hi0 x3 (res := z_26) hz_26) gc_UX5_RX11_235_X0_grades rfl rfl (by decide +kernel) (gF_at (j := 1) hF b_17 kd_19 (by decide)) rfl rfl hRm rfl rfl rfl (by decide) (Nat.le_of_ble_eq_true rfl) (by decide) dX11_act_70 (fun v w hw => ?_)
          obtain ⟨hv9, rfl⟩ := hw; have hv9 := hv9.symm; subst hv9
          refine g_ws (ws' := cw (g_E Γ) q r (gpl F) o0 A0 C0 h0 o1 A1 C1 h1 o2 A2 C2 h2 gs0 gA z_26.2.1 z_26.2.2 bf0 hi0) rfl ?_
          obtain rfl := Option.some.inj h
          exact hret _ _ _ _ dX11_act_73 rfl ⟨rfl, rfl⟩
        have h := hf9 kd_19; clear ht9 hf9
        obtain ⟨ht9, hf9⟩ := gi_br h; clear h
        by_cases kd_20 : ck F b_z1 = 2
        · have h := ht9 kd_20; clear ht9 hf9
          obtain ⟨z_27, hz_27, h⟩ := gi_bd h
          refine g_callOiF (n := 2) (owner := "ChiefGrades$Chief") (x := ⟨"ChiefGrades$Chief", "grades", "(ILChiefGrades$Trace;)I"⟩) (As := [.int x3, .ref (q 4)]) (bytes := cX9_grades) (maxL := 3) (ret := (some .int)) K (ctX9_grades_k2 hF (b0 := b_z1) b_17 kd_20 o0 A0 C0 h0 o1 A1 C1 h1 o2 A2 C2 h2 gs0 gA 0 ta bf0 hi0 x3 (res := z_27) hz_27) gc_OX9_RX11_235_X9_grades rfl u_915 (by decide +kernel) (gF_at (j := 2) hF b_17 kd_20 (by decide)) rfl rfl hRm rfl rfl rfl (by decide) (Nat.le_of_ble_eq_true rfl) (by decide) dX11_act_70 (fun v w hw => ?_)
          obtain ⟨hv9, rfl⟩ := hw; have hv9 := hv9.symm; subst hv9
          refine g_ws (ws' := cw (g_E Γ) q r (gpl F) o0 A0 C0 h0 o1 A1 C1 h1 o2 A2 C2 h2 gs0 gA z_27.2.1 z_27.2.2 bf0 hi0) rfl ?_
          obtain rfl := Option.some.inj h
          exact hret _ _ _ _ dX11_act_73 rfl ⟨rfl, rfl⟩
        have h := hf9 kd_20; clear ht9 hf9
        obtain ⟨ht9, hf9⟩ := gi_br h; clear h
        by_cases kd_21 : ck F b_z1 = 3
        · have h := ht9 kd_21; clear ht9 hf9
          obtain ⟨z_28, hz_28, h⟩ := gi_bd h
          refine g_callUiF (n := 2) (owner := "ChiefGrades$Chief") (x := ⟨"ChiefGrades$Chief", "grades", "(ILChiefGrades$Trace;)I"⟩) (As := [.int x3, .ref (q 4)]) (bytes := cX0_grades) (maxL := 3) (ret := (some .int)) K (ctX0_grades_k3 hF (b0 := b_z1) b_17 kd_21 o0 A0 C0 h0 o1 A1 C1 h1 o2 A2 C2 h2 gs0 gA 0 ta bf0 hi0 x3 (res := z_28) hz_28) gc_UX4_RX11_235_X0_grades rfl rfl (by decide +kernel) (gF_at (j := 3) hF b_17 kd_21 (by decide)) rfl rfl hRm rfl rfl rfl (by decide) (Nat.le_of_ble_eq_true rfl) (by decide) dX11_act_70 (fun v w hw => ?_)
          obtain ⟨hv9, rfl⟩ := hw; have hv9 := hv9.symm; subst hv9
          refine g_ws (ws' := cw (g_E Γ) q r (gpl F) o0 A0 C0 h0 o1 A1 C1 h1 o2 A2 C2 h2 gs0 gA z_28.2.1 z_28.2.2 bf0 hi0) rfl ?_
          obtain rfl := Option.some.inj h
          exact hret _ _ _ _ dX11_act_73 rfl ⟨rfl, rfl⟩
        have h := hf9 kd_21; clear ht9 hf9
        obtain ⟨ht9, hf9⟩ := gi_br h; clear h
        by_cases kd_22 : ck F b_z1 = 4
        · have h := ht9 kd_22; clear ht9 hf9
          obtain ⟨z_29, hz_29, h⟩ := gi_bd h
          refine g_callUiF (n := 2) (owner := "ChiefGrades$Chief") (x := ⟨"ChiefGrades$Chief", "grades", "(ILChiefGrades$Trace;)I"⟩) (As := [.int x3, .ref (q 4)]) (bytes := cX0_grades) (maxL := 3) (ret := (some .int)) K (ctX0_grades_k4 hF (b0 := b_z1) b_17 kd_22 o0 A0 C0 h0 o1 A1 C1 h1 o2 A2 C2 h2 gs0 gA 0 ta bf0 hi0 x3 (res := z_29) hz_29) gc_UX6_RX11_235_X0_grades rfl rfl (by decide +kernel) (gF_at (j := 4) hF b_17 kd_22 (by decide)) rfl rfl hRm rfl rfl rfl (by decide) (Nat.le_of_ble_eq_true rfl) (by decide) dX11_act_70 (fun v w hw => ?_)
          obtain ⟨hv9, rfl⟩ := hw; have hv9 := hv9.symm; subst hv9
          refine g_ws (ws' := cw (g_E Γ) q r (gpl F) o0 A0 C0 h0 o1 A1 C1 h1 o2 A2 C2 h2 gs0 gA z_29.2.1 z_29.2.2 bf0 hi0) rfl ?_
          obtain rfl := Option.some.inj h
          exact hret _ _ _ _ dX11_act_73 rfl ⟨rfl, rfl⟩
        have h := hf9 kd_22; clear ht9 hf9
        obtain ⟨ht9, hf9⟩ := gi_br h; clear h
        by_cases kd_23 : ck F b_z1 = 5
        · have h := ht9 kd_23; clear ht9 hf9
          obtain ⟨z_30, hz_30, h⟩ := gi_bd h
          refine g_callOiF (n := 2) (owner := "ChiefGrades$Chief") (x := ⟨"ChiefGrades$Chief", "grades", "(ILChiefGrades$Trace;)I"⟩) (As := [.int x3, .ref (q 4)]) (bytes := cX9_grades) (maxL := 3) (ret := (some .int)) K (ctX9_grades_k5 hF (b0 := b_z1) b_17 kd_23 o0 A0 C0 h0 o1 A1 C1 h1 o2 A2 C2 h2 gs0 gA 0 ta bf0 hi0 x3 (res := z_30) hz_30) gc_OX3_RX11_235_X9_grades rfl u_915 (by decide +kernel) (gF_at (j := 5) hF b_17 kd_23 (by decide)) rfl rfl hRm rfl rfl rfl (by decide) (Nat.le_of_ble_eq_true rfl) (by decide) dX11_act_70 (fun v w hw => ?_)
          obtain ⟨hv9, rfl⟩ := hw; have hv9 := hv9.symm; subst hv9
          refine g_ws (ws' := cw (g_E Γ) q r (gpl F) o0 A0 C0 h0 o1 A1 C1 h1 o2 A2 C2 h2 gs0 gA z_30.2.1 z_30.2.2 bf0 hi0) rfl ?_
          obtain rfl := Option.some.inj h
          exact hret _ _ _ _ dX11_act_73 rfl ⟨rfl, rfl⟩
        have h := hf9 kd_23; clear ht9 hf9
        have kd_24 := gF_last hF b_17 kd_18 kd_19 kd_20 kd_21 kd_22 kd_23
        obtain ⟨z_31, hz_31, h⟩ := gi_bd h
        refine g_callOiF (n := 2) (owner := "ChiefGrades$Chief") (x := ⟨"ChiefGrades$Chief", "grades", "(ILChiefGrades$Trace;)I"⟩) (As := [.int x3, .ref (q 4)]) (bytes := cX7_grades) (maxL := 3) (ret := (some .int)) K (ctX7_grades_k6 hF (b0 := b_z1) b_17 kd_24 o0 A0 C0 h0 o1 A1 C1 h1 o2 A2 C2 h2 gs0 gA 0 ta bf0 hi0 x3 (res := z_31) hz_31) gc_OX7_RX11_235_X7_grades rfl u_915 (by decide +kernel) (gF_at (j := 6) hF b_17 kd_24 (by decide)) rfl rfl hRm rfl rfl rfl (by decide) (Nat.le_of_ble_eq_true rfl) (by decide) dX11_act_70 (fun v w hw => ?_)
        obtain ⟨hv9, rfl⟩ := hw; have hv9 := hv9.symm; subst hv9
        refine g_ws (ws' := cw (g_E Γ) q r (gpl F) o0 A0 C0 h0 o1 A1 C1 h1 o2 A2 C2 h2 gs0 gA z_31.2.1 z_31.2.2 bf0 hi0) rfl ?_
        obtain rfl := Option.some.inj h
        exact hret _ _ _ _ dX11_act_73 rfl ⟨rfl, rfl⟩
      have h := hf9 q1; clear ht9 hf9
      obtain ⟨ht9, hf9⟩ := gi_br h; clear h
      by_cases q2 : x2 = 2
      · have h := ht9 q2; clear ht9 hf9
        refine g_tabIn (tgt := 74) K dX11_act_26 (by rw [q2]; decide) (by rw [q2]; decide) (by rw [q2]; rfl) (by decide) ?_
        refine g_aload K dX11_act_74 0 rfl ?_
        refine g_iload_n K dX11_act_76 rfl 4 rfl ?_
        refine g_aload_n K dX11_act_77 rfl 1 rfl ?_
        refine g_get (v := .ref (q 4)) (T := TX11) (ref := "ChiefGrades") K hin_X11 0 rfl rfl 4 (by decide) u_328 (Or.inl rfl) rfl dX11_act_78 ?_
        obtain ⟨b_32, h⟩ := gi_none h
        obtain ⟨ht9, hf9⟩ := gi_br h; clear h
        by_cases kd_33 : ck F b_z1 = 0
        · have h := ht9 kd_33; clear ht9 hf9
          obtain ⟨z_40, hz_40, h⟩ := gi_bd h
          refine g_callViF (As := [.int x3, .ref (q 4)]) (bytes := cX0_levels) (maxL := 3) (ret := (some .int)) K (ctX0_levels_k0 hF (b0 := b_z1) b_32 kd_33 o0 A0 C0 h0 o1 A1 C1 h1 o2 A2 C2 h2 gs0 gA 0 ta bf0 hi0 x3 (res := z_40) hz_40) gc_V_RX11_238_X0_levels rfl qv_X0_levels (gF_at (j := 0) hF b_32 kd_33 (by decide)) rfl rfl hRm rfl rfl rfl (by decide) (Nat.le_of_ble_eq_true rfl) (by decide) dX11_act_81 (fun v w hw => ?_)
          obtain ⟨hv9, rfl⟩ := hw; have hv9 := hv9.symm; subst hv9
          refine g_ws (ws' := cw (g_E Γ) q r (gpl F) o0 A0 C0 h0 o1 A1 C1 h1 o2 A2 C2 h2 gs0 gA z_40.2.1 z_40.2.2 bf0 hi0) rfl ?_
          obtain rfl := Option.some.inj h
          exact hret _ _ _ _ dX11_act_84 rfl ⟨rfl, rfl⟩
        have h := hf9 kd_33; clear ht9 hf9
        obtain ⟨ht9, hf9⟩ := gi_br h; clear h
        by_cases kd_34 : ck F b_z1 = 1
        · have h := ht9 kd_34; clear ht9 hf9
          obtain ⟨z_41, hz_41, h⟩ := gi_bd h
          refine g_callUiF (n := 2) (owner := "ChiefGrades$Chief") (x := ⟨"ChiefGrades$Chief", "levels", "(ILChiefGrades$Trace;)I"⟩) (As := [.int x3, .ref (q 4)]) (bytes := cX0_levels) (maxL := 3) (ret := (some .int)) K (ctX0_levels_k1 hF (b0 := b_z1) b_32 kd_34 o0 A0 C0 h0 o1 A1 C1 h1 o2 A2 C2 h2 gs0 gA 0 ta bf0 hi0 x3 (res := z_41) hz_41) gc_UX5_RX11_238_X0_levels rfl rfl (by decide +kernel) (gF_at (j := 1) hF b_32 kd_34 (by decide)) rfl rfl hRm rfl rfl rfl (by decide) (Nat.le_of_ble_eq_true rfl) (by decide) dX11_act_81 (fun v w hw => ?_)
          obtain ⟨hv9, rfl⟩ := hw; have hv9 := hv9.symm; subst hv9
          refine g_ws (ws' := cw (g_E Γ) q r (gpl F) o0 A0 C0 h0 o1 A1 C1 h1 o2 A2 C2 h2 gs0 gA z_41.2.1 z_41.2.2 bf0 hi0) rfl ?_
          obtain rfl := Option.some.inj h
          exact hret _ _ _ _ dX11_act_84 rfl ⟨rfl, rfl⟩
        have h := hf9 kd_34; clear ht9 hf9
        obtain ⟨ht9, hf9⟩ := gi_br h; clear h
        by_cases kd_35 : ck F b_z1 = 2
        · have h := ht9 kd_35; clear ht9 hf9
          obtain ⟨z_42, hz_42, h⟩ := gi_bd h
          refine g_callUiF (n := 2) (owner := "ChiefGrades$Chief") (x := ⟨"ChiefGrades$Chief", "levels", "(ILChiefGrades$Trace;)I"⟩) (As := [.int x3, .ref (q 4)]) (bytes := cX0_levels) (maxL := 3) (ret := (some .int)) K (ctX0_levels_k2 hF (b0 := b_z1) b_32 kd_35 o0 A0 C0 h0 o1 A1 C1 h1 o2 A2 C2 h2 gs0 gA 0 ta bf0 hi0 x3 (res := z_42) hz_42) gc_UX9_RX11_238_X0_levels rfl rfl (by decide +kernel) (gF_at (j := 2) hF b_32 kd_35 (by decide)) rfl rfl hRm rfl rfl rfl (by decide) (Nat.le_of_ble_eq_true rfl) (by decide) dX11_act_81 (fun v w hw => ?_)
          obtain ⟨hv9, rfl⟩ := hw; have hv9 := hv9.symm; subst hv9
          refine g_ws (ws' := cw (g_E Γ) q r (gpl F) o0 A0 C0 h0 o1 A1 C1 h1 o2 A2 C2 h2 gs0 gA z_42.2.1 z_42.2.2 bf0 hi0) rfl ?_
          obtain rfl := Option.some.inj h
          exact hret _ _ _ _ dX11_act_84 rfl ⟨rfl, rfl⟩
        have h := hf9 kd_35; clear ht9 hf9
        obtain ⟨ht9, hf9⟩ := gi_br h; clear h
        by_cases kd_36 : ck F b_z1 = 3
        · have h := ht9 kd_36; clear ht9 hf9
          obtain ⟨z_43, hz_43, h⟩ := gi_bd h
          refine g_callOiF (n := 2) (owner := "ChiefGrades$Chief") (x := ⟨"ChiefGrades$Chief", "levels", "(ILChiefGrades$Trace;)I"⟩) (As := [.int x3, .ref (q 4)]) (bytes := cX4_levels) (maxL := 3) (ret := (some .int)) K (ctX4_levels_k3 hF (b0 := b_z1) b_32 kd_36 o0 A0 C0 h0 o1 A1 C1 h1 o2 A2 C2 h2 gs0 gA 0 ta bf0 hi0 x3 (res := z_43) hz_43) gc_OX4_RX11_238_X4_levels rfl u_941 (by decide +kernel) (gF_at (j := 3) hF b_32 kd_36 (by decide)) rfl rfl hRm rfl rfl rfl (by decide) (Nat.le_of_ble_eq_true rfl) (by decide) dX11_act_81 (fun v w hw => ?_)
          obtain ⟨hv9, rfl⟩ := hw; have hv9 := hv9.symm; subst hv9
          refine g_ws (ws' := cw (g_E Γ) q r (gpl F) o0 A0 C0 h0 o1 A1 C1 h1 o2 A2 C2 h2 gs0 gA z_43.2.1 z_43.2.2 bf0 hi0) rfl ?_
          obtain rfl := Option.some.inj h
          exact hret _ _ _ _ dX11_act_84 rfl ⟨rfl, rfl⟩
        have h := hf9 kd_36; clear ht9 hf9
        obtain ⟨ht9, hf9⟩ := gi_br h; clear h
        by_cases kd_37 : ck F b_z1 = 4
        · have h := ht9 kd_37; clear ht9 hf9
          obtain ⟨z_44, hz_44, h⟩ := gi_bd h
          refine g_callOiF (n := 2) (owner := "ChiefGrades$Chief") (x := ⟨"ChiefGrades$Chief", "levels", "(ILChiefGrades$Trace;)I"⟩) (As := [.int x3, .ref (q 4)]) (bytes := cX6_levels) (maxL := 3) (ret := (some .int)) K (ctX6_levels_k4 hF (b0 := b_z1) b_32 kd_37 o0 A0 C0 h0 o1 A1 C1 h1 o2 A2 C2 h2 gs0 gA 0 ta bf0 hi0 x3 (res := z_44) hz_44) gc_OX6_RX11_238_X6_levels rfl u_941 (by decide +kernel) (gF_at (j := 4) hF b_32 kd_37 (by decide)) rfl rfl hRm rfl rfl rfl (by decide) (Nat.le_of_ble_eq_true rfl) (by decide) dX11_act_81 (fun v w hw => ?_)
          obtain ⟨hv9, rfl⟩ := hw; have hv9 := hv9.symm; subst hv9
          refine g_ws (ws' := cw (g_E Γ) q r (gpl F) o0 A0 C0 h0 o1 A1 C1 h1 o2 A2 C2 h2 gs0 gA z_44.2.1 z_44.2.2 bf0 hi0) rfl ?_
          obtain rfl := Option.some.inj h
          exact hret _ _ _ _ dX11_act_84 rfl ⟨rfl, rfl⟩
        have h := hf9 kd_37; clear ht9 hf9
        obtain ⟨ht9, hf9⟩ := gi_br h; clear h
        by_cases kd_38 : ck F b_z1 = 5
        · have h := ht9 kd_38; clear ht9 hf9
          obtain ⟨z_45, hz_45, h⟩ := gi_bd h
          refine g_callUiF (n := 2) (owner := "ChiefGrades$Chief") (x := ⟨"ChiefGrades$Chief", "levels", "(ILChiefGrades$Trace;)I"⟩) (As := [.int x3, .ref (q 4)]) (bytes := cX0_levels) (maxL := 3) (ret := (some .int)) K (ctX0_levels_k5 hF (b0 := b_z1) b_32 kd_38 o0 A0 C0 h0 o1 A1 C1 h1 o2 A2 C2 h2 gs0 gA 0 ta bf0 hi0 x3 (res := z_45) hz_45) gc_UX3_RX11_238_X0_levels rfl rfl (by decide +kernel) (gF_at (j := 5) hF b_32 kd_38 (by decide)) rfl rfl hRm rfl rfl rfl (by decide) (Nat.le_of_ble_eq_true rfl) (by decide) dX11_act_81 (fun v w hw => ?_)
          obtain ⟨hv9, rfl⟩ := hw; have hv9 := hv9.symm; subst hv9
          refine g_ws (ws' := cw (g_E Γ) q r (gpl F) o0 A0 C0 h0 o1 A1 C1 h1 o2 A2 C2 h2 gs0 gA z_45.2.1 z_45.2.2 bf0 hi0) rfl ?_
          obtain rfl := Option.some.inj h
          exact hret _ _ _ _ dX11_act_84 rfl ⟨rfl, rfl⟩
        have h := hf9 kd_38; clear ht9 hf9
        have kd_39 := gF_last hF b_32 kd_33 kd_34 kd_35 kd_36 kd_37 kd_38
        obtain ⟨z_46, hz_46, h⟩ := gi_bd h
        refine g_callOiF (n := 2) (owner := "ChiefGrades$Chief") (x := ⟨"ChiefGrades$Chief", "levels", "(ILChiefGrades$Trace;)I"⟩) (As := [.int x3, .ref (q 4)]) (bytes := cX4_levels) (maxL := 3) (ret := (some .int)) K (ctX4_levels_k6 hF (b0 := b_z1) b_32 kd_39 o0 A0 C0 h0 o1 A1 C1 h1 o2 A2 C2 h2 gs0 gA 0 ta bf0 hi0 x3 (res := z_46) hz_46) gc_OX7_RX11_238_X4_levels rfl u_941 (by decide +kernel) (gF_at (j := 6) hF b_32 kd_39 (by decide)) rfl rfl hRm rfl rfl rfl (by decide) (Nat.le_of_ble_eq_true rfl) (by decide) dX11_act_81 (fun v w hw => ?_)
        obtain ⟨hv9, rfl⟩ := hw; have hv9 := hv9.symm; subst hv9
        refine g_ws (ws' := cw (g_E Γ) q r (gpl F) o0 A0 C0 h0 o1 A1 C1 h1 o2 A2 C2 h2 gs0 gA z_46.2.1 z_46.2.2 bf0 hi0) rfl ?_
        obtain rfl := Option.some.inj h
        exact hret _ _ _ _ dX11_act_84 rfl ⟨rfl, rfl⟩
      have h := hf9 q2; clear ht9 hf9
      refine g_tabOut (tgt := 85) K dX11_act_26 (by have t0 := gi_ne (z := 0) q0 (by decide); have t1 := gi_ne (z := 1) q1 (by decide); have t2 := gi_ne (z := 2) q2 (by decide); omega) (by decide) ?_
      refine g_iconst (v := 0) K dX11_act_85 (by decide) ?_
      obtain rfl := Option.some.inj h
      exact hret _ _ _ _ dX11_act_86 rfl ⟨rfl, rfl⟩

set_option maxRecDepth 100000 in
theorem ctX11_act {E : gE} {q : Nat → Nat} {r : Nat → Nat → Nat} {F : gF} (hF : gFz E F) (o0 : Nat → Int32) (A0 : Nat → Nat → Int32) (C0 : Nat → Option Nat) (h0 : Nat) (o1 : Nat → Int32) (A1 : Nat → Nat → Int32) (C1 : Nat → Option Nat) (h1 : Nat) (o2 : Nat → Int32) (A2 : Nat → Nat → Int32) (C2 : Nat → Option Nat) (h2 : Nat) (gs0 : Int32) (gA : Nat → Nat → Int32) (tb0 : Int32) (tA0 bf0 : Nat → Int32) (hi0 : Int32) (x1 : Int32) (x2 : Int32) (x3 : Int32) {res : Int32 × Int32 × ((Nat → Int32))} (h : pX11_act F (o0 1) C0 tb0 tA0 x1 x2 x3 = some res) : gMi yX11_act (.code yX11_act cX11_act 5 (some .int) :: gU) ({ frames := 10, cells := 0, slots := 0, locals := 281 } : Room) 0 0 E [.ref (q 5), .int x1, .int x2, .int x3] (cw E q r (gpl F) o0 A0 C0 h0 o1 A1 C1 h1 o2 A2 C2 h2 gs0 gA tb0 tA0 bf0 hi0) (fun v w => v = res.1 ∧ w = cw E q r (gpl F) o0 A0 C0 h0 o1 A1 C1 h1 o2 A2 C2 h2 gs0 gA res.2.1 res.2.2 bf0 hi0) := by
  refine g_met_i (by decide +kernel) (Nat.le_of_ble_eq_true rfl) (fun Γ K hn hE hRm _ hret => ?_)
  subst hE
  have hlt : ∀ i, i < 5 → i < g_n Γ := fun i q => by rw [hn]; exact q
  refine g_ws (ws' := cw (g_E Γ) q r (gpl F) o0 A0 C0 h0 o1 A1 C1 h1 o2 A2 C2 h2 gs0 gA tb0 tA0 bf0 hi0) rfl ?_
  refine g_sub (L' := [(0, .ref (q 5)), (1, .int x1), (2, .int x2), (3, .int x3)]) [0, 1, 2, 3] rfl ?_
  exact wX11_act (C0 := C0) (h0 := h0) (C1 := C1) (h1 := h1) (C2 := C2) (h2 := h2) (gs0 := gs0) (tb0 := tb0) (tA0 := tA0) (bf0 := bf0) (hi0 := hi0) hF K hlt hRm hret tb0 tA0 x1 x2 x3 h

set_option maxHeartbeats 4000000 in
set_option maxRecDepth 100000 in
theorem wX0_isOfKind_k0 {Γ : gT} {q : Nat → Nat} {r : Nat → Nat → Nat} {F : gF} (hF : gFz (g_E Γ) F) {o0 : Nat → Int32} {A0 : Nat → Nat → Int32} {C0 : Nat → Option Nat} {h0 : Nat} {o1 : Nat → Int32} {A1 : Nat → Nat → Int32} {C1 : Nat → Option Nat} {h1 : Nat} {o2 : Nat → Int32} {A2 : Nat → Nat → Int32} {C2 : Nat → Option Nat} {h2 : Nat} {gs0 : Int32} {gA : Nat → Nat → Int32} {tb0 : Int32} {tA0 bf0 : Nat → Int32} {hi0 : Int32} {b0 : Nat} (hb : chv F b0 = true) (hk0 : ck F b0 = 0) (K : gOK Γ cX0_isOfKind gU RX0) (hlt : ∀ i, i < 2 → i < g_n Γ) (hRm : g_R Γ = ({ frames := 4, cells := 0, slots := 0, locals := 150 } : Room)) {res : Int32} (hret : ∀ (pc : Nat) (L : List (Nat × Value)) (v : Int32) (w : va_W), decode cX0_isOfKind pc = .ok (.ireturn, 1) → narrow .boolean (.int v) = .int v → (v = res ∧ w = cw (g_E Γ) q r (gpl F) o0 A0 C0 h0 o1 A1 C1 h1 o2 A2 C2 h2 gs0 gA tb0 tA0 bf0 hi0) → gGO Γ 0 0 pc L [.int v] w) (x1 : Int32) (h : pX0_isOfKind_k0 x1 = some res) : gGO Γ 0 0 0 [(0, .ref b0), (1, .int x1)] [] (cw (g_E Γ) q r (gpl F) o0 A0 C0 h0 o1 A1 C1 h1 o2 A2 C2 h2 gs0 gA tb0 tA0 bf0 hi0) := by
    unfold pX0_isOfKind_k0 at h
    refine g_iload_n K dX0_isOfKind_0 rfl 1 rfl ?_
    obtain ⟨ht9, hf9⟩ := gi_br h; clear h
    by_cases q0 : x1 = 0
    · have h := ht9 q0; clear ht9 hf9
      refine g_tabIn (tgt := 44) K dX0_isOfKind_1 (by rw [q0]; decide) (by rw [q0]; decide) (by rw [q0]; rfl) (by decide) ?_
      refine g_iconst (v := 1) K dX0_isOfKind_44 (by decide) ?_
      obtain rfl := Option.some.inj h
      exact hret _ _ _ _ dX0_isOfKind_45 (by decide) ⟨rfl, rfl⟩
    have h := hf9 q0; clear ht9 hf9
    obtain ⟨ht9, hf9⟩ := gi_br h; clear h
    by_cases q1 : x1 = 1
    · have h := ht9 q1; clear ht9 hf9
      refine g_tabIn (tgt := 46) K dX0_isOfKind_1 (by rw [q1]; decide) (by rw [q1]; decide) (by rw [q1]; rfl) (by decide) ?_
      refine g_aload_n K dX0_isOfKind_46 rfl 0 rfl ?_
      refine g_inst (v := 0) (k := 0) (j := 1) (nm := "ChiefGrades$Lenient") K (gF_at (j := 0) hF hb hk0 (by decide)) (by decide) (by decide) rfl u_524 (by decide) dX0_isOfKind_47 ?_
      obtain rfl := Option.some.inj h
      exact hret _ _ _ _ dX0_isOfKind_50 (by decide) ⟨rfl, rfl⟩
    have h := hf9 q1; clear ht9 hf9
    obtain ⟨ht9, hf9⟩ := gi_br h; clear h
    by_cases q2 : x1 = 2
    · have h := ht9 q2; clear ht9 hf9
      refine g_tabIn (tgt := 51) K dX0_isOfKind_1 (by rw [q2]; decide) (by rw [q2]; decide) (by rw [q2]; rfl) (by decide) ?_
      refine g_aload_n K dX0_isOfKind_51 rfl 0 rfl ?_
      refine g_inst (v := 0) (k := 0) (j := 2) (nm := "ChiefGrades$Turning") K (gF_at (j := 0) hF hb hk0 (by decide)) (by decide) (by decide) rfl u_535 (by decide) dX0_isOfKind_52 ?_
      obtain rfl := Option.some.inj h
      exact hret _ _ _ _ dX0_isOfKind_55 (by decide) ⟨rfl, rfl⟩
    have h := hf9 q2; clear ht9 hf9
    obtain ⟨ht9, hf9⟩ := gi_br h; clear h
    by_cases q3 : x1 = 3
    · have h := ht9 q3; clear ht9 hf9
      refine g_tabIn (tgt := 56) K dX0_isOfKind_1 (by rw [q3]; decide) (by rw [q3]; decide) (by rw [q3]; rfl) (by decide) ?_
      refine g_aload_n K dX0_isOfKind_56 rfl 0 rfl ?_
      refine g_inst (v := 0) (k := 0) (j := 3) (nm := "ChiefGrades$Lately") K (gF_at (j := 0) hF hb hk0 (by decide)) (by decide) (by decide) rfl u_546 (by decide) dX0_isOfKind_57 ?_
      obtain rfl := Option.some.inj h
      exact hret _ _ _ _ dX0_isOfKind_60 (by decide) ⟨rfl, rfl⟩
    have h := hf9 q3; clear ht9 hf9
    obtain ⟨ht9, hf9⟩ := gi_br h; clear h
    by_cases q4 : x1 = 4
    · have h := ht9 q4; clear ht9 hf9
      refine g_tabIn (tgt := 61) K dX0_isOfKind_1 (by rw [q4]; decide) (by rw [q4]; decide) (by rw [q4]; rfl) (by decide) ?_
      refine g_aload_n K dX0_isOfKind_61 rfl 0 rfl ?_
      refine g_inst (v := 0) (k := 0) (j := 4) (nm := "ChiefGrades$Near") K (gF_at (j := 0) hF hb hk0 (by decide)) (by decide) (by decide) rfl u_557 (by decide) dX0_isOfKind_62 ?_
      obtain rfl := Option.some.inj h
      exact hret _ _ _ _ dX0_isOfKind_65 (by decide) ⟨rfl, rfl⟩
    have h := hf9 q4; clear ht9 hf9
    obtain ⟨ht9, hf9⟩ := gi_br h; clear h
    by_cases q5 : x1 = 5
    · have h := ht9 q5; clear ht9 hf9
      refine g_tabIn (tgt := 66) K dX0_isOfKind_1 (by rw [q5]; decide) (by rw [q5]; decide) (by rw [q5]; rfl) (by decide) ?_
      refine g_aload_n K dX0_isOfKind_66 rfl 0 rfl ?_
      refine g_inst (v := 0) (k := 0) (j := 5) (nm := "ChiefGrades$Keeping") K (gF_at (j := 0) hF hb hk0 (by decide)) (by decide) (by decide) rfl u_568 (by decide) dX0_isOfKind_67 ?_
      obtain rfl := Option.some.inj h
      exact hret _ _ _ _ dX0_isOfKind_70 (by decide) ⟨rfl, rfl⟩
    have h := hf9 q5; clear ht9 hf9
    obtain ⟨ht9, hf9⟩ := gi_br h; clear h
    by_cases q6 : x1 = 6
    · have h := ht9 q6; clear ht9 hf9
      refine g_tabIn (tgt := 71) K dX0_isOfKind_1 (by rw [q6]; decide) (by rw [q6]; decide) (by rw [q6]; rfl) (by decide) ?_
      refine g_aload_n K dX0_isOfKind_71 rfl 0 rfl ?_
      refine g_inst (v := 0) (k := 0) (j := 6) (nm := "ChiefGrades$Talking") K (gF_at (j := 0) hF hb hk0 (by decide)) (by decide) (by decide) rfl u_579 (by decide) dX0_isOfKind_72 ?_
      obtain rfl := Option.some.inj h
      exact hret _ _ _ _ dX0_isOfKind_75 (by decide) ⟨rfl, rfl⟩
    have h := hf9 q6; clear ht9 hf9
    refine g_tabOut (tgt := 76) K dX0_isOfKind_1 (by have t0 := gi_ne (z := 0) q0 (by decide); have t1 := gi_ne (z := 1) q1 (by decide); have t2 := gi_ne (z := 2) q2 (by decide); have t3 := gi_ne (z := 3) q3 (by decide); have t4 := gi_ne (z := 4) q4 (by decide); have t5 := gi_ne (z := 5) q5 (by decide); have t6 := gi_ne (z := 6) q6 (by decide); omega) (by decide) ?_
    refine g_iconst (v := 0) K dX0_isOfKind_76 (by decide) ?_
    obtain rfl := Option.some.inj h
    exact hret _ _ _ _ dX0_isOfKind_77 (by decide) ⟨rfl, rfl⟩

set_option maxRecDepth 100000 in
theorem ctX0_isOfKind_k0 {E : gE} {q : Nat → Nat} {r : Nat → Nat → Nat} {F : gF} (hF : gFz E F) {b0 : Nat} (hb : chv F b0 = true) (hk0 : ck F b0 = 0) (o0 : Nat → Int32) (A0 : Nat → Nat → Int32) (C0 : Nat → Option Nat) (h0 : Nat) (o1 : Nat → Int32) (A1 : Nat → Nat → Int32) (C1 : Nat → Option Nat) (h1 : Nat) (o2 : Nat → Int32) (A2 : Nat → Nat → Int32) (C2 : Nat → Option Nat) (h2 : Nat) (gs0 : Int32) (gA : Nat → Nat → Int32) (tb0 : Int32) (tA0 bf0 : Nat → Int32) (hi0 : Int32) (x1 : Int32) {res : Int32} (h : pX0_isOfKind_k0 x1 = some res) : gMi yX0_isOfKind (.code yX0_isOfKind cX0_isOfKind 2 (some .boolean) :: gU) ({ frames := 4, cells := 0, slots := 0, locals := 150 } : Room) 0 0 E [.ref b0, .int x1] (cw E q r (gpl F) o0 A0 C0 h0 o1 A1 C1 h1 o2 A2 C2 h2 gs0 gA tb0 tA0 bf0 hi0) (fun v w => v = res ∧ w = cw E q r (gpl F) o0 A0 C0 h0 o1 A1 C1 h1 o2 A2 C2 h2 gs0 gA tb0 tA0 bf0 hi0) := by
  refine g_met_i (by decide +kernel) (Nat.le_of_ble_eq_true rfl) (fun Γ K hn hE hRm _ hret => ?_)
  subst hE
  have hlt : ∀ i, i < 2 → i < g_n Γ := fun i q => by rw [hn]; exact q
  refine g_sub (L' := [(0, .ref b0), (1, .int x1)]) [0, 1] rfl ?_
  exact wX0_isOfKind_k0 (C0 := C0) (h0 := h0) (C1 := C1) (h1 := h1) (C2 := C2) (h2 := h2) (gs0 := gs0) (tb0 := tb0) (tA0 := tA0) (bf0 := bf0) (hi0 := hi0) hF hb hk0 K hlt hRm hret x1 h

set_option maxHeartbeats 4000000 in
set_option maxRecDepth 100000 in
theorem wX0_isOfKind_k1 {Γ : gT} {q : Nat → Nat} {r : Nat → Nat → Nat} {F : gF} (hF : gFz (g_E Γ) F) {o0 : Nat → Int32} {A0 : Nat → Nat → Int32} {C0 : Nat → Option Nat} {h0 : Nat} {o1 : Nat → Int32} {A1 : Nat → Nat → Int32} {C1 : Nat → Option Nat} {h1 : Nat} {o2 : Nat → Int32} {A2 : Nat → Nat → Int32} {C2 : Nat → Option Nat} {h2 : Nat} {gs0 : Int32} {gA : Nat → Nat → Int32} {tb0 : Int32} {tA0 bf0 : Nat → Int32} {hi0 : Int32} {b0 : Nat} (hb : chv F b0 = true) (hk0 : ck F b0 = 1) (K : gOK Γ cX0_isOfKind gU RX0) (hlt : ∀ i, i < 2 → i < g_n Γ) (hRm : g_R Γ = ({ frames := 4, cells := 0, slots := 0, locals := 150 } : Room)) {res : Int32} (hret : ∀ (pc : Nat) (L : List (Nat × Value)) (v : Int32) (w : va_W), decode cX0_isOfKind pc = .ok (.ireturn, 1) → narrow .boolean (.int v) = .int v → (v = res ∧ w = cw (g_E Γ) q r (gpl F) o0 A0 C0 h0 o1 A1 C1 h1 o2 A2 C2 h2 gs0 gA tb0 tA0 bf0 hi0) → gGO Γ 0 0 pc L [.int v] w) (x1 : Int32) (h : pX0_isOfKind_k1 x1 = some res) : gGO Γ 0 0 0 [(0, .ref b0), (1, .int x1)] [] (cw (g_E Γ) q r (gpl F) o0 A0 C0 h0 o1 A1 C1 h1 o2 A2 C2 h2 gs0 gA tb0 tA0 bf0 hi0) := by
    unfold pX0_isOfKind_k1 at h
    refine g_iload_n K dX0_isOfKind_0 rfl 1 rfl ?_
    obtain ⟨ht9, hf9⟩ := gi_br h; clear h
    by_cases q0 : x1 = 0
    · have h := ht9 q0; clear ht9 hf9
      refine g_tabIn (tgt := 44) K dX0_isOfKind_1 (by rw [q0]; decide) (by rw [q0]; decide) (by rw [q0]; rfl) (by decide) ?_
      refine g_iconst (v := 1) K dX0_isOfKind_44 (by decide) ?_
      obtain rfl := Option.some.inj h
      exact hret _ _ _ _ dX0_isOfKind_45 (by decide) ⟨rfl, rfl⟩
    have h := hf9 q0; clear ht9 hf9
    obtain ⟨ht9, hf9⟩ := gi_br h; clear h
    by_cases q1 : x1 = 1
    · have h := ht9 q1; clear ht9 hf9
      refine g_tabIn (tgt := 46) K dX0_isOfKind_1 (by rw [q1]; decide) (by rw [q1]; decide) (by rw [q1]; rfl) (by decide) ?_
      refine g_aload_n K dX0_isOfKind_46 rfl 0 rfl ?_
      refine g_inst (v := 1) (k := 1) (j := 1) (nm := "ChiefGrades$Lenient") K (gF_at (j := 1) hF hb hk0 (by decide)) (by decide) (by decide) rfl u_524 (by decide) dX0_isOfKind_47 ?_
      obtain rfl := Option.some.inj h
      exact hret _ _ _ _ dX0_isOfKind_50 (by decide) ⟨rfl, rfl⟩
    have h := hf9 q1; clear ht9 hf9
    obtain ⟨ht9, hf9⟩ := gi_br h; clear h
    by_cases q2 : x1 = 2
    · have h := ht9 q2; clear ht9 hf9
      refine g_tabIn (tgt := 51) K dX0_isOfKind_1 (by rw [q2]; decide) (by rw [q2]; decide) (by rw [q2]; rfl) (by decide) ?_
      refine g_aload_n K dX0_isOfKind_51 rfl 0 rfl ?_
      refine g_inst (v := 0) (k := 1) (j := 2) (nm := "ChiefGrades$Turning") K (gF_at (j := 1) hF hb hk0 (by decide)) (by decide) (by decide) rfl u_535 (by decide) dX0_isOfKind_52 ?_
      obtain rfl := Option.some.inj h
      exact hret _ _ _ _ dX0_isOfKind_55 (by decide) ⟨rfl, rfl⟩
    have h := hf9 q2; clear ht9 hf9
    obtain ⟨ht9, hf9⟩ := gi_br h; clear h
    by_cases q3 : x1 = 3
    · have h := ht9 q3; clear ht9 hf9
      refine g_tabIn (tgt := 56) K dX0_isOfKind_1 (by rw [q3]; decide) (by rw [q3]; decide) (by rw [q3]; rfl) (by decide) ?_
      refine g_aload_n K dX0_isOfKind_56 rfl 0 rfl ?_
      refine g_inst (v := 0) (k := 1) (j := 3) (nm := "ChiefGrades$Lately") K (gF_at (j := 1) hF hb hk0 (by decide)) (by decide) (by decide) rfl u_546 (by decide) dX0_isOfKind_57 ?_
      obtain rfl := Option.some.inj h
      exact hret _ _ _ _ dX0_isOfKind_60 (by decide) ⟨rfl, rfl⟩
    have h := hf9 q3; clear ht9 hf9
    obtain ⟨ht9, hf9⟩ := gi_br h; clear h
    by_cases q4 : x1 = 4
    · have h := ht9 q4; clear ht9 hf9
      refine g_tabIn (tgt := 61) K dX0_isOfKind_1 (by rw [q4]; decide) (by rw [q4]; decide) (by rw [q4]; rfl) (by decide) ?_
      refine g_aload_n K dX0_isOfKind_61 rfl 0 rfl ?_
      refine g_inst (v := 0) (k := 1) (j := 4) (nm := "ChiefGrades$Near") K (gF_at (j := 1) hF hb hk0 (by decide)) (by decide) (by decide) rfl u_557 (by decide) dX0_isOfKind_62 ?_
      obtain rfl := Option.some.inj h
      exact hret _ _ _ _ dX0_isOfKind_65 (by decide) ⟨rfl, rfl⟩
    have h := hf9 q4; clear ht9 hf9
    obtain ⟨ht9, hf9⟩ := gi_br h; clear h
    by_cases q5 : x1 = 5
    · have h := ht9 q5; clear ht9 hf9
      refine g_tabIn (tgt := 66) K dX0_isOfKind_1 (by rw [q5]; decide) (by rw [q5]; decide) (by rw [q5]; rfl) (by decide) ?_
      refine g_aload_n K dX0_isOfKind_66 rfl 0 rfl ?_
      refine g_inst (v := 0) (k := 1) (j := 5) (nm := "ChiefGrades$Keeping") K (gF_at (j := 1) hF hb hk0 (by decide)) (by decide) (by decide) rfl u_568 (by decide) dX0_isOfKind_67 ?_
      obtain rfl := Option.some.inj h
      exact hret _ _ _ _ dX0_isOfKind_70 (by decide) ⟨rfl, rfl⟩
    have h := hf9 q5; clear ht9 hf9
    obtain ⟨ht9, hf9⟩ := gi_br h; clear h
    by_cases q6 : x1 = 6
    · have h := ht9 q6; clear ht9 hf9
      refine g_tabIn (tgt := 71) K dX0_isOfKind_1 (by rw [q6]; decide) (by rw [q6]; decide) (by rw [q6]; rfl) (by decide) ?_
      refine g_aload_n K dX0_isOfKind_71 rfl 0 rfl ?_
      refine g_inst (v := 0) (k := 1) (j := 6) (nm := "ChiefGrades$Talking") K (gF_at (j := 1) hF hb hk0 (by decide)) (by decide) (by decide) rfl u_579 (by decide) dX0_isOfKind_72 ?_
      obtain rfl := Option.some.inj h
      exact hret _ _ _ _ dX0_isOfKind_75 (by decide) ⟨rfl, rfl⟩
    have h := hf9 q6; clear ht9 hf9
    refine g_tabOut (tgt := 76) K dX0_isOfKind_1 (by have t0 := gi_ne (z := 0) q0 (by decide); have t1 := gi_ne (z := 1) q1 (by decide); have t2 := gi_ne (z := 2) q2 (by decide); have t3 := gi_ne (z := 3) q3 (by decide); have t4 := gi_ne (z := 4) q4 (by decide); have t5 := gi_ne (z := 5) q5 (by decide); have t6 := gi_ne (z := 6) q6 (by decide); omega) (by decide) ?_
    refine g_iconst (v := 0) K dX0_isOfKind_76 (by decide) ?_
    obtain rfl := Option.some.inj h
    exact hret _ _ _ _ dX0_isOfKind_77 (by decide) ⟨rfl, rfl⟩

set_option maxRecDepth 100000 in
theorem ctX0_isOfKind_k1 {E : gE} {q : Nat → Nat} {r : Nat → Nat → Nat} {F : gF} (hF : gFz E F) {b0 : Nat} (hb : chv F b0 = true) (hk0 : ck F b0 = 1) (o0 : Nat → Int32) (A0 : Nat → Nat → Int32) (C0 : Nat → Option Nat) (h0 : Nat) (o1 : Nat → Int32) (A1 : Nat → Nat → Int32) (C1 : Nat → Option Nat) (h1 : Nat) (o2 : Nat → Int32) (A2 : Nat → Nat → Int32) (C2 : Nat → Option Nat) (h2 : Nat) (gs0 : Int32) (gA : Nat → Nat → Int32) (tb0 : Int32) (tA0 bf0 : Nat → Int32) (hi0 : Int32) (x1 : Int32) {res : Int32} (h : pX0_isOfKind_k1 x1 = some res) : gMi yX0_isOfKind (.code yX0_isOfKind cX0_isOfKind 2 (some .boolean) :: gU) ({ frames := 4, cells := 0, slots := 0, locals := 150 } : Room) 0 0 E [.ref b0, .int x1] (cw E q r (gpl F) o0 A0 C0 h0 o1 A1 C1 h1 o2 A2 C2 h2 gs0 gA tb0 tA0 bf0 hi0) (fun v w => v = res ∧ w = cw E q r (gpl F) o0 A0 C0 h0 o1 A1 C1 h1 o2 A2 C2 h2 gs0 gA tb0 tA0 bf0 hi0) := by
  refine g_met_i (by decide +kernel) (Nat.le_of_ble_eq_true rfl) (fun Γ K hn hE hRm _ hret => ?_)
  subst hE
  have hlt : ∀ i, i < 2 → i < g_n Γ := fun i q => by rw [hn]; exact q
  refine g_sub (L' := [(0, .ref b0), (1, .int x1)]) [0, 1] rfl ?_
  exact wX0_isOfKind_k1 (C0 := C0) (h0 := h0) (C1 := C1) (h1 := h1) (C2 := C2) (h2 := h2) (gs0 := gs0) (tb0 := tb0) (tA0 := tA0) (bf0 := bf0) (hi0 := hi0) hF hb hk0 K hlt hRm hret x1 h

set_option maxHeartbeats 4000000 in
set_option maxRecDepth 100000 in
theorem wX0_isOfKind_k2 {Γ : gT} {q : Nat → Nat} {r : Nat → Nat → Nat} {F : gF} (hF : gFz (g_E Γ) F) {o0 : Nat → Int32} {A0 : Nat → Nat → Int32} {C0 : Nat → Option Nat} {h0 : Nat} {o1 : Nat → Int32} {A1 : Nat → Nat → Int32} {C1 : Nat → Option Nat} {h1 : Nat} {o2 : Nat → Int32} {A2 : Nat → Nat → Int32} {C2 : Nat → Option Nat} {h2 : Nat} {gs0 : Int32} {gA : Nat → Nat → Int32} {tb0 : Int32} {tA0 bf0 : Nat → Int32} {hi0 : Int32} {b0 : Nat} (hb : chv F b0 = true) (hk0 : ck F b0 = 2) (K : gOK Γ cX0_isOfKind gU RX0) (hlt : ∀ i, i < 2 → i < g_n Γ) (hRm : g_R Γ = ({ frames := 4, cells := 0, slots := 0, locals := 150 } : Room)) {res : Int32} (hret : ∀ (pc : Nat) (L : List (Nat × Value)) (v : Int32) (w : va_W), decode cX0_isOfKind pc = .ok (.ireturn, 1) → narrow .boolean (.int v) = .int v → (v = res ∧ w = cw (g_E Γ) q r (gpl F) o0 A0 C0 h0 o1 A1 C1 h1 o2 A2 C2 h2 gs0 gA tb0 tA0 bf0 hi0) → gGO Γ 0 0 pc L [.int v] w) (x1 : Int32) (h : pX0_isOfKind_k2 x1 = some res) : gGO Γ 0 0 0 [(0, .ref b0), (1, .int x1)] [] (cw (g_E Γ) q r (gpl F) o0 A0 C0 h0 o1 A1 C1 h1 o2 A2 C2 h2 gs0 gA tb0 tA0 bf0 hi0) := by
    unfold pX0_isOfKind_k2 at h
    refine g_iload_n K dX0_isOfKind_0 rfl 1 rfl ?_
    obtain ⟨ht9, hf9⟩ := gi_br h; clear h
    by_cases q0 : x1 = 0
    · have h := ht9 q0; clear ht9 hf9
      refine g_tabIn (tgt := 44) K dX0_isOfKind_1 (by rw [q0]; decide) (by rw [q0]; decide) (by rw [q0]; rfl) (by decide) ?_
      refine g_iconst (v := 1) K dX0_isOfKind_44 (by decide) ?_
      obtain rfl := Option.some.inj h
      exact hret _ _ _ _ dX0_isOfKind_45 (by decide) ⟨rfl, rfl⟩
    have h := hf9 q0; clear ht9 hf9
    obtain ⟨ht9, hf9⟩ := gi_br h; clear h
    by_cases q1 : x1 = 1
    · have h := ht9 q1; clear ht9 hf9
      refine g_tabIn (tgt := 46) K dX0_isOfKind_1 (by rw [q1]; decide) (by rw [q1]; decide) (by rw [q1]; rfl) (by decide) ?_
      refine g_aload_n K dX0_isOfKind_46 rfl 0 rfl ?_
      refine g_inst (v := 0) (k := 2) (j := 1) (nm := "ChiefGrades$Lenient") K (gF_at (j := 2) hF hb hk0 (by decide)) (by decide) (by decide) rfl u_524 (by decide) dX0_isOfKind_47 ?_
      obtain rfl := Option.some.inj h
      exact hret _ _ _ _ dX0_isOfKind_50 (by decide) ⟨rfl, rfl⟩
    have h := hf9 q1; clear ht9 hf9
    obtain ⟨ht9, hf9⟩ := gi_br h; clear h
    by_cases q2 : x1 = 2
    · have h := ht9 q2; clear ht9 hf9
      refine g_tabIn (tgt := 51) K dX0_isOfKind_1 (by rw [q2]; decide) (by rw [q2]; decide) (by rw [q2]; rfl) (by decide) ?_
      refine g_aload_n K dX0_isOfKind_51 rfl 0 rfl ?_
      refine g_inst (v := 1) (k := 2) (j := 2) (nm := "ChiefGrades$Turning") K (gF_at (j := 2) hF hb hk0 (by decide)) (by decide) (by decide) rfl u_535 (by decide) dX0_isOfKind_52 ?_
      obtain rfl := Option.some.inj h
      exact hret _ _ _ _ dX0_isOfKind_55 (by decide) ⟨rfl, rfl⟩
    have h := hf9 q2; clear ht9 hf9
    obtain ⟨ht9, hf9⟩ := gi_br h; clear h
    by_cases q3 : x1 = 3
    · have h := ht9 q3; clear ht9 hf9
      refine g_tabIn (tgt := 56) K dX0_isOfKind_1 (by rw [q3]; decide) (by rw [q3]; decide) (by rw [q3]; rfl) (by decide) ?_
      refine g_aload_n K dX0_isOfKind_56 rfl 0 rfl ?_
      refine g_inst (v := 0) (k := 2) (j := 3) (nm := "ChiefGrades$Lately") K (gF_at (j := 2) hF hb hk0 (by decide)) (by decide) (by decide) rfl u_546 (by decide) dX0_isOfKind_57 ?_
      obtain rfl := Option.some.inj h
      exact hret _ _ _ _ dX0_isOfKind_60 (by decide) ⟨rfl, rfl⟩
    have h := hf9 q3; clear ht9 hf9
    obtain ⟨ht9, hf9⟩ := gi_br h; clear h
    by_cases q4 : x1 = 4
    · have h := ht9 q4; clear ht9 hf9
      refine g_tabIn (tgt := 61) K dX0_isOfKind_1 (by rw [q4]; decide) (by rw [q4]; decide) (by rw [q4]; rfl) (by decide) ?_
      refine g_aload_n K dX0_isOfKind_61 rfl 0 rfl ?_
      refine g_inst (v := 0) (k := 2) (j := 4) (nm := "ChiefGrades$Near") K (gF_at (j := 2) hF hb hk0 (by decide)) (by decide) (by decide) rfl u_557 (by decide) dX0_isOfKind_62 ?_
      obtain rfl := Option.some.inj h
      exact hret _ _ _ _ dX0_isOfKind_65 (by decide) ⟨rfl, rfl⟩
    have h := hf9 q4; clear ht9 hf9
    obtain ⟨ht9, hf9⟩ := gi_br h; clear h
    by_cases q5 : x1 = 5
    · have h := ht9 q5; clear ht9 hf9
      refine g_tabIn (tgt := 66) K dX0_isOfKind_1 (by rw [q5]; decide) (by rw [q5]; decide) (by rw [q5]; rfl) (by decide) ?_
      refine g_aload_n K dX0_isOfKind_66 rfl 0 rfl ?_
      refine g_inst (v := 0) (k := 2) (j := 5) (nm := "ChiefGrades$Keeping") K (gF_at (j := 2) hF hb hk0 (by decide)) (by decide) (by decide) rfl u_568 (by decide) dX0_isOfKind_67 ?_
      obtain rfl := Option.some.inj h
      exact hret _ _ _ _ dX0_isOfKind_70 (by decide) ⟨rfl, rfl⟩
    have h := hf9 q5; clear ht9 hf9
    obtain ⟨ht9, hf9⟩ := gi_br h; clear h
    by_cases q6 : x1 = 6
    · have h := ht9 q6; clear ht9 hf9
      refine g_tabIn (tgt := 71) K dX0_isOfKind_1 (by rw [q6]; decide) (by rw [q6]; decide) (by rw [q6]; rfl) (by decide) ?_
      refine g_aload_n K dX0_isOfKind_71 rfl 0 rfl ?_
      refine g_inst (v := 0) (k := 2) (j := 6) (nm := "ChiefGrades$Talking") K (gF_at (j := 2) hF hb hk0 (by decide)) (by decide) (by decide) rfl u_579 (by decide) dX0_isOfKind_72 ?_
      obtain rfl := Option.some.inj h
      exact hret _ _ _ _ dX0_isOfKind_75 (by decide) ⟨rfl, rfl⟩
    have h := hf9 q6; clear ht9 hf9
    refine g_tabOut (tgt := 76) K dX0_isOfKind_1 (by have t0 := gi_ne (z := 0) q0 (by decide); have t1 := gi_ne (z := 1) q1 (by decide); have t2 := gi_ne (z := 2) q2 (by decide); have t3 := gi_ne (z := 3) q3 (by decide); have t4 := gi_ne (z := 4) q4 (by decide); have t5 := gi_ne (z := 5) q5 (by decide); have t6 := gi_ne (z := 6) q6 (by decide); omega) (by decide) ?_
    refine g_iconst (v := 0) K dX0_isOfKind_76 (by decide) ?_
    obtain rfl := Option.some.inj h
    exact hret _ _ _ _ dX0_isOfKind_77 (by decide) ⟨rfl, rfl⟩

set_option maxRecDepth 100000 in
theorem ctX0_isOfKind_k2 {E : gE} {q : Nat → Nat} {r : Nat → Nat → Nat} {F : gF} (hF : gFz E F) {b0 : Nat} (hb : chv F b0 = true) (hk0 : ck F b0 = 2) (o0 : Nat → Int32) (A0 : Nat → Nat → Int32) (C0 : Nat → Option Nat) (h0 : Nat) (o1 : Nat → Int32) (A1 : Nat → Nat → Int32) (C1 : Nat → Option Nat) (h1 : Nat) (o2 : Nat → Int32) (A2 : Nat → Nat → Int32) (C2 : Nat → Option Nat) (h2 : Nat) (gs0 : Int32) (gA : Nat → Nat → Int32) (tb0 : Int32) (tA0 bf0 : Nat → Int32) (hi0 : Int32) (x1 : Int32) {res : Int32} (h : pX0_isOfKind_k2 x1 = some res) : gMi yX0_isOfKind (.code yX0_isOfKind cX0_isOfKind 2 (some .boolean) :: gU) ({ frames := 4, cells := 0, slots := 0, locals := 150 } : Room) 0 0 E [.ref b0, .int x1] (cw E q r (gpl F) o0 A0 C0 h0 o1 A1 C1 h1 o2 A2 C2 h2 gs0 gA tb0 tA0 bf0 hi0) (fun v w => v = res ∧ w = cw E q r (gpl F) o0 A0 C0 h0 o1 A1 C1 h1 o2 A2 C2 h2 gs0 gA tb0 tA0 bf0 hi0) := by
  refine g_met_i (by decide +kernel) (Nat.le_of_ble_eq_true rfl) (fun Γ K hn hE hRm _ hret => ?_)
  subst hE
  have hlt : ∀ i, i < 2 → i < g_n Γ := fun i q => by rw [hn]; exact q
  refine g_sub (L' := [(0, .ref b0), (1, .int x1)]) [0, 1] rfl ?_
  exact wX0_isOfKind_k2 (C0 := C0) (h0 := h0) (C1 := C1) (h1 := h1) (C2 := C2) (h2 := h2) (gs0 := gs0) (tb0 := tb0) (tA0 := tA0) (bf0 := bf0) (hi0 := hi0) hF hb hk0 K hlt hRm hret x1 h

set_option maxHeartbeats 4000000 in
set_option maxRecDepth 100000 in
theorem wX0_isOfKind_k3 {Γ : gT} {q : Nat → Nat} {r : Nat → Nat → Nat} {F : gF} (hF : gFz (g_E Γ) F) {o0 : Nat → Int32} {A0 : Nat → Nat → Int32} {C0 : Nat → Option Nat} {h0 : Nat} {o1 : Nat → Int32} {A1 : Nat → Nat → Int32} {C1 : Nat → Option Nat} {h1 : Nat} {o2 : Nat → Int32} {A2 : Nat → Nat → Int32} {C2 : Nat → Option Nat} {h2 : Nat} {gs0 : Int32} {gA : Nat → Nat → Int32} {tb0 : Int32} {tA0 bf0 : Nat → Int32} {hi0 : Int32} {b0 : Nat} (hb : chv F b0 = true) (hk0 : ck F b0 = 3) (K : gOK Γ cX0_isOfKind gU RX0) (hlt : ∀ i, i < 2 → i < g_n Γ) (hRm : g_R Γ = ({ frames := 4, cells := 0, slots := 0, locals := 150 } : Room)) {res : Int32} (hret : ∀ (pc : Nat) (L : List (Nat × Value)) (v : Int32) (w : va_W), decode cX0_isOfKind pc = .ok (.ireturn, 1) → narrow .boolean (.int v) = .int v → (v = res ∧ w = cw (g_E Γ) q r (gpl F) o0 A0 C0 h0 o1 A1 C1 h1 o2 A2 C2 h2 gs0 gA tb0 tA0 bf0 hi0) → gGO Γ 0 0 pc L [.int v] w) (x1 : Int32) (h : pX0_isOfKind_k3 x1 = some res) : gGO Γ 0 0 0 [(0, .ref b0), (1, .int x1)] [] (cw (g_E Γ) q r (gpl F) o0 A0 C0 h0 o1 A1 C1 h1 o2 A2 C2 h2 gs0 gA tb0 tA0 bf0 hi0) := by
    unfold pX0_isOfKind_k3 at h
    refine g_iload_n K dX0_isOfKind_0 rfl 1 rfl ?_
    obtain ⟨ht9, hf9⟩ := gi_br h; clear h
    by_cases q0 : x1 = 0
    · have h := ht9 q0; clear ht9 hf9
      refine g_tabIn (tgt := 44) K dX0_isOfKind_1 (by rw [q0]; decide) (by rw [q0]; decide) (by rw [q0]; rfl) (by decide) ?_
      refine g_iconst (v := 1) K dX0_isOfKind_44 (by decide) ?_
      obtain rfl := Option.some.inj h
      exact hret _ _ _ _ dX0_isOfKind_45 (by decide) ⟨rfl, rfl⟩
    have h := hf9 q0; clear ht9 hf9
    obtain ⟨ht9, hf9⟩ := gi_br h; clear h
    by_cases q1 : x1 = 1
    · have h := ht9 q1; clear ht9 hf9
      refine g_tabIn (tgt := 46) K dX0_isOfKind_1 (by rw [q1]; decide) (by rw [q1]; decide) (by rw [q1]; rfl) (by decide) ?_
      refine g_aload_n K dX0_isOfKind_46 rfl 0 rfl ?_
      refine g_inst (v := 0) (k := 3) (j := 1) (nm := "ChiefGrades$Lenient") K (gF_at (j := 3) hF hb hk0 (by decide)) (by decide) (by decide) rfl u_524 (by decide) dX0_isOfKind_47 ?_
      obtain rfl := Option.some.inj h
      exact hret _ _ _ _ dX0_isOfKind_50 (by decide) ⟨rfl, rfl⟩
    have h := hf9 q1; clear ht9 hf9
    obtain ⟨ht9, hf9⟩ := gi_br h; clear h
    by_cases q2 : x1 = 2
    · have h := ht9 q2; clear ht9 hf9
      refine g_tabIn (tgt := 51) K dX0_isOfKind_1 (by rw [q2]; decide) (by rw [q2]; decide) (by rw [q2]; rfl) (by decide) ?_
      refine g_aload_n K dX0_isOfKind_51 rfl 0 rfl ?_
      refine g_inst (v := 0) (k := 3) (j := 2) (nm := "ChiefGrades$Turning") K (gF_at (j := 3) hF hb hk0 (by decide)) (by decide) (by decide) rfl u_535 (by decide) dX0_isOfKind_52 ?_
      obtain rfl := Option.some.inj h
      exact hret _ _ _ _ dX0_isOfKind_55 (by decide) ⟨rfl, rfl⟩
    have h := hf9 q2; clear ht9 hf9
    obtain ⟨ht9, hf9⟩ := gi_br h; clear h
    by_cases q3 : x1 = 3
    · have h := ht9 q3; clear ht9 hf9
      refine g_tabIn (tgt := 56) K dX0_isOfKind_1 (by rw [q3]; decide) (by rw [q3]; decide) (by rw [q3]; rfl) (by decide) ?_
      refine g_aload_n K dX0_isOfKind_56 rfl 0 rfl ?_
      refine g_inst (v := 1) (k := 3) (j := 3) (nm := "ChiefGrades$Lately") K (gF_at (j := 3) hF hb hk0 (by decide)) (by decide) (by decide) rfl u_546 (by decide) dX0_isOfKind_57 ?_
      obtain rfl := Option.some.inj h
      exact hret _ _ _ _ dX0_isOfKind_60 (by decide) ⟨rfl, rfl⟩
    have h := hf9 q3; clear ht9 hf9
    obtain ⟨ht9, hf9⟩ := gi_br h; clear h
    by_cases q4 : x1 = 4
    · have h := ht9 q4; clear ht9 hf9
      refine g_tabIn (tgt := 61) K dX0_isOfKind_1 (by rw [q4]; decide) (by rw [q4]; decide) (by rw [q4]; rfl) (by decide) ?_
      refine g_aload_n K dX0_isOfKind_61 rfl 0 rfl ?_
      refine g_inst (v := 0) (k := 3) (j := 4) (nm := "ChiefGrades$Near") K (gF_at (j := 3) hF hb hk0 (by decide)) (by decide) (by decide) rfl u_557 (by decide) dX0_isOfKind_62 ?_
      obtain rfl := Option.some.inj h
      exact hret _ _ _ _ dX0_isOfKind_65 (by decide) ⟨rfl, rfl⟩
    have h := hf9 q4; clear ht9 hf9
    obtain ⟨ht9, hf9⟩ := gi_br h; clear h
    by_cases q5 : x1 = 5
    · have h := ht9 q5; clear ht9 hf9
      refine g_tabIn (tgt := 66) K dX0_isOfKind_1 (by rw [q5]; decide) (by rw [q5]; decide) (by rw [q5]; rfl) (by decide) ?_
      refine g_aload_n K dX0_isOfKind_66 rfl 0 rfl ?_
      refine g_inst (v := 0) (k := 3) (j := 5) (nm := "ChiefGrades$Keeping") K (gF_at (j := 3) hF hb hk0 (by decide)) (by decide) (by decide) rfl u_568 (by decide) dX0_isOfKind_67 ?_
      obtain rfl := Option.some.inj h
      exact hret _ _ _ _ dX0_isOfKind_70 (by decide) ⟨rfl, rfl⟩
    have h := hf9 q5; clear ht9 hf9
    obtain ⟨ht9, hf9⟩ := gi_br h; clear h
    by_cases q6 : x1 = 6
    · have h := ht9 q6; clear ht9 hf9
      refine g_tabIn (tgt := 71) K dX0_isOfKind_1 (by rw [q6]; decide) (by rw [q6]; decide) (by rw [q6]; rfl) (by decide) ?_
      refine g_aload_n K dX0_isOfKind_71 rfl 0 rfl ?_
      refine g_inst (v := 0) (k := 3) (j := 6) (nm := "ChiefGrades$Talking") K (gF_at (j := 3) hF hb hk0 (by decide)) (by decide) (by decide) rfl u_579 (by decide) dX0_isOfKind_72 ?_
      obtain rfl := Option.some.inj h
      exact hret _ _ _ _ dX0_isOfKind_75 (by decide) ⟨rfl, rfl⟩
    have h := hf9 q6; clear ht9 hf9
    refine g_tabOut (tgt := 76) K dX0_isOfKind_1 (by have t0 := gi_ne (z := 0) q0 (by decide); have t1 := gi_ne (z := 1) q1 (by decide); have t2 := gi_ne (z := 2) q2 (by decide); have t3 := gi_ne (z := 3) q3 (by decide); have t4 := gi_ne (z := 4) q4 (by decide); have t5 := gi_ne (z := 5) q5 (by decide); have t6 := gi_ne (z := 6) q6 (by decide); omega) (by decide) ?_
    refine g_iconst (v := 0) K dX0_isOfKind_76 (by decide) ?_
    obtain rfl := Option.some.inj h
    exact hret _ _ _ _ dX0_isOfKind_77 (by decide) ⟨rfl, rfl⟩

set_option maxRecDepth 100000 in
theorem ctX0_isOfKind_k3 {E : gE} {q : Nat → Nat} {r : Nat → Nat → Nat} {F : gF} (hF : gFz E F) {b0 : Nat} (hb : chv F b0 = true) (hk0 : ck F b0 = 3) (o0 : Nat → Int32) (A0 : Nat → Nat → Int32) (C0 : Nat → Option Nat) (h0 : Nat) (o1 : Nat → Int32) (A1 : Nat → Nat → Int32) (C1 : Nat → Option Nat) (h1 : Nat) (o2 : Nat → Int32) (A2 : Nat → Nat → Int32) (C2 : Nat → Option Nat) (h2 : Nat) (gs0 : Int32) (gA : Nat → Nat → Int32) (tb0 : Int32) (tA0 bf0 : Nat → Int32) (hi0 : Int32) (x1 : Int32) {res : Int32} (h : pX0_isOfKind_k3 x1 = some res) : gMi yX0_isOfKind (.code yX0_isOfKind cX0_isOfKind 2 (some .boolean) :: gU) ({ frames := 4, cells := 0, slots := 0, locals := 150 } : Room) 0 0 E [.ref b0, .int x1] (cw E q r (gpl F) o0 A0 C0 h0 o1 A1 C1 h1 o2 A2 C2 h2 gs0 gA tb0 tA0 bf0 hi0) (fun v w => v = res ∧ w = cw E q r (gpl F) o0 A0 C0 h0 o1 A1 C1 h1 o2 A2 C2 h2 gs0 gA tb0 tA0 bf0 hi0) := by
  refine g_met_i (by decide +kernel) (Nat.le_of_ble_eq_true rfl) (fun Γ K hn hE hRm _ hret => ?_)
  subst hE
  have hlt : ∀ i, i < 2 → i < g_n Γ := fun i q => by rw [hn]; exact q
  refine g_sub (L' := [(0, .ref b0), (1, .int x1)]) [0, 1] rfl ?_
  exact wX0_isOfKind_k3 (C0 := C0) (h0 := h0) (C1 := C1) (h1 := h1) (C2 := C2) (h2 := h2) (gs0 := gs0) (tb0 := tb0) (tA0 := tA0) (bf0 := bf0) (hi0 := hi0) hF hb hk0 K hlt hRm hret x1 h

set_option maxHeartbeats 4000000 in
set_option maxRecDepth 100000 in
theorem wX0_isOfKind_k4 {Γ : gT} {q : Nat → Nat} {r : Nat → Nat → Nat} {F : gF} (hF : gFz (g_E Γ) F) {o0 : Nat → Int32} {A0 : Nat → Nat → Int32} {C0 : Nat → Option Nat} {h0 : Nat} {o1 : Nat → Int32} {A1 : Nat → Nat → Int32} {C1 : Nat → Option Nat} {h1 : Nat} {o2 : Nat → Int32} {A2 : Nat → Nat → Int32} {C2 : Nat → Option Nat} {h2 : Nat} {gs0 : Int32} {gA : Nat → Nat → Int32} {tb0 : Int32} {tA0 bf0 : Nat → Int32} {hi0 : Int32} {b0 : Nat} (hb : chv F b0 = true) (hk0 : ck F b0 = 4) (K : gOK Γ cX0_isOfKind gU RX0) (hlt : ∀ i, i < 2 → i < g_n Γ) (hRm : g_R Γ = ({ frames := 4, cells := 0, slots := 0, locals := 150 } : Room)) {res : Int32} (hret : ∀ (pc : Nat) (L : List (Nat × Value)) (v : Int32) (w : va_W), decode cX0_isOfKind pc = .ok (.ireturn, 1) → narrow .boolean (.int v) = .int v → (v = res ∧ w = cw (g_E Γ) q r (gpl F) o0 A0 C0 h0 o1 A1 C1 h1 o2 A2 C2 h2 gs0 gA tb0 tA0 bf0 hi0) → gGO Γ 0 0 pc L [.int v] w) (x1 : Int32) (h : pX0_isOfKind_k4 x1 = some res) : gGO Γ 0 0 0 [(0, .ref b0), (1, .int x1)] [] (cw (g_E Γ) q r (gpl F) o0 A0 C0 h0 o1 A1 C1 h1 o2 A2 C2 h2 gs0 gA tb0 tA0 bf0 hi0) := by
    unfold pX0_isOfKind_k4 at h
    refine g_iload_n K dX0_isOfKind_0 rfl 1 rfl ?_
    obtain ⟨ht9, hf9⟩ := gi_br h; clear h
    by_cases q0 : x1 = 0
    · have h := ht9 q0; clear ht9 hf9
      refine g_tabIn (tgt := 44) K dX0_isOfKind_1 (by rw [q0]; decide) (by rw [q0]; decide) (by rw [q0]; rfl) (by decide) ?_
      refine g_iconst (v := 1) K dX0_isOfKind_44 (by decide) ?_
      obtain rfl := Option.some.inj h
      exact hret _ _ _ _ dX0_isOfKind_45 (by decide) ⟨rfl, rfl⟩
    have h := hf9 q0; clear ht9 hf9
    obtain ⟨ht9, hf9⟩ := gi_br h; clear h
    by_cases q1 : x1 = 1
    · have h := ht9 q1; clear ht9 hf9
      refine g_tabIn (tgt := 46) K dX0_isOfKind_1 (by rw [q1]; decide) (by rw [q1]; decide) (by rw [q1]; rfl) (by decide) ?_
      refine g_aload_n K dX0_isOfKind_46 rfl 0 rfl ?_
      refine g_inst (v := 1) (k := 4) (j := 1) (nm := "ChiefGrades$Lenient") K (gF_at (j := 4) hF hb hk0 (by decide)) (by decide) (by decide) rfl u_524 (by decide) dX0_isOfKind_47 ?_
      obtain rfl := Option.some.inj h
      exact hret _ _ _ _ dX0_isOfKind_50 (by decide) ⟨rfl, rfl⟩
    have h := hf9 q1; clear ht9 hf9
    obtain ⟨ht9, hf9⟩ := gi_br h; clear h
    by_cases q2 : x1 = 2
    · have h := ht9 q2; clear ht9 hf9
      refine g_tabIn (tgt := 51) K dX0_isOfKind_1 (by rw [q2]; decide) (by rw [q2]; decide) (by rw [q2]; rfl) (by decide) ?_
      refine g_aload_n K dX0_isOfKind_51 rfl 0 rfl ?_
      refine g_inst (v := 0) (k := 4) (j := 2) (nm := "ChiefGrades$Turning") K (gF_at (j := 4) hF hb hk0 (by decide)) (by decide) (by decide) rfl u_535 (by decide) dX0_isOfKind_52 ?_
      obtain rfl := Option.some.inj h
      exact hret _ _ _ _ dX0_isOfKind_55 (by decide) ⟨rfl, rfl⟩
    have h := hf9 q2; clear ht9 hf9
    obtain ⟨ht9, hf9⟩ := gi_br h; clear h
    by_cases q3 : x1 = 3
    · have h := ht9 q3; clear ht9 hf9
      refine g_tabIn (tgt := 56) K dX0_isOfKind_1 (by rw [q3]; decide) (by rw [q3]; decide) (by rw [q3]; rfl) (by decide) ?_
      refine g_aload_n K dX0_isOfKind_56 rfl 0 rfl ?_
      refine g_inst (v := 0) (k := 4) (j := 3) (nm := "ChiefGrades$Lately") K (gF_at (j := 4) hF hb hk0 (by decide)) (by decide) (by decide) rfl u_546 (by decide) dX0_isOfKind_57 ?_
      obtain rfl := Option.some.inj h
      exact hret _ _ _ _ dX0_isOfKind_60 (by decide) ⟨rfl, rfl⟩
    have h := hf9 q3; clear ht9 hf9
    obtain ⟨ht9, hf9⟩ := gi_br h; clear h
    by_cases q4 : x1 = 4
    · have h := ht9 q4; clear ht9 hf9
      refine g_tabIn (tgt := 61) K dX0_isOfKind_1 (by rw [q4]; decide) (by rw [q4]; decide) (by rw [q4]; rfl) (by decide) ?_
      refine g_aload_n K dX0_isOfKind_61 rfl 0 rfl ?_
      refine g_inst (v := 1) (k := 4) (j := 4) (nm := "ChiefGrades$Near") K (gF_at (j := 4) hF hb hk0 (by decide)) (by decide) (by decide) rfl u_557 (by decide) dX0_isOfKind_62 ?_
      obtain rfl := Option.some.inj h
      exact hret _ _ _ _ dX0_isOfKind_65 (by decide) ⟨rfl, rfl⟩
    have h := hf9 q4; clear ht9 hf9
    obtain ⟨ht9, hf9⟩ := gi_br h; clear h
    by_cases q5 : x1 = 5
    · have h := ht9 q5; clear ht9 hf9
      refine g_tabIn (tgt := 66) K dX0_isOfKind_1 (by rw [q5]; decide) (by rw [q5]; decide) (by rw [q5]; rfl) (by decide) ?_
      refine g_aload_n K dX0_isOfKind_66 rfl 0 rfl ?_
      refine g_inst (v := 0) (k := 4) (j := 5) (nm := "ChiefGrades$Keeping") K (gF_at (j := 4) hF hb hk0 (by decide)) (by decide) (by decide) rfl u_568 (by decide) dX0_isOfKind_67 ?_
      obtain rfl := Option.some.inj h
      exact hret _ _ _ _ dX0_isOfKind_70 (by decide) ⟨rfl, rfl⟩
    have h := hf9 q5; clear ht9 hf9
    obtain ⟨ht9, hf9⟩ := gi_br h; clear h
    by_cases q6 : x1 = 6
    · have h := ht9 q6; clear ht9 hf9
      refine g_tabIn (tgt := 71) K dX0_isOfKind_1 (by rw [q6]; decide) (by rw [q6]; decide) (by rw [q6]; rfl) (by decide) ?_
      refine g_aload_n K dX0_isOfKind_71 rfl 0 rfl ?_
      refine g_inst (v := 0) (k := 4) (j := 6) (nm := "ChiefGrades$Talking") K (gF_at (j := 4) hF hb hk0 (by decide)) (by decide) (by decide) rfl u_579 (by decide) dX0_isOfKind_72 ?_
      obtain rfl := Option.some.inj h
      exact hret _ _ _ _ dX0_isOfKind_75 (by decide) ⟨rfl, rfl⟩
    have h := hf9 q6; clear ht9 hf9
    refine g_tabOut (tgt := 76) K dX0_isOfKind_1 (by have t0 := gi_ne (z := 0) q0 (by decide); have t1 := gi_ne (z := 1) q1 (by decide); have t2 := gi_ne (z := 2) q2 (by decide); have t3 := gi_ne (z := 3) q3 (by decide); have t4 := gi_ne (z := 4) q4 (by decide); have t5 := gi_ne (z := 5) q5 (by decide); have t6 := gi_ne (z := 6) q6 (by decide); omega) (by decide) ?_
    refine g_iconst (v := 0) K dX0_isOfKind_76 (by decide) ?_
    obtain rfl := Option.some.inj h
    exact hret _ _ _ _ dX0_isOfKind_77 (by decide) ⟨rfl, rfl⟩

set_option maxRecDepth 100000 in
theorem ctX0_isOfKind_k4 {E : gE} {q : Nat → Nat} {r : Nat → Nat → Nat} {F : gF} (hF : gFz E F) {b0 : Nat} (hb : chv F b0 = true) (hk0 : ck F b0 = 4) (o0 : Nat → Int32) (A0 : Nat → Nat → Int32) (C0 : Nat → Option Nat) (h0 : Nat) (o1 : Nat → Int32) (A1 : Nat → Nat → Int32) (C1 : Nat → Option Nat) (h1 : Nat) (o2 : Nat → Int32) (A2 : Nat → Nat → Int32) (C2 : Nat → Option Nat) (h2 : Nat) (gs0 : Int32) (gA : Nat → Nat → Int32) (tb0 : Int32) (tA0 bf0 : Nat → Int32) (hi0 : Int32) (x1 : Int32) {res : Int32} (h : pX0_isOfKind_k4 x1 = some res) : gMi yX0_isOfKind (.code yX0_isOfKind cX0_isOfKind 2 (some .boolean) :: gU) ({ frames := 4, cells := 0, slots := 0, locals := 150 } : Room) 0 0 E [.ref b0, .int x1] (cw E q r (gpl F) o0 A0 C0 h0 o1 A1 C1 h1 o2 A2 C2 h2 gs0 gA tb0 tA0 bf0 hi0) (fun v w => v = res ∧ w = cw E q r (gpl F) o0 A0 C0 h0 o1 A1 C1 h1 o2 A2 C2 h2 gs0 gA tb0 tA0 bf0 hi0) := by
  refine g_met_i (by decide +kernel) (Nat.le_of_ble_eq_true rfl) (fun Γ K hn hE hRm _ hret => ?_)
  subst hE
  have hlt : ∀ i, i < 2 → i < g_n Γ := fun i q => by rw [hn]; exact q
  refine g_sub (L' := [(0, .ref b0), (1, .int x1)]) [0, 1] rfl ?_
  exact wX0_isOfKind_k4 (C0 := C0) (h0 := h0) (C1 := C1) (h1 := h1) (C2 := C2) (h2 := h2) (gs0 := gs0) (tb0 := tb0) (tA0 := tA0) (bf0 := bf0) (hi0 := hi0) hF hb hk0 K hlt hRm hret x1 h

set_option maxHeartbeats 4000000 in
set_option maxRecDepth 100000 in
theorem wX0_isOfKind_k5 {Γ : gT} {q : Nat → Nat} {r : Nat → Nat → Nat} {F : gF} (hF : gFz (g_E Γ) F) {o0 : Nat → Int32} {A0 : Nat → Nat → Int32} {C0 : Nat → Option Nat} {h0 : Nat} {o1 : Nat → Int32} {A1 : Nat → Nat → Int32} {C1 : Nat → Option Nat} {h1 : Nat} {o2 : Nat → Int32} {A2 : Nat → Nat → Int32} {C2 : Nat → Option Nat} {h2 : Nat} {gs0 : Int32} {gA : Nat → Nat → Int32} {tb0 : Int32} {tA0 bf0 : Nat → Int32} {hi0 : Int32} {b0 : Nat} (hb : chv F b0 = true) (hk0 : ck F b0 = 5) (K : gOK Γ cX0_isOfKind gU RX0) (hlt : ∀ i, i < 2 → i < g_n Γ) (hRm : g_R Γ = ({ frames := 4, cells := 0, slots := 0, locals := 150 } : Room)) {res : Int32} (hret : ∀ (pc : Nat) (L : List (Nat × Value)) (v : Int32) (w : va_W), decode cX0_isOfKind pc = .ok (.ireturn, 1) → narrow .boolean (.int v) = .int v → (v = res ∧ w = cw (g_E Γ) q r (gpl F) o0 A0 C0 h0 o1 A1 C1 h1 o2 A2 C2 h2 gs0 gA tb0 tA0 bf0 hi0) → gGO Γ 0 0 pc L [.int v] w) (x1 : Int32) (h : pX0_isOfKind_k5 x1 = some res) : gGO Γ 0 0 0 [(0, .ref b0), (1, .int x1)] [] (cw (g_E Γ) q r (gpl F) o0 A0 C0 h0 o1 A1 C1 h1 o2 A2 C2 h2 gs0 gA tb0 tA0 bf0 hi0) := by
    unfold pX0_isOfKind_k5 at h
    refine g_iload_n K dX0_isOfKind_0 rfl 1 rfl ?_
    obtain ⟨ht9, hf9⟩ := gi_br h; clear h
    by_cases q0 : x1 = 0
    · have h := ht9 q0; clear ht9 hf9
      refine g_tabIn (tgt := 44) K dX0_isOfKind_1 (by rw [q0]; decide) (by rw [q0]; decide) (by rw [q0]; rfl) (by decide) ?_
      refine g_iconst (v := 1) K dX0_isOfKind_44 (by decide) ?_
      obtain rfl := Option.some.inj h
      exact hret _ _ _ _ dX0_isOfKind_45 (by decide) ⟨rfl, rfl⟩
    have h := hf9 q0; clear ht9 hf9
    obtain ⟨ht9, hf9⟩ := gi_br h; clear h
    by_cases q1 : x1 = 1
    · have h := ht9 q1; clear ht9 hf9
      refine g_tabIn (tgt := 46) K dX0_isOfKind_1 (by rw [q1]; decide) (by rw [q1]; decide) (by rw [q1]; rfl) (by decide) ?_
      refine g_aload_n K dX0_isOfKind_46 rfl 0 rfl ?_
      refine g_inst (v := 0) (k := 5) (j := 1) (nm := "ChiefGrades$Lenient") K (gF_at (j := 5) hF hb hk0 (by decide)) (by decide) (by decide) rfl u_524 (by decide) dX0_isOfKind_47 ?_
      obtain rfl := Option.some.inj h
      exact hret _ _ _ _ dX0_isOfKind_50 (by decide) ⟨rfl, rfl⟩
    have h := hf9 q1; clear ht9 hf9
    obtain ⟨ht9, hf9⟩ := gi_br h; clear h
    by_cases q2 : x1 = 2
    · have h := ht9 q2; clear ht9 hf9
      refine g_tabIn (tgt := 51) K dX0_isOfKind_1 (by rw [q2]; decide) (by rw [q2]; decide) (by rw [q2]; rfl) (by decide) ?_
      refine g_aload_n K dX0_isOfKind_51 rfl 0 rfl ?_
      refine g_inst (v := 1) (k := 5) (j := 2) (nm := "ChiefGrades$Turning") K (gF_at (j := 5) hF hb hk0 (by decide)) (by decide) (by decide) rfl u_535 (by decide) dX0_isOfKind_52 ?_
      obtain rfl := Option.some.inj h
      exact hret _ _ _ _ dX0_isOfKind_55 (by decide) ⟨rfl, rfl⟩
    have h := hf9 q2; clear ht9 hf9
    obtain ⟨ht9, hf9⟩ := gi_br h; clear h
    by_cases q3 : x1 = 3
    · have h := ht9 q3; clear ht9 hf9
      refine g_tabIn (tgt := 56) K dX0_isOfKind_1 (by rw [q3]; decide) (by rw [q3]; decide) (by rw [q3]; rfl) (by decide) ?_
      refine g_aload_n K dX0_isOfKind_56 rfl 0 rfl ?_
      refine g_inst (v := 0) (k := 5) (j := 3) (nm := "ChiefGrades$Lately") K (gF_at (j := 5) hF hb hk0 (by decide)) (by decide) (by decide) rfl u_546 (by decide) dX0_isOfKind_57 ?_
      obtain rfl := Option.some.inj h
      exact hret _ _ _ _ dX0_isOfKind_60 (by decide) ⟨rfl, rfl⟩
    have h := hf9 q3; clear ht9 hf9
    obtain ⟨ht9, hf9⟩ := gi_br h; clear h
    by_cases q4 : x1 = 4
    · have h := ht9 q4; clear ht9 hf9
      refine g_tabIn (tgt := 61) K dX0_isOfKind_1 (by rw [q4]; decide) (by rw [q4]; decide) (by rw [q4]; rfl) (by decide) ?_
      refine g_aload_n K dX0_isOfKind_61 rfl 0 rfl ?_
      refine g_inst (v := 0) (k := 5) (j := 4) (nm := "ChiefGrades$Near") K (gF_at (j := 5) hF hb hk0 (by decide)) (by decide) (by decide) rfl u_557 (by decide) dX0_isOfKind_62 ?_
      obtain rfl := Option.some.inj h
      exact hret _ _ _ _ dX0_isOfKind_65 (by decide) ⟨rfl, rfl⟩
    have h := hf9 q4; clear ht9 hf9
    obtain ⟨ht9, hf9⟩ := gi_br h; clear h
    by_cases q5 : x1 = 5
    · have h := ht9 q5; clear ht9 hf9
      refine g_tabIn (tgt := 66) K dX0_isOfKind_1 (by rw [q5]; decide) (by rw [q5]; decide) (by rw [q5]; rfl) (by decide) ?_
      refine g_aload_n K dX0_isOfKind_66 rfl 0 rfl ?_
      refine g_inst (v := 1) (k := 5) (j := 5) (nm := "ChiefGrades$Keeping") K (gF_at (j := 5) hF hb hk0 (by decide)) (by decide) (by decide) rfl u_568 (by decide) dX0_isOfKind_67 ?_
      obtain rfl := Option.some.inj h
      exact hret _ _ _ _ dX0_isOfKind_70 (by decide) ⟨rfl, rfl⟩
    have h := hf9 q5; clear ht9 hf9
    obtain ⟨ht9, hf9⟩ := gi_br h; clear h
    by_cases q6 : x1 = 6
    · have h := ht9 q6; clear ht9 hf9
      refine g_tabIn (tgt := 71) K dX0_isOfKind_1 (by rw [q6]; decide) (by rw [q6]; decide) (by rw [q6]; rfl) (by decide) ?_
      refine g_aload_n K dX0_isOfKind_71 rfl 0 rfl ?_
      refine g_inst (v := 0) (k := 5) (j := 6) (nm := "ChiefGrades$Talking") K (gF_at (j := 5) hF hb hk0 (by decide)) (by decide) (by decide) rfl u_579 (by decide) dX0_isOfKind_72 ?_
      obtain rfl := Option.some.inj h
      exact hret _ _ _ _ dX0_isOfKind_75 (by decide) ⟨rfl, rfl⟩
    have h := hf9 q6; clear ht9 hf9
    refine g_tabOut (tgt := 76) K dX0_isOfKind_1 (by have t0 := gi_ne (z := 0) q0 (by decide); have t1 := gi_ne (z := 1) q1 (by decide); have t2 := gi_ne (z := 2) q2 (by decide); have t3 := gi_ne (z := 3) q3 (by decide); have t4 := gi_ne (z := 4) q4 (by decide); have t5 := gi_ne (z := 5) q5 (by decide); have t6 := gi_ne (z := 6) q6 (by decide); omega) (by decide) ?_
    refine g_iconst (v := 0) K dX0_isOfKind_76 (by decide) ?_
    obtain rfl := Option.some.inj h
    exact hret _ _ _ _ dX0_isOfKind_77 (by decide) ⟨rfl, rfl⟩

set_option maxRecDepth 100000 in
theorem ctX0_isOfKind_k5 {E : gE} {q : Nat → Nat} {r : Nat → Nat → Nat} {F : gF} (hF : gFz E F) {b0 : Nat} (hb : chv F b0 = true) (hk0 : ck F b0 = 5) (o0 : Nat → Int32) (A0 : Nat → Nat → Int32) (C0 : Nat → Option Nat) (h0 : Nat) (o1 : Nat → Int32) (A1 : Nat → Nat → Int32) (C1 : Nat → Option Nat) (h1 : Nat) (o2 : Nat → Int32) (A2 : Nat → Nat → Int32) (C2 : Nat → Option Nat) (h2 : Nat) (gs0 : Int32) (gA : Nat → Nat → Int32) (tb0 : Int32) (tA0 bf0 : Nat → Int32) (hi0 : Int32) (x1 : Int32) {res : Int32} (h : pX0_isOfKind_k5 x1 = some res) : gMi yX0_isOfKind (.code yX0_isOfKind cX0_isOfKind 2 (some .boolean) :: gU) ({ frames := 4, cells := 0, slots := 0, locals := 150 } : Room) 0 0 E [.ref b0, .int x1] (cw E q r (gpl F) o0 A0 C0 h0 o1 A1 C1 h1 o2 A2 C2 h2 gs0 gA tb0 tA0 bf0 hi0) (fun v w => v = res ∧ w = cw E q r (gpl F) o0 A0 C0 h0 o1 A1 C1 h1 o2 A2 C2 h2 gs0 gA tb0 tA0 bf0 hi0) := by
  refine g_met_i (by decide +kernel) (Nat.le_of_ble_eq_true rfl) (fun Γ K hn hE hRm _ hret => ?_)
  subst hE
  have hlt : ∀ i, i < 2 → i < g_n Γ := fun i q => by rw [hn]; exact q
  refine g_sub (L' := [(0, .ref b0), (1, .int x1)]) [0, 1] rfl ?_
  exact wX0_isOfKind_k5 (C0 := C0) (h0 := h0) (C1 := C1) (h1 := h1) (C2 := C2) (h2 := h2) (gs0 := gs0) (tb0 := tb0) (tA0 := tA0) (bf0 := bf0) (hi0 := hi0) hF hb hk0 K hlt hRm hret x1 h

