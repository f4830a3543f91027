set_option maxHeartbeats 4000000 in
set_option maxRecDepth 100000 in
theorem wX0_isOfKind_k6 {Γ : gT} {q : Nat → Nat} {r : Nat → Nat → Nat} {F : gF} (hF : gFz (g_E Γ) F) {o0 : Nat → Int32} {A0 : Nat → Nat → Int32} {C0 : Nat → Option Nat} {h0 : Nat} {o1 : Nat → Int32} {A1 : Nat → Nat → Int32} {C1 : Nat → Option Nat} {h1 : Nat} {o2 : Nat → Int32} {A2 : Nat → Nat → Int32} {C2 : Nat → Option Nat} {h2 : Nat} {gs0 : Int32} {gA : Nat → Nat → Int32} {tb0 : Int32} {tA0 bf0 : Nat → Int32} {hi0 : Int32} {b0 : Nat} (hb : chv F b0 = true) (hk0 : ck F b0 = 6) (K : gOK Γ cX0_isOfKind gU RX0) (hlt : ∀ i, i < 2 → i < g_n Γ) (hRm : g_R Γ = ({ frames := 4, cells := 0, slots := 0, locals := 150 } : Room)) {res : Int32} (hret : ∀ (pc : Nat) (L : List (Nat × Value)) (v : Int32) (w : va_W), decode cX0_isOfKind pc = .ok (.ireturn, 1) → narrow .boolean (.int v) = .int v → (v = res ∧ w = cw (g_E Γ) q r (gpl F) o0 A0 C0 h0 o1 A1 C1 h1 o2 A2 C2 h2 gs0 gA tb0 tA0 bf0 hi0) → gGO Γ 0 0 pc L [.int v] w) (x1 : Int32) (h : pX0_isOfKind_k6 x1 = some res) : gGO Γ 0 0 0 [(0, .ref b0), (1, .int x1)] [] (cw (g_E Γ) q r (gpl F) o0 A0 C0 h0 o1 A1 C1 h1 o2 A2 C2 h2 gs0 gA tb0 tA0 bf0 hi0) := by
    unfold pX0_isOfKind_k6 at h
    refine g_iload_n K dX0_isOfKind_0 rfl 1 rfl ?_
    obtain ⟨ht9, hf9⟩ := gi_br h; clear h
    by_cases q0 : x1 = 0
    · have h := ht9 q0; clear ht9 hf9
      refine g_tabIn (tgt := 44) K dX0_isOfKind_1 (by rw [q0]; decide) (by rw [q0]; decide) (by rw [q0]; rfl) (by decide) ?_
      refine g_iconst (v := 1) K dX0_isOfKind_44 (by decide) ?_
      obtain rfl := Option.some.inj h
      exact hret _ _ _ _ dX0_isOfKind_45 (by decide) ⟨rfl, rfl⟩
    have h := hf9 q0; clear ht9 hf9
    obtain ⟨ht9, hf9⟩ := gi_br h; clear h
    by_cases q1 : x1 = 1
    · have h := ht9 q1; clear ht9 hf9
      refine g_tabIn (tgt := 46) K dX0_isOfKind_1 (by rw [q1]; decide) (by rw [q1]; decide) (by rw [q1]; rfl) (by decide) ?_
      refine g_aload_n K dX0_isOfKind_46 rfl 0 rfl ?_
      refine g_inst (v := 0) (k := 6) (j := 1) (nm := "ChiefGrades$Lenient") K (gF_at (j := 6) hF hb hk0 (by decide)) (by decide) (by decide) rfl u_524 (by decide) dX0_isOfKind_47 ?_
      obtain rfl := Option.some.inj h
      exact hret _ _ _ _ dX0_isOfKind_50 (by decide) ⟨rfl, rfl⟩
    have h := hf9 q1; clear ht9 hf9
    obtain ⟨ht9, hf9⟩ := gi_br h; clear h
    by_cases q2 : x1 = 2
    · have h := ht9 q2; clear ht9 hf9
      refine g_tabIn (tgt := 51) K dX0_isOfKind_1 (by rw [q2]; decide) (by rw [q2]; decide) (by rw [q2]; rfl) (by decide) ?_
      refine g_aload_n K dX0_isOfKind_51 rfl 0 rfl ?_
      refine g_inst (v := 0) (k := 6) (j := 2) (nm := "ChiefGrades$Turning") K (gF_at (j := 6) hF hb hk0 (by decide)) (by decide) (by decide) rfl u_535 (by decide) dX0_isOfKind_52 ?_
      obtain rfl := Option.some.inj h
      exact hret _ _ _ _ dX0_isOfKind_55 (by decide) ⟨rfl, rfl⟩
    have h := hf9 q2; clear ht9 hf9
    obtain ⟨ht9, hf9⟩ := gi_br h; clear h
    by_cases q3 : x1 = 3
    · have h := ht9 q3; clear ht9 hf9
      refine g_tabIn (tgt := 56) K dX0_isOfKind_1 (by rw [q3]; decide) (by rw [q3]; decide) (by rw [q3]; rfl) (by decide) ?_
      refine g_aload_n K dX0_isOfKind_56 rfl 0 rfl ?_
      refine g_inst (v := 1) (k := 6) (j := 3) (nm := "ChiefGrades$Lately") K (gF_at (j := 6) hF hb hk0 (by decide)) (by decide) (by decide) rfl u_546 (by decide) dX0_isOfKind_57 ?_
      obtain rfl := Option.some.inj h
      exact hret _ _ _ _ dX0_isOfKind_60 (by decide) ⟨rfl, rfl⟩
    have h := hf9 q3; clear ht9 hf9
    obtain ⟨ht9, hf9⟩ := gi_br h; clear h
    by_cases q4 : x1 = 4
    · have h := ht9 q4; clear ht9 hf9
      refine g_tabIn (tgt := 61) K dX0_isOfKind_1 (by rw [q4]; decide) (by rw [q4]; decide) (by rw [q4]; rfl) (by decide) ?_
      refine g_aload_n K dX0_isOfKind_61 rfl 0 rfl ?_
      refine g_inst (v := 0) (k := 6) (j := 4) (nm := "ChiefGrades$Near") K (gF_at (j := 6) hF hb hk0 (by decide)) (by decide) (by decide) rfl u_557 (by decide) dX0_isOfKind_62 ?_
      obtain rfl := Option.some.inj h
      exact hret _ _ _ _ dX0_isOfKind_65 (by decide) ⟨rfl, rfl⟩
    have h := hf9 q4; clear ht9 hf9
    obtain ⟨ht9, hf9⟩ := gi_br h; clear h
    by_cases q5 : x1 = 5
    · have h := ht9 q5; clear ht9 hf9
      refine g_tabIn (tgt := 66) K dX0_isOfKind_1 (by rw [q5]; decide) (by rw [q5]; decide) (by rw [q5]; rfl) (by decide) ?_
      refine g_aload_n K dX0_isOfKind_66 rfl 0 rfl ?_
      refine g_inst (v := 0) (k := 6) (j := 5) (nm := "ChiefGrades$Keeping") K (gF_at (j := 6) hF hb hk0 (by decide)) (by decide) (by decide) rfl u_568 (by decide) dX0_isOfKind_67 ?_
      obtain rfl := Option.some.inj h
      exact hret _ _ _ _ dX0_isOfKind_70 (by decide) ⟨rfl, rfl⟩
    have h := hf9 q5; clear ht9 hf9
    obtain ⟨ht9, hf9⟩ := gi_br h; clear h
    by_cases q6 : x1 = 6
    · have h := ht9 q6; clear ht9 hf9
      refine g_tabIn (tgt := 71) K dX0_isOfKind_1 (by rw [q6]; decide) (by rw [q6]; decide) (by rw [q6]; rfl) (by decide) ?_
      refine g_aload_n K dX0_isOfKind_71 rfl 0 rfl ?_
      refine g_inst (v := 1) (k := 6) (j := 6) (nm := "ChiefGrades$Talking") K (gF_at (j := 6) hF hb hk0 (by decide)) (by decide) (by decide) rfl u_579 (by decide) dX0_isOfKind_72 ?_
      obtain rfl := Option.some.inj h
      exact hret _ _ _ _ dX0_isOfKind_75 (by decide) ⟨rfl, rfl⟩
    have h := hf9 q6; clear ht9 hf9
    refine g_tabOut (tgt := 76) K dX0_isOfKind_1 (by have t0 := gi_ne (z := 0) q0 (by decide); have t1 := gi_ne (z := 1) q1 (by decide); have t2 := gi_ne (z := 2) q2 (by decide); have t3 := gi_ne (z := 3) q3 (by decide); have t4 := gi_ne (z := 4) q4 (by decide); have t5 := gi_ne (z := 5) q5 (by decide); have t6 := gi_ne (z := 6) q6 (by decide); omega) (by decide) ?_
    refine g_iconst (v := 0) K dX0_isOfKind_76 (by decide) ?_
    obtain rfl := Option.some.inj h
    exact hret _ _ _ _ dX0_isOfKind_77 (by decide) ⟨rfl, rfl⟩

set_option maxRecDepth 100000 in
theorem ctX0_isOfKind_k6 {E : gE} {q : Nat → Nat} {r : Nat → Nat → Nat} {F : gF} (hF : gFz E F) {b0 : Nat} (hb : chv F b0 = true) (hk0 : ck F b0 = 6) (o0 : Nat → Int32) (A0 : Nat → Nat → Int32) (C0 : Nat → Option Nat) (h0 : Nat) (o1 : Nat → Int32) (A1 : Nat → Nat → Int32) (C1 : Nat → Option Nat) (h1 : Nat) (o2 : Nat → Int32) (A2 : Nat → Nat → Int32) (C2 : Nat → Option Nat) (h2 : Nat) (gs0 : Int32) (gA : Nat → Nat → Int32) (tb0 : Int32) (tA0 bf0 : Nat → Int32) (hi0 : Int32) (x1 : Int32) {res : Int32} (h : pX0_isOfKind_k6 x1 = some res) : gMi yX0_isOfKind (.code yX0_isOfKind cX0_isOfKind 2 (some .boolean) :: gU) ({ frames := 4, cells := 0, slots := 0, locals := 150 } : Room) 0 0 E [.ref b0, .int x1] (cw E q r (gpl F) o0 A0 C0 h0 o1 A1 C1 h1 o2 A2 C2 h2 gs0 gA tb0 tA0 bf0 hi0) (fun v w => v = res ∧ w = cw E q r (gpl F) o0 A0 C0 h0 o1 A1 C1 h1 o2 A2 C2 h2 gs0 gA tb0 tA0 bf0 hi0) := by
  refine g_met_i (by decide +kernel) (Nat.le_of_ble_eq_true rfl) (fun Γ K hn hE hRm _ hret => ?_)
  subst hE
  have hlt : ∀ i, i < 2 → i < g_n Γ := fun i q => by rw [hn]; exact q
  refine g_sub (L' := [(0, .ref b0), (1, .int x1)]) [0, 1] rfl ?_
  exact wX0_isOfKind_k6 (C0 := C0) (h0 := h0) (C1 := C1) (h1 := h1) (C2 := C2) (h2 := h2) (gs0 := gs0) (tb0 := tb0) (tA0 := tA0) (bf0 := bf0) (hi0 := hi0) hF hb hk0 K hlt hRm hret x1 h

set_option maxHeartbeats 4000000 in
set_option maxRecDepth 100000 in
theorem wX11_as {Γ : gT} {q : Nat → Nat} {r : Nat → Nat → Nat} {F : gF} (hF : gFz (g_E Γ) F) {o0 : Nat → Int32} {A0 : Nat → Nat → Int32} {C0 : Nat → Option Nat} {h0 : Nat} {o1 : Nat → Int32} {A1 : Nat → Nat → Int32} {C1 : Nat → Option Nat} {h1 : Nat} {o2 : Nat → Int32} {A2 : Nat → Nat → Int32} {C2 : Nat → Option Nat} {h2 : Nat} {gs0 : Int32} {gA : Nat → Nat → Int32} {tb0 : Int32} {tA0 bf0 : Nat → Int32} {hi0 : Int32} (K : gOK Γ cX11_as gU RX11) (hlt : ∀ i, i < 4 → i < g_n Γ) (hRm : g_R Γ = ({ frames := 5, cells := 0, slots := 0, locals := 171 } : Room)) {res : Int32} (hret : ∀ (pc : Nat) (L : List (Nat × Value)) (v : Int32) (w : va_W), decode cX11_as pc = .ok (.ireturn, 1) → narrow .int (.int v) = .int v → (v = res ∧ w = cw (g_E Γ) q r (gpl F) o0 A0 C0 h0 o1 A1 C1 h1 o2 A2 C2 h2 gs0 gA tb0 tA0 bf0 hi0) → gGO Γ 0 0 pc L [.int v] w) (x1 : Int32) (x2 : Int32) (h : pX11_as F (o0 1) C0 x1 x2 = some res) : gGO Γ 0 0 0 [(0, .ref (q 5)), (1, .int x1), (2, .int x2)] [] (cw (g_E Γ) q r (gpl F) o0 A0 C0 h0 o1 A1 C1 h1 o2 A2 C2 h2 gs0 gA tb0 tA0 bf0 hi0) := by
    unfold pX11_as at h
    refine g_aload_n K dX11_as_0 rfl 0 rfl ?_
    refine g_get (v := .ref (q 0)) (T := TX11) (ref := "ChiefGrades") K hin_X11 0 rfl rfl 0 (by decide) u_324 (Or.inl rfl) rfl dX11_as_1 ?_
    refine g_iload_n K dX11_as_4 rfl 1 rfl ?_
    obtain ⟨z_1, hz_1, h⟩ := gi_bd h
    refine g_callVq (As := [.int x1]) (bytes := cX10_chiefAt) (maxL := 2) (ret := (some (.object "ChiefGrades$Chief"))) K (ctX10_chiefAt_w0 hF o0 A0 C0 h0 o1 A1 C1 h1 o2 A2 C2 h2 gs0 gA tb0 tA0 bf0 hi0 x1 (res := z_1) hz_1) gc_V_RX11_101_X10_chiefAt rfl qv_X10_chiefAt 1 rfl rfl rfl hRm rfl rfl rfl (by decide) (Nat.le_of_ble_eq_true rfl) (by decide) dX11_as_5 (fun v w hw => ?_)
    obtain ⟨hv9, rfl⟩ := hw; have hv9 := hv9.symm; subst hv9
    rcases gi_mt h with ⟨ez, h⟩ | ⟨b_z1, ez, h⟩
    · rw [ez]
      refine g_astore_nN (L' := [(3, .null), (0, .ref (q 5)), (1, .int x1), (2, .int x2)]) K dX11_as_8 rfl (hlt _ (by decide)) rfl ?_
      refine g_aload_nN K dX11_as_9 rfl 0 rfl ?_
      refine g_ifnullN (tgt := 23) K dX11_as_10 (by decide) ?_
      refine g_iconst (v := (-1)) K dX11_as_23 (by decide) ?_
      obtain rfl := Option.some.inj h
      exact hret _ _ _ _ dX11_as_24 rfl ⟨rfl, rfl⟩
    · rw [ez]
      refine g_astore_n (L' := [(3, .ref b_z1), (0, .ref (q 5)), (1, .int x1), (2, .int x2)]) K dX11_as_8 rfl (hlt _ (by decide)) rfl ?_
      refine g_aload_n K dX11_as_9 rfl 0 rfl ?_
      refine g_ifnull K dX11_as_10 ?_
      refine g_iload_n K dX11_as_13 rfl 3 rfl ?_
      obtain ⟨ht9, hf9⟩ := gi_br h; clear h
      refine g_if_lt (tgt := 23) K dX11_as_14 (by decide) (fun qh => ?_) (fun qh => ?_)
      · have h := ht9 qh; clear ht9 hf9
        refine g_iconst (v := (-1)) K dX11_as_23 (by decide) ?_
        obtain rfl := Option.some.inj h
        exact hret _ _ _ _ dX11_as_24 rfl ⟨rfl, rfl⟩
      · have h := hf9 qh; clear ht9 hf9
        refine g_iload_n K dX11_as_17 rfl 3 rfl ?_
        refine g_bipush (v := 7) K dX11_as_18 (by decide) ?_
        obtain ⟨ht9, hf9⟩ := gi_br h; clear h
        refine g_icmp_lt (tgt := 25) K dX11_as_20 (by decide) (fun qh => ?_) (fun qh => ?_)
        · have h := ht9 qh; clear ht9 hf9
          refine g_aload_n K dX11_as_25 rfl 0 rfl ?_
          refine g_iload_n K dX11_as_26 rfl 3 rfl ?_
          obtain ⟨b_2, h⟩ := gi_none h
          obtain ⟨ht9, hf9⟩ := gi_br h; clear h
          by_cases kd_3 : ck F b_z1 = 0
          · have h := ht9 kd_3; clear ht9 hf9
            obtain ⟨z_10, hz_10, h⟩ := gi_bd h
            refine g_callViF (As := [.int x2]) (bytes := cX0_isOfKind) (maxL := 2) (ret := (some .boolean)) K (ctX0_isOfKind_k0 hF (b0 := b_z1) b_2 kd_3 o0 A0 C0 h0 o1 A1 C1 h1 o2 A2 C2 h2 gs0 gA tb0 tA0 bf0 hi0 x2 (res := z_10) hz_10) gc_V_RX11_244_X0_isOfKind rfl qv_X0_isOfKind (gF_at (j := 0) hF b_2 kd_3 (by decide)) rfl rfl hRm rfl rfl rfl (by decide) (Nat.le_of_ble_eq_true rfl) (by decide) dX11_as_27 (fun v w hw => ?_)
            obtain ⟨hv9, rfl⟩ := hw; have hv9 := hv9.symm; subst hv9
            obtain ⟨ht9, hf9⟩ := gi_br h; clear h
            refine g_if_eq (tgt := 40) K dX11_as_30 (by decide) (fun qh => ?_) (fun qh => ?_)
            · have h := ht9 qh; clear ht9 hf9
              refine g_bipush (v := (-6)) K dX11_as_40 (by decide) ?_
              obtain rfl := Option.some.inj h
              exact hret _ _ _ _ dX11_as_42 rfl ⟨rfl, rfl⟩
            · have h := hf9 qh; clear ht9 hf9
              refine g_aload_n K dX11_as_33 rfl 0 rfl ?_
              refine chg_2 K hF b_2 hch u_272 dX11_as_34 ?_
              refine g_goto (tgt := 42) K dX11_as_37 (by decide) ?_
              obtain rfl := Option.some.inj h
              exact hret _ _ _ _ dX11_as_42 rfl ⟨rfl, rfl⟩
          have h := hf9 kd_3; clear ht9 hf9
          obtain ⟨ht9, hf9⟩ := gi_br h; clear h
          by_cases kd_4 : ck F b_z1 = 1
          · have h := ht9 kd_4; clear ht9 hf9
            obtain ⟨z_11, hz_11, h⟩ := gi_bd h
            refine g_callUiF (n := 1) (owner := "ChiefGrades$Chief") (x := ⟨"ChiefGrades$Chief", "isOfKind", "(I)Z"⟩) (As := [.int x2]) (bytes := cX0_isOfKind) (maxL := 2) (ret := (some .boolean)) K (ctX0_isOfKind_k1 hF (b0 := b_z1) b_2 kd_4 o0 A0 C0 h0 o1 A1 C1 h1 o2 A2 C2 h2 gs0 gA tb0 tA0 bf0 hi0 x2 (res := z_11) hz_11) gc_UX5_RX11_244_X0_isOfKind rfl rfl (by decide +kernel) (gF_at (j := 1) hF b_2 kd_4 (by decide)) rfl rfl hRm rfl rfl rfl (by decide) (Nat.le_of_ble_eq_true rfl) (by decide) dX11_as_27 (fun v w hw => ?_)
            obtain ⟨hv9, rfl⟩ := hw; have hv9 := hv9.symm; subst hv9
            obtain ⟨ht9, hf9⟩ := gi_br h; clear h
            refine g_if_eq (tgt := 40) K dX11_as_30 (by decide) (fun qh => ?_) (fun qh => ?_)
            · have h := ht9 qh; clear ht9 hf9
              refine g_bipush (v := (-6)) K dX11_as_40 (by decide) ?_
              obtain rfl := Option.some.inj h
              exact hret _ _ _ _ dX11_as_42 rfl ⟨rfl, rfl⟩
            · have h := hf9 qh; clear ht9 hf9
              refine g_aload_n K dX11_as_33 rfl 0 rfl ?_
              refine chg_2 K hF b_2 hch u_272 dX11_as_34 ?_
              refine g_goto (tgt := 42) K dX11_as_37 (by decide) ?_
              obtain rfl := Option.some.inj h
              exact hret _ _ _ _ dX11_as_42 rfl ⟨rfl, rfl⟩
          have h := hf9 kd_4; clear ht9 hf9
          obtain ⟨ht9, hf9⟩ := gi_br h; clear h
          by_cases kd_5 : ck F b_z1 = 2
          · have h := ht9 kd_5; clear ht9 hf9
            obtain ⟨z_12, hz_12, h⟩ := gi_bd h
            refine g_callUiF (n := 1) (owner := "ChiefGrades$Chief") (x := ⟨"ChiefGrades$Chief", "isOfKind", "(I)Z"⟩) (As := [.int x2]) (bytes := cX0_isOfKind) (maxL := 2) (ret := (some .boolean)) K (ctX0_isOfKind_k2 hF (b0 := b_z1) b_2 kd_5 o0 A0 C0 h0 o1 A1 C1 h1 o2 A2 C2 h2 gs0 gA tb0 tA0 bf0 hi0 x2 (res := z_12) hz_12) gc_UX9_RX11_244_X0_isOfKind rfl rfl (by decide +kernel) (gF_at (j := 2) hF b_2 kd_5 (by decide)) rfl rfl hRm rfl rfl rfl (by decide) (Nat.le_of_ble_eq_true rfl) (by decide) dX11_as_27 (fun v w hw => ?_)
            obtain ⟨hv9, rfl⟩ := hw; have hv9 := hv9.symm; subst hv9
            obtain ⟨ht9, hf9⟩ := gi_br h; clear h
            refine g_if_eq (tgt := 40) K dX11_as_30 (by decide) (fun qh => ?_) (fun qh => ?_)
            · have h := ht9 qh; clear ht9 hf9
              refine g_bipush (v := (-6)) K dX11_as_40 (by decide) ?_
              obtain rfl := Option.some.inj h
              exact hret _ _ _ _ dX11_as_42 rfl ⟨rfl, rfl⟩
            · have h := hf9 qh; clear ht9 hf9
              refine g_aload_n K dX11_as_33 rfl 0 rfl ?_
              refine chg_2 K hF b_2 hch u_272 dX11_as_34 ?_
              refine g_goto (tgt := 42) K dX11_as_37 (by decide) ?_
              obtain rfl := Option.some.inj h
              exact hret _ _ _ _ dX11_as_42 rfl ⟨rfl, rfl⟩
          have h := hf9 kd_5; clear ht9 hf9
          obtain ⟨ht9, hf9⟩ := gi_br h; clear h
          by_cases kd_6 : ck F b_z1 = 3
          · have h := ht9 kd_6; clear ht9 hf9
            obtain ⟨z_13, hz_13, h⟩ := gi_bd h
            refine g_callUiF (n := 1) (owner := "ChiefGrades$Chief") (x := ⟨"ChiefGrades$Chief", "isOfKind", "(I)Z"⟩) (As := [.int x2]) (bytes := cX0_isOfKind) (maxL := 2) (ret := (some .boolean)) K (ctX0_isOfKind_k3 hF (b0 := b_z1) b_2 kd_6 o0 A0 C0 h0 o1 A1 C1 h1 o2 A2 C2 h2 gs0 gA tb0 tA0 bf0 hi0 x2 (res := z_13) hz_13) gc_UX4_RX11_244_X0_isOfKind rfl rfl (by decide +kernel) (gF_at (j := 3) hF b_2 kd_6 (by decide)) rfl rfl hRm rfl rfl rfl (by decide) (Nat.le_of_ble_eq_true rfl) (by decide) dX11_as_27 (fun v w hw => ?_)
            obtain ⟨hv9, rfl⟩ := hw; have hv9 := hv9.symm; subst hv9
            obtain ⟨ht9, hf9⟩ := gi_br h; clear h
            refine g_if_eq (tgt := 40) K dX11_as_30 (by decide) (fun qh => ?_) (fun qh => ?_)
            · have h := ht9 qh; clear ht9 hf9
              refine g_bipush (v := (-6)) K dX11_as_40 (by decide) ?_
              obtain rfl := Option.some.inj h
              exact hret _ _ _ _ dX11_as_42 rfl ⟨rfl, rfl⟩
            · have h := hf9 qh; clear ht9 hf9
              refine g_aload_n K dX11_as_33 rfl 0 rfl ?_
              refine chg_2 K hF b_2 hch u_272 dX11_as_34 ?_
              refine g_goto (tgt := 42) K dX11_as_37 (by decide) ?_
              obtain rfl := Option.some.inj h
              exact hret _ _ _ _ dX11_as_42 rfl ⟨rfl, rfl⟩
          have h := hf9 kd_6; clear ht9 hf9
          obtain ⟨ht9, hf9⟩ := gi_br h; clear h
          by_cases kd_7 : ck F b_z1 = 4
          · have h := ht9 kd_7; clear ht9 hf9
            obtain ⟨z_14, hz_14, h⟩ := gi_bd h
            refine g_callUiF (n := 1) (owner := "ChiefGrades$Chief") (x := ⟨"ChiefGrades$Chief", "isOfKind", "(I)Z"⟩) (As := [.int x2]) (bytes := cX0_isOfKind) (maxL := 2) (ret := (some .boolean)) K (ctX0_isOfKind_k4 hF (b0 := b_z1) b_2 kd_7 o0 A0 C0 h0 o1 A1 C1 h1 o2 A2 C2 h2 gs0 gA tb0 tA0 bf0 hi0 x2 (res := z_14) hz_14) gc_UX6_RX11_244_X0_isOfKind rfl rfl (by decide +kernel) (gF_at (j := 4) hF b_2 kd_7 (by decide)) rfl rfl hRm rfl rfl rfl (by decide) (Nat.le_of_ble_eq_true rfl) (by decide) dX11_as_27 (fun v w hw => ?_)
            obtain ⟨hv9, rfl⟩ := hw; have hv9 := hv9.symm; subst hv9
            obtain ⟨ht9, hf9⟩ := gi_br h; clear h
            refine g_if_eq (tgt := 40) K dX11_as_30 (by decide) (fun qh => ?_) (fun qh => ?_)
            · have h := ht9 qh; clear ht9 hf9
              refine g_bipush (v := (-6)) K dX11_as_40 (by decide) ?_
              obtain rfl := Option.some.inj h
              exact hret _ _ _ _ dX11_as_42 rfl ⟨rfl, rfl⟩
            · have h := hf9 qh; clear ht9 hf9
              refine g_aload_n K dX11_as_33 rfl 0 rfl ?_
              refine chg_2 K hF b_2 hch u_272 dX11_as_34 ?_
              refine g_goto (tgt := 42) K dX11_as_37 (by decide) ?_
              obtain rfl := Option.some.inj h
              exact hret _ _ _ _ dX11_as_42 rfl ⟨rfl, rfl⟩
          have h := hf9 kd_7; clear ht9 hf9
          obtain ⟨ht9, hf9⟩ := gi_br h; clear h
          by_cases kd_8 : ck F b_z1 = 5
          · have h := ht9 kd_8; clear ht9 hf9
            obtain ⟨z_15, hz_15, h⟩ := gi_bd h
            refine g_callUiF (n := 1) (owner := "ChiefGrades$Chief") (x := ⟨"ChiefGrades$Chief", "isOfKind", "(I)Z"⟩) (As := [.int x2]) (bytes := cX0_isOfKind) (maxL := 2) (ret := (some .boolean)) K (ctX0_isOfKind_k5 hF (b0 := b_z1) b_2 kd_8 o0 A0 C0 h0 o1 A1 C1 h1 o2 A2 C2 h2 gs0 gA tb0 tA0 bf0 hi0 x2 (res := z_15) hz_15) gc_UX3_RX11_244_X0_isOfKind rfl rfl (by decide +kernel) (gF_at (j := 5) hF b_2 kd_8 (by decide)) rfl rfl hRm rfl rfl rfl (by decide) (Nat.le_of_ble_eq_true rfl) (by decide) dX11_as_27 (fun v w hw => ?_)
            obtain ⟨hv9, rfl⟩ := hw; have hv9 := hv9.symm; subst hv9
            obtain ⟨ht9, hf9⟩ := gi_br h; clear h
            refine g_if_eq (tgt := 40) K dX11_as_30 (by decide) (fun qh => ?_) (fun qh => ?_)
            · have h := ht9 qh; clear ht9 hf9
              refine g_bipush (v := (-6)) K dX11_as_40 (by decide) ?_
              obtain rfl := Option.some.inj h
              exact hret _ _ _ _ dX11_as_42 rfl ⟨rfl, rfl⟩
            · have h := hf9 qh; clear ht9 hf9
              refine g_aload_n K dX11_as_33 rfl 0 rfl ?_
              refine chg_2 K hF b_2 hch u_272 dX11_as_34 ?_
              refine g_goto (tgt := 42) K dX11_as_37 (by decide) ?_
              obtain rfl := Option.some.inj h
              exact hret _ _ _ _ dX11_as_42 rfl ⟨rfl, rfl⟩
          have h := hf9 kd_8; clear ht9 hf9
          have kd_9 := gF_last hF b_2 kd_3 kd_4 kd_5 kd_6 kd_7 kd_8
          obtain ⟨z_16, hz_16, h⟩ := gi_bd h
          refine g_callUiF (n := 1) (owner := "ChiefGrades$Chief") (x := ⟨"ChiefGrades$Chief", "isOfKind", "(I)Z"⟩) (As := [.int x2]) (bytes := cX0_isOfKind) (maxL := 2) (ret := (some .boolean)) K (ctX0_isOfKind_k6 hF (b0 := b_z1) b_2 kd_9 o0 A0 C0 h0 o1 A1 C1 h1 o2 A2 C2 h2 gs0 gA tb0 tA0 bf0 hi0 x2 (res := z_16) hz_16) gc_UX7_RX11_244_X0_isOfKind rfl rfl (by decide +kernel) (gF_at (j := 6) hF b_2 kd_9 (by decide)) rfl rfl hRm rfl rfl rfl (by decide) (Nat.le_of_ble_eq_true rfl) (by decide) dX11_as_27 (fun v w hw => ?_)
          obtain ⟨hv9, rfl⟩ := hw; have hv9 := hv9.symm; subst hv9
          obtain ⟨ht9, hf9⟩ := gi_br h; clear h
          refine g_if_eq (tgt := 40) K dX11_as_30 (by decide) (fun qh => ?_) (fun qh => ?_)
          · have h := ht9 qh; clear ht9 hf9
            refine g_bipush (v := (-6)) K dX11_as_40 (by decide) ?_
            obtain rfl := Option.some.inj h
            exact hret _ _ _ _ dX11_as_42 rfl ⟨rfl, rfl⟩
          · have h := hf9 qh; clear ht9 hf9
            refine g_aload_n K dX11_as_33 rfl 0 rfl ?_
            refine chg_2 K hF b_2 hch u_272 dX11_as_34 ?_
            refine g_goto (tgt := 42) K dX11_as_37 (by decide) ?_
            obtain rfl := Option.some.inj h
            exact hret _ _ _ _ dX11_as_42 rfl ⟨rfl, rfl⟩
        · have h := hf9 qh; clear ht9 hf9
          refine g_iconst (v := (-1)) K dX11_as_23 (by decide) ?_
          obtain rfl := Option.some.inj h
          exact hret _ _ _ _ dX11_as_24 rfl ⟨rfl, rfl⟩

set_option maxRecDepth 100000 in
theorem ctX11_as {E : gE} {q : Nat → Nat} {r : Nat → Nat → Nat} {F : gF} (hF : gFz E F) (o0 : Nat → Int32) (A0 : Nat → Nat → Int32) (C0 : Nat → Option Nat) (h0 : Nat) (o1 : Nat → Int32) (A1 : Nat → Nat → Int32) (C1 : Nat → Option Nat) (h1 : Nat) (o2 : Nat → Int32) (A2 : Nat → Nat → Int32) (C2 : Nat → Option Nat) (h2 : Nat) (gs0 : Int32) (gA : Nat → Nat → Int32) (tb0 : Int32) (tA0 bf0 : Nat → Int32) (hi0 : Int32) (x1 : Int32) (x2 : Int32) {res : Int32} (h : pX11_as F (o0 1) C0 x1 x2 = some res) : gMi yX11_as (.code yX11_as cX11_as 4 (some .int) :: gU) ({ frames := 5, cells := 0, slots := 0, locals := 171 } : Room) 0 0 E [.ref (q 5), .int x1, .int x2] (cw E q r (gpl F) o0 A0 C0 h0 o1 A1 C1 h1 o2 A2 C2 h2 gs0 gA tb0 tA0 bf0 hi0) (fun v w => v = res ∧ w = cw E q r (gpl F) o0 A0 C0 h0 o1 A1 C1 h1 o2 A2 C2 h2 gs0 gA tb0 tA0 bf0 hi0) := by
  refine g_met_i (by decide +kernel) (Nat.le_of_ble_eq_true rfl) (fun Γ K hn hE hRm _ hret => ?_)
  subst hE
  have hlt : ∀ i, i < 4 → i < g_n Γ := fun i q => by rw [hn]; exact q
  refine g_sub (L' := [(0, .ref (q 5)), (1, .int x1), (2, .int x2)]) [0, 1, 2] rfl ?_
  exact wX11_as (C0 := C0) (h0 := h0) (C1 := C1) (h1 := h1) (C2 := C2) (h2 := h2) (gs0 := gs0) (tb0 := tb0) (tA0 := tA0) (bf0 := bf0) (hi0 := hi0) hF K hlt hRm hret x1 x2 h

set_option maxHeartbeats 4000000 in
set_option maxRecDepth 100000 in
theorem wX10_become_w2_w0_209 {Γ : gT} {q : Nat → Nat} {r : Nat → Nat → Nat} {F : gF} (hF : gFz (g_E Γ) F) {o0 : Nat → Int32} {A0 : Nat → Nat → Int32} {C0 : Nat → Option Nat} {h0 : Nat} {o1 : Nat → Int32} {A1 : Nat → Nat → Int32} {C1 : Nat → Option Nat} {h1 : Nat} {o2 : Nat → Int32} {A2 : Nat → Nat → Int32} {C2 : Nat → Option Nat} {h2 : Nat} {gs0 : Int32} {gA : Nat → Nat → Int32} {tb0 : Int32} {tA0 bf0 : Nat → Int32} {hi0 : Int32} (K : gOK Γ cX10_become gU RX10) (hlt : ∀ i, i < 3 → i < g_n Γ) (hRm : g_R Γ = ({ frames := 4, cells := 0, slots := 0, locals := 150 } : Room)) {res : Int32 × Int32 × Int32 × Int32 × Int32 × Int32 × Int32 × Int32 × ((Nat → Int32)) × ((Nat → Int32)) × ((Nat → Int32)) × ((Nat → Int32)) × ((Nat → Int32)) × ((Nat → Int32)) × ((Nat → Int32)) × ((Nat → Int32)) × ((Nat → Int32)) × Nat × ((Nat → Option Nat))} (hret : ∀ (pc : Nat) (L : List (Nat × Value)) (w : va_W), decode cX10_become pc = .ok (.return_, 1) → (w = cw (g_E Γ) q r (gpl F) o0 A0 C0 h0 o1 A1 C1 h1 (gu (gu (gu (gu (gu (gu (gu (gu o2 0 res.1) 1 res.2.1) 2 res.2.2.1) 3 res.2.2.2.1) 4 res.2.2.2.2.1) 5 res.2.2.2.2.2.1) 6 res.2.2.2.2.2.2.1) 7 res.2.2.2.2.2.2.2.1) (gu (gu (gu (gu (gu (gu (gu (gu (gu A2 8 res.2.2.2.2.2.2.2.2.1) 9 res.2.2.2.2.2.2.2.2.2.1) 10 res.2.2.2.2.2.2.2.2.2.2.1) 11 res.2.2.2.2.2.2.2.2.2.2.2.1) 12 res.2.2.2.2.2.2.2.2.2.2.2.2.1) 14 res.2.2.2.2.2.2.2.2.2.2.2.2.2.1) 15 res.2.2.2.2.2.2.2.2.2.2.2.2.2.2.1) 16 res.2.2.2.2.2.2.2.2.2.2.2.2.2.2.2.1) 17 res.2.2.2.2.2.2.2.2.2.2.2.2.2.2.2.2.1) res.2.2.2.2.2.2.2.2.2.2.2.2.2.2.2.2.2.2 res.2.2.2.2.2.2.2.2.2.2.2.2.2.2.2.2.2.1 gs0 gA tb0 tA0 bf0 hi0) → gGO Γ 0 0 pc L [] w) : ∀ (n : Nat) (w2o0 : Int32) (w2o1 : Int32) (w2o2 : Int32) (w2o3 : Int32) (w2o4 : Int32) (w2o5 : Int32) (w2o6 : Int32) (w2o7 : Int32) (w2a8 : (Nat → Int32)) (w2a9 : (Nat → Int32)) (w2a10 : (Nat → Int32)) (w2a11 : (Nat → Int32)) (w2a12 : (Nat → Int32)) (w2a14 : (Nat → Int32)) (w2a15 : (Nat → Int32)) (w2a16 : (Nat → Int32)) (w2a17 : (Nat → Int32)) (w2h : Nat) (w2c : (Nat → Option Nat)) (x2 : Int32), pX10_become_w2_w0_209 F (o0 0) (o0 1) (o0 2) (o0 3) (o0 4) (o0 5) (o0 6) (o0 7) (A0 8) (A0 9) (A0 10) (A0 11) (A0 12) (A0 14) (A0 15) (A0 16) (A0 17) h0 C0 n w2o0 w2o1 w2o2 w2o3 w2o4 w2o5 w2o6 w2o7 w2a8 w2a9 w2a10 w2a11 w2a12 w2a14 w2a15 w2a16 w2a17 w2h w2c x2 = some res → gGO Γ 0 0 209 [(0, .ref (q 2)), (1, .ref (q 0)), (2, .int x2)] [] (cw (g_E Γ) q r (gpl F) o0 A0 C0 h0 o1 A1 C1 h1 (gu (gu (gu (gu (gu (gu (gu (gu o2 0 w2o0) 1 w2o1) 2 w2o2) 3 w2o3) 4 w2o4) 5 w2o5) 6 w2o6) 7 w2o7) (gu (gu (gu (gu (gu (gu (gu (gu (gu A2 8 w2a8) 9 w2a9) 10 w2a10) 11 w2a11) 12 w2a12) 14 w2a14) 15 w2a15) 16 w2a16) 17 w2a17) w2c w2h gs0 gA tb0 tA0 bf0 hi0) := by
  intro n
  induction n with
  | zero => intro _ _ _ _ _ _ _ _ _ _ _ _ _ _ _ _ _ _ _ _ h; cases h
  | succ n ih =>
    intro w2o0 w2o1 w2o2 w2o3 w2o4 w2o5 w2o6 w2o7 w2a8 w2a9 w2a10 w2a11 w2a12 w2a14 w2a15 w2a16 w2a17 w2h w2c x2 h
    simp only [pX10_become_w2_w0_209] at h
    refine g_iload_n K dX10_become_209 rfl 2 rfl ?_
    refine g_iconst (v := 4) K dX10_become_210 (by decide) ?_
    obtain ⟨ht9, hf9⟩ := gi_br h; clear h
    refine g_icmp_ge (tgt := 232) K dX10_become_211 (by decide) (fun qh => ?_) (fun qh => ?_)
    · have h := ht9 qh; clear ht9 hf9
      obtain rfl := Option.some.inj h
      exact hret _ _ _ dX10_become_232 rfl
    · have h := hf9 qh; clear ht9 hf9
      refine g_aload_n K dX10_become_214 rfl 0 rfl ?_
      refine g_get (v := .ref (r 2 13)) (T := TX10) (ref := "ChiefGrades$World") K hin_X10 3 rfl rfl 13 (by decide) u_191 (Or.inl rfl) rfl dX10_become_215 ?_
      refine g_iload_n K dX10_become_218 rfl 2 rfl ?_
      refine g_aload_n K dX10_become_219 rfl 1 rfl ?_
      refine g_get (v := .ref (r 0 13)) (T := TX10) (ref := "ChiefGrades$World") K hin_X10 1 rfl rfl 13 (by decide) u_191 (Or.inl rfl) rfl dX10_become_220 ?_
      refine g_iload_n K dX10_become_223 rfl 2 rfl ?_
      obtain ⟨b_1, h⟩ := gi_none h
      refine g_aald (f := C0) K 11 rfl (ginb_in b_1) dX10_become_224 ?_
      obtain ⟨b_2, h⟩ := gi_none h
      obtain ⟨b_3, h⟩ := gi_none h
      obtain ⟨f_4, ef_4, h⟩ := gi_nm h
      refine g_aast (f := w2c) (ws' := cw (g_E Γ) q r (gpl F) o0 A0 C0 h0 o1 A1 C1 h1 (gu (gu (gu (gu (gu (gu (gu (gu o2 0 w2o0) 1 w2o1) 2 w2o2) 3 w2o3) 4 w2o4) 5 w2o5) 6 w2o6) 7 w2o7) (gu (gu (gu (gu (gu (gu (gu (gu (gu A2 8 w2a8) 9 w2a9) 10 w2a10) 11 w2a11) 12 w2a12) 14 w2a14) 15 w2a15) 16 w2a16) 17 w2a17) f_4 w2h gs0 gA tb0 tA0 bf0 hi0) K hF 31 rfl (ginb_in b_2) b_3 dX10_become_225 (by rw [ef_4]; rfl) ?_
      refine g_iinc (v := (x2 + 1)) (L' := [(2, .int (x2 + 1)), (0, .ref (q 2)), (1, .ref (q 0))]) K dX10_become_226 2 rfl rfl (hlt _ (by decide)) rfl ?_
      refine g_goto (tgt := 209) K dX10_become_229 (by decide) ?_
      refine g_sub (L' := [(0, .ref (q 2)), (1, .ref (q 0)), (2, .int (x2 + 1))]) [1, 2, 0] rfl ?_
      exact ih w2o0 w2o1 w2o2 w2o3 w2o4 w2o5 w2o6 w2o7 w2a8 w2a9 w2a10 w2a11 w2a12 w2a14 w2a15 w2a16 w2a17 w2h f_4 (x2 + 1) h

set_option maxHeartbeats 4000000 in
set_option maxRecDepth 100000 in
theorem wX10_become_w2_w0 {Γ : gT} {q : Nat → Nat} {r : Nat → Nat → Nat} {F : gF} (hF : gFz (g_E Γ) F) {o0 : Nat → Int32} {A0 : Nat → Nat → Int32} {C0 : Nat → Option Nat} {h0 : Nat} {o1 : Nat → Int32} {A1 : Nat → Nat → Int32} {C1 : Nat → Option Nat} {h1 : Nat} {o2 : Nat → Int32} {A2 : Nat → Nat → Int32} {C2 : Nat → Option Nat} {h2 : Nat} {gs0 : Int32} {gA : Nat → Nat → Int32} {tb0 : Int32} {tA0 bf0 : Nat → Int32} {hi0 : Int32} (K : gOK Γ cX10_become gU RX10) (hlt : ∀ i, i < 3 → i < g_n Γ) (hRm : g_R Γ = ({ frames := 4, cells := 0, slots := 0, locals := 150 } : Room)) {res : Int32 × Int32 × Int32 × Int32 × Int32 × Int32 × Int32 × Int32 × ((Nat → Int32)) × ((Nat → Int32)) × ((Nat → Int32)) × ((Nat → Int32)) × ((Nat → Int32)) × ((Nat → Int32)) × ((Nat → Int32)) × ((Nat → Int32)) × ((Nat → Int32)) × Nat × ((Nat → Option Nat))} (hret : ∀ (pc : Nat) (L : List (Nat × Value)) (w : va_W), decode cX10_become pc = .ok (.return_, 1) → (w = cw (g_E Γ) q r (gpl F) o0 A0 C0 h0 o1 A1 C1 h1 (gu (gu (gu (gu (gu (gu (gu (gu o2 0 res.1) 1 res.2.1) 2 res.2.2.1) 3 res.2.2.2.1) 4 res.2.2.2.2.1) 5 res.2.2.2.2.2.1) 6 res.2.2.2.2.2.2.1) 7 res.2.2.2.2.2.2.2.1) (gu (gu (gu (gu (gu (gu (gu (gu (gu A2 8 res.2.2.2.2.2.2.2.2.1) 9 res.2.2.2.2.2.2.2.2.2.1) 10 res.2.2.2.2.2.2.2.2.2.2.1) 11 res.2.2.2.2.2.2.2.2.2.2.2.1) 12 res.2.2.2.2.2.2.2.2.2.2.2.2.1) 14 res.2.2.2.2.2.2.2.2.2.2.2.2.2.1) 15 res.2.2.2.2.2.2.2.2.2.2.2.2.2.2.1) 16 res.2.2.2.2.2.2.2.2.2.2.2.2.2.2.2.1) 17 res.2.2.2.2.2.2.2.2.2.2.2.2.2.2.2.2.1) res.2.2.2.2.2.2.2.2.2.2.2.2.2.2.2.2.2.2 res.2.2.2.2.2.2.2.2.2.2.2.2.2.2.2.2.2.1 gs0 gA tb0 tA0 bf0 hi0) → gGO Γ 0 0 pc L [] w) (w2o0 : Int32) (w2o1 : Int32) (w2o2 : Int32) (w2o3 : Int32) (w2o4 : Int32) (w2o5 : Int32) (w2o6 : Int32) (w2o7 : Int32) (w2a8 : (Nat → Int32)) (w2a9 : (Nat → Int32)) (w2a10 : (Nat → Int32)) (w2a11 : (Nat → Int32)) (w2a12 : (Nat → Int32)) (w2a14 : (Nat → Int32)) (w2a15 : (Nat → Int32)) (w2a16 : (Nat → Int32)) (w2a17 : (Nat → Int32)) (w2h : Nat) (w2c : (Nat → Option Nat)) (h : pX10_become_w2_w0 F (o0 0) (o0 1) (o0 2) (o0 3) (o0 4) (o0 5) (o0 6) (o0 7) (A0 8) (A0 9) (A0 10) (A0 11) (A0 12) (A0 14) (A0 15) (A0 16) (A0 17) h0 C0 w2o0 w2o1 w2o2 w2o3 w2o4 w2o5 w2o6 w2o7 w2a8 w2a9 w2a10 w2a11 w2a12 w2a14 w2a15 w2a16 w2a17 w2h w2c = some res) : gGO Γ 0 0 0 [(0, .ref (q 2)), (1, .ref (q 0))] [] (cw (g_E Γ) q r (gpl F) o0 A0 C0 h0 o1 A1 C1 h1 (gu (gu (gu (gu (gu (gu (gu (gu o2 0 w2o0) 1 w2o1) 2 w2o2) 3 w2o3) 4 w2o4) 5 w2o5) 6 w2o6) 7 w2o7) (gu (gu (gu (gu (gu (gu (gu (gu (gu A2 8 w2a8) 9 w2a9) 10 w2a10) 11 w2a11) 12 w2a12) 14 w2a14) 15 w2a15) 16 w2a16) 17 w2a17) w2c w2h gs0 gA tb0 tA0 bf0 hi0) := by
    unfold pX10_become_w2_w0 at h
    refine g_aload_n K dX10_become_0 rfl 0 rfl ?_
    refine g_aload_n K dX10_become_1 rfl 1 rfl ?_
    refine g_get (v := .int (o0 0)) (T := TX10) (ref := "ChiefGrades$World") K hin_X10 1 rfl rfl 0 (by decide) u_158 (Or.inl rfl) rfl dX10_become_2 ?_
    refine g_put (v := .int (o0 0)) (ws' := cw (g_E Γ) q r (gpl F) o0 A0 C0 h0 o1 A1 C1 h1 (gu (gu (gu (gu (gu (gu (gu (gu o2 0 (o0 0)) 1 w2o1) 2 w2o2) 3 w2o3) 4 w2o4) 5 w2o5) 6 w2o6) 7 w2o7) (gu (gu (gu (gu (gu (gu (gu (gu (gu A2 8 w2a8) 9 w2a9) 10 w2a10) 11 w2a11) 12 w2a12) 14 w2a14) 15 w2a15) 16 w2a16) 17 w2a17) w2c w2h gs0 gA tb0 tA0 bf0 hi0) (T := TX10) (ref := "ChiefGrades$World") (ty := .int) K hin_X10 tyX10_ok nmX10 3 rfl rfl 0 (by decide) u_158 rfl rfl (by decide +kernel) rfl rfl (Nat.le_of_ble_eq_true rfl) dX10_become_5 rfl ?_
    refine g_aload_n K dX10_become_8 rfl 0 rfl ?_
    refine g_aload_n K dX10_become_9 rfl 1 rfl ?_
    refine g_get (v := .int (o0 1)) (T := TX10) (ref := "ChiefGrades$World") K hin_X10 1 rfl rfl 1 (by decide) u_161 (Or.inl rfl) rfl dX10_become_10 ?_
    refine g_put (v := .int (o0 1)) (ws' := cw (g_E Γ) q r (gpl F) o0 A0 C0 h0 o1 A1 C1 h1 (gu (gu (gu (gu (gu (gu (gu (gu o2 0 (o0 0)) 1 (o0 1)) 2 w2o2) 3 w2o3) 4 w2o4) 5 w2o5) 6 w2o6) 7 w2o7) (gu (gu (gu (gu (gu (gu (gu (gu (gu A2 8 w2a8) 9 w2a9) 10 w2a10) 11 w2a11) 12 w2a12) 14 w2a14) 15 w2a15) 16 w2a16) 17 w2a17) w2c w2h gs0 gA tb0 tA0 bf0 hi0) (T := TX10) (ref := "ChiefGrades$World") (ty := .int) K hin_X10 tyX10_ok nmX10 3 rfl rfl 1 (by decide) u_161 rfl rfl (by decide +kernel) rfl rfl (Nat.le_of_ble_eq_true rfl) dX10_become_13 rfl ?_
    refine g_aload_n K dX10_become_16 rfl 0 rfl ?_
    refine g_aload_n K dX10_become_17 rfl 1 rfl ?_
    refine g_get (v := .int (o0 2)) (T := TX10) (ref := "ChiefGrades$World") K hin_X10 1 rfl rfl 2 (by decide) u_164 (Or.inl rfl) rfl dX10_become_18 ?_
    refine g_put (v := .int (o0 2)) (ws' := cw (g_E Γ) q r (gpl F) o0 A0 C0 h0 o1 A1 C1 h1 (gu (gu (gu (gu (gu (gu (gu (gu o2 0 (o0 0)) 1 (o0 1)) 2 (o0 2)) 3 w2o3) 4 w2o4) 5 w2o5) 6 w2o6) 7 w2o7) (gu (gu (gu (gu (gu (gu (gu (gu (gu A2 8 w2a8) 9 w2a9) 10 w2a10) 11 w2a11) 12 w2a12) 14 w2a14) 15 w2a15) 16 w2a16) 17 w2a17) w2c w2h gs0 gA tb0 tA0 bf0 hi0) (T := TX10) (ref := "ChiefGrades$World") (ty := .int) K hin_X10 tyX10_ok nmX10 3 rfl rfl 2 (by decide) u_164 rfl rfl (by decide +kernel) rfl rfl (Nat.le_of_ble_eq_true rfl) dX10_become_21 rfl ?_
    refine g_aload_n K dX10_become_24 rfl 0 rfl ?_
    refine g_aload_n K dX10_become_25 rfl 1 rfl ?_
    refine g_get (v := .int (o0 3)) (T := TX10) (ref := "ChiefGrades$World") K hin_X10 1 rfl rfl 3 (by decide) u_166 (Or.inl rfl) rfl dX10_become_26 ?_
    refine g_put (v := .int (o0 3)) (ws' := cw (g_E Γ) q r (gpl F) o0 A0 C0 h0 o1 A1 C1 h1 (gu (gu (gu (gu (gu (gu (gu (gu o2 0 (o0 0)) 1 (o0 1)) 2 (o0 2)) 3 (o0 3)) 4 w2o4) 5 w2o5) 6 w2o6) 7 w2o7) (gu (gu (gu (gu (gu (gu (gu (gu (gu A2 8 w2a8) 9 w2a9) 10 w2a10) 11 w2a11) 12 w2a12) 14 w2a14) 15 w2a15) 16 w2a16) 17 w2a17) w2c w2h gs0 gA tb0 tA0 bf0 hi0) (T := TX10) (ref := "ChiefGrades$World") (ty := .int) K hin_X10 tyX10_ok nmX10 3 rfl rfl 3 (by decide) u_166 rfl rfl (by decide +kernel) rfl rfl (Nat.le_of_ble_eq_true rfl) dX10_become_29 rfl ?_
    refine g_aload_n K dX10_become_32 rfl 0 rfl ?_
    refine g_aload_n K dX10_become_33 rfl 1 rfl ?_
    refine g_get (v := .int (o0 4)) (T := TX10) (ref := "ChiefGrades$World") K hin_X10 1 rfl rfl 4 (by decide) u_169 (Or.inl rfl) rfl dX10_become_34 ?_
    refine g_put (v := .int (o0 4)) (ws' := cw (g_E Γ) q r (gpl F) o0 A0 C0 h0 o1 A1 C1 h1 (gu (gu (gu (gu (gu (gu (gu (gu o2 0 (o0 0)) 1 (o0 1)) 2 (o0 2)) 3 (o0 3)) 4 (o0 4)) 5 w2o5) 6 w2o6) 7 w2o7) (gu (gu (gu (gu (gu (gu (gu (gu (gu A2 8 w2a8) 9 w2a9) 10 w2a10) 11 w2a11) 12 w2a12) 14 w2a14) 15 w2a15) 16 w2a16) 17 w2a17) w2c w2h gs0 gA tb0 tA0 bf0 hi0) (T := TX10) (ref := "ChiefGrades$World") (ty := .int) K hin_X10 tyX10_ok nmX10 3 rfl rfl 4 (by decide) u_169 rfl rfl (by decide +kernel) rfl rfl (Nat.le_of_ble_eq_true rfl) dX10_become_37 rfl ?_
    refine g_aload_n K dX10_become_40 rfl 0 rfl ?_
    refine g_aload_n K dX10_become_41 rfl 1 rfl ?_
    refine g_get (v := .int (o0 5)) (T := TX10) (ref := "ChiefGrades$World") K hin_X10 1 rfl rfl 5 (by decide) u_170 (Or.inl rfl) rfl dX10_become_42 ?_
    refine g_put (v := .int (o0 5)) (ws' := cw (g_E Γ) q r (gpl F) o0 A0 C0 h0 o1 A1 C1 h1 (gu (gu (gu (gu (gu (gu (gu (gu o2 0 (o0 0)) 1 (o0 1)) 2 (o0 2)) 3 (o0 3)) 4 (o0 4)) 5 (o0 5)) 6 w2o6) 7 w2o7) (gu (gu (gu (gu (gu (gu (gu (gu (gu A2 8 w2a8) 9 w2a9) 10 w2a10) 11 w2a11) 12 w2a12) 14 w2a14) 15 w2a15) 16 w2a16) 17 w2a17) w2c w2h gs0 gA tb0 tA0 bf0 hi0) (T := TX10) (ref := "ChiefGrades$World") (ty := .int) K hin_X10 tyX10_ok nmX10 3 rfl rfl 5 (by decide) u_170 rfl rfl (by decide +kernel) rfl rfl (Nat.le_of_ble_eq_true rfl) dX10_become_45 rfl ?_
    refine g_aload_n K dX10_become_48 rfl 0 rfl ?_
    refine g_aload_n K dX10_become_49 rfl 1 rfl ?_
    refine g_get (v := .int (o0 6)) (T := TX10) (ref := "ChiefGrades$World") K hin_X10 1 rfl rfl 6 (by decide) u_173 (Or.inl rfl) rfl dX10_become_50 ?_
    refine g_put (v := .int (o0 6)) (ws' := cw (g_E Γ) q r (gpl F) o0 A0 C0 h0 o1 A1 C1 h1 (gu (gu (gu (gu (gu (gu (gu (gu o2 0 (o0 0)) 1 (o0 1)) 2 (o0 2)) 3 (o0 3)) 4 (o0 4)) 5 (o0 5)) 6 (o0 6)) 7 w2o7) (gu (gu (gu (gu (gu (gu (gu (gu (gu A2 8 w2a8) 9 w2a9) 10 w2a10) 11 w2a11) 12 w2a12) 14 w2a14) 15 w2a15) 16 w2a16) 17 w2a17) w2c w2h gs0 gA tb0 tA0 bf0 hi0) (T := TX10) (ref := "ChiefGrades$World") (ty := .int) K hin_X10 tyX10_ok nmX10 3 rfl rfl 6 (by decide) u_173 rfl rfl (by decide +kernel) rfl rfl (Nat.le_of_ble_eq_true rfl) dX10_become_53 rfl ?_
    refine g_aload_n K dX10_become_56 rfl 0 rfl ?_
    refine g_aload_n K dX10_become_57 rfl 1 rfl ?_
    refine g_get (v := .int (o0 7)) (T := TX10) (ref := "ChiefGrades$World") K hin_X10 1 rfl rfl 7 (by decide) u_175 (Or.inl rfl) rfl dX10_become_58 ?_
    refine g_put (v := .int (o0 7)) (ws' := cw (g_E Γ) q r (gpl F) o0 A0 C0 h0 o1 A1 C1 h1 (gu (gu (gu (gu (gu (gu (gu (gu o2 0 (o0 0)) 1 (o0 1)) 2 (o0 2)) 3 (o0 3)) 4 (o0 4)) 5 (o0 5)) 6 (o0 6)) 7 (o0 7)) (gu (gu (gu (gu (gu (gu (gu (gu (gu A2 8 w2a8) 9 w2a9) 10 w2a10) 11 w2a11) 12 w2a12) 14 w2a14) 15 w2a15) 16 w2a16) 17 w2a17) w2c w2h gs0 gA tb0 tA0 bf0 hi0) (T := TX10) (ref := "ChiefGrades$World") (ty := .int) K hin_X10 tyX10_ok nmX10 3 rfl rfl 7 (by decide) u_175 rfl rfl (by decide +kernel) rfl rfl (Nat.le_of_ble_eq_true rfl) dX10_become_61 rfl ?_
    refine g_aload_n K dX10_become_64 rfl 0 rfl ?_
    refine g_aload_n K dX10_become_65 rfl 1 rfl ?_
    refine g_get (v := .ref h0) (T := TX10) (ref := "ChiefGrades$World") K hin_X10 1 rfl rfl 18 (by decide) u_201 (Or.inl rfl) rfl dX10_become_66 ?_
    refine g_put (v := .ref h0) (ws' := cw (g_E Γ) q r (gpl F) o0 A0 C0 h0 o1 A1 C1 h1 (gu (gu (gu (gu (gu (gu (gu (gu o2 0 (o0 0)) 1 (o0 1)) 2 (o0 2)) 3 (o0 3)) 4 (o0 4)) 5 (o0 5)) 6 (o0 6)) 7 (o0 7)) (gu (gu (gu (gu (gu (gu (gu (gu (gu A2 8 w2a8) 9 w2a9) 10 w2a10) 11 w2a11) 12 w2a12) 14 w2a14) 15 w2a15) 16 w2a16) 17 w2a17) w2c h0 gs0 gA tb0 tA0 bf0 hi0) (T := TX10) (ref := "ChiefGrades$World") (ty := (.object "ChiefGrades$House")) K hin_X10 tyX10_ok nmX10 3 rfl rfl 18 (by decide) u_201 rfl rfl (by decide +kernel) rfl rfl (Nat.le_of_ble_eq_true rfl) dX10_become_69 rfl ?_
    refine g_aload_n K dX10_become_72 rfl 1 rfl ?_
    refine g_get (v := .ref (r 0 8)) (T := TX10) (ref := "ChiefGrades$World") K hin_X10 1 rfl rfl 8 (by decide) u_177 (Or.inl rfl) rfl dX10_become_73 ?_
    refine g_iconst (v := 0) K dX10_become_76 (by decide) ?_
    refine g_aload_n K dX10_become_77 rfl 0 rfl ?_
    refine g_get (v := .ref (r 2 8)) (T := TX10) (ref := "ChiefGrades$World") K hin_X10 3 rfl rfl 8 (by decide) u_177 (Or.inl rfl) rfl dX10_become_78 ?_
    refine g_iconst (v := 0) K dX10_become_81 (by decide) ?_
    refine g_bipush (v := 10) K dX10_become_82 (by decide) ?_
    obtain ⟨f_1, ef_1, h⟩ := gi_nm h
    refine g_copy (f := (A0 8)) (g := w2a8) (n := 10) (ws' := cw (g_E Γ) q r (gpl F) o0 A0 C0 h0 o1 A1 C1 h1 (gu (gu (gu (gu (gu (gu (gu (gu o2 0 (o0 0)) 1 (o0 1)) 2 (o0 2)) 3 (o0 3)) 4 (o0 4)) 5 (o0 5)) 6 (o0 6)) 7 (o0 7)) (gu (gu (gu (gu (gu (gu (gu (gu (gu A2 8 f_1) 9 w2a9) 10 w2a10) 11 w2a11) 12 w2a12) 14 w2a14) 15 w2a15) 16 w2a16) 17 w2a17) w2c h0 gs0 gA tb0 tA0 bf0 hi0) K 6 26 rfl rfl 0 rfl rfl (by decide) (by decide) (by decide) (by decide) (fun _ _ => rfl) u_765 u_748 u_747 u_88 hRm ⟨by decide, Nat.le_of_ble_eq_true rfl⟩ dX10_become_84 (by rw [ef_1]; rfl) ?_
    refine g_aload_n K dX10_become_87 rfl 1 rfl ?_
    refine g_get (v := .ref (r 0 9)) (T := TX10) (ref := "ChiefGrades$World") K hin_X10 1 rfl rfl 9 (by decide) u_180 (Or.inl rfl) rfl dX10_become_88 ?_
    refine g_iconst (v := 0) K dX10_become_91 (by decide) ?_
    refine g_aload_n K dX10_become_92 rfl 0 rfl ?_
    refine g_get (v := .ref (r 2 9)) (T := TX10) (ref := "ChiefGrades$World") K hin_X10 3 rfl rfl 9 (by decide) u_180 (Or.inl rfl) rfl dX10_become_93 ?_
    refine g_iconst (v := 0) K dX10_become_96 (by decide) ?_
    refine g_bipush (v := 10) K dX10_become_97 (by decide) ?_
    obtain ⟨f_2, ef_2, h⟩ := gi_nm h
    refine g_copy (f := (A0 9)) (g := w2a9) (n := 10) (ws' := cw (g_E Γ) q r (gpl F) o0 A0 C0 h0 o1 A1 C1 h1 (gu (gu (gu (gu (gu (gu (gu (gu o2 0 (o0 0)) 1 (o0 1)) 2 (o0 2)) 3 (o0 3)) 4 (o0 4)) 5 (o0 5)) 6 (o0 6)) 7 (o0 7)) (gu (gu (gu (gu (gu (gu (gu (gu (gu A2 8 f_1) 9 f_2) 10 w2a10) 11 w2a11) 12 w2a12) 14 w2a14) 15 w2a15) 16 w2a16) 17 w2a17) w2c h0 gs0 gA tb0 tA0 bf0 hi0) K 7 27 rfl rfl 0 rfl rfl (by decide) (by decide) (by decide) (by decide) (fun _ _ => rfl) u_765 u_748 u_747 u_88 hRm ⟨by decide, Nat.le_of_ble_eq_true rfl⟩ dX10_become_99 (by rw [ef_2]; rfl) ?_
    refine g_aload_n K dX10_become_102 rfl 1 rfl ?_
    refine g_get (v := .ref (r 0 10)) (T := TX10) (ref := "ChiefGrades$World") K hin_X10 1 rfl rfl 10 (by decide) u_183 (Or.inl rfl) rfl dX10_become_103 ?_
    refine g_iconst (v := 0) K dX10_become_106 (by decide) ?_
    refine g_aload_n K dX10_become_107 rfl 0 rfl ?_
    refine g_get (v := .ref (r 2 10)) (T := TX10) (ref := "ChiefGrades$World") K hin_X10 3 rfl rfl 10 (by decide) u_183 (Or.inl rfl) rfl dX10_become_108 ?_
    refine g_iconst (v := 0) K dX10_become_111 (by decide) ?_
    refine g_bipush (v := 10) K dX10_become_112 (by decide) ?_
    obtain ⟨f_3, ef_3, h⟩ := gi_nm h
    refine g_copy (f := (A0 10)) (g := w2a10) (n := 10) (ws' := cw (g_E Γ) q r (gpl F) o0 A0 C0 h0 o1 A1 C1 h1 (gu (gu (gu (gu (gu (gu (gu (gu o2 0 (o0 0)) 1 (o0 1)) 2 (o0 2)) 3 (o0 3)) 4 (o0 4)) 5 (o0 5)) 6 (o0 6)) 7 (o0 7)) (gu (gu (gu (gu (gu (gu (gu (gu (gu A2 8 f_1) 9 f_2) 10 f_3) 11 w2a11) 12 w2a12) 14 w2a14) 15 w2a15) 16 w2a16) 17 w2a17) w2c h0 gs0 gA tb0 tA0 bf0 hi0) K 8 28 rfl rfl 0 rfl rfl (by decide) (by decide) (by decide) (by decide) (fun _ _ => rfl) u_765 u_748 u_747 u_88 hRm ⟨by decide, Nat.le_of_ble_eq_true rfl⟩ dX10_become_114 (by rw [ef_3]; rfl) ?_
    refine g_aload_n K dX10_become_117 rfl 1 rfl ?_
    refine g_get (v := .ref (r 0 11)) (T := TX10) (ref := "ChiefGrades$World") K hin_X10 1 rfl rfl 11 (by decide) u_186 (Or.inl rfl) rfl dX10_become_118 ?_
    refine g_iconst (v := 0) K dX10_become_121 (by decide) ?_
    refine g_aload_n K dX10_become_122 rfl 0 rfl ?_
    refine g_get (v := .ref (r 2 11)) (T := TX10) (ref := "ChiefGrades$World") K hin_X10 3 rfl rfl 11 (by decide) u_186 (Or.inl rfl) rfl dX10_become_123 ?_
    refine g_iconst (v := 0) K dX10_become_126 (by decide) ?_
    refine g_bipush (v := 10) K dX10_become_127 (by decide) ?_
    obtain ⟨f_4, ef_4, h⟩ := gi_nm h
    refine g_copy (f := (A0 11)) (g := w2a11) (n := 10) (ws' := cw (g_E Γ) q r (gpl F) o0 A0 C0 h0 o1 A1 C1 h1 (gu (gu (gu (gu (gu (gu (gu (gu o2 0 (o0 0)) 1 (o0 1)) 2 (o0 2)) 3 (o0 3)) 4 (o0 4)) 5 (o0 5)) 6 (o0 6)) 7 (o0 7)) (gu (gu (gu (gu (gu (gu (gu (gu (gu A2 8 f_1) 9 f_2) 10 f_3) 11 f_4) 12 w2a12) 14 w2a14) 15 w2a15) 16 w2a16) 17 w2a17) w2c h0 gs0 gA tb0 tA0 bf0 hi0) K 9 29 rfl rfl 0 rfl rfl (by decide) (by decide) (by decide) (by decide) (fun _ _ => rfl) u_765 u_748 u_747 u_88 hRm ⟨by decide, Nat.le_of_ble_eq_true rfl⟩ dX10_become_129 (by rw [ef_4]; rfl) ?_
    refine g_aload_n K dX10_become_132 rfl 1 rfl ?_
    refine g_get (v := .ref (r 0 12)) (T := TX10) (ref := "ChiefGrades$World") K hin_X10 1 rfl rfl 12 (by decide) u_189 (Or.inl rfl) rfl dX10_become_133 ?_
    refine g_iconst (v := 0) K dX10_become_136 (by decide) ?_
    refine g_aload_n K dX10_become_137 rfl 0 rfl ?_
    refine g_get (v := .ref (r 2 12)) (T := TX10) (ref := "ChiefGrades$World") K hin_X10 3 rfl rfl 12 (by decide) u_189 (Or.inl rfl) rfl dX10_become_138 ?_
    refine g_iconst (v := 0) K dX10_become_141 (by decide) ?_
    refine g_bipush (v := 10) K dX10_become_142 (by decide) ?_
    obtain ⟨f_5, ef_5, h⟩ := gi_nm h
    refine g_copy (f := (A0 12)) (g := w2a12) (n := 10) (ws' := cw (g_E Γ) q r (gpl F) o0 A0 C0 h0 o1 A1 C1 h1 (gu (gu (gu (gu (gu (gu (gu (gu o2 0 (o0 0)) 1 (o0 1)) 2 (o0 2)) 3 (o0 3)) 4 (o0 4)) 5 (o0 5)) 6 (o0 6)) 7 (o0 7)) (gu (gu (gu (gu (gu (gu (gu (gu (gu A2 8 f_1) 9 f_2) 10 f_3) 11 f_4) 12 f_5) 14 w2a14) 15 w2a15) 16 w2a16) 17 w2a17) w2c h0 gs0 gA tb0 tA0 bf0 hi0) K 10 30 rfl rfl 0 rfl rfl (by decide) (by decide) (by decide) (by decide) (fun _ _ => rfl) u_765 u_748 u_747 u_88 hRm ⟨by decide, Nat.le_of_ble_eq_true rfl⟩ dX10_become_144 (by rw [ef_5]; rfl) ?_
    refine g_aload_n K dX10_become_147 rfl 1 rfl ?_
    refine g_get (v := .ref (r 0 14)) (T := TX10) (ref := "ChiefGrades$World") K hin_X10 1 rfl rfl 14 (by decide) u_193 (Or.inl rfl) rfl dX10_become_148 ?_
    refine g_iconst (v := 0) K dX10_become_151 (by decide) ?_
    refine g_aload_n K dX10_become_152 rfl 0 rfl ?_
    refine g_get (v := .ref (r 2 14)) (T := TX10) (ref := "ChiefGrades$World") K hin_X10 3 rfl rfl 14 (by decide) u_193 (Or.inl rfl) rfl dX10_become_153 ?_
    refine g_iconst (v := 0) K dX10_become_156 (by decide) ?_
    refine g_bipush (v := 20) K dX10_become_157 (by decide) ?_
    obtain ⟨f_6, ef_6, h⟩ := gi_nm h
    refine g_copy (f := (A0 14)) (g := w2a14) (n := 20) (ws' := cw (g_E Γ) q r (gpl F) o0 A0 C0 h0 o1 A1 C1 h1 (gu (gu (gu (gu (gu (gu (gu (gu o2 0 (o0 0)) 1 (o0 1)) 2 (o0 2)) 3 (o0 3)) 4 (o0 4)) 5 (o0 5)) 6 (o0 6)) 7 (o0 7)) (gu (gu (gu (gu (gu (gu (gu (gu (gu A2 8 f_1) 9 f_2) 10 f_3) 11 f_4) 12 f_5) 14 f_6) 15 w2a15) 16 w2a16) 17 w2a17) w2c h0 gs0 gA tb0 tA0 bf0 hi0) K 12 32 rfl rfl 0 rfl rfl (by decide) (by decide) (by decide) (by decide) (fun _ _ => rfl) u_765 u_748 u_747 u_88 hRm ⟨by decide, Nat.le_of_ble_eq_true rfl⟩ dX10_become_159 (by rw [ef_6]; rfl) ?_
    refine g_aload_n K dX10_become_162 rfl 1 rfl ?_
    refine g_get (v := .ref (r 0 15)) (T := TX10) (ref := "ChiefGrades$World") K hin_X10 1 rfl rfl 15 (by decide) u_195 (Or.inl rfl) rfl dX10_become_163 ?_
    refine g_iconst (v := 0) K dX10_become_166 (by decide) ?_
    refine g_aload_n K dX10_become_167 rfl 0 rfl ?_
    refine g_get (v := .ref (r 2 15)) (T := TX10) (ref := "ChiefGrades$World") K hin_X10 3 rfl rfl 15 (by decide) u_195 (Or.inl rfl) rfl dX10_become_168 ?_
    refine g_iconst (v := 0) K dX10_become_171 (by decide) ?_
    refine g_bipush (v := 20) K dX10_become_172 (by decide) ?_
    obtain ⟨f_7, ef_7, h⟩ := gi_nm h
    refine g_copy (f := (A0 15)) (g := w2a15) (n := 20) (ws' := cw (g_E Γ) q r (gpl F) o0 A0 C0 h0 o1 A1 C1 h1 (gu (gu (gu (gu (gu (gu (gu (gu o2 0 (o0 0)) 1 (o0 1)) 2 (o0 2)) 3 (o0 3)) 4 (o0 4)) 5 (o0 5)) 6 (o0 6)) 7 (o0 7)) (gu (gu (gu (gu (gu (gu (gu (gu (gu A2 8 f_1) 9 f_2) 10 f_3) 11 f_4) 12 f_5) 14 f_6) 15 f_7) 16 w2a16) 17 w2a17) w2c h0 gs0 gA tb0 tA0 bf0 hi0) K 13 33 rfl rfl 0 rfl rfl (by decide) (by decide) (by decide) (by decide) (fun _ _ => rfl) u_765 u_748 u_747 u_88 hRm ⟨by decide, Nat.le_of_ble_eq_true rfl⟩ dX10_become_174 (by rw [ef_7]; rfl) ?_
    refine g_aload_n K dX10_become_177 rfl 1 rfl ?_
    refine g_get (v := .ref (r 0 16)) (T := TX10) (ref := "ChiefGrades$World") K hin_X10 1 rfl rfl 16 (by decide) u_197 (Or.inl rfl) rfl dX10_become_178 ?_
    refine g_iconst (v := 0) K dX10_become_181 (by decide) ?_
    refine g_aload_n K dX10_become_182 rfl 0 rfl ?_
    refine g_get (v := .ref (r 2 16)) (T := TX10) (ref := "ChiefGrades$World") K hin_X10 3 rfl rfl 16 (by decide) u_197 (Or.inl rfl) rfl dX10_become_183 ?_
    refine g_iconst (v := 0) K dX10_become_186 (by decide) ?_
    refine g_bipush (v := 20) K dX10_become_187 (by decide) ?_
    obtain ⟨f_8, ef_8, h⟩ := gi_nm h
    refine g_copy (f := (A0 16)) (g := w2a16) (n := 20) (ws' := cw (g_E Γ) q r (gpl F) o0 A0 C0 h0 o1 A1 C1 h1 (gu (gu (gu (gu (gu (gu (gu (gu o2 0 (o0 0)) 1 (o0 1)) 2 (o0 2)) 3 (o0 3)) 4 (o0 4)) 5 (o0 5)) 6 (o0 6)) 7 (o0 7)) (gu (gu (gu (gu (gu (gu (gu (gu (gu A2 8 f_1) 9 f_2) 10 f_3) 11 f_4) 12 f_5) 14 f_6) 15 f_7) 16 f_8) 17 w2a17) w2c h0 gs0 gA tb0 tA0 bf0 hi0) K 14 34 rfl rfl 0 rfl rfl (by decide) (by decide) (by decide) (by decide) (fun _ _ => rfl) u_765 u_748 u_747 u_88 hRm ⟨by decide, Nat.le_of_ble_eq_true rfl⟩ dX10_become_189 (by rw [ef_8]; rfl) ?_
    refine g_aload_n K dX10_become_192 rfl 1 rfl ?_
    refine g_get (v := .ref (r 0 17)) (T := TX10) (ref := "ChiefGrades$World") K hin_X10 1 rfl rfl 17 (by decide) u_199 (Or.inl rfl) rfl dX10_become_193 ?_
    refine g_iconst (v := 0) K dX10_become_196 (by decide) ?_
    refine g_aload_n K dX10_become_197 rfl 0 rfl ?_
    refine g_get (v := .ref (r 2 17)) (T := TX10) (ref := "ChiefGrades$World") K hin_X10 3 rfl rfl 17 (by decide) u_199 (Or.inl rfl) rfl dX10_become_198 ?_
    refine g_iconst (v := 0) K dX10_become_201 (by decide) ?_
    refine g_bipush (v := 100) K dX10_become_202 (by decide) ?_
    obtain ⟨b_9, h⟩ := gi_none h
    obtain ⟨f_10, ef_10, h⟩ := gi_nm h
    refine g_copy (f := (A0 17)) (g := w2a17) (n := 100) (ws' := cw (g_E Γ) q r (gpl F) o0 A0 C0 h0 o1 A1 C1 h1 (gu (gu (gu (gu (gu (gu (gu (gu o2 0 (o0 0)) 1 (o0 1)) 2 (o0 2)) 3 (o0 3)) 4 (o0 4)) 5 (o0 5)) 6 (o0 6)) 7 (o0 7)) (gu (gu (gu (gu (gu (gu (gu (gu (gu A2 8 f_1) 9 f_2) 10 f_3) 11 f_4) 12 f_5) 14 f_6) 15 f_7) 16 f_8) 17 f_10) w2c h0 gs0 gA tb0 tA0 bf0 hi0) K 15 35 rfl rfl 1 rfl rfl (by decide) (by decide) (by decide) (by decide) (gfitC_fit b_9) u_765 u_748 u_747 u_88 hRm ⟨by decide, Nat.le_of_ble_eq_true rfl⟩ dX10_become_204 (by rw [ef_10]; rfl) ?_
    refine g_iconst (v := 0) K dX10_become_207 (by decide) ?_
    refine g_istore_n (L' := [(2, .int 0), (0, .ref (q 2)), (1, .ref (q 0))]) K dX10_become_208 rfl (hlt _ (by decide)) rfl ?_
    refine g_sub (L' := [(0, .ref (q 2)), (1, .ref (q 0)), (2, .int 0)]) [1, 2, 0] rfl ?_
    exact wX10_become_w2_w0_209 (C0 := C0) (h0 := h0) (C1 := C1) (h1 := h1) (C2 := C2) (h2 := h2) (gs0 := gs0) (tb0 := tb0) (tA0 := tA0) (bf0 := bf0) (hi0 := hi0) hF K hlt hRm hret 1000 (o0 0) (o0 1) (o0 2) (o0 3) (o0 4) (o0 5) (o0 6) (o0 7) f_1 f_2 f_3 f_4 f_5 f_6 f_7 f_8 f_10 h0 w2c 0 h

set_option maxRecDepth 100000 in
theorem ctX10_become_w2_w0 {E : gE} {q : Nat → Nat} {r : Nat → Nat → Nat} {F : gF} (hF : gFz E F) (o0 : Nat → Int32) (A0 : Nat → Nat → Int32) (C0 : Nat → Option Nat) (h0 : Nat) (o1 : Nat → Int32) (A1 : Nat → Nat → Int32) (C1 : Nat → Option Nat) (h1 : Nat) (o2 : Nat → Int32) (A2 : Nat → Nat → Int32) (C2 : Nat → Option Nat) (h2 : Nat) (gs0 : Int32) (gA : Nat → Nat → Int32) (tb0 : Int32) (tA0 bf0 : Nat → Int32) (hi0 : Int32) {res : Int32 × Int32 × Int32 × Int32 × Int32 × Int32 × Int32 × Int32 × ((Nat → Int32)) × ((Nat → Int32)) × ((Nat → Int32)) × ((Nat → Int32)) × ((Nat → Int32)) × ((Nat → Int32)) × ((Nat → Int32)) × ((Nat → Int32)) × ((Nat → Int32)) × Nat × ((Nat → Option Nat))} (h : pX10_become_w2_w0 F (o0 0) (o0 1) (o0 2) (o0 3) (o0 4) (o0 5) (o0 6) (o0 7) (A0 8) (A0 9) (A0 10) (A0 11) (A0 12) (A0 14) (A0 15) (A0 16) (A0 17) h0 C0 (o2 0) (o2 1) (o2 2) (o2 3) (o2 4) (o2 5) (o2 6) (o2 7) (A2 8) (A2 9) (A2 10) (A2 11) (A2 12) (A2 14) (A2 15) (A2 16) (A2 17) h2 C2 = some res) : gMv yX10_become (.code yX10_become cX10_become 3 none :: gU) ({ frames := 4, cells := 0, slots := 0, locals := 150 } : Room) 0 0 E [.ref (q 2), .ref (q 0)] (cw E q r (gpl F) o0 A0 C0 h0 o1 A1 C1 h1 o2 A2 C2 h2 gs0 gA tb0 tA0 bf0 hi0) (fun w => w = cw E q r (gpl F) o0 A0 C0 h0 o1 A1 C1 h1 (gu (gu (gu (gu (gu (gu (gu (gu o2 0 res.1) 1 res.2.1) 2 res.2.2.1) 3 res.2.2.2.1) 4 res.2.2.2.2.1) 5 res.2.2.2.2.2.1) 6 res.2.2.2.2.2.2.1) 7 res.2.2.2.2.2.2.2.1) (gu (gu (gu (gu (gu (gu (gu (gu (gu A2 8 res.2.2.2.2.2.2.2.2.1) 9 res.2.2.2.2.2.2.2.2.2.1) 10 res.2.2.2.2.2.2.2.2.2.2.1) 11 res.2.2.2.2.2.2.2.2.2.2.2.1) 12 res.2.2.2.2.2.2.2.2.2.2.2.2.1) 14 res.2.2.2.2.2.2.2.2.2.2.2.2.2.1) 15 res.2.2.2.2.2.2.2.2.2.2.2.2.2.2.1) 16 res.2.2.2.2.2.2.2.2.2.2.2.2.2.2.2.1) 17 res.2.2.2.2.2.2.2.2.2.2.2.2.2.2.2.2.1) res.2.2.2.2.2.2.2.2.2.2.2.2.2.2.2.2.2.2 res.2.2.2.2.2.2.2.2.2.2.2.2.2.2.2.2.2.1 gs0 gA tb0 tA0 bf0 hi0) := by
  refine g_met_v (by decide +kernel) (Nat.le_of_ble_eq_true rfl) (fun Γ K hn hE hRm _ hret => ?_)
  subst hE
  have hlt : ∀ i, i < 3 → i < g_n Γ := fun i q => by rw [hn]; exact q
  refine g_ws (ws' := cw (g_E Γ) q r (gpl F) o0 A0 C0 h0 o1 A1 C1 h1 (gu (gu (gu (gu (gu (gu (gu (gu o2 0 (o2 0)) 1 (o2 1)) 2 (o2 2)) 3 (o2 3)) 4 (o2 4)) 5 (o2 5)) 6 (o2 6)) 7 (o2 7)) (gu (gu (gu (gu (gu (gu (gu (gu (gu A2 8 (A2 8)) 9 (A2 9)) 10 (A2 10)) 11 (A2 11)) 12 (A2 12)) 14 (A2 14)) 15 (A2 15)) 16 (A2 16)) 17 (A2 17)) C2 h2 gs0 gA tb0 tA0 bf0 hi0) rfl ?_
  refine g_sub (L' := [(0, .ref (q 2)), (1, .ref (q 0))]) [0, 1] rfl ?_
  exact wX10_become_w2_w0 (C0 := C0) (h0 := h0) (C1 := C1) (h1 := h1) (C2 := C2) (h2 := h2) (gs0 := gs0) (tb0 := tb0) (tA0 := tA0) (bf0 := bf0) (hi0 := hi0) hF K hlt hRm hret (o2 0) (o2 1) (o2 2) (o2 3) (o2 4) (o2 5) (o2 6) (o2 7) (A2 8) (A2 9) (A2 10) (A2 11) (A2 12) (A2 14) (A2 15) (A2 16) (A2 17) h2 C2 h

set_option maxHeartbeats 4000000 in
set_option maxRecDepth 100000 in
theorem wX11_image {Γ : gT} {q : Nat → Nat} {r : Nat → Nat → Nat} {F : gF} (hF : gFz (g_E Γ) F) {o0 : Nat → Int32} {A0 : Nat → Nat → Int32} {C0 : Nat → Option Nat} {h0 : Nat} {o1 : Nat → Int32} {A1 : Nat → Nat → Int32} {C1 : Nat → Option Nat} {h1 : Nat} {o2 : Nat → Int32} {A2 : Nat → Nat → Int32} {C2 : Nat → Option Nat} {h2 : Nat} {gs0 : Int32} {gA : Nat → Nat → Int32} {tb0 : Int32} {tA0 bf0 : Nat → Int32} {hi0 : Int32} (K : gOK Γ cX11_image gU RX11) (hlt : ∀ i, i < 1 → i < g_n Γ) (hRm : g_R Γ = ({ frames := 5, cells := 0, slots := 0, locals := 172 } : Room)) {res : Int32 × Int32 × Int32 × Int32 × Int32 × Int32 × Int32 × Int32 × Int32 × ((Nat → Int32)) × ((Nat → Int32)) × ((Nat → Int32)) × ((Nat → Int32)) × ((Nat → Int32)) × ((Nat → Int32)) × ((Nat → Int32)) × ((Nat → Int32)) × ((Nat → Int32)) × Nat × ((Nat → Option Nat)) × Int32} (hret : ∀ (pc : Nat) (L : List (Nat × Value)) (v : Int32) (w : va_W), decode cX11_image pc = .ok (.ireturn, 1) → narrow .int (.int v) = .int v → (v = res.1 ∧ w = cw (g_E Γ) q r (gpl F) o0 A0 C0 h0 o1 A1 C1 h1 (gu (gu (gu (gu (gu (gu (gu (gu o2 0 res.2.1) 1 res.2.2.1) 2 res.2.2.2.1) 3 res.2.2.2.2.1) 4 res.2.2.2.2.2.1) 5 res.2.2.2.2.2.2.1) 6 res.2.2.2.2.2.2.2.1) 7 res.2.2.2.2.2.2.2.2.1) (gu (gu (gu (gu (gu (gu (gu (gu (gu A2 8 res.2.2.2.2.2.2.2.2.2.1) 9 res.2.2.2.2.2.2.2.2.2.2.1) 10 res.2.2.2.2.2.2.2.2.2.2.2.1) 11 res.2.2.2.2.2.2.2.2.2.2.2.2.1) 12 res.2.2.2.2.2.2.2.2.2.2.2.2.2.1) 14 res.2.2.2.2.2.2.2.2.2.2.2.2.2.2.1) 15 res.2.2.2.2.2.2.2.2.2.2.2.2.2.2.2.1) 16 res.2.2.2.2.2.2.2.2.2.2.2.2.2.2.2.2.1) 17 res.2.2.2.2.2.2.2.2.2.2.2.2.2.2.2.2.2.1) res.2.2.2.2.2.2.2.2.2.2.2.2.2.2.2.2.2.2.2.1 res.2.2.2.2.2.2.2.2.2.2.2.2.2.2.2.2.2.2.1 gs0 gA tb0 tA0 bf0 res.2.2.2.2.2.2.2.2.2.2.2.2.2.2.2.2.2.2.2.2) → gGO Γ 0 0 pc L [.int v] w) (w2o0 : Int32) (w2o1 : Int32) (w2o2 : Int32) (w2o3 : Int32) (w2o4 : Int32) (w2o5 : Int32) (w2o6 : Int32) (w2o7 : Int32) (w2a8 : (Nat → Int32)) (w2a9 : (Nat → Int32)) (w2a10 : (Nat → Int32)) (w2a11 : (Nat → Int32)) (w2a12 : (Nat → Int32)) (w2a14 : (Nat → Int32)) (w2a15 : (Nat → Int32)) (w2a16 : (Nat → Int32)) (w2a17 : (Nat → Int32)) (w2h : Nat) (w2c : (Nat → Option Nat)) (hi : Int32) (h : pX11_image F (o0 0) (o0 1) (o0 2) (o0 3) (o0 4) (o0 5) (o0 6) (o0 7) (A0 8) (A0 9) (A0 10) (A0 11) (A0 12) (A0 14) (A0 15) (A0 16) (A0 17) h0 C0 w2o0 w2o1 w2o2 w2o3 w2o4 w2o5 w2o6 w2o7 w2a8 w2a9 w2a10 w2a11 w2a12 w2a14 w2a15 w2a16 w2a17 w2h w2c hi = some res) : gGO Γ 0 0 0 [(0, .ref (q 5))] [] (cw (g_E Γ) q r (gpl F) o0 A0 C0 h0 o1 A1 C1 h1 (gu (gu (gu (gu (gu (gu (gu (gu o2 0 w2o0) 1 w2o1) 2 w2o2) 3 w2o3) 4 w2o4) 5 w2o5) 6 w2o6) 7 w2o7) (gu (gu (gu (gu (gu (gu (gu (gu (gu A2 8 w2a8) 9 w2a9) 10 w2a10) 11 w2a11) 12 w2a12) 14 w2a14) 15 w2a15) 16 w2a16) 17 w2a17) w2c w2h gs0 gA tb0 tA0 bf0 hi) := by
    unfold pX11_image at h
    refine g_aload_n K dX11_image_0 rfl 0 rfl ?_
    refine g_get (v := .ref (q 2)) (T := TX11) (ref := "ChiefGrades") K hin_X11 0 rfl rfl 2 (by decide) u_326 (Or.inl rfl) rfl dX11_image_1 ?_
    refine g_aload_n K dX11_image_4 rfl 0 rfl ?_
    refine g_get (v := .ref (q 0)) (T := TX11) (ref := "ChiefGrades") K hin_X11 0 rfl rfl 0 (by decide) u_324 (Or.inl rfl) rfl dX11_image_5 ?_
    obtain ⟨z_1, hz_1, h⟩ := gi_bd h
    refine g_callVv (As := [.ref (q 0)]) (bytes := cX10_become) (maxL := 3) (ret := none) K (ctX10_become_w2_w0 hF o0 A0 C0 h0 o1 A1 C1 h1 (gu (gu (gu (gu (gu (gu (gu (gu o2 0 w2o0) 1 w2o1) 2 w2o2) 3 w2o3) 4 w2o4) 5 w2o5) 6 w2o6) 7 w2o7) (gu (gu (gu (gu (gu (gu (gu (gu (gu A2 8 w2a8) 9 w2a9) 10 w2a10) 11 w2a11) 12 w2a12) 14 w2a14) 15 w2a15) 16 w2a16) 17 w2a17) w2c w2h gs0 gA tb0 tA0 bf0 hi (res := z_1) hz_1) gc_V_RX11_185_X10_become rfl qv_X10_become 3 rfl rfl rfl hRm rfl rfl rfl (by decide) (Nat.le_of_ble_eq_true rfl) (by decide) dX11_image_8 (fun w hw => ?_)
    subst hw
    refine g_ws (ws' := cw (g_E Γ) q r (gpl F) o0 A0 C0 h0 o1 A1 C1 h1 (gu (gu (gu (gu (gu (gu (gu (gu o2 0 z_1.1) 1 z_1.2.1) 2 z_1.2.2.1) 3 z_1.2.2.2.1) 4 z_1.2.2.2.2.1) 5 z_1.2.2.2.2.2.1) 6 z_1.2.2.2.2.2.2.1) 7 z_1.2.2.2.2.2.2.2.1) (gu (gu (gu (gu (gu (gu (gu (gu (gu A2 8 z_1.2.2.2.2.2.2.2.2.1) 9 z_1.2.2.2.2.2.2.2.2.2.1) 10 z_1.2.2.2.2.2.2.2.2.2.2.1) 11 z_1.2.2.2.2.2.2.2.2.2.2.2.1) 12 z_1.2.2.2.2.2.2.2.2.2.2.2.2.1) 14 z_1.2.2.2.2.2.2.2.2.2.2.2.2.2.1) 15 z_1.2.2.2.2.2.2.2.2.2.2.2.2.2.2.1) 16 z_1.2.2.2.2.2.2.2.2.2.2.2.2.2.2.2.1) 17 z_1.2.2.2.2.2.2.2.2.2.2.2.2.2.2.2.2.1) z_1.2.2.2.2.2.2.2.2.2.2.2.2.2.2.2.2.2.2 z_1.2.2.2.2.2.2.2.2.2.2.2.2.2.2.2.2.2.1 gs0 gA tb0 tA0 bf0 hi) rfl ?_
    refine g_aload_n K dX11_image_11 rfl 0 rfl ?_
    refine g_iconst (v := 1) K dX11_image_12 (by decide) ?_
    refine g_put (v := .int 1) (ws' := cw (g_E Γ) q r (gpl F) o0 A0 C0 h0 o1 A1 C1 h1 (gu (gu (gu (gu (gu (gu (gu (gu o2 0 z_1.1) 1 z_1.2.1) 2 z_1.2.2.1) 3 z_1.2.2.2.1) 4 z_1.2.2.2.2.1) 5 z_1.2.2.2.2.2.1) 6 z_1.2.2.2.2.2.2.1) 7 z_1.2.2.2.2.2.2.2.1) (gu (gu (gu (gu (gu (gu (gu (gu (gu A2 8 z_1.2.2.2.2.2.2.2.2.1) 9 z_1.2.2.2.2.2.2.2.2.2.1) 10 z_1.2.2.2.2.2.2.2.2.2.2.1) 11 z_1.2.2.2.2.2.2.2.2.2.2.2.1) 12 z_1.2.2.2.2.2.2.2.2.2.2.2.2.1) 14 z_1.2.2.2.2.2.2.2.2.2.2.2.2.2.1) 15 z_1.2.2.2.2.2.2.2.2.2.2.2.2.2.2.1) 16 z_1.2.2.2.2.2.2.2.2.2.2.2.2.2.2.2.1) 17 z_1.2.2.2.2.2.2.2.2.2.2.2.2.2.2.2.2.1) z_1.2.2.2.2.2.2.2.2.2.2.2.2.2.2.2.2.2.2 z_1.2.2.2.2.2.2.2.2.2.2.2.2.2.2.2.2.2.1 gs0 gA tb0 tA0 bf0 1) (T := TX11) (ref := "ChiefGrades") (ty := .boolean) K hin_X11 tyX11_ok nmX11 0 rfl rfl 6 (by decide) u_330 rfl rfl (by decide +kernel) (by decide) (by decide) (Nat.le_of_ble_eq_true rfl) dX11_image_13 rfl ?_
    refine g_aload_n K dX11_image_16 rfl 0 rfl ?_
    refine g_get (v := .ref (q 0)) (T := TX11) (ref := "ChiefGrades") K hin_X11 0 rfl rfl 0 (by decide) u_324 (Or.inl rfl) rfl dX11_image_17 ?_
    refine g_get (v := .int (o0 0)) (T := TX10) (ref := "ChiefGrades$World") K hin_X10 1 rfl rfl 0 (by decide) u_160 (Or.inl rfl) rfl dX11_image_20 ?_
    obtain rfl := Option.some.inj h
    exact hret _ _ _ _ dX11_image_23 rfl ⟨rfl, rfl⟩

set_option maxRecDepth 100000 in
theorem ctX11_image {E : gE} {q : Nat → Nat} {r : Nat → Nat → Nat} {F : gF} (hF : gFz E F) (o0 : Nat → Int32) (A0 : Nat → Nat → Int32) (C0 : Nat → Option Nat) (h0 : Nat) (o1 : Nat → Int32) (A1 : Nat → Nat → Int32) (C1 : Nat → Option Nat) (h1 : Nat) (o2 : Nat → Int32) (A2 : Nat → Nat → Int32) (C2 : Nat → Option Nat) (h2 : Nat) (gs0 : Int32) (gA : Nat → Nat → Int32) (tb0 : Int32) (tA0 bf0 : Nat → Int32) (hi0 : Int32) {res : Int32 × Int32 × Int32 × Int32 × Int32 × Int32 × Int32 × Int32 × Int32 × ((Nat → Int32)) × ((Nat → Int32)) × ((Nat → Int32)) × ((Nat → Int32)) × ((Nat → Int32)) × ((Nat → Int32)) × ((Nat → Int32)) × ((Nat → Int32)) × ((Nat → Int32)) × Nat × ((Nat → Option Nat)) × Int32} (h : pX11_image F (o0 0) (o0 1) (o0 2) (o0 3) (o0 4) (o0 5) (o0 6) (o0 7) (A0 8) (A0 9) (A0 10) (A0 11) (A0 12) (A0 14) (A0 15) (A0 16) (A0 17) h0 C0 (o2 0) (o2 1) (o2 2) (o2 3) (o2 4) (o2 5) (o2 6) (o2 7) (A2 8) (A2 9) (A2 10) (A2 11) (A2 12) (A2 14) (A2 15) (A2 16) (A2 17) h2 C2 hi0 = some res) : gMi yX11_image (.code yX11_image cX11_image 1 (some .int) :: gU) ({ frames := 5, cells := 0, slots := 0, locals := 172 } : Room) 0 0 E [.ref (q 5)] (cw E q r (gpl F) o0 A0 C0 h0 o1 A1 C1 h1 o2 A2 C2 h2 gs0 gA tb0 tA0 bf0 hi0) (fun v w => v = res.1 ∧ w = cw E q r (gpl F) o0 A0 C0 h0 o1 A1 C1 h1 (gu (gu (gu (gu (gu (gu (gu (gu o2 0 res.2.1) 1 res.2.2.1) 2 res.2.2.2.1) 3 res.2.2.2.2.1) 4 res.2.2.2.2.2.1) 5 res.2.2.2.2.2.2.1) 6 res.2.2.2.2.2.2.2.1) 7 res.2.2.2.2.2.2.2.2.1) (gu (gu (gu (gu (gu (gu (gu (gu (gu A2 8 res.2.2.2.2.2.2.2.2.2.1) 9 res.2.2.2.2.2.2.2.2.2.2.1) 10 res.2.2.2.2.2.2.2.2.2.2.2.1) 11 res.2.2.2.2.2.2.2.2.2.2.2.2.1) 12 res.2.2.2.2.2.2.2.2.2.2.2.2.2.1) 14 res.2.2.2.2.2.2.2.2.2.2.2.2.2.2.1) 15 res.2.2.2.2.2.2.2.2.2.2.2.2.2.2.2.1) 16 res.2.2.2.2.2.2.2.2.2.2.2.2.2.2.2.2.1) 17 res.2.2.2.2.2.2.2.2.2.2.2.2.2.2.2.2.2.1) res.2.2.2.2.2.2.2.2.2.2.2.2.2.2.2.2.2.2.2.1 res.2.2.2.2.2.2.2.2.2.2.2.2.2.2.2.2.2.2.1 gs0 gA tb0 tA0 bf0 res.2.2.2.2.2.2.2.2.2.2.2.2.2.2.2.2.2.2.2.2) := by
  refine g_met_i (by decide +kernel) (Nat.le_of_ble_eq_true rfl) (fun Γ K hn hE hRm _ hret => ?_)
  subst hE
  have hlt : ∀ i, i < 1 → i < g_n Γ := fun i q => by rw [hn]; exact q
  refine g_ws (ws' := cw (g_E Γ) q r (gpl F) o0 A0 C0 h0 o1 A1 C1 h1 (gu (gu (gu (gu (gu (gu (gu (gu o2 0 (o2 0)) 1 (o2 1)) 2 (o2 2)) 3 (o2 3)) 4 (o2 4)) 5 (o2 5)) 6 (o2 6)) 7 (o2 7)) (gu (gu (gu (gu (gu (gu (gu (gu (gu A2 8 (A2 8)) 9 (A2 9)) 10 (A2 10)) 11 (A2 11)) 12 (A2 12)) 14 (A2 14)) 15 (A2 15)) 16 (A2 16)) 17 (A2 17)) C2 h2 gs0 gA tb0 tA0 bf0 hi0) rfl ?_
  refine g_sub (L' := [(0, .ref (q 5))]) [0] rfl ?_
  exact wX11_image (C0 := C0) (h0 := h0) (C1 := C1) (h1 := h1) (C2 := C2) (h2 := h2) (gs0 := gs0) (tb0 := tb0) (tA0 := tA0) (bf0 := bf0) (hi0 := hi0) hF K hlt hRm hret (o2 0) (o2 1) (o2 2) (o2 3) (o2 4) (o2 5) (o2 6) (o2 7) (A2 8) (A2 9) (A2 10) (A2 11) (A2 12) (A2 14) (A2 15) (A2 16) (A2 17) h2 C2 hi0 h

set_option maxHeartbeats 4000000 in
set_option maxRecDepth 100000 in
theorem wX10_become_w0_w2_209 {Γ : gT} {q : Nat → Nat} {r : Nat → Nat → Nat} {F : gF} (hF : gFz (g_E Γ) F) {o0 : Nat → Int32} {A0 : Nat → Nat → Int32} {C0 : Nat → Option Nat} {h0 : Nat} {o1 : Nat → Int32} {A1 : Nat → Nat → Int32} {C1 : Nat → Option Nat} {h1 : Nat} {o2 : Nat → Int32} {A2 : Nat → Nat → Int32} {C2 : Nat → Option Nat} {h2 : Nat} {gs0 : Int32} {gA : Nat → Nat → Int32} {tb0 : Int32} {tA0 bf0 : Nat → Int32} {hi0 : Int32} (K : gOK Γ cX10_become gU RX10) (hlt : ∀ i, i < 3 → i < g_n Γ) (hRm : g_R Γ = ({ frames := 4, cells := 0, slots := 0, locals := 150 } : Room)) {res : Int32 × Int32 × Int32 × Int32 × Int32 × Int32 × Int32 × Int32 × ((Nat → Int32)) × ((Nat → Int32)) × ((Nat → Int32)) × ((Nat → Int32)) × ((Nat → Int32)) × ((Nat → Int32)) × ((Nat → Int32)) × ((Nat → Int32)) × ((Nat → Int32)) × Nat × ((Nat → Option Nat))} (hret : ∀ (pc : Nat) (L : List (Nat × Value)) (w : va_W), decode cX10_become pc = .ok (.return_, 1) → (w = cw (g_E Γ) q r (gpl F) (gu (gu (gu (gu (gu (gu (gu (gu o0 0 res.1) 1 res.2.1) 2 res.2.2.1) 3 res.2.2.2.1) 4 res.2.2.2.2.1) 5 res.2.2.2.2.2.1) 6 res.2.2.2.2.2.2.1) 7 res.2.2.2.2.2.2.2.1) (gu (gu (gu (gu (gu (gu (gu (gu (gu A0 8 res.2.2.2.2.2.2.2.2.1) 9 res.2.2.2.2.2.2.2.2.2.1) 10 res.2.2.2.2.2.2.2.2.2.2.1) 11 res.2.2.2.2.2.2.2.2.2.2.2.1) 12 res.2.2.2.2.2.2.2.2.2.2.2.2.1) 14 res.2.2.2.2.2.2.2.2.2.2.2.2.2.1) 15 res.2.2.2.2.2.2.2.2.2.2.2.2.2.2.1) 16 res.2.2.2.2.2.2.2.2.2.2.2.2.2.2.2.1) 17 res.2.2.2.2.2.2.2.2.2.2.2.2.2.2.2.2.1) res.2.2.2.2.2.2.2.2.2.2.2.2.2.2.2.2.2.2 res.2.2.2.2.2.2.2.2.2.2.2.2.2.2.2.2.2.1 o1 A1 C1 h1 o2 A2 C2 h2 gs0 gA tb0 tA0 bf0 hi0) → gGO Γ 0 0 pc L [] w) : ∀ (n : Nat) (w0o0 : Int32) (w0o1 : Int32) (w0o2 : Int32) (w0o3 : Int32) (w0o4 : Int32) (w0o5 : Int32) (w0o6 : Int32) (w0o7 : Int32) (w0a8 : (Nat → Int32)) (w0a9 : (Nat → Int32)) (w0a10 : (Nat → Int32)) (w0a11 : (Nat → Int32)) (w0a12 : (Nat → Int32)) (w0a14 : (Nat → Int32)) (w0a15 : (Nat → Int32)) (w0a16 : (Nat → Int32)) (w0a17 : (Nat → Int32)) (w0h : Nat) (w0c : (Nat → Option Nat)) (x2 : Int32), pX10_become_w0_w2_209 F (o2 0) (o2 1) (o2 2) (o2 3) (o2 4) (o2 5) (o2 6) (o2 7) (A2 8) (A2 9) (A2 10) (A2 11) (A2 12) (A2 14) (A2 15) (A2 16) (A2 17) h2 C2 n w0o0 w0o1 w0o2 w0o3 w0o4 w0o5 w0o6 w0o7 w0a8 w0a9 w0a10 w0a11 w0a12 w0a14 w0a15 w0a16 w0a17 w0h w0c x2 = some res → gGO Γ 0 0 209 [(0, .ref (q 0)), (1, .ref (q 2)), (2, .int x2)] [] (cw (g_E Γ) q r (gpl F) (gu (gu (gu (gu (gu (gu (gu (gu o0 0 w0o0) 1 w0o1) 2 w0o2) 3 w0o3) 4 w0o4) 5 w0o5) 6 w0o6) 7 w0o7) (gu (gu (gu (gu (gu (gu (gu (gu (gu A0 8 w0a8) 9 w0a9) 10 w0a10) 11 w0a11) 12 w0a12) 14 w0a14) 15 w0a15) 16 w0a16) 17 w0a17) w0c w0h o1 A1 C1 h1 o2 A2 C2 h2 gs0 gA tb0 tA0 bf0 hi0) := by
  intro n
  induction n with
  | zero => intro _ _ _ _ _ _ _ _ _ _ _ _ _ _ _ _ _ _ _ _ h; cases h
  | succ n ih =>
    intro w0o0 w0o1 w0o2 w0o3 w0o4 w0o5 w0o6 w0o7 w0a8 w0a9 w0a10 w0a11 w0a12 w0a14 w0a15 w0a16 w0a17 w0h w0c x2 h
    simp only [pX10_become_w0_w2_209] at h
    refine g_iload_n K dX10_become_209 rfl 2 rfl ?_
    refine g_iconst (v := 4) K dX10_become_210 (by decide) ?_
    obtain ⟨ht9, hf9⟩ := gi_br h; clear h
    refine g_icmp_ge (tgt := 232) K dX10_become_211 (by decide) (fun qh => ?_) (fun qh => ?_)
    · have h := ht9 qh; clear ht9 hf9
      obtain rfl := Option.some.inj h
      exact hret _ _ _ dX10_become_232 rfl
    · have h := hf9 qh; clear ht9 hf9
      refine g_aload_n K dX10_become_214 rfl 0 rfl ?_
      refine g_get (v := .ref (r 0 13)) (T := TX10) (ref := "ChiefGrades$World") K hin_X10 1 rfl rfl 13 (by decide) u_191 (Or.inl rfl) rfl dX10_become_215 ?_
      refine g_iload_n K dX10_become_218 rfl 2 rfl ?_
      refine g_aload_n K dX10_become_219 rfl 1 rfl ?_
      refine g_get (v := .ref (r 2 13)) (T := TX10) (ref := "ChiefGrades$World") K hin_X10 3 rfl rfl 13 (by decide) u_191 (Or.inl rfl) rfl dX10_become_220 ?_
      refine g_iload_n K dX10_become_223 rfl 2 rfl ?_
      obtain ⟨b_1, h⟩ := gi_none h
      refine g_aald (f := C2) K 31 rfl (ginb_in b_1) dX10_become_224 ?_
      obtain ⟨b_2, h⟩ := gi_none h
      obtain ⟨b_3, h⟩ := gi_none h
      obtain ⟨f_4, ef_4, h⟩ := gi_nm h
      refine g_aast (f := w0c) (ws' := cw (g_E Γ) q r (gpl F) (gu (gu (gu (gu (gu (gu (gu (gu o0 0 w0o0) 1 w0o1) 2 w0o2) 3 w0o3) 4 w0o4) 5 w0o5) 6 w0o6) 7 w0o7) (gu (gu (gu (gu (gu (gu (gu (gu (gu A0 8 w0a8) 9 w0a9) 10 w0a10) 11 w0a11) 12 w0a12) 14 w0a14) 15 w0a15) 16 w0a16) 17 w0a17) f_4 w0h o1 A1 C1 h1 o2 A2 C2 h2 gs0 gA tb0 tA0 bf0 hi0) K hF 11 rfl (ginb_in b_2) b_3 dX10_become_225 (by rw [ef_4]; rfl) ?_
      refine g_iinc (v := (x2 + 1)) (L' := [(2, .int (x2 + 1)), (0, .ref (q 0)), (1, .ref (q 2))]) K dX10_become_226 2 rfl rfl (hlt _ (by decide)) rfl ?_
      refine g_goto (tgt := 209) K dX10_become_229 (by decide) ?_
      refine g_sub (L' := [(0, .ref (q 0)), (1, .ref (q 2)), (2, .int (x2 + 1))]) [1, 2, 0] rfl ?_
      exact ih w0o0 w0o1 w0o2 w0o3 w0o4 w0o5 w0o6 w0o7 w0a8 w0a9 w0a10 w0a11 w0a12 w0a14 w0a15 w0a16 w0a17 w0h f_4 (x2 + 1) h

set_option maxHeartbeats 4000000 in
set_option maxRecDepth 100000 in
theorem wX10_become_w0_w2 {Γ : gT} {q : Nat → Nat} {r : Nat → Nat → Nat} {F : gF} (hF : gFz (g_E Γ) F) {o0 : Nat → Int32} {A0 : Nat → Nat → Int32} {C0 : Nat → Option Nat} {h0 : Nat} {o1 : Nat → Int32} {A1 : Nat → Nat → Int32} {C1 : Nat → Option Nat} {h1 : Nat} {o2 : Nat → Int32} {A2 : Nat → Nat → Int32} {C2 : Nat → Option Nat} {h2 : Nat} {gs0 : Int32} {gA : Nat → Nat → Int32} {tb0 : Int32} {tA0 bf0 : Nat → Int32} {hi0 : Int32} (K : gOK Γ cX10_become gU RX10) (hlt : ∀ i, i < 3 → i < g_n Γ) (hRm : g_R Γ = ({ frames := 4, cells := 0, slots := 0, locals := 150 } : Room)) {res : Int32 × Int32 × Int32 × Int32 × Int32 × Int32 × Int32 × Int32 × ((Nat → Int32)) × ((Nat → Int32)) × ((Nat → Int32)) × ((Nat → Int32)) × ((Nat → Int32)) × ((Nat → Int32)) × ((Nat → Int32)) × ((Nat → Int32)) × ((Nat → Int32)) × Nat × ((Nat → Option Nat))} (hret : ∀ (pc : Nat) (L : List (Nat × Value)) (w : va_W), decode cX10_become pc = .ok (.return_, 1) → (w = cw (g_E Γ) q r (gpl F) (gu (gu (gu (gu (gu (gu (gu (gu o0 0 res.1) 1 res.2.1) 2 res.2.2.1) 3 res.2.2.2.1) 4 res.2.2.2.2.1) 5 res.2.2.2.2.2.1) 6 res.2.2.2.2.2.2.1) 7 res.2.2.2.2.2.2.2.1) (gu (gu (gu (gu (gu (gu (gu (gu (gu A0 8 res.2.2.2.2.2.2.2.2.1) 9 res.2.2.2.2.2.2.2.2.2.1) 10 res.2.2.2.2.2.2.2.2.2.2.1) 11 res.2.2.2.2.2.2.2.2.2.2.2.1) 12 res.2.2.2.2.2.2.2.2.2.2.2.2.1) 14 res.2.2.2.2.2.2.2.2.2.2.2.2.2.1) 15 res.2.2.2.2.2.2.2.2.2.2.2.2.2.2.1) 16 res.2.2.2.2.2.2.2.2.2.2.2.2.2.2.2.1) 17 res.2.2.2.2.2.2.2.2.2.2.2.2.2.2.2.2.1) res.2.2.2.2.2.2.2.2.2.2.2.2.2.2.2.2.2.2 res.2.2.2.2.2.2.2.2.2.2.2.2.2.2.2.2.2.1 o1 A1 C1 h1 o2 A2 C2 h2 gs0 gA tb0 tA0 bf0 hi0) → gGO Γ 0 0 pc L [] w) (w0o0 : Int32) (w0o1 : Int32) (w0o2 : Int32) (w0o3 : Int32) (w0o4 : Int32) (w0o5 : Int32) (w0o6 : Int32) (w0o7 : Int32) (w0a8 : (Nat → Int32)) (w0a9 : (Nat → Int32)) (w0a10 : (Nat → Int32)) (w0a11 : (Nat → Int32)) (w0a12 : (Nat → Int32)) (w0a14 : (Nat → Int32)) (w0a15 : (Nat → Int32)) (w0a16 : (Nat → Int32)) (w0a17 : (Nat → Int32)) (w0h : Nat) (w0c : (Nat → Option Nat)) (h : pX10_become_w0_w2 F (o2 0) (o2 1) (o2 2) (o2 3) (o2 4) (o2 5) (o2 6) (o2 7) (A2 8) (A2 9) (A2 10) (A2 11) (A2 12) (A2 14) (A2 15) (A2 16) (A2 17) h2 C2 w0o0 w0o1 w0o2 w0o3 w0o4 w0o5 w0o6 w0o7 w0a8 w0a9 w0a10 w0a11 w0a12 w0a14 w0a15 w0a16 w0a17 w0h w0c = some res) : gGO Γ 0 0 0 [(0, .ref (q 0)), (1, .ref (q 2))] [] (cw (g_E Γ) q r (gpl F) (gu (gu (gu (gu (gu (gu (gu (gu o0 0 w0o0) 1 w0o1) 2 w0o2) 3 w0o3) 4 w0o4) 5 w0o5) 6 w0o6) 7 w0o7) (gu (gu (gu (gu (gu (gu (gu (gu (gu A0 8 w0a8) 9 w0a9) 10 w0a10) 11 w0a11) 12 w0a12) 14 w0a14) 15 w0a15) 16 w0a16) 17 w0a17) w0c w0h o1 A1 C1 h1 o2 A2 C2 h2 gs0 gA tb0 tA0 bf0 hi0) := by
    unfold pX10_become_w0_w2 at h
    refine g_aload_n K dX10_become_0 rfl 0 rfl ?_
    refine g_aload_n K dX10_become_1 rfl 1 rfl ?_
    refine g_get (v := .int (o2 0)) (T := TX10) (ref := "ChiefGrades$World") K hin_X10 3 rfl rfl 0 (by decide) u_158 (Or.inl rfl) rfl dX10_become_2 ?_
    refine g_put (v := .int (o2 0)) (ws' := cw (g_E Γ) q r (gpl F) (gu (gu (gu (gu (gu (gu (gu (gu o0 0 (o2 0)) 1 w0o1) 2 w0o2) 3 w0o3) 4 w0o4) 5 w0o5) 6 w0o6) 7 w0o7) (gu (gu (gu (gu (gu (gu (gu (gu (gu A0 8 w0a8) 9 w0a9) 10 w0a10) 11 w0a11) 12 w0a12) 14 w0a14) 15 w0a15) 16 w0a16) 17 w0a17) w0c w0h o1 A1 C1 h1 o2 A2 C2 h2 gs0 gA tb0 tA0 bf0 hi0) (T := TX10) (ref := "ChiefGrades$World") (ty := .int) K hin_X10 tyX10_ok nmX10 1 rfl rfl 0 (by decide) u_158 rfl rfl (by decide +kernel) rfl rfl (Nat.le_of_ble_eq_true rfl) dX10_become_5 rfl ?_
    refine g_aload_n K dX10_become_8 rfl 0 rfl ?_
    refine g_aload_n K dX10_become_9 rfl 1 rfl ?_
    refine g_get (v := .int (o2 1)) (T := TX10) (ref := "ChiefGrades$World") K hin_X10 3 rfl rfl 1 (by decide) u_161 (Or.inl rfl) rfl dX10_become_10 ?_
    refine g_put (v := .int (o2 1)) (ws' := cw (g_E Γ) q r (gpl F) (gu (gu (gu (gu (gu (gu (gu (gu o0 0 (o2 0)) 1 (o2 1)) 2 w0o2) 3 w0o3) 4 w0o4) 5 w0o5) 6 w0o6) 7 w0o7) (gu (gu (gu (gu (gu (gu (gu (gu (gu A0 8 w0a8) 9 w0a9) 10 w0a10) 11 w0a11) 12 w0a12) 14 w0a14) 15 w0a15) 16 w0a16) 17 w0a17) w0c w0h o1 A1 C1 h1 o2 A2 C2 h2 gs0 gA tb0 tA0 bf0 hi0) (T := TX10) (ref := "ChiefGrades$World") (ty := .int) K hin_X10 tyX10_ok nmX10 1 rfl rfl 1 (by decide) u_161 rfl rfl (by decide +kernel) rfl rfl (Nat.le_of_ble_eq_true rfl) dX10_become_13 rfl ?_
    refine g_aload_n K dX10_become_16 rfl 0 rfl ?_
    refine g_aload_n K dX10_become_17 rfl 1 rfl ?_
    refine g_get (v := .int (o2 2)) (T := TX10) (ref := "ChiefGrades$World") K hin_X10 3 rfl rfl 2 (by decide) u_164 (Or.inl rfl) rfl dX10_become_18 ?_
    refine g_put (v := .int (o2 2)) (ws' := cw (g_E Γ) q r (gpl F) (gu (gu (gu (gu (gu (gu (gu (gu o0 0 (o2 0)) 1 (o2 1)) 2 (o2 2)) 3 w0o3) 4 w0o4) 5 w0o5) 6 w0o6) 7 w0o7) (gu (gu (gu (gu (gu (gu (gu (gu (gu A0 8 w0a8) 9 w0a9) 10 w0a10) 11 w0a11) 12 w0a12) 14 w0a14) 15 w0a15) 16 w0a16) 17 w0a17) w0c w0h o1 A1 C1 h1 o2 A2 C2 h2 gs0 gA tb0 tA0 bf0 hi0) (T := TX10) (ref := "ChiefGrades$World") (ty := .int) K hin_X10 tyX10_ok nmX10 1 rfl rfl 2 (by decide) u_164 rfl rfl (by decide +kernel) rfl rfl (Nat.le_of_ble_eq_true rfl) dX10_become_21 rfl ?_
    refine g_aload_n K dX10_become_24 rfl 0 rfl ?_
    refine g_aload_n K dX10_become_25 rfl 1 rfl ?_
    refine g_get (v := .int (o2 3)) (T := TX10) (ref := "ChiefGrades$World") K hin_X10 3 rfl rfl 3 (by decide) u_166 (Or.inl rfl) rfl dX10_become_26 ?_
    refine g_put (v := .int (o2 3)) (ws' := cw (g_E Γ) q r (gpl F) (gu (gu (gu (gu (gu (gu (gu (gu o0 0 (o2 0)) 1 (o2 1)) 2 (o2 2)) 3 (o2 3)) 4 w0o4) 5 w0o5) 6 w0o6) 7 w0o7) (gu (gu (gu (gu (gu (gu (gu (gu (gu A0 8 w0a8) 9 w0a9) 10 w0a10) 11 w0a11) 12 w0a12) 14 w0a14) 15 w0a15) 16 w0a16) 17 w0a17) w0c w0h o1 A1 C1 h1 o2 A2 C2 h2 gs0 gA tb0 tA0 bf0 hi0) (T := TX10) (ref := "ChiefGrades$World") (ty := .int) K hin_X10 tyX10_ok nmX10 1 rfl rfl 3 (by decide) u_166 rfl rfl (by decide +kernel) rfl rfl (Nat.le_of_ble_eq_true rfl) dX10_become_29 rfl ?_
    refine g_aload_n K dX10_become_32 rfl 0 rfl ?_
    refine g_aload_n K dX10_become_33 rfl 1 rfl ?_
    refine g_get (v := .int (o2 4)) (T := TX10) (ref := "ChiefGrades$World") K hin_X10 3 rfl rfl 4 (by decide) u_169 (Or.inl rfl) rfl dX10_become_34 ?_
    refine g_put (v := .int (o2 4)) (ws' := cw (g_E Γ) q r (gpl F) (gu (gu (gu (gu (gu (gu (gu (gu o0 0 (o2 0)) 1 (o2 1)) 2 (o2 2)) 3 (o2 3)) 4 (o2 4)) 5 w0o5) 6 w0o6) 7 w0o7) (gu (gu (gu (gu (gu (gu (gu (gu (gu A0 8 w0a8) 9 w0a9) 10 w0a10) 11 w0a11) 12 w0a12) 14 w0a14) 15 w0a15) 16 w0a16) 17 w0a17) w0c w0h o1 A1 C1 h1 o2 A2 C2 h2 gs0 gA tb0 tA0 bf0 hi0) (T := TX10) (ref := "ChiefGrades$World") (ty := .int) K hin_X10 tyX10_ok nmX10 1 rfl rfl 4 (by decide) u_169 rfl rfl (by decide +kernel) rfl rfl (Nat.le_of_ble_eq_true rfl) dX10_become_37 rfl ?_
    refine g_aload_n K dX10_become_40 rfl 0 rfl ?_
    refine g_aload_n K dX10_become_41 rfl 1 rfl ?_
    refine g_get (v := .int (o2 5)) (T := TX10) (ref := "ChiefGrades$World") K hin_X10 3 rfl rfl 5 (by decide) u_170 (Or.inl rfl) rfl dX10_become_42 ?_
    refine g_put (v := .int (o2 5)) (ws' := cw (g_E Γ) q r (gpl F) (gu (gu (gu (gu (gu (gu (gu (gu o0 0 (o2 0)) 1 (o2 1)) 2 (o2 2)) 3 (o2 3)) 4 (o2 4)) 5 (o2 5)) 6 w0o6) 7 w0o7) (gu (gu (gu (gu (gu (gu (gu (gu (gu A0 8 w0a8) 9 w0a9) 10 w0a10) 11 w0a11) 12 w0a12) 14 w0a14) 15 w0a15) 16 w0a16) 17 w0a17) w0c w0h o1 A1 C1 h1 o2 A2 C2 h2 gs0 gA tb0 tA0 bf0 hi0) (T := TX10) (ref := "ChiefGrades$World") (ty := .int) K hin_X10 tyX10_ok nmX10 1 rfl rfl 5 (by decide) u_170 rfl rfl (by decide +kernel) rfl rfl (Nat.le_of_ble_eq_true rfl) dX10_become_45 rfl ?_
    refine g_aload_n K dX10_become_48 rfl 0 rfl ?_
    refine g_aload_n K dX10_become_49 rfl 1 rfl ?_
    refine g_get (v := .int (o2 6)) (T := TX10) (ref := "ChiefGrades$World") K hin_X10 3 rfl rfl 6 (by decide) u_173 (Or.inl rfl) rfl dX10_become_50 ?_
    refine g_put (v := .int (o2 6)) (ws' := cw (g_E Γ) q r (gpl F) (gu (gu (gu (gu (gu (gu (gu (gu o0 0 (o2 0)) 1 (o2 1)) 2 (o2 2)) 3 (o2 3)) 4 (o2 4)) 5 (o2 5)) 6 (o2 6)) 7 w0o7) (gu (gu (gu (gu (gu (gu (gu (gu (gu A0 8 w0a8) 9 w0a9) 10 w0a10) 11 w0a11) 12 w0a12) 14 w0a14) 15 w0a15) 16 w0a16) 17 w0a17) w0c w0h o1 A1 C1 h1 o2 A2 C2 h2 gs0 gA tb0 tA0 bf0 hi0) (T := TX10) (ref := "ChiefGrades$World") (ty := .int) K hin_X10 tyX10_ok nmX10 1 rfl rfl 6 (by decide) u_173 rfl rfl (by decide +kernel) rfl rfl (Nat.le_of_ble_eq_true rfl) dX10_become_53 rfl ?_
    refine g_aload_n K dX10_become_56 rfl 0 rfl ?_
    refine g_aload_n K dX10_become_57 rfl 1 rfl ?_
    refine g_get (v := .int (o2 7)) (T := TX10) (ref := "ChiefGrades$World") K hin_X10 3 rfl rfl 7 (by decide) u_175 (Or.inl rfl) rfl dX10_become_58 ?_
    refine g_put (v := .int (o2 7)) (ws' := cw (g_E Γ) q r (gpl F) (gu (gu (gu (gu (gu (gu (gu (gu o0 0 (o2 0)) 1 (o2 1)) 2 (o2 2)) 3 (o2 3)) 4 (o2 4)) 5 (o2 5)) 6 (o2 6)) 7 (o2 7)) (gu (gu (gu (gu (gu (gu (gu (gu (gu A0 8 w0a8) 9 w0a9) 10 w0a10) 11 w0a11) 12 w0a12) 14 w0a14) 15 w0a15) 16 w0a16) 17 w0a17) w0c w0h o1 A1 C1 h1 o2 A2 C2 h2 gs0 gA tb0 tA0 bf0 hi0) (T := TX10) (ref := "ChiefGrades$World") (ty := .int) K hin_X10 tyX10_ok nmX10 1 rfl rfl 7 (by decide) u_175 rfl rfl (by decide +kernel) rfl rfl (Nat.le_of_ble_eq_true rfl) dX10_become_61 rfl ?_
    refine g_aload_n K dX10_become_64 rfl 0 rfl ?_
    refine g_aload_n K dX10_become_65 rfl 1 rfl ?_
    refine g_get (v := .ref h2) (T := TX10) (ref := "ChiefGrades$World") K hin_X10 3 rfl rfl 18 (by decide) u_201 (Or.inl rfl) rfl dX10_become_66 ?_
    refine g_put (v := .ref h2) (ws' := cw (g_E Γ) q r (gpl F) (gu (gu (gu (gu (gu (gu (gu (gu o0 0 (o2 0)) 1 (o2 1)) 2 (o2 2)) 3 (o2 3)) 4 (o2 4)) 5 (o2 5)) 6 (o2 6)) 7 (o2 7)) (gu (gu (gu (gu (gu (gu (gu (gu (gu A0 8 w0a8) 9 w0a9) 10 w0a10) 11 w0a11) 12 w0a12) 14 w0a14) 15 w0a15) 16 w0a16) 17 w0a17) w0c h2 o1 A1 C1 h1 o2 A2 C2 h2 gs0 gA tb0 tA0 bf0 hi0) (T := TX10) (ref := "ChiefGrades$World") (ty := (.object "ChiefGrades$House")) K hin_X10 tyX10_ok nmX10 1 rfl rfl 18 (by decide) u_201 rfl rfl (by decide +kernel) rfl rfl (Nat.le_of_ble_eq_true rfl) dX10_become_69 rfl ?_
    refine g_aload_n K dX10_become_72 rfl 1 rfl ?_
    refine g_get (v := .ref (r 2 8)) (T := TX10) (ref := "ChiefGrades$World") K hin_X10 3 rfl rfl 8 (by decide) u_177 (Or.inl rfl) rfl dX10_become_73 ?_
    refine g_iconst (v := 0) K dX10_become_76 (by decide) ?_
    refine g_aload_n K dX10_become_77 rfl 0 rfl ?_
    refine g_get (v := .ref (r 0 8)) (T := TX10) (ref := "ChiefGrades$World") K hin_X10 1 rfl rfl 8 (by decide) u_177 (Or.inl rfl) rfl dX10_become_78 ?_
    refine g_iconst (v := 0) K dX10_become_81 (by decide) ?_
    refine g_bipush (v := 10) K dX10_become_82 (by decide) ?_
    obtain ⟨f_1, ef_1, h⟩ := gi_nm h
    refine g_copy (f := (A2 8)) (g := w0a8) (n := 10) (ws' := cw (g_E Γ) q r (gpl F) (gu (gu (gu (gu (gu (gu (gu (gu o0 0 (o2 0)) 1 (o2 1)) 2 (o2 2)) 3 (o2 3)) 4 (o2 4)) 5 (o2 5)) 6 (o2 6)) 7 (o2 7)) (gu (gu (gu (gu (gu (gu (gu (gu (gu A0 8 f_1) 9 w0a9) 10 w0a10) 11 w0a11) 12 w0a12) 14 w0a14) 15 w0a15) 16 w0a16) 17 w0a17) w0c h2 o1 A1 C1 h1 o2 A2 C2 h2 gs0 gA tb0 tA0 bf0 hi0) K 26 6 rfl rfl 0 rfl rfl (by decide) (by decide) (by decide) (by decide) (fun _ _ => rfl) u_765 u_748 u_747 u_88 hRm ⟨by decide, Nat.le_of_ble_eq_true rfl⟩ dX10_become_84 (by rw [ef_1]; rfl) ?_
    refine g_aload_n K dX10_become_87 rfl 1 rfl ?_
    refine g_get (v := .ref (r 2 9)) (T := TX10) (ref := "ChiefGrades$World") K hin_X10 3 rfl rfl 9 (by decide) u_180 (Or.inl rfl) rfl dX10_become_88 ?_
    refine g_iconst (v := 0) K dX10_become_91 (by decide) ?_
    refine g_aload_n K dX10_become_92 rfl 0 rfl ?_
    refine g_get (v := .ref (r 0 9)) (T := TX10) (ref := "ChiefGrades$World") K hin_X10 1 rfl rfl 9 (by decide) u_180 (Or.inl rfl) rfl dX10_become_93 ?_
    refine g_iconst (v := 0) K dX10_become_96 (by decide) ?_
    refine g_bipush (v := 10) K dX10_become_97 (by decide) ?_
    obtain ⟨f_2, ef_2, h⟩ := gi_nm h
    refine g_copy (f := (A2 9)) (g := w0a9) (n := 10) (ws' := cw (g_E Γ) q r (gpl F) (gu (gu (gu (gu (gu (gu (gu (gu o0 0 (o2 0)) 1 (o2 1)) 2 (o2 2)) 3 (o2 3)) 4 (o2 4)) 5 (o2 5)) 6 (o2 6)) 7 (o2 7)) (gu (gu (gu (gu (gu (gu (gu (gu (gu A0 8 f_1) 9 f_2) 10 w0a10) 11 w0a11) 12 w0a12) 14 w0a14) 15 w0a15) 16 w0a16) 17 w0a17) w0c h2 o1 A1 C1 h1 o2 A2 C2 h2 gs0 gA tb0 tA0 bf0 hi0) K 27 7 rfl rfl 0 rfl rfl (by decide) (by decide) (by decide) (by decide) (fun _ _ => rfl) u_765 u_748 u_747 u_88 hRm ⟨by decide, Nat.le_of_ble_eq_true rfl⟩ dX10_become_99 (by rw [ef_2]; rfl) ?_
    refine g_aload_n K dX10_become_102 rfl 1 rfl ?_
    refine g_get (v := .ref (r 2 10)) (T := TX10) (ref := "ChiefGrades$World") K hin_X10 3 rfl rfl 10 (by decide) u_183 (Or.inl rfl) rfl dX10_become_103 ?_
    refine g_iconst (v := 0) K dX10_become_106 (by decide) ?_
    refine g_aload_n K dX10_become_107 rfl 0 rfl ?_
    refine g_get (v := .ref (r 0 10)) (T := TX10) (ref := "ChiefGrades$World") K hin_X10 1 rfl rfl 10 (by decide) u_183 (Or.inl rfl) rfl dX10_become_108 ?_
    refine g_iconst (v := 0) K dX10_become_111 (by decide) ?_
    refine g_bipush (v := 10) K dX10_become_112 (by decide) ?_
    obtain ⟨f_3, ef_3, h⟩ := gi_nm h
    refine g_copy (f := (A2 10)) (g := w0a10) (n := 10) (ws' := cw (g_E Γ) q r (gpl F) (gu (gu (gu (gu (gu (gu (gu (gu o0 0 (o2 0)) 1 (o2 1)) 2 (o2 2)) 3 (o2 3)) 4 (o2 4)) 5 (o2 5)) 6 (o2 6)) 7 (o2 7)) (gu (gu (gu (gu (gu (gu (gu (gu (gu A0 8 f_1) 9 f_2) 10 f_3) 11 w0a11) 12 w0a12) 14 w0a14) 15 w0a15) 16 w0a16) 17 w0a17) w0c h2 o1 A1 C1 h1 o2 A2 C2 h2 gs0 gA tb0 tA0 bf0 hi0) K 28 8 rfl rfl 0 rfl rfl (by decide) (by decide) (by decide) (by decide) (fun _ _ => rfl) u_765 u_748 u_747 u_88 hRm ⟨by decide, Nat.le_of_ble_eq_true rfl⟩ dX10_become_114 (by rw [ef_3]; rfl) ?_
    refine g_aload_n K dX10_become_117 rfl 1 rfl ?_
    refine g_get (v := .ref (r 2 11)) (T := TX10) (ref := "ChiefGrades$World") K hin_X10 3 rfl rfl 11 (by decide) u_186 (Or.inl rfl) rfl dX10_become_118 ?_
    refine g_iconst (v := 0) K dX10_become_121 (by decide) ?_
    refine g_aload_n K dX10_become_122 rfl 0 rfl ?_
    refine g_get (v := .ref (r 0 11)) (T := TX10) (ref := "ChiefGrades$World") K hin_X10 1 rfl rfl 11 (by decide) u_186 (Or.inl rfl) rfl dX10_become_123 ?_
    refine g_iconst (v := 0) K dX10_become_126 (by decide) ?_
    refine g_bipush (v := 10) K dX10_become_127 (by decide) ?_
    obtain ⟨f_4, ef_4, h⟩ := gi_nm h
    refine g_copy (f := (A2 11)) (g := w0a11) (n := 10) (ws' := cw (g_E Γ) q r (gpl F) (gu (gu (gu (gu (gu (gu (gu (gu o0 0 (o2 0)) 1 (o2 1)) 2 (o2 2)) 3 (o2 3)) 4 (o2 4)) 5 (o2 5)) 6 (o2 6)) 7 (o2 7)) (gu (gu (gu (gu (gu (gu (gu (gu (gu A0 8 f_1) 9 f_2) 10 f_3) 11 f_4) 12 w0a12) 14 w0a14) 15 w0a15) 16 w0a16) 17 w0a17) w0c h2 o1 A1 C1 h1 o2 A2 C2 h2 gs0 gA tb0 tA0 bf0 hi0) K 29 9 rfl rfl 0 rfl rfl (by decide) (by decide) (by decide) (by decide) (fun _ _ => rfl) u_765 u_748 u_747 u_88 hRm ⟨by decide, Nat.le_of_ble_eq_true rfl⟩ dX10_become_129 (by rw [ef_4]; rfl) ?_
    refine g_aload_n K dX10_become_132 rfl 1 rfl ?_
    refine g_get (v := .ref (r 2 12)) (T := TX10) (ref := "ChiefGrades$World") K hin_X10 3 rfl rfl 12 (by decide) u_189 (Or.inl rfl) rfl dX10_become_133 ?_
    refine g_iconst (v := 0) K dX10_become_136 (by decide) ?_
    refine g_aload_n K dX10_become_137 rfl 0 rfl ?_
    refine g_get (v := .ref (r 0 12)) (T := TX10) (ref := "ChiefGrades$World") K hin_X10 1 rfl rfl 12 (by decide) u_189 (Or.inl rfl) rfl dX10_become_138 ?_
    refine g_iconst (v := 0) K dX10_become_141 (by decide) ?_
    refine g_bipush (v := 10) K dX10_become_142 (by decide) ?_
    obtain ⟨f_5, ef_5, h⟩ := gi_nm h
    refine g_copy (f := (A2 12)) (g := w0a12) (n := 10) (ws' := cw (g_E Γ) q r (gpl F) (gu (gu (gu (gu (gu (gu (gu (gu o0 0 (o2 0)) 1 (o2 1)) 2 (o2 2)) 3 (o2 3)) 4 (o2 4)) 5 (o2 5)) 6 (o2 6)) 7 (o2 7)) (gu (gu (gu (gu (gu (gu (gu (gu (gu A0 8 f_1) 9 f_2) 10 f_3) 11 f_4) 12 f_5) 14 w0a14) 15 w0a15) 16 w0a16) 17 w0a17) w0c h2 o1 A1 C1 h1 o2 A2 C2 h2 gs0 gA tb0 tA0 bf0 hi0) K 30 10 rfl rfl 0 rfl rfl (by decide) (by decide) (by decide) (by decide) (fun _ _ => rfl) u_765 u_748 u_747 u_88 hRm ⟨by decide, Nat.le_of_ble_eq_true rfl⟩ dX10_become_144 (by rw [ef_5]; rfl) ?_
    refine g_aload_n K dX10_become_147 rfl 1 rfl ?_
    refine g_get (v := .ref (r 2 14)) (T := TX10) (ref := "ChiefGrades$World") K hin_X10 3 rfl rfl 14 (by decide) u_193 (Or.inl rfl) rfl dX10_become_148 ?_
    refine g_iconst (v := 0) K dX10_become_151 (by decide) ?_
    refine g_aload_n K dX10_become_152 rfl 0 rfl ?_
    refine g_get (v := .ref (r 0 14)) (T := TX10) (ref := "ChiefGrades$World") K hin_X10 1 rfl rfl 14 (by decide) u_193 (Or.inl rfl) rfl dX10_become_153 ?_
    refine g_iconst (v := 0) K dX10_become_156 (by decide) ?_
    refine g_bipush (v := 20) K dX10_become_157 (by decide) ?_
    obtain ⟨f_6, ef_6, h⟩ := gi_nm h
    refine g_copy (f := (A2 14)) (g := w0a14) (n := 20) (ws' := cw (g_E Γ) q r (gpl F) (gu (gu (gu (gu (gu (gu (gu (gu o0 0 (o2 0)) 1 (o2 1)) 2 (o2 2)) 3 (o2 3)) 4 (o2 4)) 5 (o2 5)) 6 (o2 6)) 7 (o2 7)) (gu (gu (gu (gu (gu (gu (gu (gu (gu A0 8 f_1) 9 f_2) 10 f_3) 11 f_4) 12 f_5) 14 f_6) 15 w0a15) 16 w0a16) 17 w0a17) w0c h2 o1 A1 C1 h1 o2 A2 C2 h2 gs0 gA tb0 tA0 bf0 hi0) K 32 12 rfl rfl 0 rfl rfl (by decide) (by decide) (by decide) (by decide) (fun _ _ => rfl) u_765 u_748 u_747 u_88 hRm ⟨by decide, Nat.le_of_ble_eq_true rfl⟩ dX10_become_159 (by rw [ef_6]; rfl) ?_
    refine g_aload_n K dX10_become_162 rfl 1 rfl ?_
    refine g_get (v := .ref (r 2 15)) (T := TX10) (ref := "ChiefGrades$World") K hin_X10 3 rfl rfl 15 (by decide) u_195 (Or.inl rfl) rfl dX10_become_163 ?_
    refine g_iconst (v := 0) K dX10_become_166 (by decide) ?_
    refine g_aload_n K dX10_become_167 rfl 0 rfl ?_
    refine g_get (v := .ref (r 0 15)) (T := TX10) (ref := "ChiefGrades$World") K hin_X10 1 rfl rfl 15 (by decide) u_195 (Or.inl rfl) rfl dX10_become_168 ?_
    refine g_iconst (v := 0) K dX10_become_171 (by decide) ?_
    refine g_bipush (v := 20) K dX10_become_172 (by decide) ?_
    obtain ⟨f_7, ef_7, h⟩ := gi_nm h
    refine g_copy (f := (A2 15)) (g := w0a15) (n := 20) (ws' := cw (g_E Γ) q r (gpl F) (gu (gu (gu (gu (gu (gu (gu (gu o0 0 (o2 0)) 1 (o2 1)) 2 (o2 2)) 3 (o2 3)) 4 (o2 4)) 5 (o2 5)) 6 (o2 6)) 7 (o2 7)) (gu (gu (gu (gu (gu (gu (gu (gu (gu A0 8 f_1) 9 f_2) 10 f_3) 11 f_4) 12 f_5) 14 f_6) 15 f_7) 16 w0a16) 17 w0a17) w0c h2 o1 A1 C1 h1 o2 A2 C2 h2 gs0 gA tb0 tA0 bf0 hi0) K 33 13 rfl rfl 0 rfl rfl (by decide) (by decide) (by decide) (by decide) (fun _ _ => rfl) u_765 u_748 u_747 u_88 hRm ⟨by decide, Nat.le_of_ble_eq_true rfl⟩ dX10_become_174 (by rw [ef_7]; rfl) ?_
    refine g_aload_n K dX10_become_177 rfl 1 rfl ?_
    refine g_get (v := .ref (r 2 16)) (T := TX10) (ref := "ChiefGrades$World") K hin_X10 3 rfl rfl 16 (by decide) u_197 (Or.inl rfl) rfl dX10_become_178 ?_
    refine g_iconst (v := 0) K dX10_become_181 (by decide) ?_
    refine g_aload_n K dX10_become_182 rfl 0 rfl ?_
    refine g_get (v := .ref (r 0 16)) (T := TX10) (ref := "ChiefGrades$World") K hin_X10 1 rfl rfl 16 (by decide) u_197 (Or.inl rfl) rfl dX10_become_183 ?_
    refine g_iconst (v := 0) K dX10_become_186 (by decide) ?_
    refine g_bipush (v := 20) K dX10_become_187 (by decide) ?_
    obtain ⟨f_8, ef_8, h⟩ := gi_nm h
    refine g_copy (f := (A2 16)) (g := w0a16) (n := 20) (ws' := cw (g_E Γ) q r (gpl F) (gu (gu (gu (gu (gu (gu (gu (gu o0 0 (o2 0)) 1 (o2 1)) 2 (o2 2)) 3 (o2 3)) 4 (o2 4)) 5 (o2 5)) 6 (o2 6)) 7 (o2 7)) (gu (gu (gu (gu (gu (gu (gu (gu (gu A0 8 f_1) 9 f_2) 10 f_3) 11 f_4) 12 f_5) 14 f_6) 15 f_7) 16 f_8) 17 w0a17) w0c h2 o1 A1 C1 h1 o2 A2 C2 h2 gs0 gA tb0 tA0 bf0 hi0) K 34 14 rfl rfl 0 rfl rfl (by decide) (by decide) (by decide) (by decide) (fun _ _ => rfl) u_765 u_748 u_747 u_88 hRm ⟨by decide, Nat.le_of_ble_eq_true rfl⟩ dX10_become_189 (by rw [ef_8]; rfl) ?_
    refine g_aload_n K dX10_become_192 rfl 1 rfl ?_
    refine g_get (v := .ref (r 2 17)) (T := TX10) (ref := "ChiefGrades$World") K hin_X10 3 rfl rfl 17 (by decide) u_199 (Or.inl rfl) rfl dX10_become_193 ?_
    refine g_iconst (v := 0) K dX10_become_196 (by decide) ?_
    refine g_aload_n K dX10_become_197 rfl 0 rfl ?_
    refine g_get (v := .ref (r 0 17)) (T := TX10) (ref := "ChiefGrades$World") K hin_X10 1 rfl rfl 17 (by decide) u_199 (Or.inl rfl) rfl dX10_become_198 ?_
    refine g_iconst (v := 0) K dX10_become_201 (by decide) ?_
    refine g_bipush (v := 100) K dX10_become_202 (by decide) ?_
    obtain ⟨b_9, h⟩ := gi_none h
    obtain ⟨f_10, ef_10, h⟩ := gi_nm h
    refine g_copy (f := (A2 17)) (g := w0a17) (n := 100) (ws' := cw (g_E Γ) q r (gpl F) (gu (gu (gu (gu (gu (gu (gu (gu o0 0 (o2 0)) 1 (o2 1)) 2 (o2 2)) 3 (o2 3)) 4 (o2 4)) 5 (o2 5)) 6 (o2 6)) 7 (o2 7)) (gu (gu (gu (gu (gu (gu (gu (gu (gu A0 8 f_1) 9 f_2) 10 f_3) 11 f_4) 12 f_5) 14 f_6) 15 f_7) 16 f_8) 17 f_10) w0c h2 o1 A1 C1 h1 o2 A2 C2 h2 gs0 gA tb0 tA0 bf0 hi0) K 35 15 rfl rfl 1 rfl rfl (by decide) (by decide) (by decide) (by decide) (gfitC_fit b_9) u_765 u_748 u_747 u_88 hRm ⟨by decide, Nat.le_of_ble_eq_true rfl⟩ dX10_become_204 (by rw [ef_10]; rfl) ?_
    refine g_iconst (v := 0) K dX10_become_207 (by decide) ?_
    refine g_istore_n (L' := [(2, .int 0), (0, .ref (q 0)), (1, .ref (q 2))]) K dX10_become_208 rfl (hlt _ (by decide)) rfl ?_
    refine g_sub (L' := [(0, .ref (q 0)), (1, .ref (q 2)), (2, .int 0)]) [1, 2, 0] rfl ?_
    exact wX10_become_w0_w2_209 (C0 := C0) (h0 := h0) (C1 := C1) (h1 := h1) (C2 := C2) (h2 := h2) (gs0 := gs0) (tb0 := tb0) (tA0 := tA0) (bf0 := bf0) (hi0 := hi0) hF K hlt hRm hret 1000 (o2 0) (o2 1) (o2 2) (o2 3) (o2 4) (o2 5) (o2 6) (o2 7) f_1 f_2 f_3 f_4 f_5 f_6 f_7 f_8 f_10 h2 w0c 0 h

set_option maxRecDepth 100000 in
theorem ctX10_become_w0_w2 {E : gE} {q : Nat → Nat} {r : Nat → Nat → Nat} {F : gF} (hF : gFz E F) (o0 : Nat → Int32) (A0 : Nat → Nat → Int32) (C0 : Nat → Option Nat) (h0 : Nat) (o1 : Nat → Int32) (A1 : Nat → Nat → Int32) (C1 : Nat → Option Nat) (h1 : Nat) (o2 : Nat → Int32) (A2 : Nat → Nat → Int32) (C2 : Nat → Option Nat) (h2 : Nat) (gs0 : Int32) (gA : Nat → Nat → Int32) (tb0 : Int32) (tA0 bf0 : Nat → Int32) (hi0 : Int32) {res : Int32 × Int32 × Int32 × Int32 × Int32 × Int32 × Int32 × Int32 × ((Nat → Int32)) × ((Nat → Int32)) × ((Nat → Int32)) × ((Nat → Int32)) × ((Nat → Int32)) × ((Nat → Int32)) × ((Nat → Int32)) × ((Nat → Int32)) × ((Nat → Int32)) × Nat × ((Nat → Option Nat))} (h : pX10_become_w0_w2 F (o2 0) (o2 1) (o2 2) (o2 3) (o2 4) (o2 5) (o2 6) (o2 7) (A2 8) (A2 9) (A2 10) (A2 11) (A2 12) (A2 14) (A2 15) (A2 16) (A2 17) h2 C2 (o0 0) (o0 1) (o0 2) (o0 3) (o0 4) (o0 5) (o0 6) (o0 7) (A0 8) (A0 9) (A0 10) (A0 11) (A0 12) (A0 14) (A0 15) (A0 16) (A0 17) h0 C0 = some res) : gMv yX10_become (.code yX10_become cX10_become 3 none :: gU) ({ frames := 4, cells := 0, slots := 0, locals := 150 } : Room) 0 0 E [.ref (q 0), .ref (q 2)] (cw E q r (gpl F) o0 A0 C0 h0 o1 A1 C1 h1 o2 A2 C2 h2 gs0 gA tb0 tA0 bf0 hi0) (fun w => w = cw E q r (gpl F) (gu (gu (gu (gu (gu (gu (gu (gu o0 0 res.1) 1 res.2.1) 2 res.2.2.1) 3 res.2.2.2.1) 4 res.2.2.2.2.1) 5 res.2.2.2.2.2.1) 6 res.2.2.2.2.2.2.1) 7 res.2.2.2.2.2.2.2.1) (gu (gu (gu (gu (gu (gu (gu (gu (gu A0 8 res.2.2.2.2.2.2.2.2.1) 9 res.2.2.2.2.2.2.2.2.2.1) 10 res.2.2.2.2.2.2.2.2.2.2.1) 11 res.2.2.2.2.2.2.2.2.2.2.2.1) 12 res.2.2.2.2.2.2.2.2.2.2.2.2.1) 14 res.2.2.2.2.2.2.2.2.2.2.2.2.2.1) 15 res.2.2.2.2.2.2.2.2.2.2.2.2.2.2.1) 16 res.2.2.2.2.2.2.2.2.2.2.2.2.2.2.2.1) 17 res.2.2.2.2.2.2.2.2.2.2.2.2.2.2.2.2.1) res.2.2.2.2.2.2.2.2.2.2.2.2.2.2.2.2.2.2 res.2.2.2.2.2.2.2.2.2.2.2.2.2.2.2.2.2.1 o1 A1 C1 h1 o2 A2 C2 h2 gs0 gA tb0 tA0 bf0 hi0) := by
  refine g_met_v (by decide +kernel) (Nat.le_of_ble_eq_true rfl) (fun Γ K hn hE hRm _ hret => ?_)
  subst hE
  have hlt : ∀ i, i < 3 → i < g_n Γ := fun i q => by rw [hn]; exact q
  refine g_ws (ws' := cw (g_E Γ) q r (gpl F) (gu (gu (gu (gu (gu (gu (gu (gu o0 0 (o0 0)) 1 (o0 1)) 2 (o0 2)) 3 (o0 3)) 4 (o0 4)) 5 (o0 5)) 6 (o0 6)) 7 (o0 7)) (gu (gu (gu (gu (gu (gu (gu (gu (gu A0 8 (A0 8)) 9 (A0 9)) 10 (A0 10)) 11 (A0 11)) 12 (A0 12)) 14 (A0 14)) 15 (A0 15)) 16 (A0 16)) 17 (A0 17)) C0 h0 o1 A1 C1 h1 o2 A2 C2 h2 gs0 gA tb0 tA0 bf0 hi0) rfl ?_
  refine g_sub (L' := [(0, .ref (q 0)), (1, .ref (q 2))]) [0, 1] rfl ?_
  exact wX10_become_w0_w2 (C0 := C0) (h0 := h0) (C1 := C1) (h1 := h1) (C2 := C2) (h2 := h2) (gs0 := gs0) (tb0 := tb0) (tA0 := tA0) (bf0 := bf0) (hi0 := hi0) hF K hlt hRm hret (o0 0) (o0 1) (o0 2) (o0 3) (o0 4) (o0 5) (o0 6) (o0 7) (A0 8) (A0 9) (A0 10) (A0 11) (A0 12) (A0 14) (A0 15) (A0 16) (A0 17) h0 C0 h

set_option maxHeartbeats 4000000 in
set_option maxRecDepth 100000 in
theorem wX11_undo {Γ : gT} {q : Nat → Nat} {r : Nat → Nat → Nat} {F : gF} (hF : gFz (g_E Γ) F) {o0 : Nat → Int32} {A0 : Nat → Nat → Int32} {C0 : Nat → Option Nat} {h0 : Nat} {o1 : Nat → Int32} {A1 : Nat → Nat → Int32} {C1 : Nat → Option Nat} {h1 : Nat} {o2 : Nat → Int32} {A2 : Nat → Nat → Int32} {C2 : Nat → Option Nat} {h2 : Nat} {gs0 : Int32} {gA : Nat → Nat → Int32} {tb0 : Int32} {tA0 bf0 : Nat → Int32} {hi0 : Int32} (K : gOK Γ cX11_undo gU RX11) (hlt : ∀ i, i < 1 → i < g_n Γ) (hRm : g_R Γ = ({ frames := 5, cells := 0, slots := 0, locals := 172 } : Room)) {res : Int32 × Int32 × Int32 × Int32 × Int32 × Int32 × Int32 × Int32 × Int32 × ((Nat → Int32)) × ((Nat → Int32)) × ((Nat → Int32)) × ((Nat → Int32)) × ((Nat → Int32)) × ((Nat → Int32)) × ((Nat → Int32)) × ((Nat → Int32)) × ((Nat → Int32)) × Nat × ((Nat → Option Nat))} (hret : ∀ (pc : Nat) (L : List (Nat × Value)) (v : Int32) (w : va_W), decode cX11_undo pc = .ok (.ireturn, 1) → narrow .int (.int v) = .int v → (v = res.1 ∧ w = cw (g_E Γ) q r (gpl F) (gu (gu (gu (gu (gu (gu (gu (gu o0 0 res.2.1) 1 res.2.2.1) 2 res.2.2.2.1) 3 res.2.2.2.2.1) 4 res.2.2.2.2.2.1) 5 res.2.2.2.2.2.2.1) 6 res.2.2.2.2.2.2.2.1) 7 res.2.2.2.2.2.2.2.2.1) (gu (gu (gu (gu (gu (gu (gu (gu (gu A0 8 res.2.2.2.2.2.2.2.2.2.1) 9 res.2.2.2.2.2.2.2.2.2.2.1) 10 res.2.2.2.2.2.2.2.2.2.2.2.1) 11 res.2.2.2.2.2.2.2.2.2.2.2.2.1) 12 res.2.2.2.2.2.2.2.2.2.2.2.2.2.1) 14 res.2.2.2.2.2.2.2.2.2.2.2.2.2.2.1) 15 res.2.2.2.2.2.2.2.2.2.2.2.2.2.2.2.1) 16 res.2.2.2.2.2.2.2.2.2.2.2.2.2.2.2.2.1) 17 res.2.2.2.2.2.2.2.2.2.2.2.2.2.2.2.2.2.1) res.2.2.2.2.2.2.2.2.2.2.2.2.2.2.2.2.2.2.2 res.2.2.2.2.2.2.2.2.2.2.2.2.2.2.2.2.2.2.1 o1 A1 C1 h1 o2 A2 C2 h2 gs0 gA tb0 tA0 bf0 hi0) → gGO Γ 0 0 pc L [.int v] w) (w0o0 : Int32) (w0o1 : Int32) (w0o2 : Int32) (w0o3 : Int32) (w0o4 : Int32) (w0o5 : Int32) (w0o6 : Int32) (w0o7 : Int32) (w0a8 : (Nat → Int32)) (w0a9 : (Nat → Int32)) (w0a10 : (Nat → Int32)) (w0a11 : (Nat → Int32)) (w0a12 : (Nat → Int32)) (w0a14 : (Nat → Int32)) (w0a15 : (Nat → Int32)) (w0a16 : (Nat → Int32)) (w0a17 : (Nat → Int32)) (w0h : Nat) (w0c : (Nat → Option Nat)) (h : pX11_undo F (o2 0) (o2 1) (o2 2) (o2 3) (o2 4) (o2 5) (o2 6) (o2 7) (A2 8) (A2 9) (A2 10) (A2 11) (A2 12) (A2 14) (A2 15) (A2 16) (A2 17) h2 C2 hi0 w0o0 w0o1 w0o2 w0o3 w0o4 w0o5 w0o6 w0o7 w0a8 w0a9 w0a10 w0a11 w0a12 w0a14 w0a15 w0a16 w0a17 w0h w0c = some res) : gGO Γ 0 0 0 [(0, .ref (q 5))] [] (cw (g_E Γ) q r (gpl F) (gu (gu (gu (gu (gu (gu (gu (gu o0 0 w0o0) 1 w0o1) 2 w0o2) 3 w0o3) 4 w0o4) 5 w0o5) 6 w0o6) 7 w0o7) (gu (gu (gu (gu (gu (gu (gu (gu (gu A0 8 w0a8) 9 w0a9) 10 w0a10) 11 w0a11) 12 w0a12) 14 w0a14) 15 w0a15) 16 w0a16) 17 w0a17) w0c w0h o1 A1 C1 h1 o2 A2 C2 h2 gs0 gA tb0 tA0 bf0 hi0) := by
    unfold pX11_undo at h
    refine g_aload_n K dX11_undo_0 rfl 0 rfl ?_
    refine g_get (v := .int hi0) (T := TX11) (ref := "ChiefGrades") K hin_X11 0 rfl rfl 6 (by decide) u_330 (Or.inl rfl) rfl dX11_undo_1 ?_
    obtain ⟨ht9, hf9⟩ := gi_br h; clear h
    refine g_if_ne (tgt := 10) K dX11_undo_4 (by decide) (fun qh => ?_) (fun qh => ?_)
    · have h := hf9 qh; clear ht9 hf9
      refine g_aload_n K dX11_undo_10 rfl 0 rfl ?_
      refine g_get (v := .ref (q 0)) (T := TX11) (ref := "ChiefGrades") K hin_X11 0 rfl rfl 0 (by decide) u_324 (Or.inl rfl) rfl dX11_undo_11 ?_
      refine g_aload_n K dX11_undo_14 rfl 0 rfl ?_
      refine g_get (v := .ref (q 2)) (T := TX11) (ref := "ChiefGrades") K hin_X11 0 rfl rfl 2 (by decide) u_326 (Or.inl rfl) rfl dX11_undo_15 ?_
      obtain ⟨z_1, hz_1, h⟩ := gi_bd h
      refine g_callVv (As := [.ref (q 2)]) (bytes := cX10_become) (maxL := 3) (ret := none) K (ctX10_become_w0_w2 hF (gu (gu (gu (gu (gu (gu (gu (gu o0 0 w0o0) 1 w0o1) 2 w0o2) 3 w0o3) 4 w0o4) 5 w0o5) 6 w0o6) 7 w0o7) (gu (gu (gu (gu (gu (gu (gu (gu (gu A0 8 w0a8) 9 w0a9) 10 w0a10) 11 w0a11) 12 w0a12) 14 w0a14) 15 w0a15) 16 w0a16) 17 w0a17) w0c w0h o1 A1 C1 h1 o2 A2 C2 h2 gs0 gA tb0 tA0 bf0 hi0 (res := z_1) hz_1) gc_V_RX11_185_X10_become rfl qv_X10_become 1 rfl rfl rfl hRm rfl rfl rfl (by decide) (Nat.le_of_ble_eq_true rfl) (by decide) dX11_undo_18 (fun w hw => ?_)
      subst hw
      refine g_ws (ws' := cw (g_E Γ) q r (gpl F) (gu (gu (gu (gu (gu (gu (gu (gu o0 0 z_1.1) 1 z_1.2.1) 2 z_1.2.2.1) 3 z_1.2.2.2.1) 4 z_1.2.2.2.2.1) 5 z_1.2.2.2.2.2.1) 6 z_1.2.2.2.2.2.2.1) 7 z_1.2.2.2.2.2.2.2.1) (gu (gu (gu (gu (gu (gu (gu (gu (gu A0 8 z_1.2.2.2.2.2.2.2.2.1) 9 z_1.2.2.2.2.2.2.2.2.2.1) 10 z_1.2.2.2.2.2.2.2.2.2.2.1) 11 z_1.2.2.2.2.2.2.2.2.2.2.2.1) 12 z_1.2.2.2.2.2.2.2.2.2.2.2.2.1) 14 z_1.2.2.2.2.2.2.2.2.2.2.2.2.2.1) 15 z_1.2.2.2.2.2.2.2.2.2.2.2.2.2.2.1) 16 z_1.2.2.2.2.2.2.2.2.2.2.2.2.2.2.2.1) 17 z_1.2.2.2.2.2.2.2.2.2.2.2.2.2.2.2.2.1) z_1.2.2.2.2.2.2.2.2.2.2.2.2.2.2.2.2.2.2 z_1.2.2.2.2.2.2.2.2.2.2.2.2.2.2.2.2.2.1 o1 A1 C1 h1 o2 A2 C2 h2 gs0 gA tb0 tA0 bf0 hi0) rfl ?_
      refine g_aload_n K dX11_undo_21 rfl 0 rfl ?_
      refine g_get (v := .ref (q 0)) (T := TX11) (ref := "ChiefGrades") K hin_X11 0 rfl rfl 0 (by decide) u_324 (Or.inl rfl) rfl dX11_undo_22 ?_
      refine g_get (v := .int z_1.1) (T := TX10) (ref := "ChiefGrades$World") K hin_X10 1 rfl rfl 0 (by decide) u_160 (Or.inl rfl) rfl dX11_undo_25 ?_
      obtain rfl := Option.some.inj h
      exact hret _ _ _ _ dX11_undo_28 rfl ⟨rfl, rfl⟩
    · have h := ht9 qh; clear ht9 hf9
      refine g_bipush (v := (-3)) K dX11_undo_7 (by decide) ?_
      obtain rfl := Option.some.inj h
      exact hret _ _ _ _ dX11_undo_9 rfl ⟨rfl, rfl⟩

set_option maxRecDepth 100000 in
theorem ctX11_undo {E : gE} {q : Nat → Nat} {r : Nat → Nat → Nat} {F : gF} (hF : gFz E F) (o0 : Nat → Int32) (A0 : Nat → Nat → Int32) (C0 : Nat → Option Nat) (h0 : Nat) (o1 : Nat → Int32) (A1 : Nat → Nat → Int32) (C1 : Nat → Option Nat) (h1 : Nat) (o2 : Nat → Int32) (A2 : Nat → Nat → Int32) (C2 : Nat → Option Nat) (h2 : Nat) (gs0 : Int32) (gA : Nat → Nat → Int32) (tb0 : Int32) (tA0 bf0 : Nat → Int32) (hi0 : Int32) {res : Int32 × Int32 × Int32 × Int32 × Int32 × Int32 × Int32 × Int32 × Int32 × ((Nat → Int32)) × ((Nat → Int32)) × ((Nat → Int32)) × ((Nat → Int32)) × ((Nat → Int32)) × ((Nat → Int32)) × ((Nat → Int32)) × ((Nat → Int32)) × ((Nat → Int32)) × Nat × ((Nat → Option Nat))} (h : pX11_undo F (o2 0) (o2 1) (o2 2) (o2 3) (o2 4) (o2 5) (o2 6) (o2 7) (A2 8) (A2 9) (A2 10) (A2 11) (A2 12) (A2 14) (A2 15) (A2 16) (A2 17) h2 C2 hi0 (o0 0) (o0 1) (o0 2) (o0 3) (o0 4) (o0 5) (o0 6) (o0 7) (A0 8) (A0 9) (A0 10) (A0 11) (A0 12) (A0 14) (A0 15) (A0 16) (A0 17) h0 C0 = some res) : gMi yX11_undo (.code yX11_undo cX11_undo 1 (some .int) :: gU) ({ frames := 5, cells := 0, slots := 0, locals := 172 } : Room) 0 0 E [.ref (q 5)] (cw E q r (gpl F) o0 A0 C0 h0 o1 A1 C1 h1 o2 A2 C2 h2 gs0 gA tb0 tA0 bf0 hi0) (fun v w => v = res.1 ∧ w = cw E q r (gpl F) (gu (gu (gu (gu (gu (gu (gu (gu o0 0 res.2.1) 1 res.2.2.1) 2 res.2.2.2.1) 3 res.2.2.2.2.1) 4 res.2.2.2.2.2.1) 5 res.2.2.2.2.2.2.1) 6 res.2.2.2.2.2.2.2.1) 7 res.2.2.2.2.2.2.2.2.1) (gu (gu (gu (gu (gu (gu (gu (gu (gu A0 8 res.2.2.2.2.2.2.2.2.2.1) 9 res.2.2.2.2.2.2.2.2.2.2.1) 10 res.2.2.2.2.2.2.2.2.2.2.2.1) 11 res.2.2.2.2.2.2.2.2.2.2.2.2.1) 12 res.2.2.2.2.2.2.2.2.2.2.2.2.2.1) 14 res.2.2.2.2.2.2.2.2.2.2.2.2.2.2.1) 15 res.2.2.2.2.2.2.2.2.2.2.2.2.2.2.2.1) 16 res.2.2.2.2.2.2.2.2.2.2.2.2.2.2.2.2.1) 17 res.2.2.2.2.2.2.2.2.2.2.2.2.2.2.2.2.2.1) res.2.2.2.2.2.2.2.2.2.2.2.2.2.2.2.2.2.2.2 res.2.2.2.2.2.2.2.2.2.2.2.2.2.2.2.2.2.2.1 o1 A1 C1 h1 o2 A2 C2 h2 gs0 gA tb0 tA0 bf0 hi0) := by
  refine g_met_i (by decide +kernel) (Nat.le_of_ble_eq_true rfl) (fun Γ K hn hE hRm _ hret => ?_)
  subst hE
  have hlt : ∀ i, i < 1 → i < g_n Γ := fun i q => by rw [hn]; exact q
  refine g_ws (ws' := cw (g_E Γ) q r (gpl F) (gu (gu (gu (gu (gu (gu (gu (gu o0 0 (o0 0)) 1 (o0 1)) 2 (o0 2)) 3 (o0 3)) 4 (o0 4)) 5 (o0 5)) 6 (o0 6)) 7 (o0 7)) (gu (gu (gu (gu (gu (gu (gu (gu (gu A0 8 (A0 8)) 9 (A0 9)) 10 (A0 10)) 11 (A0 11)) 12 (A0 12)) 14 (A0 14)) 15 (A0 15)) 16 (A0 16)) 17 (A0 17)) C0 h0 o1 A1 C1 h1 o2 A2 C2 h2 gs0 gA tb0 tA0 bf0 hi0) rfl ?_
  refine g_sub (L' := [(0, .ref (q 5))]) [0] rfl ?_
  exact wX11_undo (C0 := C0) (h0 := h0) (C1 := C1) (h1 := h1) (C2 := C2) (h2 := h2) (gs0 := gs0) (tb0 := tb0) (tA0 := tA0) (bf0 := bf0) (hi0 := hi0) hF K hlt hRm hret (o0 0) (o0 1) (o0 2) (o0 3) (o0 4) (o0 5) (o0 6) (o0 7) (A0 8) (A0 9) (A0 10) (A0 11) (A0 12) (A0 14) (A0 15) (A0 16) (A0 17) h0 C0 h

set_option maxHeartbeats 4000000 in
set_option maxRecDepth 100000 in
theorem wX11_count {Γ : gT} {q : Nat → Nat} {r : Nat → Nat → Nat} {F : gF} (hF : gFz (g_E Γ) F) {o0 : Nat → Int32} {A0 : Nat → Nat → Int32} {C0 : Nat → Option Nat} {h0 : Nat} {o1 : Nat → Int32} {A1 : Nat → Nat → Int32} {C1 : Nat → Option Nat} {h1 : Nat} {o2 : Nat → Int32} {A2 : Nat → Nat → Int32} {C2 : Nat → Option Nat} {h2 : Nat} {gs0 : Int32} {gA : Nat → Nat → Int32} {tb0 : Int32} {tA0 bf0 : Nat → Int32} {hi0 : Int32} (K : gOK Γ cX11_count gU RX11) (hlt : ∀ i, i < 2 → i < g_n Γ) (hRm : g_R Γ = ({ frames := 4, cells := 0, slots := 0, locals := 150 } : Room)) {res : Int32} (hret : ∀ (pc : Nat) (L : List (Nat × Value)) (v : Int32) (w : va_W), decode cX11_count pc = .ok (.ireturn, 1) → narrow .int (.int v) = .int v → (v = res ∧ w = cw (g_E Γ) q r (gpl F) o0 A0 C0 h0 o1 A1 C1 h1 o2 A2 C2 h2 gs0 gA tb0 tA0 bf0 hi0) → gGO Γ 0 0 pc L [.int v] w) (x1 : Int32) (h : pX11_count (o0 0) (o0 1) (o0 2) (o0 3) (o0 4) tb0 x1 = some res) : gGO Γ 0 0 0 [(0, .ref (q 5)), (1, .int x1)] [] (cw (g_E Γ) q r (gpl F) o0 A0 C0 h0 o1 A1 C1 h1 o2 A2 C2 h2 gs0 gA tb0 tA0 bf0 hi0) := by
    unfold pX11_count at h
    refine g_iload_n K dX11_count_0 rfl 1 rfl ?_
    obtain ⟨ht9, hf9⟩ := gi_br h; clear h
    by_cases q0 : x1 = 0
    · have h := ht9 q0; clear ht9 hf9
      refine g_tabIn (tgt := 40) K dX11_count_1 (by rw [q0]; decide) (by rw [q0]; decide) (by rw [q0]; rfl) (by decide) ?_
      refine g_aload_n K dX11_count_40 rfl 0 rfl ?_
      refine g_get (v := .ref (q 0)) (T := TX11) (ref := "ChiefGrades") K hin_X11 0 rfl rfl 0 (by decide) u_324 (Or.inl rfl) rfl dX11_count_41 ?_
      refine g_get (v := .int (o0 0)) (T := TX10) (ref := "ChiefGrades$World") K hin_X10 1 rfl rfl 0 (by decide) u_160 (Or.inl rfl) rfl dX11_count_44 ?_
      obtain rfl := Option.some.inj h
      exact hret _ _ _ _ dX11_count_47 rfl ⟨rfl, rfl⟩
    have h := hf9 q0; clear ht9 hf9
    obtain ⟨ht9, hf9⟩ := gi_br h; clear h
    by_cases q1 : x1 = 1
    · have h := ht9 q1; clear ht9 hf9
      refine g_tabIn (tgt := 48) K dX11_count_1 (by rw [q1]; decide) (by rw [q1]; decide) (by rw [q1]; rfl) (by decide) ?_
      refine g_aload_n K dX11_count_48 rfl 0 rfl ?_
      refine g_get (v := .ref (q 0)) (T := TX11) (ref := "ChiefGrades") K hin_X11 0 rfl rfl 0 (by decide) u_324 (Or.inl rfl) rfl dX11_count_49 ?_
      refine g_get (v := .int (o0 1)) (T := TX10) (ref := "ChiefGrades$World") K hin_X10 1 rfl rfl 1 (by decide) u_163 (Or.inl rfl) rfl dX11_count_52 ?_
      obtain rfl := Option.some.inj h
      exact hret _ _ _ _ dX11_count_55 rfl ⟨rfl, rfl⟩
    have h := hf9 q1; clear ht9 hf9
    obtain ⟨ht9, hf9⟩ := gi_br h; clear h
    by_cases q2 : x1 = 2
    · have h := ht9 q2; clear ht9 hf9
      refine g_tabIn (tgt := 56) K dX11_count_1 (by rw [q2]; decide) (by rw [q2]; decide) (by rw [q2]; rfl) (by decide) ?_
      refine g_aload_n K dX11_count_56 rfl 0 rfl ?_
      refine g_get (v := .ref (q 0)) (T := TX11) (ref := "ChiefGrades") K hin_X11 0 rfl rfl 0 (by decide) u_324 (Or.inl rfl) rfl dX11_count_57 ?_
      refine g_get (v := .int (o0 2)) (T := TX10) (ref := "ChiefGrades$World") K hin_X10 1 rfl rfl 2 (by decide) u_165 (Or.inl rfl) rfl dX11_count_60 ?_
      obtain rfl := Option.some.inj h
      exact hret _ _ _ _ dX11_count_63 rfl ⟨rfl, rfl⟩
    have h := hf9 q2; clear ht9 hf9
    obtain ⟨ht9, hf9⟩ := gi_br h; clear h
    by_cases q3 : x1 = 3
    · have h := ht9 q3; clear ht9 hf9
      refine g_tabIn (tgt := 64) K dX11_count_1 (by rw [q3]; decide) (by rw [q3]; decide) (by rw [q3]; rfl) (by decide) ?_
      refine g_aload_n K dX11_count_64 rfl 0 rfl ?_
      refine g_get (v := .ref (q 0)) (T := TX11) (ref := "ChiefGrades") K hin_X11 0 rfl rfl 0 (by decide) u_324 (Or.inl rfl) rfl dX11_count_65 ?_
      refine g_get (v := .int (o0 3)) (T := TX10) (ref := "ChiefGrades$World") K hin_X10 1 rfl rfl 3 (by decide) u_167 (Or.inl rfl) rfl dX11_count_68 ?_
      obtain rfl := Option.some.inj h
      exact hret _ _ _ _ dX11_count_71 rfl ⟨rfl, rfl⟩
    have h := hf9 q3; clear ht9 hf9
    obtain ⟨ht9, hf9⟩ := gi_br h; clear h
    by_cases q4 : x1 = 4
    · have h := ht9 q4; clear ht9 hf9
      refine g_tabIn (tgt := 72) K dX11_count_1 (by rw [q4]; decide) (by rw [q4]; decide) (by rw [q4]; rfl) (by decide) ?_
      refine g_aload_n K dX11_count_72 rfl 0 rfl ?_
      refine g_get (v := .ref (q 0)) (T := TX11) (ref := "ChiefGrades") K hin_X11 0 rfl rfl 0 (by decide) u_324 (Or.inl rfl) rfl dX11_count_73 ?_
      refine g_get (v := .int (o0 4)) (T := TX10) (ref := "ChiefGrades$World") K hin_X10 1 rfl rfl 4 (by decide) u_168 (Or.inl rfl) rfl dX11_count_76 ?_
      obtain rfl := Option.some.inj h
      exact hret _ _ _ _ dX11_count_79 rfl ⟨rfl, rfl⟩
    have h := hf9 q4; clear ht9 hf9
    obtain ⟨ht9, hf9⟩ := gi_br h; clear h
    by_cases q5 : x1 = 5
    · have h := ht9 q5; clear ht9 hf9
      refine g_tabIn (tgt := 80) K dX11_count_1 (by rw [q5]; decide) (by rw [q5]; decide) (by rw [q5]; rfl) (by decide) ?_
      refine g_aload_n K dX11_count_80 rfl 0 rfl ?_
      refine g_get (v := .ref (q 4)) (T := TX11) (ref := "ChiefGrades") K hin_X11 0 rfl rfl 4 (by decide) u_328 (Or.inl rfl) rfl dX11_count_81 ?_
      refine g_get (v := .int tb0) (T := TX8) (ref := "ChiefGrades$Trace") K hin_X8 5 rfl rfl 1 (by decide) u_318 (Or.inl rfl) rfl dX11_count_84 ?_
      obtain rfl := Option.some.inj h
      exact hret _ _ _ _ dX11_count_87 rfl ⟨rfl, rfl⟩
    have h := hf9 q5; clear ht9 hf9
    refine g_tabOut (tgt := 88) K dX11_count_1 (by have t0 := gi_ne (z := 0) q0 (by decide); have t1 := gi_ne (z := 1) q1 (by decide); have t2 := gi_ne (z := 2) q2 (by decide); have t3 := gi_ne (z := 3) q3 (by decide); have t4 := gi_ne (z := 4) q4 (by decide); have t5 := gi_ne (z := 5) q5 (by decide); omega) (by decide) ?_
    refine g_iconst (v := (-1)) K dX11_count_88 (by decide) ?_
    obtain rfl := Option.some.inj h
    exact hret _ _ _ _ dX11_count_89 rfl ⟨rfl, rfl⟩

set_option maxRecDepth 100000 in
theorem ctX11_count {E : gE} {q : Nat → Nat} {r : Nat → Nat → Nat} {F : gF} (hF : gFz E F) (o0 : Nat → Int32) (A0 : Nat → Nat → Int32) (C0 : Nat → Option Nat) (h0 : Nat) (o1 : Nat → Int32) (A1 : Nat → Nat → Int32) (C1 : Nat → Option Nat) (h1 : Nat) (o2 : Nat → Int32) (A2 : Nat → Nat → Int32) (C2 : Nat → Option Nat) (h2 : Nat) (gs0 : Int32) (gA : Nat → Nat → Int32) (tb0 : Int32) (tA0 bf0 : Nat → Int32) (hi0 : Int32) (x1 : Int32) {res : Int32} (h : pX11_count (o0 0) (o0 1) (o0 2) (o0 3) (o0 4) tb0 x1 = some res) : gMi yX11_count (.code yX11_count cX11_count 2 (some .int) :: gU) ({ frames := 4, cells := 0, slots := 0, locals := 150 } : Room) 0 0 E [.ref (q 5), .int x1] (cw E q r (gpl F) o0 A0 C0 h0 o1 A1 C1 h1 o2 A2 C2 h2 gs0 gA tb0 tA0 bf0 hi0) (fun v w => v = res ∧ w = cw E q r (gpl F) o0 A0 C0 h0 o1 A1 C1 h1 o2 A2 C2 h2 gs0 gA tb0 tA0 bf0 hi0) := by
  refine g_met_i (by decide +kernel) (Nat.le_of_ble_eq_true rfl) (fun Γ K hn hE hRm _ hret => ?_)
  subst hE
  have hlt : ∀ i, i < 2 → i < g_n Γ := fun i q => by rw [hn]; exact q
  refine g_sub (L' := [(0, .ref (q 5)), (1, .int x1)]) [0, 1] rfl ?_
  exact wX11_count (C0 := C0) (h0 := h0) (C1 := C1) (h1 := h1) (C2 := C2) (h2 := h2) (gs0 := gs0) (tb0 := tb0) (tA0 := tA0) (bf0 := bf0) (hi0 := hi0) hF K hlt hRm hret x1 h

