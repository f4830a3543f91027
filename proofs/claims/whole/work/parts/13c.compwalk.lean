set_option maxHeartbeats 4000000 in
set_option maxRecDepth 100000 in
theorem wX1_gradeLevelled_w0_106 {Γ : gT} {q : Nat → Nat} {r : Nat → Nat → Nat} {F : gF} (hF : gFz (g_E Γ) F) {o0 : Nat → Int32} {A0 : Nat → Nat → Int32} {C0 : Nat → Option Nat} {h0 : Nat} {o1 : Nat → Int32} {A1 : Nat → Nat → Int32} {C1 : Nat → Option Nat} {h1 : Nat} {o2 : Nat → Int32} {A2 : Nat → Nat → Int32} {C2 : Nat → Option Nat} {h2 : Nat} {gs0 : Int32} {gA : Nat → Nat → Int32} {tb0 : Int32} {tA0 bf0 : Nat → Int32} {hi0 : Int32} (K : gOK Γ cX1_gradeLevelled gU RX1) (hlt : ∀ i, i < 7 → i < g_n Γ) (hRm : g_R Γ = ({ frames := 8, cells := 0, slots := 0, locals := 238 } : Room)) {res : Int32 × ((Nat → Int32)) × ((Nat → Int32)) × ((Nat → Int32)) × ((Nat → Int32)) × ((Nat → Int32))} (hret : ∀ (pc : Nat) (L : List (Nat × Value)) (w : va_W), decode cX1_gradeLevelled pc = .ok (.return_, 1) → (w = cw (g_E Γ) q r (gpl F) o0 A0 C0 h0 o1 A1 C1 h1 o2 A2 C2 h2 res.1 (gu (gu (gu (gu (gu gA 0 res.2.1) 1 res.2.2.1) 2 res.2.2.2.1) 3 res.2.2.2.2.1) 5 res.2.2.2.2.2) tb0 tA0 bf0 hi0) → gGO Γ 0 0 pc L [] w) {k63 : Int32 → (Nat → Int32) → (Nat → Int32) → (Nat → Int32) → (Nat → Int32) → (Nat → Int32) → Int32 → Int32 → Option (Int32 × ((Nat → Int32)) × ((Nat → Int32)) × ((Nat → Int32)) × ((Nat → Int32)) × ((Nat → Int32)))} (hk63 : ∀ (gs : Int32) (ga0 : (Nat → Int32)) (ga1 : (Nat → Int32)) (ga2 : (Nat → Int32)) (ga3 : (Nat → Int32)) (ga5 : (Nat → Int32)) (x2 : Int32) (x3 : Int32), k63 gs ga0 ga1 ga2 ga3 ga5 x2 x3 = some res → gGO Γ 0 0 63 [(0, .ref (q 3)), (1, .ref (q 0)), (2, .int x2), (3, .int x3)] [] (cw (g_E Γ) q r (gpl F) o0 A0 C0 h0 o1 A1 C1 h1 o2 A2 C2 h2 gs (gu (gu (gu (gu (gu gA 0 ga0) 1 ga1) 2 ga2) 3 ga3) 5 ga5) tb0 tA0 bf0 hi0)) : ∀ (n : Nat) (gs : Int32) (ga0 : (Nat → Int32)) (ga1 : (Nat → Int32)) (ga2 : (Nat → Int32)) (ga3 : (Nat → Int32)) (ga5 : (Nat → Int32)) (x2 : Int32) (x3 : Int32) (x4 : Nat) (x5 : Int32) (x6 : Int32), pX1_gradeLevelled_w0_106 F k63 (o0 0) (o0 1) (o0 5) (A0 8) (A0 9) (A0 10) (A0 11) h0 C0 n gs ga0 ga1 ga2 ga3 ga5 x2 x3 x4 x5 x6 = some res → gGO Γ 0 0 106 [(0, .ref (q 3)), (1, .ref (q 0)), (2, .int x2), (3, .int x3), (4, .ref x4), (5, .int x5), (6, .int x6)] [] (cw (g_E Γ) q r (gpl F) o0 A0 C0 h0 o1 A1 C1 h1 o2 A2 C2 h2 gs (gu (gu (gu (gu (gu gA 0 ga0) 1 ga1) 2 ga2) 3 ga3) 5 ga5) tb0 tA0 bf0 hi0) := by
  intro n
  induction n with
  | zero => intro _ _ _ _ _ _ _ _ _ _ _ h; cases h
  | succ n ih =>
    intro gs ga0 ga1 ga2 ga3 ga5 x2 x3 x4 x5 x6 h
    simp only [pX1_gradeLevelled_w0_106] at h
    refine g_iload K dX1_gradeLevelled_106 6 rfl ?_
    refine g_aload_n K dX1_gradeLevelled_108 rfl 0 rfl ?_
    refine g_get (v := .int gs) (T := TX1) (ref := "ChiefGrades$Grader") K hin_X1 4 rfl rfl 4 (by decide) u_291 (Or.inl rfl) rfl dX1_gradeLevelled_109 ?_
    obtain ⟨ht9, hf9⟩ := gi_br h; clear h
    refine g_icmp_ge (tgt := 138) K dX1_gradeLevelled_112 (by decide) (fun qh => ?_) (fun qh => ?_)
    · have h := ht9 qh; clear ht9 hf9
      refine g_aload_n K dX1_gradeLevelled_138 rfl 0 rfl ?_
      refine g_aload_n K dX1_gradeLevelled_139 rfl 1 rfl ?_
      refine g_aload K dX1_gradeLevelled_140 4 rfl ?_
      obtain ⟨z_1, hz_1, h⟩ := gi_bd h
      refine g_callVi (As := [.ref (q 0), .ref x4]) (bytes := cX1_share) (maxL := 8) (ret := (some .int)) K (ctX1_share_w0 hF o0 A0 C0 h0 o1 A1 C1 h1 o2 A2 C2 h2 gs (gu (gu (gu (gu (gu gA 0 ga0) 1 ga1) 2 ga2) 3 ga3) 5 ga5) tb0 tA0 bf0 hi0 x4 (res := z_1) hz_1) gc_V_RX1_109_X1_share rfl qv_X1_share 4 rfl rfl rfl hRm rfl rfl rfl (by decide) (Nat.le_of_ble_eq_true rfl) (by decide) dX1_gradeLevelled_142 (fun v w hw => ?_)
      obtain ⟨hv9, rfl⟩ := hw; have hv9 := hv9.symm; subst hv9
      refine g_ws (ws' := cw (g_E Γ) q r (gpl F) o0 A0 C0 h0 o1 A1 C1 h1 o2 A2 C2 h2 gs (gu (gu (gu (gu (gu gA 0 z_1.2.1) 1 ga1) 2 ga2) 3 z_1.2.2) 5 ga5) tb0 tA0 bf0 hi0) rfl ?_
      refine g_pop K dX1_gradeLevelled_145 rfl ?_
      refine g_iinc (v := (x3 + 1)) (L' := [(3, .int (x3 + 1)), (0, .ref (q 3)), (1, .ref (q 0)), (2, .int x2), (4, .ref x4), (5, .int x5), (6, .int x6)]) K dX1_gradeLevelled_146 3 rfl rfl (hlt _ (by decide)) rfl ?_
      refine g_goto (tgt := 63) K dX1_gradeLevelled_149 (by decide) ?_
      refine g_sub (L' := [(0, .ref (q 3)), (1, .ref (q 0)), (2, .int x2), (3, .int (x3 + 1))]) [1, 2, 3, 0] rfl ?_
      exact hk63 gs z_1.2.1 ga1 ga2 z_1.2.2 ga5 x2 (x3 + 1) h
    · have h := hf9 qh; clear ht9 hf9
      refine g_aload_n K dX1_gradeLevelled_115 rfl 0 rfl ?_
      refine g_get (v := .ref (r 3 1)) (T := TX1) (ref := "ChiefGrades$Grader") K hin_X1 4 rfl rfl 1 (by decide) u_288 (Or.inl rfl) rfl dX1_gradeLevelled_116 ?_
      refine g_aload_n K dX1_gradeLevelled_119 rfl 0 rfl ?_
      refine g_get (v := .ref (r 3 2)) (T := TX1) (ref := "ChiefGrades$Grader") K hin_X1 4 rfl rfl 2 (by decide) u_289 (Or.inl rfl) rfl dX1_gradeLevelled_120 ?_
      refine g_iload K dX1_gradeLevelled_123 6 rfl ?_
      obtain ⟨b_2, h⟩ := gi_none h
      refine g_iald (f := ga2) K 38 rfl (ginb_in b_2) dX1_gradeLevelled_125 ?_
      refine g_dup2 K dX1_gradeLevelled_126 rfl rfl ?_
      obtain ⟨b_3, h⟩ := gi_none h
      refine g_iald (f := ga1) K 37 rfl (ginb_in b_3) dX1_gradeLevelled_127 ?_
      refine g_iload K dX1_gradeLevelled_128 5 rfl ?_
      refine g_iadd K dX1_gradeLevelled_130 ?_
      obtain ⟨b_4, h⟩ := gi_none h
      obtain ⟨f_5, ef_5, h⟩ := gi_nm h
      refine g_iast (f := ga1) (ws' := cw (g_E Γ) q r (gpl F) o0 A0 C0 h0 o1 A1 C1 h1 o2 A2 C2 h2 gs (gu (gu (gu (gu (gu gA 0 ga0) 1 f_5) 2 ga2) 3 ga3) 5 ga5) tb0 tA0 bf0 hi0) K 37 rfl (ginb_in b_4) dX1_gradeLevelled_131 (by rw [ef_5]; rfl) ?_
      refine g_iinc (v := (x6 + 1)) (L' := [(6, .int (x6 + 1)), (0, .ref (q 3)), (1, .ref (q 0)), (2, .int x2), (3, .int x3), (4, .ref x4), (5, .int x5)]) K dX1_gradeLevelled_132 6 rfl rfl (hlt _ (by decide)) rfl ?_
      refine g_goto (tgt := 106) K dX1_gradeLevelled_135 (by decide) ?_
      refine g_sub (L' := [(0, .ref (q 3)), (1, .ref (q 0)), (2, .int x2), (3, .int x3), (4, .ref x4), (5, .int x5), (6, .int (x6 + 1))]) [1, 2, 3, 4, 5, 6, 0] rfl ?_
      exact ih gs ga0 f_5 ga2 ga3 ga5 x2 x3 x4 x5 (x6 + 1) h

set_option maxHeartbeats 4000000 in
set_option maxRecDepth 100000 in
theorem wX1_gradeLevelled_w0_63 {Γ : gT} {q : Nat → Nat} {r : Nat → Nat → Nat} {F : gF} (hF : gFz (g_E Γ) F) {o0 : Nat → Int32} {A0 : Nat → Nat → Int32} {C0 : Nat → Option Nat} {h0 : Nat} {o1 : Nat → Int32} {A1 : Nat → Nat → Int32} {C1 : Nat → Option Nat} {h1 : Nat} {o2 : Nat → Int32} {A2 : Nat → Nat → Int32} {C2 : Nat → Option Nat} {h2 : Nat} {gs0 : Int32} {gA : Nat → Nat → Int32} {tb0 : Int32} {tA0 bf0 : Nat → Int32} {hi0 : Int32} (K : gOK Γ cX1_gradeLevelled gU RX1) (hlt : ∀ i, i < 7 → i < g_n Γ) (hRm : g_R Γ = ({ frames := 8, cells := 0, slots := 0, locals := 238 } : Room)) {res : Int32 × ((Nat → Int32)) × ((Nat → Int32)) × ((Nat → Int32)) × ((Nat → Int32)) × ((Nat → Int32))} (hret : ∀ (pc : Nat) (L : List (Nat × Value)) (w : va_W), decode cX1_gradeLevelled pc = .ok (.return_, 1) → (w = cw (g_E Γ) q r (gpl F) o0 A0 C0 h0 o1 A1 C1 h1 o2 A2 C2 h2 res.1 (gu (gu (gu (gu (gu gA 0 res.2.1) 1 res.2.2.1) 2 res.2.2.2.1) 3 res.2.2.2.2.1) 5 res.2.2.2.2.2) tb0 tA0 bf0 hi0) → gGO Γ 0 0 pc L [] w) : ∀ (n : Nat) (gs : Int32) (ga0 : (Nat → Int32)) (ga1 : (Nat → Int32)) (ga2 : (Nat → Int32)) (ga3 : (Nat → Int32)) (ga5 : (Nat → Int32)) (x2 : Int32) (x3 : Int32), pX1_gradeLevelled_w0_63 F (o0 0) (o0 1) (o0 5) (A0 8) (A0 9) (A0 10) (A0 11) h0 C0 n gs ga0 ga1 ga2 ga3 ga5 x2 x3 = some res → gGO Γ 0 0 63 [(0, .ref (q 3)), (1, .ref (q 0)), (2, .int x2), (3, .int x3)] [] (cw (g_E Γ) q r (gpl F) o0 A0 C0 h0 o1 A1 C1 h1 o2 A2 C2 h2 gs (gu (gu (gu (gu (gu gA 0 ga0) 1 ga1) 2 ga2) 3 ga3) 5 ga5) tb0 tA0 bf0 hi0) := by
  intro n
  induction n with
  | zero => intro _ _ _ _ _ _ _ _ h; cases h
  | succ n ih =>
    intro gs ga0 ga1 ga2 ga3 ga5 x2 x3 h
    simp only [pX1_gradeLevelled_w0_63] at h
    refine g_iload_n K dX1_gradeLevelled_63 rfl 3 rfl ?_
    refine g_aload_n K dX1_gradeLevelled_64 rfl 1 rfl ?_
    refine g_get (v := .int (o0 1)) (T := TX10) (ref := "ChiefGrades$World") K hin_X10 1 rfl rfl 1 (by decide) u_162 (Or.inl rfl) rfl dX1_gradeLevelled_65 ?_
    obtain ⟨ht9, hf9⟩ := gi_br h; clear h
    refine g_icmp_ge (tgt := 152) K dX1_gradeLevelled_68 (by decide) (fun qh => ?_) (fun qh => ?_)
    · have h := ht9 qh; clear ht9 hf9
      obtain rfl := Option.some.inj h
      exact hret _ _ _ dX1_gradeLevelled_152 rfl
    · have h := hf9 qh; clear ht9 hf9
      refine g_aload_n K dX1_gradeLevelled_71 rfl 1 rfl ?_
      refine g_iload_n K dX1_gradeLevelled_72 rfl 3 rfl ?_
      obtain ⟨z_1, hz_1, h⟩ := gi_bd h
      refine g_callVq (As := [.int x3]) (bytes := cX10_chiefAt) (maxL := 2) (ret := (some (.object "ChiefGrades$Chief"))) K (ctX10_chiefAt_w0 hF o0 A0 C0 h0 o1 A1 C1 h1 o2 A2 C2 h2 gs (gu (gu (gu (gu (gu gA 0 ga0) 1 ga1) 2 ga2) 3 ga3) 5 ga5) tb0 tA0 bf0 hi0 x3 (res := z_1) hz_1) gc_V_RX1_90_X10_chiefAt rfl qv_X10_chiefAt 1 rfl rfl rfl hRm rfl rfl rfl (by decide) (Nat.le_of_ble_eq_true rfl) (by decide) dX1_gradeLevelled_73 (fun v w hw => ?_)
      obtain ⟨hv9, rfl⟩ := hw; have hv9 := hv9.symm; subst hv9
      rcases gi_mt h with ⟨ez, h⟩ | ⟨b_z1, ez, h⟩
      · rw [ez]
        refine g_astoreN (L' := [(4, .null), (0, .ref (q 3)), (1, .ref (q 0)), (2, .int x2), (3, .int x3)]) K dX1_gradeLevelled_76 (hlt _ (by decide)) rfl ?_
        refine g_aloadN K dX1_gradeLevelled_78 0 rfl ?_
        refine g_ifnonnullN K dX1_gradeLevelled_80 ?_
        refine g_goto (tgt := 146) K dX1_gradeLevelled_83 (by decide) ?_
        refine g_iinc (v := (x3 + 1)) (L' := [(3, .int (x3 + 1)), (4, .null), (0, .ref (q 3)), (1, .ref (q 0)), (2, .int x2)]) K dX1_gradeLevelled_146 4 rfl rfl (hlt _ (by decide)) rfl ?_
        refine g_goto (tgt := 63) K dX1_gradeLevelled_149 (by decide) ?_
        refine g_sub (L' := [(0, .ref (q 3)), (1, .ref (q 0)), (2, .int x2), (3, .int (x3 + 1))]) [2, 3, 4, 0] rfl ?_
        exact ih gs ga0 ga1 ga2 ga3 ga5 x2 (x3 + 1) h
      · rw [ez]
        refine g_astore (L' := [(4, .ref b_z1), (0, .ref (q 3)), (1, .ref (q 0)), (2, .int x2), (3, .int x3)]) K dX1_gradeLevelled_76 (hlt _ (by decide)) rfl ?_
        refine g_aload K dX1_gradeLevelled_78 0 rfl ?_
        refine g_ifnonnull (tgt := 86) K dX1_gradeLevelled_80 (by decide) ?_
        refine g_aload_n K dX1_gradeLevelled_86 rfl 1 rfl ?_
        refine g_aload_n K dX1_gradeLevelled_87 rfl 2 rfl ?_
        refine g_iload_n K dX1_gradeLevelled_88 rfl 4 rfl ?_
        obtain ⟨z_2, hz_2, h⟩ := gi_bd h
        refine g_callVi (As := [.int x3]) (bytes := cX10_teamBits) (maxL := 4) (ret := (some .int)) K (ctX10_teamBits_w0 hF o0 A0 C0 h0 o1 A1 C1 h1 o2 A2 C2 h2 gs (gu (gu (gu (gu (gu gA 0 ga0) 1 ga1) 2 ga2) 3 ga3) 5 ga5) tb0 tA0 bf0 hi0 x3 (res := z_2) hz_2) gc_V_RX1_55_X10_teamBits rfl qv_X10_teamBits 1 rfl rfl rfl hRm rfl rfl rfl (by decide) (Nat.le_of_ble_eq_true rfl) (by decide) dX1_gradeLevelled_89 (fun v w hw => ?_)
        obtain ⟨hv9, rfl⟩ := hw; have hv9 := hv9.symm; subst hv9
        obtain ⟨z_3, hz_3, h⟩ := gi_bd h
        refine g_callVv (As := [.int z_2]) (bytes := cX1_gather) (maxL := 3) (ret := none) K (ctX1_gather hF o0 A0 C0 h0 o1 A1 C1 h1 o2 A2 C2 h2 gs (gu (gu (gu (gu (gu gA 0 ga0) 1 ga1) 2 ga2) 3 ga3) 5 ga5) tb0 tA0 bf0 hi0 z_2 (res := z_3) hz_3) gc_V_RX1_101_X1_gather rfl qv_X1_gather 4 rfl rfl rfl hRm rfl rfl rfl (by decide) (Nat.le_of_ble_eq_true rfl) (by decide) dX1_gradeLevelled_92 (fun w hw => ?_)
        subst hw
        refine g_ws (ws' := cw (g_E Γ) q r (gpl F) o0 A0 C0 h0 o1 A1 C1 h1 o2 A2 C2 h2 z_3.1 (gu (gu (gu (gu (gu gA 0 ga0) 1 ga1) 2 z_3.2) 3 ga3) 5 ga5) tb0 tA0 bf0 hi0) rfl ?_
        refine g_iload_n K dX1_gradeLevelled_95 rfl 3 rfl ?_
        refine g_aload_n K dX1_gradeLevelled_96 rfl 1 rfl ?_
        obtain ⟨z_4, hz_4, h⟩ := gi_bd h
        refine g_callVi (As := []) (bytes := cX1_meanOfTeam) (maxL := 3) (ret := (some .int)) K (ctX1_meanOfTeam hF o0 A0 C0 h0 o1 A1 C1 h1 o2 A2 C2 h2 z_3.1 (gu (gu (gu (gu (gu gA 0 ga0) 1 ga1) 2 z_3.2) 3 ga3) 5 ga5) tb0 tA0 bf0 hi0 (res := z_4) hz_4) gc_V_RX1_118_X1_meanOfTeam rfl qv_X1_meanOfTeam 4 rfl rfl rfl hRm rfl rfl rfl (by decide) (Nat.le_of_ble_eq_true rfl) (by decide) dX1_gradeLevelled_97 (fun v w hw => ?_)
        obtain ⟨hv9, rfl⟩ := hw; have hv9 := hv9.symm; subst hv9
        refine g_isub K dX1_gradeLevelled_100 ?_
        obtain ⟨v_5, ev_5, h⟩ := gi_nm h
        refine g_topi ev_5 ?_
        refine g_istore (L' := [(5, .int v_5), (4, .ref b_z1), (0, .ref (q 3)), (1, .ref (q 0)), (2, .int x2), (3, .int x3)]) K dX1_gradeLevelled_101 (hlt _ (by decide)) rfl ?_
        refine g_iconst (v := 0) K dX1_gradeLevelled_103 (by decide) ?_
        refine g_istore (L' := [(6, .int 0), (5, .int v_5), (4, .ref b_z1), (0, .ref (q 3)), (1, .ref (q 0)), (2, .int x2), (3, .int x3)]) K dX1_gradeLevelled_104 (hlt _ (by decide)) rfl ?_
        refine g_sub (L' := [(0, .ref (q 3)), (1, .ref (q 0)), (2, .int x2), (3, .int x3), (4, .ref b_z1), (5, .int v_5), (6, .int 0)]) [3, 4, 5, 6, 2, 1, 0] rfl ?_
        exact wX1_gradeLevelled_w0_106 (C0 := C0) (h0 := h0) (C1 := C1) (h1 := h1) (C2 := C2) (h2 := h2) (gs0 := gs0) (tb0 := tb0) (tA0 := tA0) (bf0 := bf0) (hi0 := hi0) hF K hlt hRm hret ih 1000 z_3.1 ga0 ga1 z_3.2 ga3 ga5 x2 x3 b_z1 v_5 0 h

set_option maxHeartbeats 4000000 in
set_option maxRecDepth 100000 in
theorem wX1_gradeLevelled_w0_44 {Γ : gT} {q : Nat → Nat} {r : Nat → Nat → Nat} {F : gF} (hF : gFz (g_E Γ) F) {o0 : Nat → Int32} {A0 : Nat → Nat → Int32} {C0 : Nat → Option Nat} {h0 : Nat} {o1 : Nat → Int32} {A1 : Nat → Nat → Int32} {C1 : Nat → Option Nat} {h1 : Nat} {o2 : Nat → Int32} {A2 : Nat → Nat → Int32} {C2 : Nat → Option Nat} {h2 : Nat} {gs0 : Int32} {gA : Nat → Nat → Int32} {tb0 : Int32} {tA0 bf0 : Nat → Int32} {hi0 : Int32} (K : gOK Γ cX1_gradeLevelled gU RX1) (hlt : ∀ i, i < 7 → i < g_n Γ) (hRm : g_R Γ = ({ frames := 8, cells := 0, slots := 0, locals := 238 } : Room)) {res : Int32 × ((Nat → Int32)) × ((Nat → Int32)) × ((Nat → Int32)) × ((Nat → Int32)) × ((Nat → Int32))} (hret : ∀ (pc : Nat) (L : List (Nat × Value)) (w : va_W), decode cX1_gradeLevelled pc = .ok (.return_, 1) → (w = cw (g_E Γ) q r (gpl F) o0 A0 C0 h0 o1 A1 C1 h1 o2 A2 C2 h2 res.1 (gu (gu (gu (gu (gu gA 0 res.2.1) 1 res.2.2.1) 2 res.2.2.2.1) 3 res.2.2.2.2.1) 5 res.2.2.2.2.2) tb0 tA0 bf0 hi0) → gGO Γ 0 0 pc L [] w) (gs : Int32) (ga0 : (Nat → Int32)) (ga1 : (Nat → Int32)) (ga2 : (Nat → Int32)) (ga3 : (Nat → Int32)) (ga5 : (Nat → Int32)) (h : pX1_gradeLevelled_w0_44 F (o0 0) (o0 1) (o0 5) (A0 8) (A0 9) (A0 10) (A0 11) h0 C0 gs ga0 ga1 ga2 ga3 ga5 = some res) : gGO Γ 0 0 44 [(0, .ref (q 3)), (1, .ref (q 0))] [] (cw (g_E Γ) q r (gpl F) o0 A0 C0 h0 o1 A1 C1 h1 o2 A2 C2 h2 gs (gu (gu (gu (gu (gu gA 0 ga0) 1 ga1) 2 ga2) 3 ga3) 5 ga5) tb0 tA0 bf0 hi0) := by
    unfold pX1_gradeLevelled_w0_44 at h
    refine g_aload_n K dX1_gradeLevelled_44 rfl 0 rfl ?_
    refine g_iconst (v := 1) K dX1_gradeLevelled_45 (by decide) ?_
    refine g_aload_n K dX1_gradeLevelled_46 rfl 1 rfl ?_
    refine g_get (v := .int (o0 0)) (T := TX10) (ref := "ChiefGrades$World") K hin_X10 1 rfl rfl 0 (by decide) u_159 (Or.inl rfl) rfl dX1_gradeLevelled_47 ?_
    refine g_ishl K dX1_gradeLevelled_50 ?_
    refine g_iconst (v := 1) K dX1_gradeLevelled_51 (by decide) ?_
    refine g_isub K dX1_gradeLevelled_52 ?_
    obtain ⟨z_1, hz_1, h⟩ := gi_bd h
    refine g_callVv (As := [.int ((1 <<< ((o0 0) &&& 31)) - 1)]) (bytes := cX1_gather) (maxL := 3) (ret := none) K (ctX1_gather hF o0 A0 C0 h0 o1 A1 C1 h1 o2 A2 C2 h2 gs (gu (gu (gu (gu (gu gA 0 ga0) 1 ga1) 2 ga2) 3 ga3) 5 ga5) tb0 tA0 bf0 hi0 ((1 <<< ((o0 0) &&& 31)) - 1) (res := z_1) hz_1) gc_V_RX1_101_X1_gather rfl qv_X1_gather 4 rfl rfl rfl hRm rfl rfl rfl (by decide) (Nat.le_of_ble_eq_true rfl) (by decide) dX1_gradeLevelled_53 (fun w hw => ?_)
    subst hw
    refine g_ws (ws' := cw (g_E Γ) q r (gpl F) o0 A0 C0 h0 o1 A1 C1 h1 o2 A2 C2 h2 z_1.1 (gu (gu (gu (gu (gu gA 0 ga0) 1 ga1) 2 z_1.2) 3 ga3) 5 ga5) tb0 tA0 bf0 hi0) rfl ?_
    refine g_aload_n K dX1_gradeLevelled_56 rfl 0 rfl ?_
    obtain ⟨z_2, hz_2, h⟩ := gi_bd h
    refine g_callVi (As := []) (bytes := cX1_meanOfTeam) (maxL := 3) (ret := (some .int)) K (ctX1_meanOfTeam hF o0 A0 C0 h0 o1 A1 C1 h1 o2 A2 C2 h2 z_1.1 (gu (gu (gu (gu (gu gA 0 ga0) 1 ga1) 2 z_1.2) 3 ga3) 5 ga5) tb0 tA0 bf0 hi0 (res := z_2) hz_2) gc_V_RX1_118_X1_meanOfTeam rfl qv_X1_meanOfTeam 4 rfl rfl rfl hRm rfl rfl rfl (by decide) (Nat.le_of_ble_eq_true rfl) (by decide) dX1_gradeLevelled_57 (fun v w hw => ?_)
    obtain ⟨hv9, rfl⟩ := hw; have hv9 := hv9.symm; subst hv9
    refine g_istore_n (L' := [(2, .int z_2), (0, .ref (q 3)), (1, .ref (q 0))]) K dX1_gradeLevelled_60 rfl (hlt _ (by decide)) rfl ?_
    refine g_iconst (v := 0) K dX1_gradeLevelled_61 (by decide) ?_
    refine g_istore_n (L' := [(3, .int 0), (2, .int z_2), (0, .ref (q 3)), (1, .ref (q 0))]) K dX1_gradeLevelled_62 rfl (hlt _ (by decide)) rfl ?_
    refine g_sub (L' := [(0, .ref (q 3)), (1, .ref (q 0)), (2, .int z_2), (3, .int 0)]) [2, 3, 1, 0] rfl ?_
    exact wX1_gradeLevelled_w0_63 (C0 := C0) (h0 := h0) (C1 := C1) (h1 := h1) (C2 := C2) (h2 := h2) (gs0 := gs0) (tb0 := tb0) (tA0 := tA0) (bf0 := bf0) (hi0 := hi0) hF K hlt hRm hret 1000 z_1.1 ga0 ga1 z_1.2 ga3 ga5 z_2 0 h

set_option maxHeartbeats 4000000 in
set_option maxRecDepth 100000 in
theorem wX1_gradeLevelled_w0_2 {Γ : gT} {q : Nat → Nat} {r : Nat → Nat → Nat} {F : gF} (hF : gFz (g_E Γ) F) {o0 : Nat → Int32} {A0 : Nat → Nat → Int32} {C0 : Nat → Option Nat} {h0 : Nat} {o1 : Nat → Int32} {A1 : Nat → Nat → Int32} {C1 : Nat → Option Nat} {h1 : Nat} {o2 : Nat → Int32} {A2 : Nat → Nat → Int32} {C2 : Nat → Option Nat} {h2 : Nat} {gs0 : Int32} {gA : Nat → Nat → Int32} {tb0 : Int32} {tA0 bf0 : Nat → Int32} {hi0 : Int32} (K : gOK Γ cX1_gradeLevelled gU RX1) (hlt : ∀ i, i < 7 → i < g_n Γ) (hRm : g_R Γ = ({ frames := 8, cells := 0, slots := 0, locals := 238 } : Room)) {res : Int32 × ((Nat → Int32)) × ((Nat → Int32)) × ((Nat → Int32)) × ((Nat → Int32)) × ((Nat → Int32))} (hret : ∀ (pc : Nat) (L : List (Nat × Value)) (w : va_W), decode cX1_gradeLevelled pc = .ok (.return_, 1) → (w = cw (g_E Γ) q r (gpl F) o0 A0 C0 h0 o1 A1 C1 h1 o2 A2 C2 h2 res.1 (gu (gu (gu (gu (gu gA 0 res.2.1) 1 res.2.2.1) 2 res.2.2.2.1) 3 res.2.2.2.2.1) 5 res.2.2.2.2.2) tb0 tA0 bf0 hi0) → gGO Γ 0 0 pc L [] w) : ∀ (n : Nat) (gs : Int32) (ga0 : (Nat → Int32)) (ga1 : (Nat → Int32)) (ga2 : (Nat → Int32)) (ga3 : (Nat → Int32)) (ga5 : (Nat → Int32)) (x2 : Int32), pX1_gradeLevelled_w0_2 F (o0 0) (o0 1) (o0 5) (A0 8) (A0 9) (A0 10) (A0 11) h0 C0 n gs ga0 ga1 ga2 ga3 ga5 x2 = some res → gGO Γ 0 0 2 [(0, .ref (q 3)), (1, .ref (q 0)), (2, .int x2)] [] (cw (g_E Γ) q r (gpl F) o0 A0 C0 h0 o1 A1 C1 h1 o2 A2 C2 h2 gs (gu (gu (gu (gu (gu gA 0 ga0) 1 ga1) 2 ga2) 3 ga3) 5 ga5) tb0 tA0 bf0 hi0) := by
  intro n
  induction n with
  | zero => intro _ _ _ _ _ _ _ h; cases h
  | succ n ih =>
    intro gs ga0 ga1 ga2 ga3 ga5 x2 h
    simp only [pX1_gradeLevelled_w0_2] at h
    refine g_iload_n K dX1_gradeLevelled_2 rfl 2 rfl ?_
    refine g_aload_n K dX1_gradeLevelled_3 rfl 1 rfl ?_
    refine g_get (v := .int (o0 1)) (T := TX10) (ref := "ChiefGrades$World") K hin_X10 1 rfl rfl 1 (by decide) u_162 (Or.inl rfl) rfl dX1_gradeLevelled_4 ?_
    obtain ⟨ht9, hf9⟩ := gi_br h; clear h
    refine g_icmp_ge (tgt := 44) K dX1_gradeLevelled_7 (by decide) (fun qh => ?_) (fun qh => ?_)
    · have h := ht9 qh; clear ht9 hf9
      refine g_sub (L' := [(0, .ref (q 3)), (1, .ref (q 0))]) [0, 1] rfl ?_
      exact wX1_gradeLevelled_w0_44 (C0 := C0) (h0 := h0) (C1 := C1) (h1 := h1) (C2 := C2) (h2 := h2) (gs0 := gs0) (tb0 := tb0) (tA0 := tA0) (bf0 := bf0) (hi0 := hi0) hF K hlt hRm hret gs ga0 ga1 ga2 ga3 ga5 h
    · have h := hf9 qh; clear ht9 hf9
      refine g_aload_n K dX1_gradeLevelled_10 rfl 1 rfl ?_
      refine g_iload_n K dX1_gradeLevelled_11 rfl 2 rfl ?_
      obtain ⟨z_1, hz_1, h⟩ := gi_bd h
      refine g_callVq (As := [.int x2]) (bytes := cX10_chiefAt) (maxL := 2) (ret := (some (.object "ChiefGrades$Chief"))) K (ctX10_chiefAt_w0 hF o0 A0 C0 h0 o1 A1 C1 h1 o2 A2 C2 h2 gs (gu (gu (gu (gu (gu gA 0 ga0) 1 ga1) 2 ga2) 3 ga3) 5 ga5) tb0 tA0 bf0 hi0 x2 (res := z_1) hz_1) gc_V_RX1_90_X10_chiefAt rfl qv_X10_chiefAt 1 rfl rfl rfl hRm rfl rfl rfl (by decide) (Nat.le_of_ble_eq_true rfl) (by decide) dX1_gradeLevelled_12 (fun v w hw => ?_)
      obtain ⟨hv9, rfl⟩ := hw; have hv9 := hv9.symm; subst hv9
      rcases gi_mt h with ⟨ez, h⟩ | ⟨b_z1, ez, h⟩
      · rw [ez]
        refine g_astore_nN (L' := [(3, .null), (0, .ref (q 3)), (1, .ref (q 0)), (2, .int x2)]) K dX1_gradeLevelled_15 rfl (hlt _ (by decide)) rfl ?_
        refine g_aload_nN K dX1_gradeLevelled_16 rfl 0 rfl ?_
        refine g_ifnonnullN K dX1_gradeLevelled_17 ?_
        refine g_goto (tgt := 38) K dX1_gradeLevelled_20 (by decide) ?_
        refine g_iinc (v := (x2 + 1)) (L' := [(2, .int (x2 + 1)), (3, .null), (0, .ref (q 3)), (1, .ref (q 0))]) K dX1_gradeLevelled_38 3 rfl rfl (hlt _ (by decide)) rfl ?_
        refine g_goto (tgt := 2) K dX1_gradeLevelled_41 (by decide) ?_
        refine g_sub (L' := [(0, .ref (q 3)), (1, .ref (q 0)), (2, .int (x2 + 1))]) [2, 3, 0] rfl ?_
        exact ih gs ga0 ga1 ga2 ga3 ga5 (x2 + 1) h
      · rw [ez]
        refine g_astore_n (L' := [(3, .ref b_z1), (0, .ref (q 3)), (1, .ref (q 0)), (2, .int x2)]) K dX1_gradeLevelled_15 rfl (hlt _ (by decide)) rfl ?_
        refine g_aload_n K dX1_gradeLevelled_16 rfl 0 rfl ?_
        refine g_ifnonnull (tgt := 23) K dX1_gradeLevelled_17 (by decide) ?_
        refine g_aload_n K dX1_gradeLevelled_23 rfl 1 rfl ?_
        refine g_aload_n K dX1_gradeLevelled_24 rfl 2 rfl ?_
        refine g_iload_n K dX1_gradeLevelled_25 rfl 3 rfl ?_
        obtain ⟨z_2, hz_2, h⟩ := gi_bd h
        refine g_callVi (As := [.int x2]) (bytes := cX10_teamBits) (maxL := 4) (ret := (some .int)) K (ctX10_teamBits_w0 hF o0 A0 C0 h0 o1 A1 C1 h1 o2 A2 C2 h2 gs (gu (gu (gu (gu (gu gA 0 ga0) 1 ga1) 2 ga2) 3 ga3) 5 ga5) tb0 tA0 bf0 hi0 x2 (res := z_2) hz_2) gc_V_RX1_55_X10_teamBits rfl qv_X10_teamBits 1 rfl rfl rfl hRm rfl rfl rfl (by decide) (Nat.le_of_ble_eq_true rfl) (by decide) dX1_gradeLevelled_26 (fun v w hw => ?_)
        obtain ⟨hv9, rfl⟩ := hw; have hv9 := hv9.symm; subst hv9
        obtain ⟨z_3, hz_3, h⟩ := gi_bd h
        refine g_callVv (As := [.int z_2]) (bytes := cX1_gather) (maxL := 3) (ret := none) K (ctX1_gather hF o0 A0 C0 h0 o1 A1 C1 h1 o2 A2 C2 h2 gs (gu (gu (gu (gu (gu gA 0 ga0) 1 ga1) 2 ga2) 3 ga3) 5 ga5) tb0 tA0 bf0 hi0 z_2 (res := z_3) hz_3) gc_V_RX1_101_X1_gather rfl qv_X1_gather 4 rfl rfl rfl hRm rfl rfl rfl (by decide) (Nat.le_of_ble_eq_true rfl) (by decide) dX1_gradeLevelled_29 (fun w hw => ?_)
        subst hw
        refine g_ws (ws' := cw (g_E Γ) q r (gpl F) o0 A0 C0 h0 o1 A1 C1 h1 o2 A2 C2 h2 z_3.1 (gu (gu (gu (gu (gu gA 0 ga0) 1 ga1) 2 z_3.2) 3 ga3) 5 ga5) tb0 tA0 bf0 hi0) rfl ?_
        refine g_aload_n K dX1_gradeLevelled_32 rfl 1 rfl ?_
        refine g_aload_n K dX1_gradeLevelled_33 rfl 2 rfl ?_
        refine g_aload_n K dX1_gradeLevelled_34 rfl 0 rfl ?_
        obtain ⟨z_4, hz_4, h⟩ := gi_bd h
        refine g_callVv (As := [.ref (q 0), .ref b_z1]) (bytes := cX1_markTeam) (maxL := 4) (ret := none) K (ctX1_markTeam_w0 hF o0 A0 C0 h0 o1 A1 C1 h1 o2 A2 C2 h2 z_3.1 (gu (gu (gu (gu (gu gA 0 ga0) 1 ga1) 2 z_3.2) 3 ga3) 5 ga5) tb0 tA0 bf0 hi0 b_z1 (res := z_4) hz_4) gc_V_RX1_105_X1_markTeam rfl qv_X1_markTeam 4 rfl rfl rfl hRm rfl rfl rfl (by decide) (Nat.le_of_ble_eq_true rfl) (by decide) dX1_gradeLevelled_35 (fun w hw => ?_)
        subst hw
        refine g_ws (ws' := cw (g_E Γ) q r (gpl F) o0 A0 C0 h0 o1 A1 C1 h1 o2 A2 C2 h2 z_3.1 (gu (gu (gu (gu (gu gA 0 ga0) 1 z_4.1) 2 z_3.2) 3 ga3) 5 z_4.2) tb0 tA0 bf0 hi0) rfl ?_
        refine g_iinc (v := (x2 + 1)) (L' := [(2, .int (x2 + 1)), (3, .ref b_z1), (0, .ref (q 3)), (1, .ref (q 0))]) K dX1_gradeLevelled_38 3 rfl rfl (hlt _ (by decide)) rfl ?_
        refine g_goto (tgt := 2) K dX1_gradeLevelled_41 (by decide) ?_
        refine g_sub (L' := [(0, .ref (q 3)), (1, .ref (q 0)), (2, .int (x2 + 1))]) [2, 3, 0] rfl ?_
        exact ih z_3.1 ga0 z_4.1 z_3.2 ga3 z_4.2 (x2 + 1) h

set_option maxHeartbeats 4000000 in
set_option maxRecDepth 100000 in
theorem wX1_gradeLevelled_w0 {Γ : gT} {q : Nat → Nat} {r : Nat → Nat → Nat} {F : gF} (hF : gFz (g_E Γ) F) {o0 : Nat → Int32} {A0 : Nat → Nat → Int32} {C0 : Nat → Option Nat} {h0 : Nat} {o1 : Nat → Int32} {A1 : Nat → Nat → Int32} {C1 : Nat → Option Nat} {h1 : Nat} {o2 : Nat → Int32} {A2 : Nat → Nat → Int32} {C2 : Nat → Option Nat} {h2 : Nat} {gs0 : Int32} {gA : Nat → Nat → Int32} {tb0 : Int32} {tA0 bf0 : Nat → Int32} {hi0 : Int32} (K : gOK Γ cX1_gradeLevelled gU RX1) (hlt : ∀ i, i < 7 → i < g_n Γ) (hRm : g_R Γ = ({ frames := 8, cells := 0, slots := 0, locals := 238 } : Room)) {res : Int32 × ((Nat → Int32)) × ((Nat → Int32)) × ((Nat → Int32)) × ((Nat → Int32)) × ((Nat → Int32))} (hret : ∀ (pc : Nat) (L : List (Nat × Value)) (w : va_W), decode cX1_gradeLevelled pc = .ok (.return_, 1) → (w = cw (g_E Γ) q r (gpl F) o0 A0 C0 h0 o1 A1 C1 h1 o2 A2 C2 h2 res.1 (gu (gu (gu (gu (gu gA 0 res.2.1) 1 res.2.2.1) 2 res.2.2.2.1) 3 res.2.2.2.2.1) 5 res.2.2.2.2.2) tb0 tA0 bf0 hi0) → gGO Γ 0 0 pc L [] w) (gs : Int32) (ga0 : (Nat → Int32)) (ga1 : (Nat → Int32)) (ga2 : (Nat → Int32)) (ga3 : (Nat → Int32)) (ga5 : (Nat → Int32)) (h : pX1_gradeLevelled_w0 F (o0 0) (o0 1) (o0 5) (A0 8) (A0 9) (A0 10) (A0 11) h0 C0 gs ga0 ga1 ga2 ga3 ga5 = some res) : gGO Γ 0 0 0 [(0, .ref (q 3)), (1, .ref (q 0))] [] (cw (g_E Γ) q r (gpl F) o0 A0 C0 h0 o1 A1 C1 h1 o2 A2 C2 h2 gs (gu (gu (gu (gu (gu gA 0 ga0) 1 ga1) 2 ga2) 3 ga3) 5 ga5) tb0 tA0 bf0 hi0) := by
    unfold pX1_gradeLevelled_w0 at h
    refine g_iconst (v := 0) K dX1_gradeLevelled_0 (by decide) ?_
    refine g_istore_n (L' := [(2, .int 0), (0, .ref (q 3)), (1, .ref (q 0))]) K dX1_gradeLevelled_1 rfl (hlt _ (by decide)) rfl ?_
    refine g_sub (L' := [(0, .ref (q 3)), (1, .ref (q 0)), (2, .int 0)]) [1, 2, 0] rfl ?_
    exact wX1_gradeLevelled_w0_2 (C0 := C0) (h0 := h0) (C1 := C1) (h1 := h1) (C2 := C2) (h2 := h2) (gs0 := gs0) (tb0 := tb0) (tA0 := tA0) (bf0 := bf0) (hi0 := hi0) hF K hlt hRm hret 1000 gs ga0 ga1 ga2 ga3 ga5 0 h

set_option maxRecDepth 100000 in
theorem ctX1_gradeLevelled_w0 {E : gE} {q : Nat → Nat} {r : Nat → Nat → Nat} {F : gF} (hF : gFz E F) (o0 : Nat → Int32) (A0 : Nat → Nat → Int32) (C0 : Nat → Option Nat) (h0 : Nat) (o1 : Nat → Int32) (A1 : Nat → Nat → Int32) (C1 : Nat → Option Nat) (h1 : Nat) (o2 : Nat → Int32) (A2 : Nat → Nat → Int32) (C2 : Nat → Option Nat) (h2 : Nat) (gs0 : Int32) (gA : Nat → Nat → Int32) (tb0 : Int32) (tA0 bf0 : Nat → Int32) (hi0 : Int32) {res : Int32 × ((Nat → Int32)) × ((Nat → Int32)) × ((Nat → Int32)) × ((Nat → Int32)) × ((Nat → Int32))} (h : pX1_gradeLevelled_w0 F (o0 0) (o0 1) (o0 5) (A0 8) (A0 9) (A0 10) (A0 11) h0 C0 gs0 (gA 0) (gA 1) (gA 2) (gA 3) (gA 5) = some res) : gMv yX1_gradeLevelled (.code yX1_gradeLevelled cX1_gradeLevelled 7 none :: gU) ({ frames := 8, cells := 0, slots := 0, locals := 238 } : Room) 0 0 E [.ref (q 3), .ref (q 0)] (cw E q r (gpl F) o0 A0 C0 h0 o1 A1 C1 h1 o2 A2 C2 h2 gs0 gA tb0 tA0 bf0 hi0) (fun w => w = cw E q r (gpl F) o0 A0 C0 h0 o1 A1 C1 h1 o2 A2 C2 h2 res.1 (gu (gu (gu (gu (gu gA 0 res.2.1) 1 res.2.2.1) 2 res.2.2.2.1) 3 res.2.2.2.2.1) 5 res.2.2.2.2.2) tb0 tA0 bf0 hi0) := by
  refine g_met_v (by decide +kernel) (Nat.le_of_ble_eq_true rfl) (fun Γ K hn hE hRm _ hret => ?_)
  subst hE
  have hlt : ∀ i, i < 7 → i < g_n Γ := fun i q => by rw [hn]; exact q
  refine g_ws (ws' := cw (g_E Γ) q r (gpl F) o0 A0 C0 h0 o1 A1 C1 h1 o2 A2 C2 h2 gs0 (gu (gu (gu (gu (gu gA 0 (gA 0)) 1 (gA 1)) 2 (gA 2)) 3 (gA 3)) 5 (gA 5)) tb0 tA0 bf0 hi0) rfl ?_
  refine g_sub (L' := [(0, .ref (q 3)), (1, .ref (q 0))]) [0, 1] rfl ?_
  exact wX1_gradeLevelled_w0 (C0 := C0) (h0 := h0) (C1 := C1) (h1 := h1) (C2 := C2) (h2 := h2) (gs0 := gs0) (tb0 := tb0) (tA0 := tA0) (bf0 := bf0) (hi0 := hi0) hF K hlt hRm hret gs0 (gA 0) (gA 1) (gA 2) (gA 3) (gA 5) h

set_option maxHeartbeats 4000000 in
set_option maxRecDepth 100000 in
theorem wX1_gradeDue_w0_14 {Γ : gT} {q : Nat → Nat} {r : Nat → Nat → Nat} {F : gF} (hF : gFz (g_E Γ) F) {o0 : Nat → Int32} {A0 : Nat → Nat → Int32} {C0 : Nat → Option Nat} {h0 : Nat} {o1 : Nat → Int32} {A1 : Nat → Nat → Int32} {C1 : Nat → Option Nat} {h1 : Nat} {o2 : Nat → Int32} {A2 : Nat → Nat → Int32} {C2 : Nat → Option Nat} {h2 : Nat} {gs0 : Int32} {gA : Nat → Nat → Int32} {tb0 : Int32} {tA0 bf0 : Nat → Int32} {hi0 : Int32} (K : gOK Γ cX1_gradeDue gU RX1) (hlt : ∀ i, i < 3 → i < g_n Γ) (hRm : g_R Γ = ({ frames := 7, cells := 0, slots := 0, locals := 230 } : Room)) {res : Int32 × ((Nat → Int32)) × ((Nat → Int32)) × ((Nat → Int32)) × ((Nat → Int32))} (hret : ∀ (pc : Nat) (L : List (Nat × Value)) (w : va_W), decode cX1_gradeDue pc = .ok (.return_, 1) → (w = cw (g_E Γ) q r (gpl F) o0 A0 C0 h0 o1 A1 C1 h1 o2 A2 C2 h2 res.1 (gu (gu (gu (gu gA 0 res.2.1) 1 res.2.2.1) 2 res.2.2.2.1) 3 res.2.2.2.2) tb0 tA0 bf0 hi0) → gGO Γ 0 0 pc L [] w) : ∀ (n : Nat) (gs : Int32) (ga0 : (Nat → Int32)) (ga1 : (Nat → Int32)) (ga2 : (Nat → Int32)) (ga3 : (Nat → Int32)) (x2 : Int32), pX1_gradeDue_w0_14 F (o0 0) (o0 5) (A0 8) h0 n gs ga0 ga1 ga2 ga3 x2 = some res → gGO Γ 0 0 14 [(0, .ref (q 3)), (1, .ref (q 0)), (2, .int x2)] [] (cw (g_E Γ) q r (gpl F) o0 A0 C0 h0 o1 A1 C1 h1 o2 A2 C2 h2 gs (gu (gu (gu (gu gA 0 ga0) 1 ga1) 2 ga2) 3 ga3) tb0 tA0 bf0 hi0) := by
  intro n
  induction n with
  | zero => intro _ _ _ _ _ _ h; cases h
  | succ n ih =>
    intro gs ga0 ga1 ga2 ga3 x2 h
    simp only [pX1_gradeDue_w0_14] at h
    refine g_iload_n K dX1_gradeDue_14 rfl 2 rfl ?_
    refine g_aload_n K dX1_gradeDue_15 rfl 0 rfl ?_
    refine g_get (v := .int gs) (T := TX1) (ref := "ChiefGrades$Grader") K hin_X1 4 rfl rfl 4 (by decide) u_291 (Or.inl rfl) rfl dX1_gradeDue_16 ?_
    obtain ⟨ht9, hf9⟩ := gi_br h; clear h
    refine g_icmp_ge (tgt := 50) K dX1_gradeDue_19 (by decide) (fun qh => ?_) (fun qh => ?_)
    · have h := ht9 qh; clear ht9 hf9
      refine g_aload_n K dX1_gradeDue_50 rfl 0 rfl ?_
      refine g_aload_n K dX1_gradeDue_51 rfl 1 rfl ?_
      refine g_aload_n K dX1_gradeDue_52 rfl 0 rfl ?_
      refine g_get (v := .ref (gpl F)) (T := TX1) (ref := "ChiefGrades$Grader") K hin_X1 4 rfl rfl 6 (by decide) u_293 (Or.inl rfl) rfl dX1_gradeDue_53 ?_
      obtain ⟨z_1, hz_1, h⟩ := gi_bd h
      refine g_callVi (As := [.ref (q 0), .ref (gpl F)]) (bytes := cX1_share) (maxL := 8) (ret := (some .int)) K (ctX1_share_w0 hF o0 A0 C0 h0 o1 A1 C1 h1 o2 A2 C2 h2 gs (gu (gu (gu (gu gA 0 ga0) 1 ga1) 2 ga2) 3 ga3) tb0 tA0 bf0 hi0 (gpl F) (res := z_1) hz_1) gc_V_RX1_109_X1_share rfl qv_X1_share 4 rfl rfl rfl hRm rfl rfl rfl (by decide) (Nat.le_of_ble_eq_true rfl) (by decide) dX1_gradeDue_56 (fun v w hw => ?_)
      obtain ⟨hv9, rfl⟩ := hw; have hv9 := hv9.symm; subst hv9
      refine g_ws (ws' := cw (g_E Γ) q r (gpl F) o0 A0 C0 h0 o1 A1 C1 h1 o2 A2 C2 h2 gs (gu (gu (gu (gu gA 0 z_1.2.1) 1 ga1) 2 ga2) 3 z_1.2.2) tb0 tA0 bf0 hi0) rfl ?_
      refine g_pop K dX1_gradeDue_59 rfl ?_
      obtain rfl := Option.some.inj h
      exact hret _ _ _ dX1_gradeDue_60 rfl
    · have h := hf9 qh; clear ht9 hf9
      refine g_aload_n K dX1_gradeDue_22 rfl 0 rfl ?_
      refine g_get (v := .ref (r 3 1)) (T := TX1) (ref := "ChiefGrades$Grader") K hin_X1 4 rfl rfl 1 (by decide) u_288 (Or.inl rfl) rfl dX1_gradeDue_23 ?_
      refine g_aload_n K dX1_gradeDue_26 rfl 0 rfl ?_
      refine g_get (v := .ref (r 3 2)) (T := TX1) (ref := "ChiefGrades$Grader") K hin_X1 4 rfl rfl 2 (by decide) u_289 (Or.inl rfl) rfl dX1_gradeDue_27 ?_
      refine g_iload_n K dX1_gradeDue_30 rfl 2 rfl ?_
      obtain ⟨b_2, h⟩ := gi_none h
      refine g_iald (f := ga2) K 38 rfl (ginb_in b_2) dX1_gradeDue_31 ?_
      refine g_aload_n K dX1_gradeDue_32 rfl 1 rfl ?_
      refine g_get (v := .ref (r 0 8)) (T := TX10) (ref := "ChiefGrades$World") K hin_X10 1 rfl rfl 8 (by decide) u_178 (Or.inl rfl) rfl dX1_gradeDue_33 ?_
      refine g_aload_n K dX1_gradeDue_36 rfl 0 rfl ?_
      refine g_get (v := .ref (r 3 2)) (T := TX1) (ref := "ChiefGrades$Grader") K hin_X1 4 rfl rfl 2 (by decide) u_289 (Or.inl rfl) rfl dX1_gradeDue_37 ?_
      refine g_iload_n K dX1_gradeDue_40 rfl 2 rfl ?_
      obtain ⟨b_3, h⟩ := gi_none h
      refine g_iald (f := ga2) K 38 rfl (ginb_in b_3) dX1_gradeDue_41 ?_
      obtain ⟨b_4, h⟩ := gi_none h
      refine g_iald (f := (A0 8)) K 6 rfl (ginb_in b_4) dX1_gradeDue_42 ?_
      obtain ⟨b_5, h⟩ := gi_none h
      obtain ⟨f_6, ef_6, h⟩ := gi_nm h
      refine g_iast (f := ga1) (ws' := cw (g_E Γ) q r (gpl F) o0 A0 C0 h0 o1 A1 C1 h1 o2 A2 C2 h2 gs (gu (gu (gu (gu gA 0 ga0) 1 f_6) 2 ga2) 3 ga3) tb0 tA0 bf0 hi0) K 37 rfl (ginb_in b_5) dX1_gradeDue_43 (by rw [ef_6]; rfl) ?_
      refine g_iinc (v := (x2 + 1)) (L' := [(2, .int (x2 + 1)), (0, .ref (q 3)), (1, .ref (q 0))]) K dX1_gradeDue_44 2 rfl rfl (hlt _ (by decide)) rfl ?_
      refine g_goto (tgt := 14) K dX1_gradeDue_47 (by decide) ?_
      refine g_sub (L' := [(0, .ref (q 3)), (1, .ref (q 0)), (2, .int (x2 + 1))]) [1, 2, 0] rfl ?_
      exact ih gs ga0 f_6 ga2 ga3 (x2 + 1) h

set_option maxHeartbeats 4000000 in
set_option maxRecDepth 100000 in
theorem wX1_gradeDue_w0 {Γ : gT} {q : Nat → Nat} {r : Nat → Nat → Nat} {F : gF} (hF : gFz (g_E Γ) F) {o0 : Nat → Int32} {A0 : Nat → Nat → Int32} {C0 : Nat → Option Nat} {h0 : Nat} {o1 : Nat → Int32} {A1 : Nat → Nat → Int32} {C1 : Nat → Option Nat} {h1 : Nat} {o2 : Nat → Int32} {A2 : Nat → Nat → Int32} {C2 : Nat → Option Nat} {h2 : Nat} {gs0 : Int32} {gA : Nat → Nat → Int32} {tb0 : Int32} {tA0 bf0 : Nat → Int32} {hi0 : Int32} (K : gOK Γ cX1_gradeDue gU RX1) (hlt : ∀ i, i < 3 → i < g_n Γ) (hRm : g_R Γ = ({ frames := 7, cells := 0, slots := 0, locals := 230 } : Room)) {res : Int32 × ((Nat → Int32)) × ((Nat → Int32)) × ((Nat → Int32)) × ((Nat → Int32))} (hret : ∀ (pc : Nat) (L : List (Nat × Value)) (w : va_W), decode cX1_gradeDue pc = .ok (.return_, 1) → (w = cw (g_E Γ) q r (gpl F) o0 A0 C0 h0 o1 A1 C1 h1 o2 A2 C2 h2 res.1 (gu (gu (gu (gu gA 0 res.2.1) 1 res.2.2.1) 2 res.2.2.2.1) 3 res.2.2.2.2) tb0 tA0 bf0 hi0) → gGO Γ 0 0 pc L [] w) (gs : Int32) (ga0 : (Nat → Int32)) (ga1 : (Nat → Int32)) (ga2 : (Nat → Int32)) (ga3 : (Nat → Int32)) (h : pX1_gradeDue_w0 F (o0 0) (o0 5) (A0 8) h0 gs ga0 ga1 ga2 ga3 = some res) : gGO Γ 0 0 0 [(0, .ref (q 3)), (1, .ref (q 0))] [] (cw (g_E Γ) q r (gpl F) o0 A0 C0 h0 o1 A1 C1 h1 o2 A2 C2 h2 gs (gu (gu (gu (gu gA 0 ga0) 1 ga1) 2 ga2) 3 ga3) tb0 tA0 bf0 hi0) := by
    unfold pX1_gradeDue_w0 at h
    refine g_aload_n K dX1_gradeDue_0 rfl 0 rfl ?_
    refine g_iconst (v := 1) K dX1_gradeDue_1 (by decide) ?_
    refine g_aload_n K dX1_gradeDue_2 rfl 1 rfl ?_
    refine g_get (v := .int (o0 0)) (T := TX10) (ref := "ChiefGrades$World") K hin_X10 1 rfl rfl 0 (by decide) u_159 (Or.inl rfl) rfl dX1_gradeDue_3 ?_
    refine g_ishl K dX1_gradeDue_6 ?_
    refine g_iconst (v := 1) K dX1_gradeDue_7 (by decide) ?_
    refine g_isub K dX1_gradeDue_8 ?_
    obtain ⟨z_1, hz_1, h⟩ := gi_bd h
    refine g_callVv (As := [.int ((1 <<< ((o0 0) &&& 31)) - 1)]) (bytes := cX1_gather) (maxL := 3) (ret := none) K (ctX1_gather hF o0 A0 C0 h0 o1 A1 C1 h1 o2 A2 C2 h2 gs (gu (gu (gu (gu gA 0 ga0) 1 ga1) 2 ga2) 3 ga3) tb0 tA0 bf0 hi0 ((1 <<< ((o0 0) &&& 31)) - 1) (res := z_1) hz_1) gc_V_RX1_101_X1_gather rfl qv_X1_gather 4 rfl rfl rfl hRm rfl rfl rfl (by decide) (Nat.le_of_ble_eq_true rfl) (by decide) dX1_gradeDue_9 (fun w hw => ?_)
    subst hw
    refine g_ws (ws' := cw (g_E Γ) q r (gpl F) o0 A0 C0 h0 o1 A1 C1 h1 o2 A2 C2 h2 z_1.1 (gu (gu (gu (gu gA 0 ga0) 1 ga1) 2 z_1.2) 3 ga3) tb0 tA0 bf0 hi0) rfl ?_
    refine g_iconst (v := 0) K dX1_gradeDue_12 (by decide) ?_
    refine g_istore_n (L' := [(2, .int 0), (0, .ref (q 3)), (1, .ref (q 0))]) K dX1_gradeDue_13 rfl (hlt _ (by decide)) rfl ?_
    refine g_sub (L' := [(0, .ref (q 3)), (1, .ref (q 0)), (2, .int 0)]) [1, 2, 0] rfl ?_
    exact wX1_gradeDue_w0_14 (C0 := C0) (h0 := h0) (C1 := C1) (h1 := h1) (C2 := C2) (h2 := h2) (gs0 := gs0) (tb0 := tb0) (tA0 := tA0) (bf0 := bf0) (hi0 := hi0) hF K hlt hRm hret 1000 z_1.1 ga0 ga1 z_1.2 ga3 0 h

set_option maxRecDepth 100000 in
theorem ctX1_gradeDue_w0 {E : gE} {q : Nat → Nat} {r : Nat → Nat → Nat} {F : gF} (hF : gFz E F) (o0 : Nat → Int32) (A0 : Nat → Nat → Int32) (C0 : Nat → Option Nat) (h0 : Nat) (o1 : Nat → Int32) (A1 : Nat → Nat → Int32) (C1 : Nat → Option Nat) (h1 : Nat) (o2 : Nat → Int32) (A2 : Nat → Nat → Int32) (C2 : Nat → Option Nat) (h2 : Nat) (gs0 : Int32) (gA : Nat → Nat → Int32) (tb0 : Int32) (tA0 bf0 : Nat → Int32) (hi0 : Int32) {res : Int32 × ((Nat → Int32)) × ((Nat → Int32)) × ((Nat → Int32)) × ((Nat → Int32))} (h : pX1_gradeDue_w0 F (o0 0) (o0 5) (A0 8) h0 gs0 (gA 0) (gA 1) (gA 2) (gA 3) = some res) : gMv yX1_gradeDue (.code yX1_gradeDue cX1_gradeDue 3 none :: gU) ({ frames := 7, cells := 0, slots := 0, locals := 230 } : Room) 0 0 E [.ref (q 3), .ref (q 0)] (cw E q r (gpl F) o0 A0 C0 h0 o1 A1 C1 h1 o2 A2 C2 h2 gs0 gA tb0 tA0 bf0 hi0) (fun w => w = cw E q r (gpl F) o0 A0 C0 h0 o1 A1 C1 h1 o2 A2 C2 h2 res.1 (gu (gu (gu (gu gA 0 res.2.1) 1 res.2.2.1) 2 res.2.2.2.1) 3 res.2.2.2.2) tb0 tA0 bf0 hi0) := by
  refine g_met_v (by decide +kernel) (Nat.le_of_ble_eq_true rfl) (fun Γ K hn hE hRm _ hret => ?_)
  subst hE
  have hlt : ∀ i, i < 3 → i < g_n Γ := fun i q => by rw [hn]; exact q
  refine g_ws (ws' := cw (g_E Γ) q r (gpl F) o0 A0 C0 h0 o1 A1 C1 h1 o2 A2 C2 h2 gs0 (gu (gu (gu (gu gA 0 (gA 0)) 1 (gA 1)) 2 (gA 2)) 3 (gA 3)) tb0 tA0 bf0 hi0) rfl ?_
  refine g_sub (L' := [(0, .ref (q 3)), (1, .ref (q 0))]) [0, 1] rfl ?_
  exact wX1_gradeDue_w0 (C0 := C0) (h0 := h0) (C1 := C1) (h1 := h1) (C2 := C2) (h2 := h2) (gs0 := gs0) (tb0 := tb0) (tA0 := tA0) (bf0 := bf0) (hi0 := hi0) hF K hlt hRm hret gs0 (gA 0) (gA 1) (gA 2) (gA 3) h

set_option maxHeartbeats 4000000 in
set_option maxRecDepth 100000 in
theorem wX1_gradeTeam_w0 {Γ : gT} {q : Nat → Nat} {r : Nat → Nat → Nat} {F : gF} (hF : gFz (g_E Γ) F) {o0 : Nat → Int32} {A0 : Nat → Nat → Int32} {C0 : Nat → Option Nat} {h0 : Nat} {o1 : Nat → Int32} {A1 : Nat → Nat → Int32} {C1 : Nat → Option Nat} {h1 : Nat} {o2 : Nat → Int32} {A2 : Nat → Nat → Int32} {C2 : Nat → Option Nat} {h2 : Nat} {gs0 : Int32} {gA : Nat → Nat → Int32} {tb0 : Int32} {tA0 bf0 : Nat → Int32} {hi0 : Int32} (K : gOK Γ cX1_gradeTeam gU RX1) (hlt : ∀ i, i < 3 → i < g_n Γ) (hRm : g_R Γ = ({ frames := 8, cells := 0, slots := 0, locals := 238 } : Room)) {res : Int32 × Int32 × ((Nat → Int32)) × ((Nat → Int32)) × ((Nat → Int32)) × ((Nat → Int32)) × ((Nat → Int32))} (hret : ∀ (pc : Nat) (L : List (Nat × Value)) (v : Int32) (w : va_W), decode cX1_gradeTeam pc = .ok (.ireturn, 1) → narrow .int (.int v) = .int v → (v = res.1 ∧ w = cw (g_E Γ) q r (gpl F) o0 A0 C0 h0 o1 A1 C1 h1 o2 A2 C2 h2 res.2.1 (gu (gu (gu (gu (gu gA 0 res.2.2.1) 1 res.2.2.2.1) 2 res.2.2.2.2.1) 3 res.2.2.2.2.2.1) 5 res.2.2.2.2.2.2) tb0 tA0 bf0 hi0) → gGO Γ 0 0 pc L [.int v] w) (gs : Int32) (ga0 : (Nat → Int32)) (ga1 : (Nat → Int32)) (ga2 : (Nat → Int32)) (ga3 : (Nat → Int32)) (ga5 : (Nat → Int32)) (x2 : Nat) (h : pX1_gradeTeam_w0 F (o0 0) (o0 5) (A0 8) (A0 9) (A0 10) (A0 11) h0 gs ga0 ga1 ga2 ga3 ga5 x2 = some res) : gGO Γ 0 0 0 [(0, .ref (q 3)), (1, .ref (q 0)), (2, .ref x2)] [] (cw (g_E Γ) q r (gpl F) o0 A0 C0 h0 o1 A1 C1 h1 o2 A2 C2 h2 gs (gu (gu (gu (gu (gu gA 0 ga0) 1 ga1) 2 ga2) 3 ga3) 5 ga5) tb0 tA0 bf0 hi0) := by
    unfold pX1_gradeTeam_w0 at h
    refine g_aload_n K dX1_gradeTeam_0 rfl 0 rfl ?_
    refine g_aload_n K dX1_gradeTeam_1 rfl 1 rfl ?_
    refine g_aload_n K dX1_gradeTeam_2 rfl 2 rfl ?_
    obtain ⟨b_1, h⟩ := gi_none h
    refine chg_1 K hF b_1 hch u_259 dX1_gradeTeam_3 ?_
    obtain ⟨z_2, hz_2, h⟩ := gi_bd h
    refine g_callVi (As := [.int (cn F x2)]) (bytes := cX10_teamBits) (maxL := 4) (ret := (some .int)) K (ctX10_teamBits_w0 hF o0 A0 C0 h0 o1 A1 C1 h1 o2 A2 C2 h2 gs (gu (gu (gu (gu (gu gA 0 ga0) 1 ga1) 2 ga2) 3 ga3) 5 ga5) tb0 tA0 bf0 hi0 (cn F x2) (res := z_2) hz_2) gc_V_RX1_55_X10_teamBits rfl qv_X10_teamBits 1 rfl rfl rfl hRm rfl rfl rfl (by decide) (Nat.le_of_ble_eq_true rfl) (by decide) dX1_gradeTeam_6 (fun v w hw => ?_)
    obtain ⟨hv9, rfl⟩ := hw; have hv9 := hv9.symm; subst hv9
    obtain ⟨z_3, hz_3, h⟩ := gi_bd h
    refine g_callVv (As := [.int z_2]) (bytes := cX1_gather) (maxL := 3) (ret := none) K (ctX1_gather hF o0 A0 C0 h0 o1 A1 C1 h1 o2 A2 C2 h2 gs (gu (gu (gu (gu (gu gA 0 ga0) 1 ga1) 2 ga2) 3 ga3) 5 ga5) tb0 tA0 bf0 hi0 z_2 (res := z_3) hz_3) gc_V_RX1_101_X1_gather rfl qv_X1_gather 4 rfl rfl rfl hRm rfl rfl rfl (by decide) (Nat.le_of_ble_eq_true rfl) (by decide) dX1_gradeTeam_9 (fun w hw => ?_)
    subst hw
    refine g_ws (ws' := cw (g_E Γ) q r (gpl F) o0 A0 C0 h0 o1 A1 C1 h1 o2 A2 C2 h2 z_3.1 (gu (gu (gu (gu (gu gA 0 ga0) 1 ga1) 2 z_3.2) 3 ga3) 5 ga5) tb0 tA0 bf0 hi0) rfl ?_
    refine g_aload_n K dX1_gradeTeam_12 rfl 0 rfl ?_
    refine g_aload_n K dX1_gradeTeam_13 rfl 1 rfl ?_
    refine g_aload_n K dX1_gradeTeam_14 rfl 2 rfl ?_
    obtain ⟨z_4, hz_4, h⟩ := gi_bd h
    refine g_callVv (As := [.ref (q 0), .ref x2]) (bytes := cX1_markTeam) (maxL := 4) (ret := none) K (ctX1_markTeam_w0 hF o0 A0 C0 h0 o1 A1 C1 h1 o2 A2 C2 h2 z_3.1 (gu (gu (gu (gu (gu gA 0 ga0) 1 ga1) 2 z_3.2) 3 ga3) 5 ga5) tb0 tA0 bf0 hi0 x2 (res := z_4) hz_4) gc_V_RX1_105_X1_markTeam rfl qv_X1_markTeam 4 rfl rfl rfl hRm rfl rfl rfl (by decide) (Nat.le_of_ble_eq_true rfl) (by decide) dX1_gradeTeam_15 (fun w hw => ?_)
    subst hw
    refine g_ws (ws' := cw (g_E Γ) q r (gpl F) o0 A0 C0 h0 o1 A1 C1 h1 o2 A2 C2 h2 z_3.1 (gu (gu (gu (gu (gu gA 0 ga0) 1 z_4.1) 2 z_3.2) 3 ga3) 5 z_4.2) tb0 tA0 bf0 hi0) rfl ?_
    refine g_aload_n K dX1_gradeTeam_18 rfl 0 rfl ?_
    refine g_aload_n K dX1_gradeTeam_19 rfl 1 rfl ?_
    refine g_aload_n K dX1_gradeTeam_20 rfl 2 rfl ?_
    obtain ⟨z_5, hz_5, h⟩ := gi_bd h
    refine g_callVi (As := [.ref (q 0), .ref x2]) (bytes := cX1_share) (maxL := 8) (ret := (some .int)) K (ctX1_share_w0 hF o0 A0 C0 h0 o1 A1 C1 h1 o2 A2 C2 h2 z_3.1 (gu (gu (gu (gu (gu gA 0 ga0) 1 z_4.1) 2 z_3.2) 3 ga3) 5 z_4.2) tb0 tA0 bf0 hi0 x2 (res := z_5) hz_5) gc_V_RX1_109_X1_share rfl qv_X1_share 4 rfl rfl rfl hRm rfl rfl rfl (by decide) (Nat.le_of_ble_eq_true rfl) (by decide) dX1_gradeTeam_21 (fun v w hw => ?_)
    obtain ⟨hv9, rfl⟩ := hw; have hv9 := hv9.symm; subst hv9
    refine g_ws (ws' := cw (g_E Γ) q r (gpl F) o0 A0 C0 h0 o1 A1 C1 h1 o2 A2 C2 h2 z_3.1 (gu (gu (gu (gu (gu gA 0 z_5.2.1) 1 z_4.1) 2 z_3.2) 3 z_5.2.2) 5 z_4.2) tb0 tA0 bf0 hi0) rfl ?_
    obtain rfl := Option.some.inj h
    exact hret _ _ _ _ dX1_gradeTeam_24 rfl ⟨rfl, rfl⟩

set_option maxRecDepth 100000 in
theorem ctX1_gradeTeam_w0 {E : gE} {q : Nat → Nat} {r : Nat → Nat → Nat} {F : gF} (hF : gFz E F) (o0 : Nat → Int32) (A0 : Nat → Nat → Int32) (C0 : Nat → Option Nat) (h0 : Nat) (o1 : Nat → Int32) (A1 : Nat → Nat → Int32) (C1 : Nat → Option Nat) (h1 : Nat) (o2 : Nat → Int32) (A2 : Nat → Nat → Int32) (C2 : Nat → Option Nat) (h2 : Nat) (gs0 : Int32) (gA : Nat → Nat → Int32) (tb0 : Int32) (tA0 bf0 : Nat → Int32) (hi0 : Int32) (x2 : Nat) {res : Int32 × Int32 × ((Nat → Int32)) × ((Nat → Int32)) × ((Nat → Int32)) × ((Nat → Int32)) × ((Nat → Int32))} (h : pX1_gradeTeam_w0 F (o0 0) (o0 5) (A0 8) (A0 9) (A0 10) (A0 11) h0 gs0 (gA 0) (gA 1) (gA 2) (gA 3) (gA 5) x2 = some res) : gMi yX1_gradeTeam (.code yX1_gradeTeam cX1_gradeTeam 3 (some .int) :: gU) ({ frames := 8, cells := 0, slots := 0, locals := 238 } : Room) 0 0 E [.ref (q 3), .ref (q 0), .ref x2] (cw E q r (gpl F) o0 A0 C0 h0 o1 A1 C1 h1 o2 A2 C2 h2 gs0 gA tb0 tA0 bf0 hi0) (fun v w => v = res.1 ∧ w = cw E q r (gpl F) o0 A0 C0 h0 o1 A1 C1 h1 o2 A2 C2 h2 res.2.1 (gu (gu (gu (gu (gu gA 0 res.2.2.1) 1 res.2.2.2.1) 2 res.2.2.2.2.1) 3 res.2.2.2.2.2.1) 5 res.2.2.2.2.2.2) tb0 tA0 bf0 hi0) := by
  refine g_met_i (by decide +kernel) (Nat.le_of_ble_eq_true rfl) (fun Γ K hn hE hRm _ hret => ?_)
  subst hE
  have hlt : ∀ i, i < 3 → i < g_n Γ := fun i q => by rw [hn]; exact q
  refine g_ws (ws' := cw (g_E Γ) q r (gpl F) o0 A0 C0 h0 o1 A1 C1 h1 o2 A2 C2 h2 gs0 (gu (gu (gu (gu (gu gA 0 (gA 0)) 1 (gA 1)) 2 (gA 2)) 3 (gA 3)) 5 (gA 5)) tb0 tA0 bf0 hi0) rfl ?_
  refine g_sub (L' := [(0, .ref (q 3)), (1, .ref (q 0)), (2, .ref x2)]) [0, 1, 2] rfl ?_
  exact wX1_gradeTeam_w0 (C0 := C0) (h0 := h0) (C1 := C1) (h1 := h1) (C2 := C2) (h2 := h2) (gs0 := gs0) (tb0 := tb0) (tA0 := tA0) (bf0 := bf0) (hi0 := hi0) hF K hlt hRm hret gs0 (gA 0) (gA 1) (gA 2) (gA 3) (gA 5) x2 h

set_option maxHeartbeats 4000000 in
set_option maxRecDepth 100000 in
theorem wX1_gradeHad_w0 {Γ : gT} {q : Nat → Nat} {r : Nat → Nat → Nat} {F : gF} (hF : gFz (g_E Γ) F) {o0 : Nat → Int32} {A0 : Nat → Nat → Int32} {C0 : Nat → Option Nat} {h0 : Nat} {o1 : Nat → Int32} {A1 : Nat → Nat → Int32} {C1 : Nat → Option Nat} {h1 : Nat} {o2 : Nat → Int32} {A2 : Nat → Nat → Int32} {C2 : Nat → Option Nat} {h2 : Nat} {gs0 : Int32} {gA : Nat → Nat → Int32} {tb0 : Int32} {tA0 bf0 : Nat → Int32} {hi0 : Int32} (K : gOK Γ cX1_gradeHad gU RX1) (hlt : ∀ i, i < 4 → i < g_n Γ) (hRm : g_R Γ = ({ frames := 9, cells := 0, slots := 0, locals := 260 } : Room)) {res : Int32 × Int32 × ((Nat → Int32)) × ((Nat → Int32)) × ((Nat → Int32)) × ((Nat → Int32)) × ((Nat → Int32))} (hret : ∀ (pc : Nat) (L : List (Nat × Value)) (v : Int32) (w : va_W), decode cX1_gradeHad pc = .ok (.ireturn, 1) → narrow .int (.int v) = .int v → (v = res.1 ∧ w = cw (g_E Γ) q r (gpl F) o0 A0 C0 h0 o1 A1 C1 h1 o2 A2 C2 h2 res.2.1 (gu (gu (gu (gu (gu gA 0 res.2.2.1) 1 res.2.2.2.1) 2 res.2.2.2.2.1) 3 res.2.2.2.2.2.1) 5 res.2.2.2.2.2.2) tb0 tA0 bf0 hi0) → gGO Γ 0 0 pc L [.int v] w) (gs : Int32) (ga0 : (Nat → Int32)) (ga1 : (Nat → Int32)) (ga2 : (Nat → Int32)) (ga3 : (Nat → Int32)) (ga5 : (Nat → Int32)) (x2 : Int32) (h : pX1_gradeHad_w0 F (o0 0) (o0 1) (o0 5) (A0 8) (A0 9) (A0 10) (A0 11) h0 C0 gs ga0 ga1 ga2 ga3 ga5 x2 = some res) : gGO Γ 0 0 0 [(0, .ref (q 3)), (1, .ref (q 0)), (2, .int x2)] [] (cw (g_E Γ) q r (gpl F) o0 A0 C0 h0 o1 A1 C1 h1 o2 A2 C2 h2 gs (gu (gu (gu (gu (gu gA 0 ga0) 1 ga1) 2 ga2) 3 ga3) 5 ga5) tb0 tA0 bf0 hi0) := by
    unfold pX1_gradeHad_w0 at h
    refine g_aload_n K dX1_gradeHad_0 rfl 1 rfl ?_
    refine g_iload_n K dX1_gradeHad_1 rfl 2 rfl ?_
    obtain ⟨z_1, hz_1, h⟩ := gi_bd h
    refine g_callVi (As := [.int x2]) (bytes := cX10_hasWorker) (maxL := 2) (ret := (some .boolean)) K (ctX10_hasWorker_w0 hF o0 A0 C0 h0 o1 A1 C1 h1 o2 A2 C2 h2 gs (gu (gu (gu (gu (gu gA 0 ga0) 1 ga1) 2 ga2) 3 ga3) 5 ga5) tb0 tA0 bf0 hi0 x2 (res := z_1) hz_1) gc_V_RX1_36_X10_hasWorker rfl qv_X10_hasWorker 1 rfl rfl rfl hRm rfl rfl rfl (by decide) (Nat.le_of_ble_eq_true rfl) (by decide) dX1_gradeHad_2 (fun v w hw => ?_)
    obtain ⟨hv9, rfl⟩ := hw; have hv9 := hv9.symm; subst hv9
    obtain ⟨ht9, hf9⟩ := gi_br h; clear h
    refine g_if_ne (tgt := 10) K dX1_gradeHad_5 (by decide) (fun qh => ?_) (fun qh => ?_)
    · have h := hf9 qh; clear ht9 hf9
      refine g_aload_n K dX1_gradeHad_10 rfl 1 rfl ?_
      refine g_aload_n K dX1_gradeHad_11 rfl 1 rfl ?_
      refine g_get (v := .ref (r 0 10)) (T := TX10) (ref := "ChiefGrades$World") K hin_X10 1 rfl rfl 10 (by decide) u_184 (Or.inl rfl) rfl dX1_gradeHad_12 ?_
      refine g_iload_n K dX1_gradeHad_15 rfl 2 rfl ?_
      obtain ⟨b_2, h⟩ := gi_none h
      refine g_iald (f := (A0 10)) K 8 rfl (ginb_in b_2) dX1_gradeHad_16 ?_
      obtain ⟨z_3, hz_3, h⟩ := gi_bd h
      refine g_callVq (As := [.int ((A0 10) (Int32.toNatClampNeg x2))]) (bytes := cX10_chiefAt) (maxL := 2) (ret := (some (.object "ChiefGrades$Chief"))) K (ctX10_chiefAt_w0 hF o0 A0 C0 h0 o1 A1 C1 h1 o2 A2 C2 h2 gs (gu (gu (gu (gu (gu gA 0 ga0) 1 ga1) 2 ga2) 3 ga3) 5 ga5) tb0 tA0 bf0 hi0 ((A0 10) (Int32.toNatClampNeg x2)) (res := z_3) hz_3) gc_V_RX1_90_X10_chiefAt rfl qv_X10_chiefAt 1 rfl rfl rfl hRm rfl rfl rfl (by decide) (Nat.le_of_ble_eq_true rfl) (by decide) dX1_gradeHad_17 (fun v w hw => ?_)
      obtain ⟨hv9, rfl⟩ := hw; have hv9 := hv9.symm; subst hv9
      rcases gi_mt h with ⟨ez, h⟩ | ⟨b_z3, ez, h⟩
      · rw [ez]
        refine g_astore_nN (L' := [(3, .null), (0, .ref (q 3)), (1, .ref (q 0)), (2, .int x2)]) K dX1_gradeHad_20 rfl (hlt _ (by decide)) rfl ?_
        refine g_aload_nN K dX1_gradeHad_21 rfl 0 rfl ?_
        refine g_ifnonnullN K dX1_gradeHad_22 ?_
        refine g_iconst (v := 0) K dX1_gradeHad_25 (by decide) ?_
        obtain rfl := Option.some.inj h
        exact hret _ _ _ _ dX1_gradeHad_26 rfl ⟨rfl, rfl⟩
      · rw [ez]
        refine g_astore_n (L' := [(3, .ref b_z3), (0, .ref (q 3)), (1, .ref (q 0)), (2, .int x2)]) K dX1_gradeHad_20 rfl (hlt _ (by decide)) rfl ?_
        refine g_aload_n K dX1_gradeHad_21 rfl 0 rfl ?_
        refine g_ifnonnull (tgt := 27) K dX1_gradeHad_22 (by decide) ?_
        refine g_aload_n K dX1_gradeHad_27 rfl 1 rfl ?_
        refine g_aload_n K dX1_gradeHad_28 rfl 2 rfl ?_
        refine g_aload_n K dX1_gradeHad_29 rfl 0 rfl ?_
        obtain ⟨z_4, hz_4, h⟩ := gi_bd h
        refine g_callVi (As := [.ref (q 0), .ref b_z3]) (bytes := cX1_gradeTeam) (maxL := 3) (ret := (some .int)) K (ctX1_gradeTeam_w0 hF o0 A0 C0 h0 o1 A1 C1 h1 o2 A2 C2 h2 gs (gu (gu (gu (gu (gu gA 0 ga0) 1 ga1) 2 ga2) 3 ga3) 5 ga5) tb0 tA0 bf0 hi0 b_z3 (res := z_4) hz_4) gc_V_RX1_94_X1_gradeTeam rfl qv_X1_gradeTeam 4 rfl rfl rfl hRm rfl rfl rfl (by decide) (Nat.le_of_ble_eq_true rfl) (by decide) dX1_gradeHad_30 (fun v w hw => ?_)
        obtain ⟨hv9, rfl⟩ := hw; have hv9 := hv9.symm; subst hv9
        refine g_ws (ws' := cw (g_E Γ) q r (gpl F) o0 A0 C0 h0 o1 A1 C1 h1 o2 A2 C2 h2 z_4.2.1 (gu (gu (gu (gu (gu gA 0 z_4.2.2.1) 1 z_4.2.2.2.1) 2 z_4.2.2.2.2.1) 3 z_4.2.2.2.2.2.1) 5 z_4.2.2.2.2.2.2) tb0 tA0 bf0 hi0) rfl ?_
        refine g_pop K dX1_gradeHad_33 rfl ?_
        refine g_aload_n K dX1_gradeHad_34 rfl 1 rfl ?_
        refine g_get (v := .ref (r 3 0)) (T := TX1) (ref := "ChiefGrades$Grader") K hin_X1 4 rfl rfl 0 (by decide) u_286 (Or.inl rfl) rfl dX1_gradeHad_35 ?_
        refine g_iload_n K dX1_gradeHad_38 rfl 3 rfl ?_
        obtain ⟨b_5, h⟩ := gi_none h
        refine g_iald (f := z_4.2.2.1) K 36 rfl (ginb_in b_5) dX1_gradeHad_39 ?_
        obtain rfl := Option.some.inj h
        exact hret _ _ _ _ dX1_gradeHad_40 rfl ⟨rfl, rfl⟩
    · have h := ht9 qh; clear ht9 hf9
      refine g_iconst (v := 0) K dX1_gradeHad_8 (by decide) ?_
      obtain rfl := Option.some.inj h
      exact hret _ _ _ _ dX1_gradeHad_9 rfl ⟨rfl, rfl⟩

set_option maxRecDepth 100000 in
theorem ctX1_gradeHad_w0 {E : gE} {q : Nat → Nat} {r : Nat → Nat → Nat} {F : gF} (hF : gFz E F) (o0 : Nat → Int32) (A0 : Nat → Nat → Int32) (C0 : Nat → Option Nat) (h0 : Nat) (o1 : Nat → Int32) (A1 : Nat → Nat → Int32) (C1 : Nat → Option Nat) (h1 : Nat) (o2 : Nat → Int32) (A2 : Nat → Nat → Int32) (C2 : Nat → Option Nat) (h2 : Nat) (gs0 : Int32) (gA : Nat → Nat → Int32) (tb0 : Int32) (tA0 bf0 : Nat → Int32) (hi0 : Int32) (x2 : Int32) {res : Int32 × Int32 × ((Nat → Int32)) × ((Nat → Int32)) × ((Nat → Int32)) × ((Nat → Int32)) × ((Nat → Int32))} (h : pX1_gradeHad_w0 F (o0 0) (o0 1) (o0 5) (A0 8) (A0 9) (A0 10) (A0 11) h0 C0 gs0 (gA 0) (gA 1) (gA 2) (gA 3) (gA 5) x2 = some res) : gMi yX1_gradeHad (.code yX1_gradeHad cX1_gradeHad 4 (some .int) :: gU) ({ frames := 9, cells := 0, slots := 0, locals := 260 } : Room) 0 0 E [.ref (q 3), .ref (q 0), .int x2] (cw E q r (gpl F) o0 A0 C0 h0 o1 A1 C1 h1 o2 A2 C2 h2 gs0 gA tb0 tA0 bf0 hi0) (fun v w => v = res.1 ∧ w = cw E q r (gpl F) o0 A0 C0 h0 o1 A1 C1 h1 o2 A2 C2 h2 res.2.1 (gu (gu (gu (gu (gu gA 0 res.2.2.1) 1 res.2.2.2.1) 2 res.2.2.2.2.1) 3 res.2.2.2.2.2.1) 5 res.2.2.2.2.2.2) tb0 tA0 bf0 hi0) := by
  refine g_met_i (by decide +kernel) (Nat.le_of_ble_eq_true rfl) (fun Γ K hn hE hRm _ hret => ?_)
  subst hE
  have hlt : ∀ i, i < 4 → i < g_n Γ := fun i q => by rw [hn]; exact q
  refine g_ws (ws' := cw (g_E Γ) q r (gpl F) o0 A0 C0 h0 o1 A1 C1 h1 o2 A2 C2 h2 gs0 (gu (gu (gu (gu (gu gA 0 (gA 0)) 1 (gA 1)) 2 (gA 2)) 3 (gA 3)) 5 (gA 5)) tb0 tA0 bf0 hi0) rfl ?_
  refine g_sub (L' := [(0, .ref (q 3)), (1, .ref (q 0)), (2, .int x2)]) [0, 1, 2] rfl ?_
  exact wX1_gradeHad_w0 (C0 := C0) (h0 := h0) (C1 := C1) (h1 := h1) (C2 := C2) (h2 := h2) (gs0 := gs0) (tb0 := tb0) (tA0 := tA0) (bf0 := bf0) (hi0 := hi0) hF K hlt hRm hret gs0 (gA 0) (gA 1) (gA 2) (gA 3) (gA 5) x2 h

set_option maxHeartbeats 4000000 in
set_option maxRecDepth 100000 in
theorem wX11_mark {Γ : gT} {q : Nat → Nat} {r : Nat → Nat → Nat} {F : gF} (hF : gFz (g_E Γ) F) {o0 : Nat → Int32} {A0 : Nat → Nat → Int32} {C0 : Nat → Option Nat} {h0 : Nat} {o1 : Nat → Int32} {A1 : Nat → Nat → Int32} {C1 : Nat → Option Nat} {h1 : Nat} {o2 : Nat → Int32} {A2 : Nat → Nat → Int32} {C2 : Nat → Option Nat} {h2 : Nat} {gs0 : Int32} {gA : Nat → Nat → Int32} {tb0 : Int32} {tA0 bf0 : Nat → Int32} {hi0 : Int32} (K : gOK Γ cX11_mark gU RX11) (hlt : ∀ i, i < 4 → i < g_n Γ) (hRm : g_R Γ = ({ frames := 7, cells := 0, slots := 0, locals := 215 } : Room)) {res : Int32 × ((Nat → Int32))} (hret : ∀ (pc : Nat) (L : List (Nat × Value)) (v : Int32) (w : va_W), decode cX11_mark pc = .ok (.ireturn, 1) → narrow .int (.int v) = .int v → (v = res.1 ∧ w = cw (g_E Γ) q r (gpl F) o0 A0 C0 h0 o1 A1 C1 h1 o2 A2 C2 h2 gs0 (gu gA 5 res.2) tb0 tA0 bf0 hi0) → gGO Γ 0 0 pc L [.int v] w) (ga5 : (Nat → Int32)) (x1 : Int32) (x2 : Int32) (h : pX11_mark F (o0 0) (o0 1) (o0 5) (A0 8) (A0 9) (A0 10) (A0 11) h0 C0 ga5 x1 x2 = some res) : gGO Γ 0 0 0 [(0, .ref (q 5)), (1, .int x1), (2, .int x2)] [] (cw (g_E Γ) q r (gpl F) o0 A0 C0 h0 o1 A1 C1 h1 o2 A2 C2 h2 gs0 (gu gA 5 ga5) tb0 tA0 bf0 hi0) := by
    unfold pX11_mark at h
    refine g_aload_n K dX11_mark_0 rfl 0 rfl ?_
    refine g_get (v := .ref (q 0)) (T := TX11) (ref := "ChiefGrades") K hin_X11 0 rfl rfl 0 (by decide) u_324 (Or.inl rfl) rfl dX11_mark_1 ?_
    refine g_iload_n K dX11_mark_4 rfl 2 rfl ?_
    obtain ⟨z_1, hz_1, h⟩ := gi_bd h
    refine g_callVq (As := [.int x2]) (bytes := cX10_chiefAt) (maxL := 2) (ret := (some (.object "ChiefGrades$Chief"))) K (ctX10_chiefAt_w0 hF o0 A0 C0 h0 o1 A1 C1 h1 o2 A2 C2 h2 gs0 (gu gA 5 ga5) tb0 tA0 bf0 hi0 x2 (res := z_1) hz_1) gc_V_RX11_101_X10_chiefAt rfl qv_X10_chiefAt 1 rfl rfl rfl hRm rfl rfl rfl (by decide) (Nat.le_of_ble_eq_true rfl) (by decide) dX11_mark_5 (fun v w hw => ?_)
    obtain ⟨hv9, rfl⟩ := hw; have hv9 := hv9.symm; subst hv9
    rcases gi_mt h with ⟨ez, h⟩ | ⟨b_z1, ez, h⟩
    · rw [ez]
      refine g_astore_nN (L' := [(3, .null), (0, .ref (q 5)), (1, .int x1), (2, .int x2)]) K dX11_mark_8 rfl (hlt _ (by decide)) rfl ?_
      refine g_aload_n K dX11_mark_9 rfl 1 rfl ?_
      refine g_get (v := .ref (q 0)) (T := TX11) (ref := "ChiefGrades") K hin_X11 0 rfl rfl 0 (by decide) u_324 (Or.inl rfl) rfl dX11_mark_10 ?_
      refine g_iload_n K dX11_mark_13 rfl 2 rfl ?_
      obtain ⟨z_2, hz_2, h⟩ := gi_bd h
      refine g_callVi (As := [.int x1]) (bytes := cX10_hasWorker) (maxL := 2) (ret := (some .boolean)) K (ctX10_hasWorker_w0 hF o0 A0 C0 h0 o1 A1 C1 h1 o2 A2 C2 h2 gs0 (gu gA 5 ga5) tb0 tA0 bf0 hi0 x1 (res := z_2) hz_2) gc_V_RX11_122_X10_hasWorker rfl qv_X10_hasWorker 1 rfl rfl rfl hRm rfl rfl rfl (by decide) (Nat.le_of_ble_eq_true rfl) (by decide) dX11_mark_14 (fun v w hw => ?_)
      obtain ⟨hv9, rfl⟩ := hw; have hv9 := hv9.symm; subst hv9
      obtain ⟨ht9, hf9⟩ := gi_br h; clear h
      refine g_if_eq (tgt := 24) K dX11_mark_17 (by decide) (fun qh => ?_) (fun qh => ?_)
      · have h := ht9 qh; clear ht9 hf9
        refine g_sipush (v := (-1001)) K dX11_mark_24 (by decide) ?_
        obtain rfl := Option.some.inj h
        exact hret _ _ _ _ dX11_mark_27 rfl ⟨rfl, rfl⟩
      · have h := hf9 qh; clear ht9 hf9
        refine g_aload_nN K dX11_mark_20 rfl 0 rfl ?_
        refine g_ifnonnullN K dX11_mark_21 ?_
        refine g_sipush (v := (-1001)) K dX11_mark_24 (by decide) ?_
        obtain rfl := Option.some.inj h
        exact hret _ _ _ _ dX11_mark_27 rfl ⟨rfl, rfl⟩
    · rw [ez]
      refine g_astore_n (L' := [(3, .ref b_z1), (0, .ref (q 5)), (1, .int x1), (2, .int x2)]) K dX11_mark_8 rfl (hlt _ (by decide)) rfl ?_
      refine g_aload_n K dX11_mark_9 rfl 1 rfl ?_
      refine g_get (v := .ref (q 0)) (T := TX11) (ref := "ChiefGrades") K hin_X11 0 rfl rfl 0 (by decide) u_324 (Or.inl rfl) rfl dX11_mark_10 ?_
      refine g_iload_n K dX11_mark_13 rfl 2 rfl ?_
      obtain ⟨z_3, hz_3, h⟩ := gi_bd h
      refine g_callVi (As := [.int x1]) (bytes := cX10_hasWorker) (maxL := 2) (ret := (some .boolean)) K (ctX10_hasWorker_w0 hF o0 A0 C0 h0 o1 A1 C1 h1 o2 A2 C2 h2 gs0 (gu gA 5 ga5) tb0 tA0 bf0 hi0 x1 (res := z_3) hz_3) gc_V_RX11_122_X10_hasWorker rfl qv_X10_hasWorker 1 rfl rfl rfl hRm rfl rfl rfl (by decide) (Nat.le_of_ble_eq_true rfl) (by decide) dX11_mark_14 (fun v w hw => ?_)
      obtain ⟨hv9, rfl⟩ := hw; have hv9 := hv9.symm; subst hv9
      obtain ⟨ht9, hf9⟩ := gi_br h; clear h
      refine g_if_eq (tgt := 24) K dX11_mark_17 (by decide) (fun qh => ?_) (fun qh => ?_)
      · have h := ht9 qh; clear ht9 hf9
        refine g_sipush (v := (-1001)) K dX11_mark_24 (by decide) ?_
        obtain rfl := Option.some.inj h
        exact hret _ _ _ _ dX11_mark_27 rfl ⟨rfl, rfl⟩
      · have h := hf9 qh; clear ht9 hf9
        refine g_aload_n K dX11_mark_20 rfl 0 rfl ?_
        refine g_ifnonnull (tgt := 28) K dX11_mark_21 (by decide) ?_
        refine g_aload_n K dX11_mark_28 rfl 1 rfl ?_
        refine g_get (v := .ref (q 3)) (T := TX11) (ref := "ChiefGrades") K hin_X11 0 rfl rfl 3 (by decide) u_327 (Or.inl rfl) rfl dX11_mark_29 ?_
        refine g_aload_n K dX11_mark_32 rfl 1 rfl ?_
        refine g_get (v := .ref (q 0)) (T := TX11) (ref := "ChiefGrades") K hin_X11 0 rfl rfl 0 (by decide) u_324 (Or.inl rfl) rfl dX11_mark_33 ?_
        refine g_iload_n K dX11_mark_36 rfl 2 rfl ?_
        refine g_aload_n K dX11_mark_37 rfl 0 rfl ?_
        obtain ⟨z_4, hz_4, h⟩ := gi_bd h
        refine g_callVi (As := [.ref (q 0), .int x1, .ref b_z1]) (bytes := cX1_markBy) (maxL := 4) (ret := (some .int)) K (ctX1_markBy_w0 hF o0 A0 C0 h0 o1 A1 C1 h1 o2 A2 C2 h2 gs0 (gu gA 5 ga5) tb0 tA0 bf0 hi0 x1 b_z1 (res := z_4) hz_4) gc_V_RX11_161_X1_markBy rfl qv_X1_markBy 4 rfl rfl rfl hRm rfl rfl rfl (by decide) (Nat.le_of_ble_eq_true rfl) (by decide) dX11_mark_38 (fun v w hw => ?_)
        obtain ⟨hv9, rfl⟩ := hw; have hv9 := hv9.symm; subst hv9
        refine g_ws (ws' := cw (g_E Γ) q r (gpl F) o0 A0 C0 h0 o1 A1 C1 h1 o2 A2 C2 h2 gs0 (gu gA 5 z_4.2) tb0 tA0 bf0 hi0) rfl ?_
        obtain rfl := Option.some.inj h
        exact hret _ _ _ _ dX11_mark_41 rfl ⟨rfl, rfl⟩

set_option maxRecDepth 100000 in
theorem ctX11_mark {E : gE} {q : Nat → Nat} {r : Nat → Nat → Nat} {F : gF} (hF : gFz E F) (o0 : Nat → Int32) (A0 : Nat → Nat → Int32) (C0 : Nat → Option Nat) (h0 : Nat) (o1 : Nat → Int32) (A1 : Nat → Nat → Int32) (C1 : Nat → Option Nat) (h1 : Nat) (o2 : Nat → Int32) (A2 : Nat → Nat → Int32) (C2 : Nat → Option Nat) (h2 : Nat) (gs0 : Int32) (gA : Nat → Nat → Int32) (tb0 : Int32) (tA0 bf0 : Nat → Int32) (hi0 : Int32) (x1 : Int32) (x2 : Int32) {res : Int32 × ((Nat → Int32))} (h : pX11_mark F (o0 0) (o0 1) (o0 5) (A0 8) (A0 9) (A0 10) (A0 11) h0 C0 (gA 5) x1 x2 = some res) : gMi yX11_mark (.code yX11_mark cX11_mark 4 (some .int) :: gU) ({ frames := 7, cells := 0, slots := 0, locals := 215 } : Room) 0 0 E [.ref (q 5), .int x1, .int x2] (cw E q r (gpl F) o0 A0 C0 h0 o1 A1 C1 h1 o2 A2 C2 h2 gs0 gA tb0 tA0 bf0 hi0) (fun v w => v = res.1 ∧ w = cw E q r (gpl F) o0 A0 C0 h0 o1 A1 C1 h1 o2 A2 C2 h2 gs0 (gu gA 5 res.2) tb0 tA0 bf0 hi0) := by
  refine g_met_i (by decide +kernel) (Nat.le_of_ble_eq_true rfl) (fun Γ K hn hE hRm _ hret => ?_)
  subst hE
  have hlt : ∀ i, i < 4 → i < g_n Γ := fun i q => by rw [hn]; exact q
  refine g_ws (ws' := cw (g_E Γ) q r (gpl F) o0 A0 C0 h0 o1 A1 C1 h1 o2 A2 C2 h2 gs0 (gu gA 5 (gA 5)) tb0 tA0 bf0 hi0) rfl ?_
  refine g_sub (L' := [(0, .ref (q 5)), (1, .int x1), (2, .int x2)]) [0, 1, 2] rfl ?_
  exact wX11_mark (C0 := C0) (h0 := h0) (C1 := C1) (h1 := h1) (C2 := C2) (h2 := h2) (gs0 := gs0) (tb0 := tb0) (tA0 := tA0) (bf0 := bf0) (hi0 := hi0) hF K hlt hRm hret (gA 5) x1 x2 h

set_option maxHeartbeats 4000000 in
set_option maxRecDepth 100000 in
theorem wX11_of {Γ : gT} {q : Nat → Nat} {r : Nat → Nat → Nat} {F : gF} (hF : gFz (g_E Γ) F) {o0 : Nat → Int32} {A0 : Nat → Nat → Int32} {C0 : Nat → Option Nat} {h0 : Nat} {o1 : Nat → Int32} {A1 : Nat → Nat → Int32} {C1 : Nat → Option Nat} {h1 : Nat} {o2 : Nat → Int32} {A2 : Nat → Nat → Int32} {C2 : Nat → Option Nat} {h2 : Nat} {gs0 : Int32} {gA : Nat → Nat → Int32} {tb0 : Int32} {tA0 bf0 : Nat → Int32} {hi0 : Int32} (K : gOK Γ cX11_of gU RX11) (hlt : ∀ i, i < 3 → i < g_n Γ) (hRm : g_R Γ = ({ frames := 10, cells := 0, slots := 0, locals := 283 } : Room)) {res : Int32 × Int32 × ((Nat → Int32)) × ((Nat → Int32)) × ((Nat → Int32)) × ((Nat → Int32)) × ((Nat → Int32))} (hret : ∀ (pc : Nat) (L : List (Nat × Value)) (v : Int32) (w : va_W), decode cX11_of pc = .ok (.ireturn, 1) → narrow .int (.int v) = .int v → (v = res.1 ∧ w = cw (g_E Γ) q r (gpl F) o0 A0 C0 h0 o1 A1 C1 h1 o2 A2 C2 h2 res.2.1 (gu (gu (gu (gu (gu gA 0 res.2.2.1) 1 res.2.2.2.1) 2 res.2.2.2.2.1) 3 res.2.2.2.2.2.1) 5 res.2.2.2.2.2.2) tb0 tA0 bf0 hi0) → gGO Γ 0 0 pc L [.int v] w) (gs : Int32) (ga0 : (Nat → Int32)) (ga1 : (Nat → Int32)) (ga2 : (Nat → Int32)) (ga3 : (Nat → Int32)) (ga5 : (Nat → Int32)) (x1 : Int32) (x2 : Int32) (h : pX11_of F (o0 0) (o0 1) (o0 5) (A0 8) (A0 9) (A0 10) (A0 11) (A0 12) h0 C0 gs ga0 ga1 ga2 ga3 ga5 x1 x2 = some res) : gGO Γ 0 0 0 [(0, .ref (q 5)), (1, .int x1), (2, .int x2)] [] (cw (g_E Γ) q r (gpl F) o0 A0 C0 h0 o1 A1 C1 h1 o2 A2 C2 h2 gs (gu (gu (gu (gu (gu gA 0 ga0) 1 ga1) 2 ga2) 3 ga3) 5 ga5) tb0 tA0 bf0 hi0) := by
    unfold pX11_of at h
    refine g_aload_n K dX11_of_0 rfl 0 rfl ?_
    refine g_get (v := .ref (q 0)) (T := TX11) (ref := "ChiefGrades") K hin_X11 0 rfl rfl 0 (by decide) u_324 (Or.inl rfl) rfl dX11_of_1 ?_
    refine g_iload_n K dX11_of_4 rfl 1 rfl ?_
    obtain ⟨z_1, hz_1, h⟩ := gi_bd h
    refine g_callVi (As := [.int x1]) (bytes := cX10_hasWorker) (maxL := 2) (ret := (some .boolean)) K (ctX10_hasWorker_w0 hF o0 A0 C0 h0 o1 A1 C1 h1 o2 A2 C2 h2 gs (gu (gu (gu (gu (gu gA 0 ga0) 1 ga1) 2 ga2) 3 ga3) 5 ga5) tb0 tA0 bf0 hi0 x1 (res := z_1) hz_1) gc_V_RX11_122_X10_hasWorker rfl qv_X10_hasWorker 1 rfl rfl rfl hRm rfl rfl rfl (by decide) (Nat.le_of_ble_eq_true rfl) (by decide) dX11_of_5 (fun v w hw => ?_)
    obtain ⟨hv9, rfl⟩ := hw; have hv9 := hv9.symm; subst hv9
    obtain ⟨ht9, hf9⟩ := gi_br h; clear h
    refine g_if_ne (tgt := 15) K dX11_of_8 (by decide) (fun qh => ?_) (fun qh => ?_)
    · have h := hf9 qh; clear ht9 hf9
      refine g_iload_n K dX11_of_15 rfl 2 rfl ?_
      obtain ⟨ht9, hf9⟩ := gi_br h; clear h
      by_cases q0 : x2 = 0
      · have h := ht9 q0; clear ht9 hf9
        refine g_tabIn (tgt := 68) K dX11_of_16 (by rw [q0]; decide) (by rw [q0]; decide) (by rw [q0]; rfl) (by decide) ?_
        refine g_aload_n K dX11_of_68 rfl 0 rfl ?_
        refine g_get (v := .ref (q 0)) (T := TX11) (ref := "ChiefGrades") K hin_X11 0 rfl rfl 0 (by decide) u_324 (Or.inl rfl) rfl dX11_of_69 ?_
        refine g_get (v := .ref (r 0 8)) (T := TX10) (ref := "ChiefGrades$World") K hin_X10 1 rfl rfl 8 (by decide) u_179 (Or.inl rfl) rfl dX11_of_72 ?_
        refine g_iload_n K dX11_of_75 rfl 1 rfl ?_
        obtain ⟨b_2, h⟩ := gi_none h
        refine g_iald (f := (A0 8)) K 6 rfl (ginb_in b_2) dX11_of_76 ?_
        obtain rfl := Option.some.inj h
        exact hret _ _ _ _ dX11_of_77 rfl ⟨rfl, rfl⟩
      have h := hf9 q0; clear ht9 hf9
      obtain ⟨ht9, hf9⟩ := gi_br h; clear h
      by_cases q1 : x2 = 1
      · have h := ht9 q1; clear ht9 hf9
        refine g_tabIn (tgt := 78) K dX11_of_16 (by rw [q1]; decide) (by rw [q1]; decide) (by rw [q1]; rfl) (by decide) ?_
        refine g_aload_n K dX11_of_78 rfl 0 rfl ?_
        refine g_get (v := .ref (q 0)) (T := TX11) (ref := "ChiefGrades") K hin_X11 0 rfl rfl 0 (by decide) u_324 (Or.inl rfl) rfl dX11_of_79 ?_
        refine g_get (v := .ref (r 0 9)) (T := TX10) (ref := "ChiefGrades$World") K hin_X10 1 rfl rfl 9 (by decide) u_182 (Or.inl rfl) rfl dX11_of_82 ?_
        refine g_iload_n K dX11_of_85 rfl 1 rfl ?_
        obtain ⟨b_3, h⟩ := gi_none h
        refine g_iald (f := (A0 9)) K 7 rfl (ginb_in b_3) dX11_of_86 ?_
        obtain rfl := Option.some.inj h
        exact hret _ _ _ _ dX11_of_87 rfl ⟨rfl, rfl⟩
      have h := hf9 q1; clear ht9 hf9
      obtain ⟨ht9, hf9⟩ := gi_br h; clear h
      by_cases q2 : x2 = 2
      · have h := ht9 q2; clear ht9 hf9
        refine g_tabIn (tgt := 88) K dX11_of_16 (by rw [q2]; decide) (by rw [q2]; decide) (by rw [q2]; rfl) (by decide) ?_
        refine g_aload_n K dX11_of_88 rfl 0 rfl ?_
        refine g_get (v := .ref (q 0)) (T := TX11) (ref := "ChiefGrades") K hin_X11 0 rfl rfl 0 (by decide) u_324 (Or.inl rfl) rfl dX11_of_89 ?_
        refine g_get (v := .ref (r 0 10)) (T := TX10) (ref := "ChiefGrades$World") K hin_X10 1 rfl rfl 10 (by decide) u_185 (Or.inl rfl) rfl dX11_of_92 ?_
        refine g_iload_n K dX11_of_95 rfl 1 rfl ?_
        obtain ⟨b_4, h⟩ := gi_none h
        refine g_iald (f := (A0 10)) K 8 rfl (ginb_in b_4) dX11_of_96 ?_
        obtain rfl := Option.some.inj h
        exact hret _ _ _ _ dX11_of_97 rfl ⟨rfl, rfl⟩
      have h := hf9 q2; clear ht9 hf9
      obtain ⟨ht9, hf9⟩ := gi_br h; clear h
      by_cases q3 : x2 = 3
      · have h := ht9 q3; clear ht9 hf9
        refine g_tabIn (tgt := 98) K dX11_of_16 (by rw [q3]; decide) (by rw [q3]; decide) (by rw [q3]; rfl) (by decide) ?_
        refine g_aload_n K dX11_of_98 rfl 0 rfl ?_
        refine g_get (v := .ref (q 0)) (T := TX11) (ref := "ChiefGrades") K hin_X11 0 rfl rfl 0 (by decide) u_324 (Or.inl rfl) rfl dX11_of_99 ?_
        refine g_get (v := .ref (r 0 11)) (T := TX10) (ref := "ChiefGrades$World") K hin_X10 1 rfl rfl 11 (by decide) u_188 (Or.inl rfl) rfl dX11_of_102 ?_
        refine g_iload_n K dX11_of_105 rfl 1 rfl ?_
        obtain ⟨b_5, h⟩ := gi_none h
        refine g_iald (f := (A0 11)) K 9 rfl (ginb_in b_5) dX11_of_106 ?_
        obtain rfl := Option.some.inj h
        exact hret _ _ _ _ dX11_of_107 rfl ⟨rfl, rfl⟩
      have h := hf9 q3; clear ht9 hf9
      obtain ⟨ht9, hf9⟩ := gi_br h; clear h
      by_cases q4 : x2 = 4
      · have h := ht9 q4; clear ht9 hf9
        refine g_tabIn (tgt := 108) K dX11_of_16 (by rw [q4]; decide) (by rw [q4]; decide) (by rw [q4]; rfl) (by decide) ?_
        refine g_aload_n K dX11_of_108 rfl 0 rfl ?_
        refine g_get (v := .ref (q 0)) (T := TX11) (ref := "ChiefGrades") K hin_X11 0 rfl rfl 0 (by decide) u_324 (Or.inl rfl) rfl dX11_of_109 ?_
        refine g_get (v := .ref (r 0 12)) (T := TX10) (ref := "ChiefGrades$World") K hin_X10 1 rfl rfl 12 (by decide) u_190 (Or.inl rfl) rfl dX11_of_112 ?_
        refine g_iload_n K dX11_of_115 rfl 1 rfl ?_
        obtain ⟨b_6, h⟩ := gi_none h
        refine g_iald (f := (A0 12)) K 10 rfl (ginb_in b_6) dX11_of_116 ?_
        obtain rfl := Option.some.inj h
        exact hret _ _ _ _ dX11_of_117 rfl ⟨rfl, rfl⟩
      have h := hf9 q4; clear ht9 hf9
      obtain ⟨ht9, hf9⟩ := gi_br h; clear h
      by_cases q5 : x2 = 5
      · have h := ht9 q5; clear ht9 hf9
        refine g_tabIn (tgt := 118) K dX11_of_16 (by rw [q5]; decide) (by rw [q5]; decide) (by rw [q5]; rfl) (by decide) ?_
        refine g_aload_n K dX11_of_118 rfl 0 rfl ?_
        refine g_iload_n K dX11_of_119 rfl 1 rfl ?_
        refine g_aload_n K dX11_of_120 rfl 0 rfl ?_
        refine g_get (v := .ref (q 0)) (T := TX11) (ref := "ChiefGrades") K hin_X11 0 rfl rfl 0 (by decide) u_324 (Or.inl rfl) rfl dX11_of_121 ?_
        refine g_get (v := .ref (r 0 10)) (T := TX10) (ref := "ChiefGrades$World") K hin_X10 1 rfl rfl 10 (by decide) u_185 (Or.inl rfl) rfl dX11_of_124 ?_
        refine g_iload_n K dX11_of_127 rfl 1 rfl ?_
        obtain ⟨b_7, h⟩ := gi_none h
        refine g_iald (f := (A0 10)) K 8 rfl (ginb_in b_7) dX11_of_128 ?_
        obtain ⟨z_8, hz_8, h⟩ := gi_bd h
        refine g_callVi (As := [.int x1, .int ((A0 10) (Int32.toNatClampNeg x1))]) (bytes := cX11_mark) (maxL := 4) (ret := (some .int)) K (ctX11_mark hF o0 A0 C0 h0 o1 A1 C1 h1 o2 A2 C2 h2 gs (gu (gu (gu (gu (gu gA 0 ga0) 1 ga1) 2 ga2) 3 ga3) 5 ga5) tb0 tA0 bf0 hi0 x1 ((A0 10) (Int32.toNatClampNeg x1)) (res := z_8) hz_8) gc_V_RX11_126_X11_mark rfl qv_X11_mark 0 rfl rfl rfl hRm rfl rfl rfl (by decide) (Nat.le_of_ble_eq_true rfl) (by decide) dX11_of_129 (fun v w hw => ?_)
        obtain ⟨hv9, rfl⟩ := hw; have hv9 := hv9.symm; subst hv9
        refine g_ws (ws' := cw (g_E Γ) q r (gpl F) o0 A0 C0 h0 o1 A1 C1 h1 o2 A2 C2 h2 gs (gu (gu (gu (gu (gu gA 0 ga0) 1 ga1) 2 ga2) 3 ga3) 5 z_8.2) tb0 tA0 bf0 hi0) rfl ?_
        obtain rfl := Option.some.inj h
        exact hret _ _ _ _ dX11_of_132 rfl ⟨rfl, rfl⟩
      have h := hf9 q5; clear ht9 hf9
      obtain ⟨ht9, hf9⟩ := gi_br h; clear h
      by_cases q6 : x2 = 6
      · have h := ht9 q6; clear ht9 hf9
        refine g_tabIn (tgt := 133) K dX11_of_16 (by rw [q6]; decide) (by rw [q6]; decide) (by rw [q6]; rfl) (by decide) ?_
        refine g_aload_n K dX11_of_133 rfl 0 rfl ?_
        refine g_get (v := .ref (q 3)) (T := TX11) (ref := "ChiefGrades") K hin_X11 0 rfl rfl 3 (by decide) u_327 (Or.inl rfl) rfl dX11_of_134 ?_
        refine g_aload_n K dX11_of_137 rfl 0 rfl ?_
        refine g_get (v := .ref (q 0)) (T := TX11) (ref := "ChiefGrades") K hin_X11 0 rfl rfl 0 (by decide) u_324 (Or.inl rfl) rfl dX11_of_138 ?_
        refine g_iload_n K dX11_of_141 rfl 1 rfl ?_
        obtain ⟨z_9, hz_9, h⟩ := gi_bd h
        refine g_callVi (As := [.ref (q 0), .int x1]) (bytes := cX1_gradeHad) (maxL := 4) (ret := (some .int)) K (ctX1_gradeHad_w0 hF o0 A0 C0 h0 o1 A1 C1 h1 o2 A2 C2 h2 gs (gu (gu (gu (gu (gu gA 0 ga0) 1 ga1) 2 ga2) 3 ga3) 5 ga5) tb0 tA0 bf0 hi0 x1 (res := z_9) hz_9) gc_V_RX11_130_X1_gradeHad rfl qv_X1_gradeHad 4 rfl rfl rfl hRm rfl rfl rfl (by decide) (Nat.le_of_ble_eq_true rfl) (by decide) dX11_of_142 (fun v w hw => ?_)
        obtain ⟨hv9, rfl⟩ := hw; have hv9 := hv9.symm; subst hv9
        refine g_ws (ws' := cw (g_E Γ) q r (gpl F) o0 A0 C0 h0 o1 A1 C1 h1 o2 A2 C2 h2 z_9.2.1 (gu (gu (gu (gu (gu gA 0 z_9.2.2.1) 1 z_9.2.2.2.1) 2 z_9.2.2.2.2.1) 3 z_9.2.2.2.2.2.1) 5 z_9.2.2.2.2.2.2) tb0 tA0 bf0 hi0) rfl ?_
        obtain rfl := Option.some.inj h
        exact hret _ _ _ _ dX11_of_145 rfl ⟨rfl, rfl⟩
      have h := hf9 q6; clear ht9 hf9
      obtain ⟨ht9, hf9⟩ := gi_br h; clear h
      by_cases q7 : x2 = 7
      · have h := ht9 q7; clear ht9 hf9
        refine g_tabIn (tgt := 146) K dX11_of_16 (by rw [q7]; decide) (by rw [q7]; decide) (by rw [q7]; rfl) (by decide) ?_
        refine g_aload_n K dX11_of_146 rfl 0 rfl ?_
        refine g_get (v := .ref (q 3)) (T := TX11) (ref := "ChiefGrades") K hin_X11 0 rfl rfl 3 (by decide) u_327 (Or.inl rfl) rfl dX11_of_147 ?_
        refine g_aload_n K dX11_of_150 rfl 0 rfl ?_
        refine g_get (v := .ref (q 0)) (T := TX11) (ref := "ChiefGrades") K hin_X11 0 rfl rfl 0 (by decide) u_324 (Or.inl rfl) rfl dX11_of_151 ?_
        obtain ⟨z_10, hz_10, h⟩ := gi_bd h
        refine g_callVv (As := [.ref (q 0)]) (bytes := cX1_gradeDue) (maxL := 3) (ret := none) K (ctX1_gradeDue_w0 hF o0 A0 C0 h0 o1 A1 C1 h1 o2 A2 C2 h2 gs (gu (gu (gu (gu (gu gA 0 ga0) 1 ga1) 2 ga2) 3 ga3) 5 ga5) tb0 tA0 bf0 hi0 (res := z_10) hz_10) gc_V_RX11_134_X1_gradeDue rfl qv_X1_gradeDue 4 rfl rfl rfl hRm rfl rfl rfl (by decide) (Nat.le_of_ble_eq_true rfl) (by decide) dX11_of_154 (fun w hw => ?_)
        subst hw
        refine g_ws (ws' := cw (g_E Γ) q r (gpl F) o0 A0 C0 h0 o1 A1 C1 h1 o2 A2 C2 h2 z_10.1 (gu (gu (gu (gu (gu gA 0 z_10.2.1) 1 z_10.2.2.1) 2 z_10.2.2.2.1) 3 z_10.2.2.2.2) 5 ga5) tb0 tA0 bf0 hi0) rfl ?_
        refine g_aload_n K dX11_of_157 rfl 0 rfl ?_
        refine g_get (v := .ref (q 3)) (T := TX11) (ref := "ChiefGrades") K hin_X11 0 rfl rfl 3 (by decide) u_327 (Or.inl rfl) rfl dX11_of_158 ?_
        refine g_get (v := .ref (r 3 0)) (T := TX1) (ref := "ChiefGrades$Grader") K hin_X1 4 rfl rfl 0 (by decide) u_287 (Or.inl rfl) rfl dX11_of_161 ?_
        refine g_iload_n K dX11_of_164 rfl 1 rfl ?_
        obtain ⟨b_11, h⟩ := gi_none h
        refine g_iald (f := z_10.2.1) K 36 rfl (ginb_in b_11) dX11_of_165 ?_
        obtain rfl := Option.some.inj h
        exact hret _ _ _ _ dX11_of_166 rfl ⟨rfl, rfl⟩
      have h := hf9 q7; clear ht9 hf9
      obtain ⟨ht9, hf9⟩ := gi_br h; clear h
      by_cases q8 : x2 = 8
      · have h := ht9 q8; clear ht9 hf9
        refine g_tabIn (tgt := 167) K dX11_of_16 (by rw [q8]; decide) (by rw [q8]; decide) (by rw [q8]; rfl) (by decide) ?_
        refine g_aload_n K dX11_of_167 rfl 0 rfl ?_
        refine g_get (v := .ref (q 3)) (T := TX11) (ref := "ChiefGrades") K hin_X11 0 rfl rfl 3 (by decide) u_327 (Or.inl rfl) rfl dX11_of_168 ?_
        refine g_aload_n K dX11_of_171 rfl 0 rfl ?_
        refine g_get (v := .ref (q 0)) (T := TX11) (ref := "ChiefGrades") K hin_X11 0 rfl rfl 0 (by decide) u_324 (Or.inl rfl) rfl dX11_of_172 ?_
        obtain ⟨z_12, hz_12, h⟩ := gi_bd h
        refine g_callVv (As := [.ref (q 0)]) (bytes := cX1_gradeLevelled) (maxL := 7) (ret := none) K (ctX1_gradeLevelled_w0 hF o0 A0 C0 h0 o1 A1 C1 h1 o2 A2 C2 h2 gs (gu (gu (gu (gu (gu gA 0 ga0) 1 ga1) 2 ga2) 3 ga3) 5 ga5) tb0 tA0 bf0 hi0 (res := z_12) hz_12) gc_V_RX11_141_X1_gradeLevelled rfl qv_X1_gradeLevelled 4 rfl rfl rfl hRm rfl rfl rfl (by decide) (Nat.le_of_ble_eq_true rfl) (by decide) dX11_of_175 (fun w hw => ?_)
        subst hw
        refine g_ws (ws' := cw (g_E Γ) q r (gpl F) o0 A0 C0 h0 o1 A1 C1 h1 o2 A2 C2 h2 z_12.1 (gu (gu (gu (gu (gu gA 0 z_12.2.1) 1 z_12.2.2.1) 2 z_12.2.2.2.1) 3 z_12.2.2.2.2.1) 5 z_12.2.2.2.2.2) tb0 tA0 bf0 hi0) rfl ?_
        refine g_aload_n K dX11_of_178 rfl 0 rfl ?_
        refine g_get (v := .ref (q 3)) (T := TX11) (ref := "ChiefGrades") K hin_X11 0 rfl rfl 3 (by decide) u_327 (Or.inl rfl) rfl dX11_of_179 ?_
        refine g_get (v := .ref (r 3 0)) (T := TX1) (ref := "ChiefGrades$Grader") K hin_X1 4 rfl rfl 0 (by decide) u_287 (Or.inl rfl) rfl dX11_of_182 ?_
        refine g_iload_n K dX11_of_185 rfl 1 rfl ?_
        obtain ⟨b_13, h⟩ := gi_none h
        refine g_iald (f := z_12.2.1) K 36 rfl (ginb_in b_13) dX11_of_186 ?_
        obtain rfl := Option.some.inj h
        exact hret _ _ _ _ dX11_of_187 rfl ⟨rfl, rfl⟩
      have h := hf9 q8; clear ht9 hf9
      refine g_tabOut (tgt := 188) K dX11_of_16 (by have t0 := gi_ne (z := 0) q0 (by decide); have t1 := gi_ne (z := 1) q1 (by decide); have t2 := gi_ne (z := 2) q2 (by decide); have t3 := gi_ne (z := 3) q3 (by decide); have t4 := gi_ne (z := 4) q4 (by decide); have t5 := gi_ne (z := 5) q5 (by decide); have t6 := gi_ne (z := 6) q6 (by decide); have t7 := gi_ne (z := 7) q7 (by decide); have t8 := gi_ne (z := 8) q8 (by decide); omega) (by decide) ?_
      refine g_sipush (v := (-1001)) K dX11_of_188 (by decide) ?_
      obtain rfl := Option.some.inj h
      exact hret _ _ _ _ dX11_of_191 rfl ⟨rfl, rfl⟩
    · have h := ht9 qh; clear ht9 hf9
      refine g_sipush (v := (-1001)) K dX11_of_11 (by decide) ?_
      obtain rfl := Option.some.inj h
      exact hret _ _ _ _ dX11_of_14 rfl ⟨rfl, rfl⟩

set_option maxRecDepth 100000 in
theorem ctX11_of {E : gE} {q : Nat → Nat} {r : Nat → Nat → Nat} {F : gF} (hF : gFz E F) (o0 : Nat → Int32) (A0 : Nat → Nat → Int32) (C0 : Nat → Option Nat) (h0 : Nat) (o1 : Nat → Int32) (A1 : Nat → Nat → Int32) (C1 : Nat → Option Nat) (h1 : Nat) (o2 : Nat → Int32) (A2 : Nat → Nat → Int32) (C2 : Nat → Option Nat) (h2 : Nat) (gs0 : Int32) (gA : Nat → Nat → Int32) (tb0 : Int32) (tA0 bf0 : Nat → Int32) (hi0 : Int32) (x1 : Int32) (x2 : Int32) {res : Int32 × Int32 × ((Nat → Int32)) × ((Nat → Int32)) × ((Nat → Int32)) × ((Nat → Int32)) × ((Nat → Int32))} (h : pX11_of F (o0 0) (o0 1) (o0 5) (A0 8) (A0 9) (A0 10) (A0 11) (A0 12) h0 C0 gs0 (gA 0) (gA 1) (gA 2) (gA 3) (gA 5) x1 x2 = some res) : gMi yX11_of (.code yX11_of cX11_of 3 (some .int) :: gU) ({ frames := 10, cells := 0, slots := 0, locals := 283 } : Room) 0 0 E [.ref (q 5), .int x1, .int x2] (cw E q r (gpl F) o0 A0 C0 h0 o1 A1 C1 h1 o2 A2 C2 h2 gs0 gA tb0 tA0 bf0 hi0) (fun v w => v = res.1 ∧ w = cw E q r (gpl F) o0 A0 C0 h0 o1 A1 C1 h1 o2 A2 C2 h2 res.2.1 (gu (gu (gu (gu (gu gA 0 res.2.2.1) 1 res.2.2.2.1) 2 res.2.2.2.2.1) 3 res.2.2.2.2.2.1) 5 res.2.2.2.2.2.2) tb0 tA0 bf0 hi0) := by
  refine g_met_i (by decide +kernel) (Nat.le_of_ble_eq_true rfl) (fun Γ K hn hE hRm _ hret => ?_)
  subst hE
  have hlt : ∀ i, i < 3 → i < g_n Γ := fun i q => by rw [hn]; exact q
  refine g_ws (ws' := cw (g_E Γ) q r (gpl F) o0 A0 C0 h0 o1 A1 C1 h1 o2 A2 C2 h2 gs0 (gu (gu (gu (gu (gu gA 0 (gA 0)) 1 (gA 1)) 2 (gA 2)) 3 (gA 3)) 5 (gA 5)) tb0 tA0 bf0 hi0) rfl ?_
  refine g_sub (L' := [(0, .ref (q 5)), (1, .int x1), (2, .int x2)]) [0, 1, 2] rfl ?_
  exact wX11_of (C0 := C0) (h0 := h0) (C1 := C1) (h1 := h1) (C2 := C2) (h2 := h2) (gs0 := gs0) (tb0 := tb0) (tA0 := tA0) (bf0 := bf0) (hi0 := hi0) hF K hlt hRm hret gs0 (gA 0) (gA 1) (gA 2) (gA 3) (gA 5) x1 x2 h

set_option maxHeartbeats 4000000 in
set_option maxRecDepth 100000 in
theorem wX11_by {Γ : gT} {q : Nat → Nat} {r : Nat → Nat → Nat} {F : gF} (hF : gFz (g_E Γ) F) {o0 : Nat → Int32} {A0 : Nat → Nat → Int32} {C0 : Nat → Option Nat} {h0 : Nat} {o1 : Nat → Int32} {A1 : Nat → Nat → Int32} {C1 : Nat → Option Nat} {h1 : Nat} {o2 : Nat → Int32} {A2 : Nat → Nat → Int32} {C2 : Nat → Option Nat} {h2 : Nat} {gs0 : Int32} {gA : Nat → Nat → Int32} {tb0 : Int32} {tA0 bf0 : Nat → Int32} {hi0 : Int32} (K : gOK Γ cX11_by gU RX11) (hlt : ∀ i, i < 4 → i < g_n Γ) (hRm : g_R Γ = ({ frames := 5, cells := 0, slots := 0, locals := 173 } : Room)) {res : Int32} (hret : ∀ (pc : Nat) (L : List (Nat × Value)) (v : Int32) (w : va_W), decode cX11_by pc = .ok (.ireturn, 1) → narrow .int (.int v) = .int v → (v = res ∧ w = cw (g_E Γ) q r (gpl F) o0 A0 C0 h0 o1 A1 C1 h1 o2 A2 C2 h2 gs0 gA tb0 tA0 bf0 hi0) → gGO Γ 0 0 pc L [.int v] w) (x1 : Int32) (x2 : Int32) (h : pX11_by F (o0 0) (o0 1) (A0 10) C0 x1 x2 = some res) : gGO Γ 0 0 0 [(0, .ref (q 5)), (1, .int x1), (2, .int x2)] [] (cw (g_E Γ) q r (gpl F) o0 A0 C0 h0 o1 A1 C1 h1 o2 A2 C2 h2 gs0 gA tb0 tA0 bf0 hi0) := by
    unfold pX11_by at h
    refine g_aload_n K dX11_by_0 rfl 0 rfl ?_
    refine g_get (v := .ref (q 0)) (T := TX11) (ref := "ChiefGrades") K hin_X11 0 rfl rfl 0 (by decide) u_324 (Or.inl rfl) rfl dX11_by_1 ?_
    refine g_iload_n K dX11_by_4 rfl 1 rfl ?_
    obtain ⟨z_1, hz_1, h⟩ := gi_bd h
    refine g_callVq (As := [.int x1]) (bytes := cX10_chiefAt) (maxL := 2) (ret := (some (.object "ChiefGrades$Chief"))) K (ctX10_chiefAt_w0 hF o0 A0 C0 h0 o1 A1 C1 h1 o2 A2 C2 h2 gs0 gA tb0 tA0 bf0 hi0 x1 (res := z_1) hz_1) gc_V_RX11_101_X10_chiefAt rfl qv_X10_chiefAt 1 rfl rfl rfl hRm rfl rfl rfl (by decide) (Nat.le_of_ble_eq_true rfl) (by decide) dX11_by_5 (fun v w hw => ?_)
    obtain ⟨hv9, rfl⟩ := hw; have hv9 := hv9.symm; subst hv9
    rcases gi_mt h with ⟨ez, h⟩ | ⟨b_z1, ez, h⟩
    · rw [ez]
      refine g_astore_nN (L' := [(3, .null), (0, .ref (q 5)), (1, .int x1), (2, .int x2)]) K dX11_by_8 rfl (hlt _ (by decide)) rfl ?_
      refine g_aload_nN K dX11_by_9 rfl 0 rfl ?_
      refine g_ifnonnullN K dX11_by_10 ?_
      refine g_iconst (v := (-1)) K dX11_by_13 (by decide) ?_
      obtain rfl := Option.some.inj h
      exact hret _ _ _ _ dX11_by_14 rfl ⟨rfl, rfl⟩
    · rw [ez]
      refine g_astore_n (L' := [(3, .ref b_z1), (0, .ref (q 5)), (1, .int x1), (2, .int x2)]) K dX11_by_8 rfl (hlt _ (by decide)) rfl ?_
      refine g_aload_n K dX11_by_9 rfl 0 rfl ?_
      refine g_ifnonnull (tgt := 15) K dX11_by_10 (by decide) ?_
      refine g_iload_n K dX11_by_15 rfl 3 rfl ?_
      obtain ⟨ht9, hf9⟩ := gi_br h; clear h
      by_cases q0 : x2 = 0
      · have h := ht9 q0; clear ht9 hf9
        refine g_tabIn (tgt := 52) K dX11_by_16 (by rw [q0]; decide) (by rw [q0]; decide) (by rw [q0]; rfl) (by decide) ?_
        refine g_aload_n K dX11_by_52 rfl 0 rfl ?_
        obtain ⟨b_2, h⟩ := gi_none h
        refine chg_0 K hF b_2 hch u_257 dX11_by_53 ?_
        obtain rfl := Option.some.inj h
        exact hret _ _ _ _ dX11_by_56 rfl ⟨rfl, rfl⟩
      have h := hf9 q0; clear ht9 hf9
      obtain ⟨ht9, hf9⟩ := gi_br h; clear h
      by_cases q1 : x2 = 1
      · have h := ht9 q1; clear ht9 hf9
        refine g_tabIn (tgt := 57) K dX11_by_16 (by rw [q1]; decide) (by rw [q1]; decide) (by rw [q1]; rfl) (by decide) ?_
        refine g_aload_n K dX11_by_57 rfl 0 rfl ?_
        obtain ⟨b_3, h⟩ := gi_none h
        refine chg_2 K hF b_3 hch u_272 dX11_by_58 ?_
        obtain rfl := Option.some.inj h
        exact hret _ _ _ _ dX11_by_61 rfl ⟨rfl, rfl⟩
      have h := hf9 q1; clear ht9 hf9
      obtain ⟨ht9, hf9⟩ := gi_br h; clear h
      by_cases q2 : x2 = 2
      · have h := ht9 q2; clear ht9 hf9
        refine g_tabIn (tgt := 62) K dX11_by_16 (by rw [q2]; decide) (by rw [q2]; decide) (by rw [q2]; rfl) (by decide) ?_
        refine g_aload_n K dX11_by_62 rfl 0 rfl ?_
        obtain ⟨b_4, h⟩ := gi_none h
        refine chg_3 K hF b_4 hch u_276 dX11_by_63 ?_
        obtain rfl := Option.some.inj h
        exact hret _ _ _ _ dX11_by_66 rfl ⟨rfl, rfl⟩
      have h := hf9 q2; clear ht9 hf9
      obtain ⟨ht9, hf9⟩ := gi_br h; clear h
      by_cases q3 : x2 = 3
      · have h := ht9 q3; clear ht9 hf9
        refine g_tabIn (tgt := 67) K dX11_by_16 (by rw [q3]; decide) (by rw [q3]; decide) (by rw [q3]; rfl) (by decide) ?_
        refine g_aload_n K dX11_by_67 rfl 1 rfl ?_
        refine g_get (v := .ref (q 0)) (T := TX11) (ref := "ChiefGrades") K hin_X11 0 rfl rfl 0 (by decide) u_324 (Or.inl rfl) rfl dX11_by_68 ?_
        refine g_iload_n K dX11_by_71 rfl 2 rfl ?_
        obtain ⟨z_5, hz_5, h⟩ := gi_bd h
        refine g_callVi (As := [.int x1]) (bytes := cX10_teamBits) (maxL := 4) (ret := (some .int)) K (ctX10_teamBits_w0 hF o0 A0 C0 h0 o1 A1 C1 h1 o2 A2 C2 h2 gs0 gA tb0 tA0 bf0 hi0 x1 (res := z_5) hz_5) gc_V_RX11_152_X10_teamBits rfl qv_X10_teamBits 1 rfl rfl rfl hRm rfl rfl rfl (by decide) (Nat.le_of_ble_eq_true rfl) (by decide) dX11_by_72 (fun v w hw => ?_)
        obtain ⟨hv9, rfl⟩ := hw; have hv9 := hv9.symm; subst hv9
        obtain ⟨z_6, hz_6, h⟩ := gi_bd h
        refine g_callSi (As := [.int z_5]) (bytes := cJ6_bitCount_0f7a4) (maxL := 1) (ret := (some .int)) K (ctJ6_bitCount_0f7a4 (ws := cw (g_E Γ) q r (gpl F) o0 A0 C0 h0 o1 A1 C1 h1 o2 A2 C2 h2 gs0 gA tb0 tA0 bf0 hi0) z_5 (res := z_6) hz_6) gc_S_RX11_156_J6_bitCount_0f7a4 rfl qs_J6_bitCount_0f7a4 hRm rfl rfl rfl (by decide) (Nat.le_of_ble_eq_true rfl) (by decide) dX11_by_75 (fun v w hw => ?_)
        obtain ⟨hv9, rfl⟩ := hw; have hv9 := hv9.symm; subst hv9
        obtain rfl := Option.some.inj h
        exact hret _ _ _ _ dX11_by_78 rfl ⟨rfl, rfl⟩
      have h := hf9 q3; clear ht9 hf9
      obtain ⟨ht9, hf9⟩ := gi_br h; clear h
      by_cases q4 : x2 = 4
      · have h := ht9 q4; clear ht9 hf9
        refine g_tabIn (tgt := 79) K dX11_by_16 (by rw [q4]; decide) (by rw [q4]; decide) (by rw [q4]; rfl) (by decide) ?_
        refine g_aload_n K dX11_by_79 rfl 1 rfl ?_
        refine g_get (v := .ref (q 0)) (T := TX11) (ref := "ChiefGrades") K hin_X11 0 rfl rfl 0 (by decide) u_324 (Or.inl rfl) rfl dX11_by_80 ?_
        refine g_iload_n K dX11_by_83 rfl 2 rfl ?_
        obtain ⟨z_7, hz_7, h⟩ := gi_bd h
        refine g_callVi (As := [.int x1]) (bytes := cX10_teamBits) (maxL := 4) (ret := (some .int)) K (ctX10_teamBits_w0 hF o0 A0 C0 h0 o1 A1 C1 h1 o2 A2 C2 h2 gs0 gA tb0 tA0 bf0 hi0 x1 (res := z_7) hz_7) gc_V_RX11_152_X10_teamBits rfl qv_X10_teamBits 1 rfl rfl rfl hRm rfl rfl rfl (by decide) (Nat.le_of_ble_eq_true rfl) (by decide) dX11_by_84 (fun v w hw => ?_)
        obtain ⟨hv9, rfl⟩ := hw; have hv9 := hv9.symm; subst hv9
        obtain rfl := Option.some.inj h
        exact hret _ _ _ _ dX11_by_87 rfl ⟨rfl, rfl⟩
      have h := hf9 q4; clear ht9 hf9
      refine g_tabOut (tgt := 88) K dX11_by_16 (by have t0 := gi_ne (z := 0) q0 (by decide); have t1 := gi_ne (z := 1) q1 (by decide); have t2 := gi_ne (z := 2) q2 (by decide); have t3 := gi_ne (z := 3) q3 (by decide); have t4 := gi_ne (z := 4) q4 (by decide); omega) (by decide) ?_
      refine g_iconst (v := (-1)) K dX11_by_88 (by decide) ?_
      obtain rfl := Option.some.inj h
      exact hret _ _ _ _ dX11_by_89 rfl ⟨rfl, rfl⟩

set_option maxRecDepth 100000 in
theorem ctX11_by {E : gE} {q : Nat → Nat} {r : Nat → Nat → Nat} {F : gF} (hF : gFz E F) (o0 : Nat → Int32) (A0 : Nat → Nat → Int32) (C0 : Nat → Option Nat) (h0 : Nat) (o1 : Nat → Int32) (A1 : Nat → Nat → Int32) (C1 : Nat → Option Nat) (h1 : Nat) (o2 : Nat → Int32) (A2 : Nat → Nat → Int32) (C2 : Nat → Option Nat) (h2 : Nat) (gs0 : Int32) (gA : Nat → Nat → Int32) (tb0 : Int32) (tA0 bf0 : Nat → Int32) (hi0 : Int32) (x1 : Int32) (x2 : Int32) {res : Int32} (h : pX11_by F (o0 0) (o0 1) (A0 10) C0 x1 x2 = some res) : gMi yX11_by (.code yX11_by cX11_by 4 (some .int) :: gU) ({ frames := 5, cells := 0, slots := 0, locals := 173 } : Room) 0 0 E [.ref (q 5), .int x1, .int x2] (cw E q r (gpl F) o0 A0 C0 h0 o1 A1 C1 h1 o2 A2 C2 h2 gs0 gA tb0 tA0 bf0 hi0) (fun v w => v = res ∧ w = cw E q r (gpl F) o0 A0 C0 h0 o1 A1 C1 h1 o2 A2 C2 h2 gs0 gA tb0 tA0 bf0 hi0) := by
  refine g_met_i (by decide +kernel) (Nat.le_of_ble_eq_true rfl) (fun Γ K hn hE hRm _ hret => ?_)
  subst hE
  have hlt : ∀ i, i < 4 → i < g_n Γ := fun i q => by rw [hn]; exact q
  refine g_sub (L' := [(0, .ref (q 5)), (1, .int x1), (2, .int x2)]) [0, 1, 2] rfl ?_
  exact wX11_by (C0 := C0) (h0 := h0) (C1 := C1) (h1 := h1) (C2 := C2) (h2 := h2) (gs0 := gs0) (tb0 := tb0) (tA0 := tA0) (bf0 := bf0) (hi0 := hi0) hF K hlt hRm hret x1 x2 h

set_option maxHeartbeats 4000000 in
set_option maxRecDepth 100000 in
theorem wX11_move {Γ : gT} {q : Nat → Nat} {r : Nat → Nat → Nat} {F : gF} (hF : gFz (g_E Γ) F) {o0 : Nat → Int32} {A0 : Nat → Nat → Int32} {C0 : Nat → Option Nat} {h0 : Nat} {o1 : Nat → Int32} {A1 : Nat → Nat → Int32} {C1 : Nat → Option Nat} {h1 : Nat} {o2 : Nat → Int32} {A2 : Nat → Nat → Int32} {C2 : Nat → Option Nat} {h2 : Nat} {gs0 : Int32} {gA : Nat → Nat → Int32} {tb0 : Int32} {tA0 bf0 : Nat → Int32} {hi0 : Int32} (K : gOK Γ cX11_move gU RX11) (hlt : ∀ i, i < 4 → i < g_n Γ) (hRm : g_R Γ = ({ frames := 5, cells := 0, slots := 0, locals := 171 } : Room)) {res : Int32 × ((Nat → Int32))} (hret : ∀ (pc : Nat) (L : List (Nat × Value)) (v : Int32) (w : va_W), decode cX11_move pc = .ok (.ireturn, 1) → narrow .int (.int v) = .int v → (v = res.1 ∧ w = cw (g_E Γ) q r (gpl F) o0 (gu A0 10 res.2) C0 h0 o1 A1 C1 h1 o2 A2 C2 h2 gs0 gA tb0 tA0 bf0 hi0) → gGO Γ 0 0 pc L [.int v] w) (w0a10 : (Nat → Int32)) (x1 : Int32) (x2 : Int32) (h : pX11_move (o0 0) (o0 1) C0 w0a10 x1 x2 = some res) : gGO Γ 0 0 0 [(0, .ref (q 5)), (1, .int x1), (2, .int x2)] [] (cw (g_E Γ) q r (gpl F) o0 (gu A0 10 w0a10) C0 h0 o1 A1 C1 h1 o2 A2 C2 h2 gs0 gA tb0 tA0 bf0 hi0) := by
    unfold pX11_move at h
    refine g_aload_n K dX11_move_0 rfl 0 rfl ?_
    refine g_get (v := .ref (q 0)) (T := TX11) (ref := "ChiefGrades") K hin_X11 0 rfl rfl 0 (by decide) u_324 (Or.inl rfl) rfl dX11_move_1 ?_
    refine g_iload_n K dX11_move_4 rfl 1 rfl ?_
    obtain ⟨z_1, hz_1, h⟩ := gi_bd h
    refine g_callVi (As := [.int x1]) (bytes := cX10_hasWorker) (maxL := 2) (ret := (some .boolean)) K (ctX10_hasWorker_w0 hF o0 (gu A0 10 w0a10) C0 h0 o1 A1 C1 h1 o2 A2 C2 h2 gs0 gA tb0 tA0 bf0 hi0 x1 (res := z_1) hz_1) gc_V_RX11_122_X10_hasWorker rfl qv_X10_hasWorker 1 rfl rfl rfl hRm rfl rfl rfl (by decide) (Nat.le_of_ble_eq_true rfl) (by decide) dX11_move_5 (fun v w hw => ?_)
    obtain ⟨hv9, rfl⟩ := hw; have hv9 := hv9.symm; subst hv9
    obtain ⟨ht9, hf9⟩ := gi_br h; clear h
    refine g_if_eq (tgt := 22) K dX11_move_8 (by decide) (fun qh => ?_) (fun qh => ?_)
    · have h := ht9 qh; clear ht9 hf9
      refine g_iconst (v := (-1)) K dX11_move_22 (by decide) ?_
      obtain rfl := Option.some.inj h
      exact hret _ _ _ _ dX11_move_23 rfl ⟨rfl, rfl⟩
    · have h := hf9 qh; clear ht9 hf9
      refine g_aload_n K dX11_move_11 rfl 0 rfl ?_
      refine g_get (v := .ref (q 0)) (T := TX11) (ref := "ChiefGrades") K hin_X11 0 rfl rfl 0 (by decide) u_324 (Or.inl rfl) rfl dX11_move_12 ?_
      refine g_iload_n K dX11_move_15 rfl 2 rfl ?_
      obtain ⟨z_2, hz_2, h⟩ := gi_bd h
      refine g_callVq (As := [.int x2]) (bytes := cX10_chiefAt) (maxL := 2) (ret := (some (.object "ChiefGrades$Chief"))) K (ctX10_chiefAt_w0 hF o0 (gu A0 10 w0a10) C0 h0 o1 A1 C1 h1 o2 A2 C2 h2 gs0 gA tb0 tA0 bf0 hi0 x2 (res := z_2) hz_2) gc_V_RX11_101_X10_chiefAt rfl qv_X10_chiefAt 1 rfl rfl rfl hRm rfl rfl rfl (by decide) (Nat.le_of_ble_eq_true rfl) (by decide) dX11_move_16 (fun v w hw => ?_)
      obtain ⟨hv9, rfl⟩ := hw; have hv9 := hv9.symm; subst hv9
      rcases gi_mt h with ⟨ez, h⟩ | ⟨b_z2, ez, h⟩
      · rw [ez]
        refine g_ifnonnullN K dX11_move_19 ?_
        refine g_iconst (v := (-1)) K dX11_move_22 (by decide) ?_
        obtain rfl := Option.some.inj h
        exact hret _ _ _ _ dX11_move_23 rfl ⟨rfl, rfl⟩
      · rw [ez]
        refine g_ifnonnull (tgt := 24) K dX11_move_19 (by decide) ?_
        refine g_aload_n K dX11_move_24 rfl 0 rfl ?_
        refine g_get (v := .ref (q 0)) (T := TX11) (ref := "ChiefGrades") K hin_X11 0 rfl rfl 0 (by decide) u_324 (Or.inl rfl) rfl dX11_move_25 ?_
        refine g_get (v := .ref (r 0 10)) (T := TX10) (ref := "ChiefGrades$World") K hin_X10 1 rfl rfl 10 (by decide) u_185 (Or.inl rfl) rfl dX11_move_28 ?_
        refine g_iload_n K dX11_move_31 rfl 1 rfl ?_
        obtain ⟨b_3, h⟩ := gi_none h
        refine g_iald (f := w0a10) K 8 rfl (ginb_in b_3) dX11_move_32 ?_
        obtain ⟨v_4, ev_4, h⟩ := gi_nm h
        refine g_topi ev_4 ?_
        refine g_istore_n (L' := [(3, .int v_4), (0, .ref (q 5)), (1, .int x1), (2, .int x2)]) K dX11_move_33 rfl (hlt _ (by decide)) rfl ?_
        refine g_aload_n K dX11_move_34 rfl 1 rfl ?_
        refine g_get (v := .ref (q 0)) (T := TX11) (ref := "ChiefGrades") K hin_X11 0 rfl rfl 0 (by decide) u_324 (Or.inl rfl) rfl dX11_move_35 ?_
        refine g_get (v := .ref (r 0 10)) (T := TX10) (ref := "ChiefGrades$World") K hin_X10 1 rfl rfl 10 (by decide) u_185 (Or.inl rfl) rfl dX11_move_38 ?_
        refine g_iload_n K dX11_move_41 rfl 2 rfl ?_
        refine g_iload_n K dX11_move_42 rfl 3 rfl ?_
        obtain ⟨b_5, h⟩ := gi_none h
        obtain ⟨f_6, ef_6, h⟩ := gi_nm h
        refine g_iast (f := w0a10) (ws' := cw (g_E Γ) q r (gpl F) o0 (gu A0 10 f_6) C0 h0 o1 A1 C1 h1 o2 A2 C2 h2 gs0 gA tb0 tA0 bf0 hi0) K 8 rfl (ginb_in b_5) dX11_move_43 (by rw [ef_6]; rfl) ?_
        refine g_iload_n K dX11_move_44 rfl 0 rfl ?_
        obtain rfl := Option.some.inj h
        exact hret _ _ _ _ dX11_move_45 rfl ⟨rfl, rfl⟩

set_option maxRecDepth 100000 in
theorem ctX11_move {E : gE} {q : Nat → Nat} {r : Nat → Nat → Nat} {F : gF} (hF : gFz E F) (o0 : Nat → Int32) (A0 : Nat → Nat → Int32) (C0 : Nat → Option Nat) (h0 : Nat) (o1 : Nat → Int32) (A1 : Nat → Nat → Int32) (C1 : Nat → Option Nat) (h1 : Nat) (o2 : Nat → Int32) (A2 : Nat → Nat → Int32) (C2 : Nat → Option Nat) (h2 : Nat) (gs0 : Int32) (gA : Nat → Nat → Int32) (tb0 : Int32) (tA0 bf0 : Nat → Int32) (hi0 : Int32) (x1 : Int32) (x2 : Int32) {res : Int32 × ((Nat → Int32))} (h : pX11_move (o0 0) (o0 1) C0 (A0 10) x1 x2 = some res) : gMi yX11_move (.code yX11_move cX11_move 4 (some .int) :: gU) ({ frames := 5, cells := 0, slots := 0, locals := 171 } : Room) 0 0 E [.ref (q 5), .int x1, .int x2] (cw E q r (gpl F) o0 A0 C0 h0 o1 A1 C1 h1 o2 A2 C2 h2 gs0 gA tb0 tA0 bf0 hi0) (fun v w => v = res.1 ∧ w = cw E q r (gpl F) o0 (gu A0 10 res.2) C0 h0 o1 A1 C1 h1 o2 A2 C2 h2 gs0 gA tb0 tA0 bf0 hi0) := by
  refine g_met_i (by decide +kernel) (Nat.le_of_ble_eq_true rfl) (fun Γ K hn hE hRm _ hret => ?_)
  subst hE
  have hlt : ∀ i, i < 4 → i < g_n Γ := fun i q => by rw [hn]; exact q
  refine g_ws (ws' := cw (g_E Γ) q r (gpl F) o0 (gu A0 10 (A0 10)) C0 h0 o1 A1 C1 h1 o2 A2 C2 h2 gs0 gA tb0 tA0 bf0 hi0) rfl ?_
  refine g_sub (L' := [(0, .ref (q 5)), (1, .int x1), (2, .int x2)]) [0, 1, 2] rfl ?_
  exact wX11_move (C0 := C0) (h0 := h0) (C1 := C1) (h1 := h1) (C2 := C2) (h2 := h2) (gs0 := gs0) (tb0 := tb0) (tA0 := tA0) (bf0 := bf0) (hi0 := hi0) hF K hlt hRm hret (A0 10) x1 x2 h

set_option maxHeartbeats 4000000 in
set_option maxRecDepth 100000 in
theorem wX11_set_35 {Γ : gT} {q : Nat → Nat} {r : Nat → Nat → Nat} {F : gF} (hF : gFz (g_E Γ) F) {o0 : Nat → Int32} {A0 : Nat → Nat → Int32} {C0 : Nat → Option Nat} {h0 : Nat} {o1 : Nat → Int32} {A1 : Nat → Nat → Int32} {C1 : Nat → Option Nat} {h1 : Nat} {o2 : Nat → Int32} {A2 : Nat → Nat → Int32} {C2 : Nat → Option Nat} {h2 : Nat} {gs0 : Int32} {gA : Nat → Nat → Int32} {tb0 : Int32} {tA0 bf0 : Nat → Int32} {hi0 : Int32} (K : gOK Γ cX11_set gU RX11) (hlt : ∀ i, i < 6 → i < g_n Γ) (hRm : g_R Γ = ({ frames := 5, cells := 0, slots := 0, locals := 171 } : Room)) {res : Int32 × ((Nat → Int32)) × ((Nat → Int32)) × ((Nat → Int32))} (hret : ∀ (pc : Nat) (L : List (Nat × Value)) (v : Int32) (w : va_W), decode cX11_set pc = .ok (.ireturn, 1) → narrow .int (.int v) = .int v → (v = res.1 ∧ w = cw (g_E Γ) q r (gpl F) o0 (gu (gu (gu A0 8 res.2.1) 9 res.2.2.1) 11 res.2.2.2) C0 h0 o1 A1 C1 h1 o2 A2 C2 h2 gs0 gA tb0 tA0 bf0 hi0) → gGO Γ 0 0 pc L [.int v] w) (w0a8 : (Nat → Int32)) (w0a9 : (Nat → Int32)) (w0a11 : (Nat → Int32)) (x1 : Int32) (x2 : Int32) (x3 : Int32) (y0 : Int32) (y1 : Int32) (h : pX11_set_35 (o0 0) w0a8 w0a9 w0a11 x1 x2 x3 y0 y1 = some res) : gGO Γ 0 0 35 [(0, .ref (q 5)), (1, .int x1), (2, .int x2), (3, .int x3)] [.int y1, .int y0] (cw (g_E Γ) q r (gpl F) o0 (gu (gu (gu A0 8 w0a8) 9 w0a9) 11 w0a11) C0 h0 o1 A1 C1 h1 o2 A2 C2 h2 gs0 gA tb0 tA0 bf0 hi0) := by
    unfold pX11_set_35 at h
    obtain ⟨z_1, hz_1, h⟩ := gi_bd h
    refine g_callSi (As := [.int y0, .int y1]) (bytes := cX11_isWithin) (maxL := 2) (ret := (some .boolean)) K (ctX11_isWithin (ws := cw (g_E Γ) q r (gpl F) o0 (gu (gu (gu A0 8 w0a8) 9 w0a9) 11 w0a11) C0 h0 o1 A1 C1 h1 o2 A2 C2 h2 gs0 gA tb0 tA0 bf0 hi0) y0 y1 (res := z_1) hz_1) gc_S_RX11_84_X11_isWithin rfl qs_X11_isWithin hRm rfl rfl rfl (by decide) (Nat.le_of_ble_eq_true rfl) (by decide) dX11_set_35 (fun v w hw => ?_)
    obtain ⟨hv9, rfl⟩ := hw; have hv9 := hv9.symm; subst hv9
    obtain ⟨ht9, hf9⟩ := gi_br h; clear h
    refine g_if_ne (tgt := 44) K dX11_set_38 (by decide) (fun qh => ?_) (fun qh => ?_)
    · have h := hf9 qh; clear ht9 hf9
      refine g_iload_n K dX11_set_44 rfl 2 rfl ?_
      obtain ⟨ht9, hf9⟩ := gi_br h; clear h
      refine g_if_ne (tgt := 58) K dX11_set_45 (by decide) (fun qh => ?_) (fun qh => ?_)
      · have h := hf9 qh; clear ht9 hf9
        refine g_iload_n K dX11_set_58 rfl 2 rfl ?_
        refine g_iconst (v := 1) K dX11_set_59 (by decide) ?_
        obtain ⟨ht9, hf9⟩ := gi_br h; clear h
        refine g_icmp_ne (tgt := 73) K dX11_set_60 (by decide) (fun qh => ?_) (fun qh => ?_)
        · have h := hf9 qh; clear ht9 hf9
          refine g_aload_n K dX11_set_73 rfl 0 rfl ?_
          refine g_get (v := .ref (q 0)) (T := TX11) (ref := "ChiefGrades") K hin_X11 0 rfl rfl 0 (by decide) u_324 (Or.inl rfl) rfl dX11_set_74 ?_
          refine g_get (v := .ref (r 0 11)) (T := TX10) (ref := "ChiefGrades$World") K hin_X10 1 rfl rfl 11 (by decide) u_188 (Or.inl rfl) rfl dX11_set_77 ?_
          refine g_astore (L' := [(4, .ref (r 0 11)), (0, .ref (q 5)), (1, .int x1), (2, .int x2), (3, .int x3)]) K dX11_set_80 (hlt _ (by decide)) rfl ?_
          refine g_aload K dX11_set_82 0 rfl ?_
          refine g_iload_n K dX11_set_84 rfl 2 rfl ?_
          obtain ⟨b_2, h⟩ := gi_none h
          refine g_iald (f := w0a11) K 9 rfl (ginb_in b_2) dX11_set_85 ?_
          obtain ⟨v_3, ev_3, h⟩ := gi_nm h
          refine g_topi ev_3 ?_
          refine g_istore (L' := [(5, .int v_3), (4, .ref (r 0 11)), (0, .ref (q 5)), (1, .int x1), (2, .int x2), (3, .int x3)]) K dX11_set_86 (hlt _ (by decide)) rfl ?_
          refine g_aload K dX11_set_88 1 rfl ?_
          refine g_iload_n K dX11_set_90 rfl 3 rfl ?_
          refine g_iload_n K dX11_set_91 rfl 5 rfl ?_
          obtain ⟨b_4, h⟩ := gi_none h
          obtain ⟨f_5, ef_5, h⟩ := gi_nm h
          refine g_iast (f := w0a11) (ws' := cw (g_E Γ) q r (gpl F) o0 (gu (gu (gu A0 8 w0a8) 9 w0a9) 11 f_5) C0 h0 o1 A1 C1 h1 o2 A2 C2 h2 gs0 gA tb0 tA0 bf0 hi0) K 9 rfl (ginb_in b_4) dX11_set_92 (by rw [ef_5]; rfl) ?_
          refine g_iload K dX11_set_93 0 rfl ?_
          obtain rfl := Option.some.inj h
          exact hret _ _ _ _ dX11_set_95 rfl ⟨rfl, rfl⟩
        · have h := ht9 qh; clear ht9 hf9
          refine g_aload_n K dX11_set_63 rfl 0 rfl ?_
          refine g_get (v := .ref (q 0)) (T := TX11) (ref := "ChiefGrades") K hin_X11 0 rfl rfl 0 (by decide) u_324 (Or.inl rfl) rfl dX11_set_64 ?_
          refine g_get (v := .ref (r 0 9)) (T := TX10) (ref := "ChiefGrades$World") K hin_X10 1 rfl rfl 9 (by decide) u_182 (Or.inl rfl) rfl dX11_set_67 ?_
          refine g_goto (tgt := 80) K dX11_set_70 (by decide) ?_
          refine g_astore (L' := [(4, .ref (r 0 9)), (0, .ref (q 5)), (1, .int x1), (2, .int x2), (3, .int x3)]) K dX11_set_80 (hlt _ (by decide)) rfl ?_
          refine g_aload K dX11_set_82 0 rfl ?_
          refine g_iload_n K dX11_set_84 rfl 2 rfl ?_
          obtain ⟨b_6, h⟩ := gi_none h
          refine g_iald (f := w0a9) K 7 rfl (ginb_in b_6) dX11_set_85 ?_
          obtain ⟨v_7, ev_7, h⟩ := gi_nm h
          refine g_topi ev_7 ?_
          refine g_istore (L' := [(5, .int v_7), (4, .ref (r 0 9)), (0, .ref (q 5)), (1, .int x1), (2, .int x2), (3, .int x3)]) K dX11_set_86 (hlt _ (by decide)) rfl ?_
          refine g_aload K dX11_set_88 1 rfl ?_
          refine g_iload_n K dX11_set_90 rfl 3 rfl ?_
          refine g_iload_n K dX11_set_91 rfl 5 rfl ?_
          obtain ⟨b_8, h⟩ := gi_none h
          obtain ⟨f_9, ef_9, h⟩ := gi_nm h
          refine g_iast (f := w0a9) (ws' := cw (g_E Γ) q r (gpl F) o0 (gu (gu (gu A0 8 w0a8) 9 f_9) 11 w0a11) C0 h0 o1 A1 C1 h1 o2 A2 C2 h2 gs0 gA tb0 tA0 bf0 hi0) K 7 rfl (ginb_in b_8) dX11_set_92 (by rw [ef_9]; rfl) ?_
          refine g_iload K dX11_set_93 0 rfl ?_
          obtain rfl := Option.some.inj h
          exact hret _ _ _ _ dX11_set_95 rfl ⟨rfl, rfl⟩
      · have h := ht9 qh; clear ht9 hf9
        refine g_aload_n K dX11_set_48 rfl 0 rfl ?_
        refine g_get (v := .ref (q 0)) (T := TX11) (ref := "ChiefGrades") K hin_X11 0 rfl rfl 0 (by decide) u_324 (Or.inl rfl) rfl dX11_set_49 ?_
        refine g_get (v := .ref (r 0 8)) (T := TX10) (ref := "ChiefGrades$World") K hin_X10 1 rfl rfl 8 (by decide) u_179 (Or.inl rfl) rfl dX11_set_52 ?_
        refine g_goto (tgt := 80) K dX11_set_55 (by decide) ?_
        refine g_astore (L' := [(4, .ref (r 0 8)), (0, .ref (q 5)), (1, .int x1), (2, .int x2), (3, .int x3)]) K dX11_set_80 (hlt _ (by decide)) rfl ?_
        refine g_aload K dX11_set_82 0 rfl ?_
        refine g_iload_n K dX11_set_84 rfl 2 rfl ?_
        obtain ⟨b_10, h⟩ := gi_none h
        refine g_iald (f := w0a8) K 6 rfl (ginb_in b_10) dX11_set_85 ?_
        obtain ⟨v_11, ev_11, h⟩ := gi_nm h
        refine g_topi ev_11 ?_
        refine g_istore (L' := [(5, .int v_11), (4, .ref (r 0 8)), (0, .ref (q 5)), (1, .int x1), (2, .int x2), (3, .int x3)]) K dX11_set_86 (hlt _ (by decide)) rfl ?_
        refine g_aload K dX11_set_88 1 rfl ?_
        refine g_iload_n K dX11_set_90 rfl 3 rfl ?_
        refine g_iload_n K dX11_set_91 rfl 5 rfl ?_
        obtain ⟨b_12, h⟩ := gi_none h
        obtain ⟨f_13, ef_13, h⟩ := gi_nm h
        refine g_iast (f := w0a8) (ws' := cw (g_E Γ) q r (gpl F) o0 (gu (gu (gu A0 8 f_13) 9 w0a9) 11 w0a11) C0 h0 o1 A1 C1 h1 o2 A2 C2 h2 gs0 gA tb0 tA0 bf0 hi0) K 6 rfl (ginb_in b_12) dX11_set_92 (by rw [ef_13]; rfl) ?_
        refine g_iload K dX11_set_93 0 rfl ?_
        obtain rfl := Option.some.inj h
        exact hret _ _ _ _ dX11_set_95 rfl ⟨rfl, rfl⟩
    · have h := ht9 qh; clear ht9 hf9
      refine g_bipush (v := (-2)) K dX11_set_41 (by decide) ?_
      obtain rfl := Option.some.inj h
      exact hret _ _ _ _ dX11_set_43 rfl ⟨rfl, rfl⟩

set_option maxHeartbeats 4000000 in
set_option maxRecDepth 100000 in
theorem wX11_set {Γ : gT} {q : Nat → Nat} {r : Nat → Nat → Nat} {F : gF} (hF : gFz (g_E Γ) F) {o0 : Nat → Int32} {A0 : Nat → Nat → Int32} {C0 : Nat → Option Nat} {h0 : Nat} {o1 : Nat → Int32} {A1 : Nat → Nat → Int32} {C1 : Nat → Option Nat} {h1 : Nat} {o2 : Nat → Int32} {A2 : Nat → Nat → Int32} {C2 : Nat → Option Nat} {h2 : Nat} {gs0 : Int32} {gA : Nat → Nat → Int32} {tb0 : Int32} {tA0 bf0 : Nat → Int32} {hi0 : Int32} (K : gOK Γ cX11_set gU RX11) (hlt : ∀ i, i < 6 → i < g_n Γ) (hRm : g_R Γ = ({ frames := 5, cells := 0, slots := 0, locals := 171 } : Room)) {res : Int32 × ((Nat → Int32)) × ((Nat → Int32)) × ((Nat → Int32))} (hret : ∀ (pc : Nat) (L : List (Nat × Value)) (v : Int32) (w : va_W), decode cX11_set pc = .ok (.ireturn, 1) → narrow .int (.int v) = .int v → (v = res.1 ∧ w = cw (g_E Γ) q r (gpl F) o0 (gu (gu (gu A0 8 res.2.1) 9 res.2.2.1) 11 res.2.2.2) C0 h0 o1 A1 C1 h1 o2 A2 C2 h2 gs0 gA tb0 tA0 bf0 hi0) → gGO Γ 0 0 pc L [.int v] w) (w0a8 : (Nat → Int32)) (w0a9 : (Nat → Int32)) (w0a11 : (Nat → Int32)) (x1 : Int32) (x2 : Int32) (x3 : Int32) (h : pX11_set (o0 0) w0a8 w0a9 w0a11 x1 x2 x3 = some res) : gGO Γ 0 0 0 [(0, .ref (q 5)), (1, .int x1), (2, .int x2), (3, .int x3)] [] (cw (g_E Γ) q r (gpl F) o0 (gu (gu (gu A0 8 w0a8) 9 w0a9) 11 w0a11) C0 h0 o1 A1 C1 h1 o2 A2 C2 h2 gs0 gA tb0 tA0 bf0 hi0) := by
    unfold pX11_set at h
    refine g_aload_n K dX11_set_0 rfl 0 rfl ?_
    refine g_get (v := .ref (q 0)) (T := TX11) (ref := "ChiefGrades") K hin_X11 0 rfl rfl 0 (by decide) u_324 (Or.inl rfl) rfl dX11_set_1 ?_
    refine g_iload_n K dX11_set_4 rfl 1 rfl ?_
    obtain ⟨z_1, hz_1, h⟩ := gi_bd h
    refine g_callVi (As := [.int x1]) (bytes := cX10_hasWorker) (maxL := 2) (ret := (some .boolean)) K (ctX10_hasWorker_w0 hF o0 (gu (gu (gu A0 8 w0a8) 9 w0a9) 11 w0a11) C0 h0 o1 A1 C1 h1 o2 A2 C2 h2 gs0 gA tb0 tA0 bf0 hi0 x1 (res := z_1) hz_1) gc_V_RX11_122_X10_hasWorker rfl qv_X10_hasWorker 1 rfl rfl rfl hRm rfl rfl rfl (by decide) (Nat.le_of_ble_eq_true rfl) (by decide) dX11_set_5 (fun v w hw => ?_)
    obtain ⟨hv9, rfl⟩ := hw; have hv9 := hv9.symm; subst hv9
    obtain ⟨ht9, hf9⟩ := gi_br h; clear h
    refine g_if_eq (tgt := 20) K dX11_set_8 (by decide) (fun qh => ?_) (fun qh => ?_)
    · have h := ht9 qh; clear ht9 hf9
      refine g_iconst (v := (-1)) K dX11_set_20 (by decide) ?_
      obtain rfl := Option.some.inj h
      exact hret _ _ _ _ dX11_set_21 rfl ⟨rfl, rfl⟩
    · have h := hf9 qh; clear ht9 hf9
      refine g_iload_n K dX11_set_11 rfl 2 rfl ?_
      obtain ⟨ht9, hf9⟩ := gi_br h; clear h
      refine g_if_lt (tgt := 20) K dX11_set_12 (by decide) (fun qh => ?_) (fun qh => ?_)
      · have h := ht9 qh; clear ht9 hf9
        refine g_iconst (v := (-1)) K dX11_set_20 (by decide) ?_
        obtain rfl := Option.some.inj h
        exact hret _ _ _ _ dX11_set_21 rfl ⟨rfl, rfl⟩
      · have h := hf9 qh; clear ht9 hf9
        refine g_iload_n K dX11_set_15 rfl 2 rfl ?_
        refine g_iconst (v := 2) K dX11_set_16 (by decide) ?_
        obtain ⟨ht9, hf9⟩ := gi_br h; clear h
        refine g_icmp_le (tgt := 22) K dX11_set_17 (by decide) (fun qh => ?_) (fun qh => ?_)
        · have h := ht9 qh; clear ht9 hf9
          refine g_iload_n K dX11_set_22 rfl 3 rfl ?_
          refine g_iload_n K dX11_set_23 rfl 2 rfl ?_
          refine g_iconst (v := 2) K dX11_set_24 (by decide) ?_
          obtain ⟨ht9, hf9⟩ := gi_br h; clear h
          refine g_icmp_ne (tgt := 33) K dX11_set_25 (by decide) (fun qh => ?_) (fun qh => ?_)
          · have h := hf9 qh; clear ht9 hf9
            refine g_bipush (v := 99) K dX11_set_33 (by decide) ?_
            exact wX11_set_35 (C0 := C0) (h0 := h0) (C1 := C1) (h1 := h1) (C2 := C2) (h2 := h2) (gs0 := gs0) (tb0 := tb0) (tA0 := tA0) (bf0 := bf0) (hi0 := hi0) hF K hlt hRm hret w0a8 w0a9 w0a11 x1 x2 x3 x3 99 h
          · have h := ht9 qh; clear ht9 hf9
            refine g_bipush (v := 9) K dX11_set_28 (by decide) ?_
            refine g_goto (tgt := 35) K dX11_set_30 (by decide) ?_
            exact wX11_set_35 (C0 := C0) (h0 := h0) (C1 := C1) (h1 := h1) (C2 := C2) (h2 := h2) (gs0 := gs0) (tb0 := tb0) (tA0 := tA0) (bf0 := bf0) (hi0 := hi0) hF K hlt hRm hret w0a8 w0a9 w0a11 x1 x2 x3 x3 9 h
        · have h := hf9 qh; clear ht9 hf9
          refine g_iconst (v := (-1)) K dX11_set_20 (by decide) ?_
          obtain rfl := Option.some.inj h
          exact hret _ _ _ _ dX11_set_21 rfl ⟨rfl, rfl⟩

set_option maxRecDepth 100000 in
theorem ctX11_set {E : gE} {q : Nat → Nat} {r : Nat → Nat → Nat} {F : gF} (hF : gFz E F) (o0 : Nat → Int32) (A0 : Nat → Nat → Int32) (C0 : Nat → Option Nat) (h0 : Nat) (o1 : Nat → Int32) (A1 : Nat → Nat → Int32) (C1 : Nat → Option Nat) (h1 : Nat) (o2 : Nat → Int32) (A2 : Nat → Nat → Int32) (C2 : Nat → Option Nat) (h2 : Nat) (gs0 : Int32) (gA : Nat → Nat → Int32) (tb0 : Int32) (tA0 bf0 : Nat → Int32) (hi0 : Int32) (x1 : Int32) (x2 : Int32) (x3 : Int32) {res : Int32 × ((Nat → Int32)) × ((Nat → Int32)) × ((Nat → Int32))} (h : pX11_set (o0 0) (A0 8) (A0 9) (A0 11) x1 x2 x3 = some res) : gMi yX11_set (.code yX11_set cX11_set 6 (some .int) :: gU) ({ frames := 5, cells := 0, slots := 0, locals := 171 } : Room) 0 0 E [.ref (q 5), .int x1, .int x2, .int x3] (cw E q r (gpl F) o0 A0 C0 h0 o1 A1 C1 h1 o2 A2 C2 h2 gs0 gA tb0 tA0 bf0 hi0) (fun v w => v = res.1 ∧ w = cw E q r (gpl F) o0 (gu (gu (gu A0 8 res.2.1) 9 res.2.2.1) 11 res.2.2.2) C0 h0 o1 A1 C1 h1 o2 A2 C2 h2 gs0 gA tb0 tA0 bf0 hi0) := by
  refine g_met_i (by decide +kernel) (Nat.le_of_ble_eq_true rfl) (fun Γ K hn hE hRm _ hret => ?_)
  subst hE
  have hlt : ∀ i, i < 6 → i < g_n Γ := fun i q => by rw [hn]; exact q
  refine g_ws (ws' := cw (g_E Γ) q r (gpl F) o0 (gu (gu (gu A0 8 (A0 8)) 9 (A0 9)) 11 (A0 11)) C0 h0 o1 A1 C1 h1 o2 A2 C2 h2 gs0 gA tb0 tA0 bf0 hi0) rfl ?_
  refine g_sub (L' := [(0, .ref (q 5)), (1, .int x1), (2, .int x2), (3, .int x3)]) [0, 1, 2, 3] rfl ?_
  exact wX11_set (C0 := C0) (h0 := h0) (C1 := C1) (h1 := h1) (C2 := C2) (h2 := h2) (gs0 := gs0) (tb0 := tb0) (tA0 := tA0) (bf0 := bf0) (hi0 := hi0) hF K hlt hRm hret (A0 8) (A0 9) (A0 11) x1 x2 x3 h

set_option maxHeartbeats 4000000 in
set_option maxRecDepth 100000 in
theorem wX11_fresh {Γ : gT} {q : Nat → Nat} {r : Nat → Nat → Nat} {F : gF} (hF : gFz (g_E Γ) F) {o0 : Nat → Int32} {A0 : Nat → Nat → Int32} {C0 : Nat → Option Nat} {h0 : Nat} {o1 : Nat → Int32} {A1 : Nat → Nat → Int32} {C1 : Nat → Option Nat} {h1 : Nat} {o2 : Nat → Int32} {A2 : Nat → Nat → Int32} {C2 : Nat → Option Nat} {h2 : Nat} {gs0 : Int32} {gA : Nat → Nat → Int32} {tb0 : Int32} {tA0 bf0 : Nat → Int32} {hi0 : Int32} (K : gOK Γ cX11_fresh gU RX11) (hlt : ∀ i, i < 4 → i < g_n Γ) (hRm : g_R Γ = ({ frames := 5, cells := 0, slots := 0, locals := 171 } : Room)) {res : Int32 × Int32 × Int32} (hret : ∀ (pc : Nat) (L : List (Nat × Value)) (v : Int32) (w : va_W), decode cX11_fresh pc = .ok (.ireturn, 1) → narrow .int (.int v) = .int v → (v = res.1 ∧ w = cw (g_E Γ) q r (gpl F) (gu (gu o0 6 res.2.1) 7 res.2.2) A0 C0 h0 o1 A1 C1 h1 o2 A2 C2 h2 gs0 gA tb0 tA0 bf0 hi0) → gGO Γ 0 0 pc L [.int v] w) (w0o6 : Int32) (w0o7 : Int32) (x1 : Int32) (x2 : Int32) (h : pX11_fresh w0o6 w0o7 x1 x2 = some res) : gGO Γ 0 0 0 [(0, .ref (q 5)), (1, .int x1), (2, .int x2)] [] (cw (g_E Γ) q r (gpl F) (gu (gu o0 6 w0o6) 7 w0o7) A0 C0 h0 o1 A1 C1 h1 o2 A2 C2 h2 gs0 gA tb0 tA0 bf0 hi0) := by
    unfold pX11_fresh at h
    refine g_iload_n K dX11_fresh_0 rfl 1 rfl ?_
    refine g_bipush (v := 99) K dX11_fresh_1 (by decide) ?_
    obtain ⟨z_1, hz_1, h⟩ := gi_bd h
    refine g_callSi (As := [.int x1, .int 99]) (bytes := cX11_isWithin) (maxL := 2) (ret := (some .boolean)) K (ctX11_isWithin (ws := cw (g_E Γ) q r (gpl F) (gu (gu o0 6 w0o6) 7 w0o7) A0 C0 h0 o1 A1 C1 h1 o2 A2 C2 h2 gs0 gA tb0 tA0 bf0 hi0) x1 99 (res := z_1) hz_1) gc_S_RX11_84_X11_isWithin rfl qs_X11_isWithin hRm rfl rfl rfl (by decide) (Nat.le_of_ble_eq_true rfl) (by decide) dX11_fresh_3 (fun v w hw => ?_)
    obtain ⟨hv9, rfl⟩ := hw; have hv9 := hv9.symm; subst hv9
    obtain ⟨ht9, hf9⟩ := gi_br h; clear h
    refine g_if_eq (tgt := 18) K dX11_fresh_6 (by decide) (fun qh => ?_) (fun qh => ?_)
    · have h := ht9 qh; clear ht9 hf9
      refine g_bipush (v := (-2)) K dX11_fresh_18 (by decide) ?_
      obtain rfl := Option.some.inj h
      exact hret _ _ _ _ dX11_fresh_20 rfl ⟨rfl, rfl⟩
    · have h := hf9 qh; clear ht9 hf9
      refine g_iload_n K dX11_fresh_9 rfl 2 rfl ?_
      refine g_bipush (v := 99) K dX11_fresh_10 (by decide) ?_
      obtain ⟨z_2, hz_2, h⟩ := gi_bd h
      refine g_callSi (As := [.int x2, .int 99]) (bytes := cX11_isWithin) (maxL := 2) (ret := (some .boolean)) K (ctX11_isWithin (ws := cw (g_E Γ) q r (gpl F) (gu (gu o0 6 w0o6) 7 w0o7) A0 C0 h0 o1 A1 C1 h1 o2 A2 C2 h2 gs0 gA tb0 tA0 bf0 hi0) x2 99 (res := z_2) hz_2) gc_S_RX11_84_X11_isWithin rfl qs_X11_isWithin hRm rfl rfl rfl (by decide) (Nat.le_of_ble_eq_true rfl) (by decide) dX11_fresh_12 (fun v w hw => ?_)
      obtain ⟨hv9, rfl⟩ := hw; have hv9 := hv9.symm; subst hv9
      obtain ⟨ht9, hf9⟩ := gi_br h; clear h
      refine g_if_ne (tgt := 21) K dX11_fresh_15 (by decide) (fun qh => ?_) (fun qh => ?_)
      · have h := hf9 qh; clear ht9 hf9
        refine g_aload_n K dX11_fresh_21 rfl 0 rfl ?_
        refine g_get (v := .ref (q 0)) (T := TX11) (ref := "ChiefGrades") K hin_X11 0 rfl rfl 0 (by decide) u_324 (Or.inl rfl) rfl dX11_fresh_22 ?_
        refine g_get (v := .int w0o6) (T := TX10) (ref := "ChiefGrades$World") K hin_X10 1 rfl rfl 6 (by decide) u_174 (Or.inl rfl) rfl dX11_fresh_25 ?_
        refine g_istore_n (L' := [(3, .int w0o6), (0, .ref (q 5)), (1, .int x1), (2, .int x2)]) K dX11_fresh_28 rfl (hlt _ (by decide)) rfl ?_
        refine g_aload_n K dX11_fresh_29 rfl 1 rfl ?_
        refine g_get (v := .ref (q 0)) (T := TX11) (ref := "ChiefGrades") K hin_X11 0 rfl rfl 0 (by decide) u_324 (Or.inl rfl) rfl dX11_fresh_30 ?_
        refine g_iload_n K dX11_fresh_33 rfl 2 rfl ?_
        refine g_put (v := .int x1) (ws' := cw (g_E Γ) q r (gpl F) (gu (gu o0 6 x1) 7 w0o7) A0 C0 h0 o1 A1 C1 h1 o2 A2 C2 h2 gs0 gA tb0 tA0 bf0 hi0) (T := TX10) (ref := "ChiefGrades$World") (ty := .int) K hin_X10 tyX10_ok nmX10 1 rfl rfl 6 (by decide) u_174 rfl rfl (by decide +kernel) rfl rfl (Nat.le_of_ble_eq_true rfl) dX11_fresh_34 rfl ?_
        refine g_aload_n K dX11_fresh_37 rfl 1 rfl ?_
        refine g_get (v := .ref (q 0)) (T := TX11) (ref := "ChiefGrades") K hin_X11 0 rfl rfl 0 (by decide) u_324 (Or.inl rfl) rfl dX11_fresh_38 ?_
        refine g_iload_n K dX11_fresh_41 rfl 3 rfl ?_
        refine g_put (v := .int x2) (ws' := cw (g_E Γ) q r (gpl F) (gu (gu o0 6 x1) 7 x2) A0 C0 h0 o1 A1 C1 h1 o2 A2 C2 h2 gs0 gA tb0 tA0 bf0 hi0) (T := TX10) (ref := "ChiefGrades$World") (ty := .int) K hin_X10 tyX10_ok nmX10 1 rfl rfl 7 (by decide) u_176 rfl rfl (by decide +kernel) rfl rfl (Nat.le_of_ble_eq_true rfl) dX11_fresh_42 rfl ?_
        refine g_iload_n K dX11_fresh_45 rfl 0 rfl ?_
        obtain rfl := Option.some.inj h
        exact hret _ _ _ _ dX11_fresh_46 rfl ⟨rfl, rfl⟩
      · have h := ht9 qh; clear ht9 hf9
        refine g_bipush (v := (-2)) K dX11_fresh_18 (by decide) ?_
        obtain rfl := Option.some.inj h
        exact hret _ _ _ _ dX11_fresh_20 rfl ⟨rfl, rfl⟩

set_option maxRecDepth 100000 in
theorem ctX11_fresh {E : gE} {q : Nat → Nat} {r : Nat → Nat → Nat} {F : gF} (hF : gFz E F) (o0 : Nat → Int32) (A0 : Nat → Nat → Int32) (C0 : Nat → Option Nat) (h0 : Nat) (o1 : Nat → Int32) (A1 : Nat → Nat → Int32) (C1 : Nat → Option Nat) (h1 : Nat) (o2 : Nat → Int32) (A2 : Nat → Nat → Int32) (C2 : Nat → Option Nat) (h2 : Nat) (gs0 : Int32) (gA : Nat → Nat → Int32) (tb0 : Int32) (tA0 bf0 : Nat → Int32) (hi0 : Int32) (x1 : Int32) (x2 : Int32) {res : Int32 × Int32 × Int32} (h : pX11_fresh (o0 6) (o0 7) x1 x2 = some res) : gMi yX11_fresh (.code yX11_fresh cX11_fresh 4 (some .int) :: gU) ({ frames := 5, cells := 0, slots := 0, locals := 171 } : Room) 0 0 E [.ref (q 5), .int x1, .int x2] (cw E q r (gpl F) o0 A0 C0 h0 o1 A1 C1 h1 o2 A2 C2 h2 gs0 gA tb0 tA0 bf0 hi0) (fun v w => v = res.1 ∧ w = cw E q r (gpl F) (gu (gu o0 6 res.2.1) 7 res.2.2) A0 C0 h0 o1 A1 C1 h1 o2 A2 C2 h2 gs0 gA tb0 tA0 bf0 hi0) := by
  refine g_met_i (by decide +kernel) (Nat.le_of_ble_eq_true rfl) (fun Γ K hn hE hRm _ hret => ?_)
  subst hE
  have hlt : ∀ i, i < 4 → i < g_n Γ := fun i q => by rw [hn]; exact q
  refine g_ws (ws' := cw (g_E Γ) q r (gpl F) (gu (gu o0 6 (o0 6)) 7 (o0 7)) A0 C0 h0 o1 A1 C1 h1 o2 A2 C2 h2 gs0 gA tb0 tA0 bf0 hi0) rfl ?_
  refine g_sub (L' := [(0, .ref (q 5)), (1, .int x1), (2, .int x2)]) [0, 1, 2] rfl ?_
  exact wX11_fresh (C0 := C0) (h0 := h0) (C1 := C1) (h1 := h1) (C2 := C2) (h2 := h2) (gs0 := gs0) (tb0 := tb0) (tA0 := tA0) (bf0 := bf0) (hi0 := hi0) hF K hlt hRm hret (o0 6) (o0 7) x1 x2 h

set_option maxHeartbeats 4000000 in
set_option maxRecDepth 100000 in
theorem wX1_gradeAll_w0_2 {Γ : gT} {q : Nat → Nat} {r : Nat → Nat → Nat} {F : gF} (hF : gFz (g_E Γ) F) {o0 : Nat → Int32} {A0 : Nat → Nat → Int32} {C0 : Nat → Option Nat} {h0 : Nat} {o1 : Nat → Int32} {A1 : Nat → Nat → Int32} {C1 : Nat → Option Nat} {h1 : Nat} {o2 : Nat → Int32} {A2 : Nat → Nat → Int32} {C2 : Nat → Option Nat} {h2 : Nat} {gs0 : Int32} {gA : Nat → Nat → Int32} {tb0 : Int32} {tA0 bf0 : Nat → Int32} {hi0 : Int32} (K : gOK Γ cX1_gradeAll gU RX1) (hlt : ∀ i, i < 4 → i < g_n Γ) (hRm : g_R Γ = ({ frames := 9, cells := 0, slots := 0, locals := 260 } : Room)) {res : Int32 × ((Nat → Int32)) × ((Nat → Int32)) × ((Nat → Int32)) × ((Nat → Int32)) × ((Nat → Int32))} (hret : ∀ (pc : Nat) (L : List (Nat × Value)) (w : va_W), decode cX1_gradeAll pc = .ok (.return_, 1) → (w = cw (g_E Γ) q r (gpl F) o0 A0 C0 h0 o1 A1 C1 h1 o2 A2 C2 h2 res.1 (gu (gu (gu (gu (gu gA 0 res.2.1) 1 res.2.2.1) 2 res.2.2.2.1) 3 res.2.2.2.2.1) 5 res.2.2.2.2.2) tb0 tA0 bf0 hi0) → gGO Γ 0 0 pc L [] w) : ∀ (n : Nat) (gs : Int32) (ga0 : (Nat → Int32)) (ga1 : (Nat → Int32)) (ga2 : (Nat → Int32)) (ga3 : (Nat → Int32)) (ga5 : (Nat → Int32)) (x2 : Int32), pX1_gradeAll_w0_2 F (o0 0) (o0 1) (o0 5) (A0 8) (A0 9) (A0 10) (A0 11) h0 C0 n gs ga0 ga1 ga2 ga3 ga5 x2 = some res → gGO Γ 0 0 2 [(0, .ref (q 3)), (1, .ref (q 0)), (2, .int x2)] [] (cw (g_E Γ) q r (gpl F) o0 A0 C0 h0 o1 A1 C1 h1 o2 A2 C2 h2 gs (gu (gu (gu (gu (gu gA 0 ga0) 1 ga1) 2 ga2) 3 ga3) 5 ga5) tb0 tA0 bf0 hi0) := by
  intro n
  induction n with
  | zero => intro _ _ _ _ _ _ _ h; cases h
  | succ n ih =>
    intro gs ga0 ga1 ga2 ga3 ga5 x2 h
    simp only [pX1_gradeAll_w0_2] at h
    refine g_iload_n K dX1_gradeAll_2 rfl 2 rfl ?_
    refine g_aload_n K dX1_gradeAll_3 rfl 1 rfl ?_
    refine g_get (v := .int (o0 1)) (T := TX10) (ref := "ChiefGrades$World") K hin_X10 1 rfl rfl 1 (by decide) u_162 (Or.inl rfl) rfl dX1_gradeAll_4 ?_
    obtain ⟨ht9, hf9⟩ := gi_br h; clear h
    refine g_icmp_ge (tgt := 33) K dX1_gradeAll_7 (by decide) (fun qh => ?_) (fun qh => ?_)
    · have h := ht9 qh; clear ht9 hf9
      obtain rfl := Option.some.inj h
      exact hret _ _ _ dX1_gradeAll_33 rfl
    · have h := hf9 qh; clear ht9 hf9
      refine g_aload_n K dX1_gradeAll_10 rfl 1 rfl ?_
      refine g_iload_n K dX1_gradeAll_11 rfl 2 rfl ?_
      obtain ⟨z_1, hz_1, h⟩ := gi_bd h
      refine g_callVq (As := [.int x2]) (bytes := cX10_chiefAt) (maxL := 2) (ret := (some (.object "ChiefGrades$Chief"))) K (ctX10_chiefAt_w0 hF o0 A0 C0 h0 o1 A1 C1 h1 o2 A2 C2 h2 gs (gu (gu (gu (gu (gu gA 0 ga0) 1 ga1) 2 ga2) 3 ga3) 5 ga5) tb0 tA0 bf0 hi0 x2 (res := z_1) hz_1) gc_V_RX1_90_X10_chiefAt rfl qv_X10_chiefAt 1 rfl rfl rfl hRm rfl rfl rfl (by decide) (Nat.le_of_ble_eq_true rfl) (by decide) dX1_gradeAll_12 (fun v w hw => ?_)
      obtain ⟨hv9, rfl⟩ := hw; have hv9 := hv9.symm; subst hv9
      rcases gi_mt h with ⟨ez, h⟩ | ⟨b_z1, ez, h⟩
      · rw [ez]
        refine g_astore_nN (L' := [(3, .null), (0, .ref (q 3)), (1, .ref (q 0)), (2, .int x2)]) K dX1_gradeAll_15 rfl (hlt _ (by decide)) rfl ?_
        refine g_aload_nN K dX1_gradeAll_16 rfl 0 rfl ?_
        refine g_ifnullN (tgt := 27) K dX1_gradeAll_17 (by decide) ?_
        refine g_iinc (v := (x2 + 1)) (L' := [(2, .int (x2 + 1)), (3, .null), (0, .ref (q 3)), (1, .ref (q 0))]) K dX1_gradeAll_27 3 rfl rfl (hlt _ (by decide)) rfl ?_
        refine g_goto (tgt := 2) K dX1_gradeAll_30 (by decide) ?_
        refine g_sub (L' := [(0, .ref (q 3)), (1, .ref (q 0)), (2, .int (x2 + 1))]) [2, 3, 0] rfl ?_
        exact ih gs ga0 ga1 ga2 ga3 ga5 (x2 + 1) h
      · rw [ez]
        refine g_astore_n (L' := [(3, .ref b_z1), (0, .ref (q 3)), (1, .ref (q 0)), (2, .int x2)]) K dX1_gradeAll_15 rfl (hlt _ (by decide)) rfl ?_
        refine g_aload_n K dX1_gradeAll_16 rfl 0 rfl ?_
        refine g_ifnull K dX1_gradeAll_17 ?_
        refine g_aload_n K dX1_gradeAll_20 rfl 1 rfl ?_
        refine g_aload_n K dX1_gradeAll_21 rfl 2 rfl ?_
        refine g_aload_n K dX1_gradeAll_22 rfl 0 rfl ?_
        obtain ⟨z_2, hz_2, h⟩ := gi_bd h
        refine g_callVi (As := [.ref (q 0), .ref b_z1]) (bytes := cX1_gradeTeam) (maxL := 3) (ret := (some .int)) K (ctX1_gradeTeam_w0 hF o0 A0 C0 h0 o1 A1 C1 h1 o2 A2 C2 h2 gs (gu (gu (gu (gu (gu gA 0 ga0) 1 ga1) 2 ga2) 3 ga3) 5 ga5) tb0 tA0 bf0 hi0 b_z1 (res := z_2) hz_2) gc_V_RX1_94_X1_gradeTeam rfl qv_X1_gradeTeam 4 rfl rfl rfl hRm rfl rfl rfl (by decide) (Nat.le_of_ble_eq_true rfl) (by decide) dX1_gradeAll_23 (fun v w hw => ?_)
        obtain ⟨hv9, rfl⟩ := hw; have hv9 := hv9.symm; subst hv9
        refine g_ws (ws' := cw (g_E Γ) q r (gpl F) o0 A0 C0 h0 o1 A1 C1 h1 o2 A2 C2 h2 z_2.2.1 (gu (gu (gu (gu (gu gA 0 z_2.2.2.1) 1 z_2.2.2.2.1) 2 z_2.2.2.2.2.1) 3 z_2.2.2.2.2.2.1) 5 z_2.2.2.2.2.2.2) tb0 tA0 bf0 hi0) rfl ?_
        refine g_pop K dX1_gradeAll_26 rfl ?_
        refine g_iinc (v := (x2 + 1)) (L' := [(2, .int (x2 + 1)), (3, .ref b_z1), (0, .ref (q 3)), (1, .ref (q 0))]) K dX1_gradeAll_27 3 rfl rfl (hlt _ (by decide)) rfl ?_
        refine g_goto (tgt := 2) K dX1_gradeAll_30 (by decide) ?_
        refine g_sub (L' := [(0, .ref (q 3)), (1, .ref (q 0)), (2, .int (x2 + 1))]) [2, 3, 0] rfl ?_
        exact ih z_2.2.1 z_2.2.2.1 z_2.2.2.2.1 z_2.2.2.2.2.1 z_2.2.2.2.2.2.1 z_2.2.2.2.2.2.2 (x2 + 1) h

set_option maxHeartbeats 4000000 in
set_option maxRecDepth 100000 in
theorem wX1_gradeAll_w0 {Γ : gT} {q : Nat → Nat} {r : Nat → Nat → Nat} {F : gF} (hF : gFz (g_E Γ) F) {o0 : Nat → Int32} {A0 : Nat → Nat → Int32} {C0 : Nat → Option Nat} {h0 : Nat} {o1 : Nat → Int32} {A1 : Nat → Nat → Int32} {C1 : Nat → Option Nat} {h1 : Nat} {o2 : Nat → Int32} {A2 : Nat → Nat → Int32} {C2 : Nat → Option Nat} {h2 : Nat} {gs0 : Int32} {gA : Nat → Nat → Int32} {tb0 : Int32} {tA0 bf0 : Nat → Int32} {hi0 : Int32} (K : gOK Γ cX1_gradeAll gU RX1) (hlt : ∀ i, i < 4 → i < g_n Γ) (hRm : g_R Γ = ({ frames := 9, cells := 0, slots := 0, locals := 260 } : Room)) {res : Int32 × ((Nat → Int32)) × ((Nat → Int32)) × ((Nat → Int32)) × ((Nat → Int32)) × ((Nat → Int32))} (hret : ∀ (pc : Nat) (L : List (Nat × Value)) (w : va_W), decode cX1_gradeAll pc = .ok (.return_, 1) → (w = cw (g_E Γ) q r (gpl F) o0 A0 C0 h0 o1 A1 C1 h1 o2 A2 C2 h2 res.1 (gu (gu (gu (gu (gu gA 0 res.2.1) 1 res.2.2.1) 2 res.2.2.2.1) 3 res.2.2.2.2.1) 5 res.2.2.2.2.2) tb0 tA0 bf0 hi0) → gGO Γ 0 0 pc L [] w) (gs : Int32) (ga0 : (Nat → Int32)) (ga1 : (Nat → Int32)) (ga2 : (Nat → Int32)) (ga3 : (Nat → Int32)) (ga5 : (Nat → Int32)) (h : pX1_gradeAll_w0 F (o0 0) (o0 1) (o0 5) (A0 8) (A0 9) (A0 10) (A0 11) h0 C0 gs ga0 ga1 ga2 ga3 ga5 = some res) : gGO Γ 0 0 0 [(0, .ref (q 3)), (1, .ref (q 0))] [] (cw (g_E Γ) q r (gpl F) o0 A0 C0 h0 o1 A1 C1 h1 o2 A2 C2 h2 gs (gu (gu (gu (gu (gu gA 0 ga0) 1 ga1) 2 ga2) 3 ga3) 5 ga5) tb0 tA0 bf0 hi0) := by
    unfold pX1_gradeAll_w0 at h
    refine g_iconst (v := 0) K dX1_gradeAll_0 (by decide) ?_
    refine g_istore_n (L' := [(2, .int 0), (0, .ref (q 3)), (1, .ref (q 0))]) K dX1_gradeAll_1 rfl (hlt _ (by decide)) rfl ?_
    refine g_sub (L' := [(0, .ref (q 3)), (1, .ref (q 0)), (2, .int 0)]) [1, 2, 0] rfl ?_
    exact wX1_gradeAll_w0_2 (C0 := C0) (h0 := h0) (C1 := C1) (h1 := h1) (C2 := C2) (h2 := h2) (gs0 := gs0) (tb0 := tb0) (tA0 := tA0) (bf0 := bf0) (hi0 := hi0) hF K hlt hRm hret 1000 gs ga0 ga1 ga2 ga3 ga5 0 h

set_option maxRecDepth 100000 in
theorem ctX1_gradeAll_w0 {E : gE} {q : Nat → Nat} {r : Nat → Nat → Nat} {F : gF} (hF : gFz E F) (o0 : Nat → Int32) (A0 : Nat → Nat → Int32) (C0 : Nat → Option Nat) (h0 : Nat) (o1 : Nat → Int32) (A1 : Nat → Nat → Int32) (C1 : Nat → Option Nat) (h1 : Nat) (o2 : Nat → Int32) (A2 : Nat → Nat → Int32) (C2 : Nat → Option Nat) (h2 : Nat) (gs0 : Int32) (gA : Nat → Nat → Int32) (tb0 : Int32) (tA0 bf0 : Nat → Int32) (hi0 : Int32) {res : Int32 × ((Nat → Int32)) × ((Nat → Int32)) × ((Nat → Int32)) × ((Nat → Int32)) × ((Nat → Int32))} (h : pX1_gradeAll_w0 F (o0 0) (o0 1) (o0 5) (A0 8) (A0 9) (A0 10) (A0 11) h0 C0 gs0 (gA 0) (gA 1) (gA 2) (gA 3) (gA 5) = some res) : gMv yX1_gradeAll (.code yX1_gradeAll cX1_gradeAll 4 none :: gU) ({ frames := 9, cells := 0, slots := 0, locals := 260 } : Room) 0 0 E [.ref (q 3), .ref (q 0)] (cw E q r (gpl F) o0 A0 C0 h0 o1 A1 C1 h1 o2 A2 C2 h2 gs0 gA tb0 tA0 bf0 hi0) (fun w => w = cw E q r (gpl F) o0 A0 C0 h0 o1 A1 C1 h1 o2 A2 C2 h2 res.1 (gu (gu (gu (gu (gu gA 0 res.2.1) 1 res.2.2.1) 2 res.2.2.2.1) 3 res.2.2.2.2.1) 5 res.2.2.2.2.2) tb0 tA0 bf0 hi0) := by
  refine g_met_v (by decide +kernel) (Nat.le_of_ble_eq_true rfl) (fun Γ K hn hE hRm _ hret => ?_)
  subst hE
  have hlt : ∀ i, i < 4 → i < g_n Γ := fun i q => by rw [hn]; exact q
  refine g_ws (ws' := cw (g_E Γ) q r (gpl F) o0 A0 C0 h0 o1 A1 C1 h1 o2 A2 C2 h2 gs0 (gu (gu (gu (gu (gu gA 0 (gA 0)) 1 (gA 1)) 2 (gA 2)) 3 (gA 3)) 5 (gA 5)) tb0 tA0 bf0 hi0) rfl ?_
  refine g_sub (L' := [(0, .ref (q 3)), (1, .ref (q 0))]) [0, 1] rfl ?_
  exact wX1_gradeAll_w0 (C0 := C0) (h0 := h0) (C1 := C1) (h1 := h1) (C2 := C2) (h2 := h2) (gs0 := gs0) (tb0 := tb0) (tA0 := tA0) (bf0 := bf0) (hi0 := hi0) hF K hlt hRm hret gs0 (gA 0) (gA 1) (gA 2) (gA 3) (gA 5) h

set_option maxHeartbeats 4000000 in
set_option maxRecDepth 100000 in
theorem wX11_wrong_111 {Γ : gT} {q : Nat → Nat} {r : Nat → Nat → Nat} {F : gF} (hF : gFz (g_E Γ) F) {o0 : Nat → Int32} {A0 : Nat → Nat → Int32} {C0 : Nat → Option Nat} {h0 : Nat} {o1 : Nat → Int32} {A1 : Nat → Nat → Int32} {C1 : Nat → Option Nat} {h1 : Nat} {o2 : Nat → Int32} {A2 : Nat → Nat → Int32} {C2 : Nat → Option Nat} {h2 : Nat} {gs0 : Int32} {gA : Nat → Nat → Int32} {tb0 : Int32} {tA0 bf0 : Nat → Int32} {hi0 : Int32} (K : gOK Γ cX11_wrong gU RX11) (hlt : ∀ i, i < 7 → i < g_n Γ) (hRm : g_R Γ = ({ frames := 10, cells := 0, slots := 0, locals := 283 } : Room)) {res : Int32 × Int32 × ((Nat → Int32)) × ((Nat → Int32)) × ((Nat → Int32)) × ((Nat → Int32)) × ((Nat → Int32)) × ((Nat → Int32))} (hret : ∀ (pc : Nat) (L : List (Nat × Value)) (v : Int32) (w : va_W), decode cX11_wrong pc = .ok (.ireturn, 1) → narrow .int (.int v) = .int v → (v = res.1 ∧ w = cw (g_E Γ) q r (gpl F) o0 A0 C0 h0 o1 A1 C1 h1 o2 A2 C2 h2 res.2.1 (gu (gu (gu (gu (gu gA 0 res.2.2.1) 1 res.2.2.2.1) 2 res.2.2.2.2.1) 3 res.2.2.2.2.2.1) 5 res.2.2.2.2.2.2.1) tb0 tA0 res.2.2.2.2.2.2.2 hi0) → gGO Γ 0 0 pc L [.int v] w) {k61 : Int32 → (Nat → Int32) → (Nat → Int32) → (Nat → Int32) → (Nat → Int32) → (Nat → Int32) → (Nat → Int32) → Int32 → Int32 → Int32 → Int32 → Int32 → Option (Int32 × Int32 × ((Nat → Int32)) × ((Nat → Int32)) × ((Nat → Int32)) × ((Nat → Int32)) × ((Nat → Int32)) × ((Nat → Int32)))} (hk61 : ∀ (gs : Int32) (ga0 : (Nat → Int32)) (ga1 : (Nat → Int32)) (ga2 : (Nat → Int32)) (ga3 : (Nat → Int32)) (ga5 : (Nat → Int32)) (bf : (Nat → Int32)) (x1 : Int32) (x2 : Int32) (x3 : Int32) (x4 : Int32) (x5 : Int32), k61 gs ga0 ga1 ga2 ga3 ga5 bf x1 x2 x3 x4 x5 = some res → gGO Γ 0 0 61 [(0, .ref (q 5)), (1, .int x1), (2, .int x2), (3, .int x3), (4, .int x4), (5, .int x5)] [] (cw (g_E Γ) q r (gpl F) o0 A0 C0 h0 o1 A1 C1 h1 o2 A2 C2 h2 gs (gu (gu (gu (gu (gu gA 0 ga0) 1 ga1) 2 ga2) 3 ga3) 5 ga5) tb0 tA0 bf hi0)) (gs : Int32) (ga0 : (Nat → Int32)) (ga1 : (Nat → Int32)) (ga2 : (Nat → Int32)) (ga3 : (Nat → Int32)) (ga5 : (Nat → Int32)) (bf : (Nat → Int32)) (x1 : Int32) (x2 : Int32) (x3 : Int32) (x4 : Int32) (x5 : Int32) (x6 : Int32) (h : pX11_wrong_111 F k61 (o0 0) (o0 1) (o0 5) (A0 8) (A0 9) (A0 10) (A0 11) h0 C0 gs ga0 ga1 ga2 ga3 ga5 bf x1 x2 x3 x4 x5 x6 = some res) : gGO Γ 0 0 111 [(0, .ref (q 5)), (1, .int x1), (2, .int x2), (3, .int x3), (4, .int x4), (5, .int x5), (6, .int x6)] [] (cw (g_E Γ) q r (gpl F) o0 A0 C0 h0 o1 A1 C1 h1 o2 A2 C2 h2 gs (gu (gu (gu (gu (gu gA 0 ga0) 1 ga1) 2 ga2) 3 ga3) 5 ga5) tb0 tA0 bf hi0) := by
    unfold pX11_wrong_111 at h
    refine g_iload K dX11_wrong_111 6 rfl ?_
    refine g_aload_n K dX11_wrong_113 rfl 0 rfl ?_
    refine g_get (v := .ref (r 5 5)) (T := TX11) (ref := "ChiefGrades") K hin_X11 0 rfl rfl 5 (by decide) u_329 (Or.inl rfl) rfl dX11_wrong_114 ?_
    refine g_iload K dX11_wrong_117 5 rfl ?_
    obtain ⟨b_1, h⟩ := gi_none h
    refine g_iald (f := bf) K 42 rfl (ginb_in b_1) dX11_wrong_119 ?_
    obtain ⟨ht9, hf9⟩ := gi_br h; clear h
    refine g_icmp_ge (tgt := 130) K dX11_wrong_120 (by decide) (fun qh => ?_) (fun qh => ?_)
    · have h := ht9 qh; clear ht9 hf9
      refine g_iload K dX11_wrong_130 4 rfl ?_
      refine g_iload K dX11_wrong_132 6 rfl ?_
      refine g_iadd K dX11_wrong_134 ?_
      obtain ⟨v_2, ev_2, h⟩ := gi_nm h
      refine g_topi ev_2 ?_
      refine g_istore (L' := [(4, .int v_2), (0, .ref (q 5)), (1, .int x1), (2, .int x2), (3, .int x3), (5, .int x5), (6, .int x6)]) K dX11_wrong_135 (hlt _ (by decide)) rfl ?_
      refine g_iinc (v := (x5 + 1)) (L' := [(5, .int (x5 + 1)), (4, .int v_2), (0, .ref (q 5)), (1, .int x1), (2, .int x2), (3, .int x3), (6, .int x6)]) K dX11_wrong_137 5 rfl rfl (hlt _ (by decide)) rfl ?_
      refine g_goto (tgt := 61) K dX11_wrong_140 (by decide) ?_
      refine g_sub (L' := [(0, .ref (q 5)), (1, .int x1), (2, .int x2), (3, .int x3), (4, .int v_2), (5, .int (x5 + 1))]) [2, 3, 4, 5, 1, 0] rfl ?_
      exact hk61 gs ga0 ga1 ga2 ga3 ga5 bf x1 x2 x3 v_2 (x5 + 1) h
    · have h := hf9 qh; clear ht9 hf9
      refine g_iload_n K dX11_wrong_123 rfl 3 rfl ?_
      refine g_iconst (v := 1) K dX11_wrong_124 (by decide) ?_
      refine g_iload K dX11_wrong_125 5 rfl ?_
      refine g_ishl K dX11_wrong_127 ?_
      refine g_ior K dX11_wrong_128 ?_
      obtain ⟨v_3, ev_3, h⟩ := gi_nm h
      refine g_topi ev_3 ?_
      refine g_istore_n (L' := [(3, .int v_3), (0, .ref (q 5)), (1, .int x1), (2, .int x2), (4, .int x4), (5, .int x5), (6, .int x6)]) K dX11_wrong_129 rfl (hlt _ (by decide)) rfl ?_
      refine g_iload K dX11_wrong_130 4 rfl ?_
      refine g_iload K dX11_wrong_132 6 rfl ?_
      refine g_iadd K dX11_wrong_134 ?_
      obtain ⟨v_4, ev_4, h⟩ := gi_nm h
      refine g_topi ev_4 ?_
      refine g_istore (L' := [(4, .int v_4), (3, .int v_3), (0, .ref (q 5)), (1, .int x1), (2, .int x2), (5, .int x5), (6, .int x6)]) K dX11_wrong_135 (hlt _ (by decide)) rfl ?_
      refine g_iinc (v := (x5 + 1)) (L' := [(5, .int (x5 + 1)), (4, .int v_4), (3, .int v_3), (0, .ref (q 5)), (1, .int x1), (2, .int x2), (6, .int x6)]) K dX11_wrong_137 5 rfl rfl (hlt _ (by decide)) rfl ?_
      refine g_goto (tgt := 61) K dX11_wrong_140 (by decide) ?_
      refine g_sub (L' := [(0, .ref (q 5)), (1, .int x1), (2, .int x2), (3, .int v_3), (4, .int v_4), (5, .int (x5 + 1))]) [3, 4, 5, 2, 1, 0] rfl ?_
      exact hk61 gs ga0 ga1 ga2 ga3 ga5 bf x1 x2 v_3 v_4 (x5 + 1) h

set_option maxHeartbeats 4000000 in
set_option maxRecDepth 100000 in
theorem wX11_wrong_61 {Γ : gT} {q : Nat → Nat} {r : Nat → Nat → Nat} {F : gF} (hF : gFz (g_E Γ) F) {o0 : Nat → Int32} {A0 : Nat → Nat → Int32} {C0 : Nat → Option Nat} {h0 : Nat} {o1 : Nat → Int32} {A1 : Nat → Nat → Int32} {C1 : Nat → Option Nat} {h1 : Nat} {o2 : Nat → Int32} {A2 : Nat → Nat → Int32} {C2 : Nat → Option Nat} {h2 : Nat} {gs0 : Int32} {gA : Nat → Nat → Int32} {tb0 : Int32} {tA0 bf0 : Nat → Int32} {hi0 : Int32} (K : gOK Γ cX11_wrong gU RX11) (hlt : ∀ i, i < 7 → i < g_n Γ) (hRm : g_R Γ = ({ frames := 10, cells := 0, slots := 0, locals := 283 } : Room)) {res : Int32 × Int32 × ((Nat → Int32)) × ((Nat → Int32)) × ((Nat → Int32)) × ((Nat → Int32)) × ((Nat → Int32)) × ((Nat → Int32))} (hret : ∀ (pc : Nat) (L : List (Nat × Value)) (v : Int32) (w : va_W), decode cX11_wrong pc = .ok (.ireturn, 1) → narrow .int (.int v) = .int v → (v = res.1 ∧ w = cw (g_E Γ) q r (gpl F) o0 A0 C0 h0 o1 A1 C1 h1 o2 A2 C2 h2 res.2.1 (gu (gu (gu (gu (gu gA 0 res.2.2.1) 1 res.2.2.2.1) 2 res.2.2.2.2.1) 3 res.2.2.2.2.2.1) 5 res.2.2.2.2.2.2.1) tb0 tA0 res.2.2.2.2.2.2.2 hi0) → gGO Γ 0 0 pc L [.int v] w) : ∀ (n : Nat) (gs : Int32) (ga0 : (Nat → Int32)) (ga1 : (Nat → Int32)) (ga2 : (Nat → Int32)) (ga3 : (Nat → Int32)) (ga5 : (Nat → Int32)) (bf : (Nat → Int32)) (x1 : Int32) (x2 : Int32) (x3 : Int32) (x4 : Int32) (x5 : Int32), pX11_wrong_61 F (o0 0) (o0 1) (o0 5) (A0 8) (A0 9) (A0 10) (A0 11) h0 C0 n gs ga0 ga1 ga2 ga3 ga5 bf x1 x2 x3 x4 x5 = some res → gGO Γ 0 0 61 [(0, .ref (q 5)), (1, .int x1), (2, .int x2), (3, .int x3), (4, .int x4), (5, .int x5)] [] (cw (g_E Γ) q r (gpl F) o0 A0 C0 h0 o1 A1 C1 h1 o2 A2 C2 h2 gs (gu (gu (gu (gu (gu gA 0 ga0) 1 ga1) 2 ga2) 3 ga3) 5 ga5) tb0 tA0 bf hi0) := by
  intro n
  induction n with
  | zero => intro _ _ _ _ _ _ _ _ _ _ _ _ h; cases h
  | succ n ih =>
    intro gs ga0 ga1 ga2 ga3 ga5 bf x1 x2 x3 x4 x5 h
    simp only [pX11_wrong_61] at h
    refine g_iload K dX11_wrong_61 5 rfl ?_
    refine g_aload_n K dX11_wrong_63 rfl 0 rfl ?_
    refine g_get (v := .ref (q 0)) (T := TX11) (ref := "ChiefGrades") K hin_X11 0 rfl rfl 0 (by decide) u_324 (Or.inl rfl) rfl dX11_wrong_64 ?_
    refine g_get (v := .int (o0 0)) (T := TX10) (ref := "ChiefGrades$World") K hin_X10 1 rfl rfl 0 (by decide) u_160 (Or.inl rfl) rfl dX11_wrong_67 ?_
    obtain ⟨ht9, hf9⟩ := gi_br h; clear h
    refine g_icmp_ge (tgt := 143) K dX11_wrong_70 (by decide) (fun qh => ?_) (fun qh => ?_)
    · have h := ht9 qh; clear ht9 hf9
      refine g_iload_n K dX11_wrong_143 rfl 1 rfl ?_
      obtain ⟨ht9, hf9⟩ := gi_br h; clear h
      refine g_if_ne (tgt := 151) K dX11_wrong_144 (by decide) (fun qh => ?_) (fun qh => ?_)
      · have h := hf9 qh; clear ht9 hf9
        refine g_iload_n K dX11_wrong_151 rfl 1 rfl ?_
        refine g_iconst (v := 1) K dX11_wrong_152 (by decide) ?_
        obtain ⟨ht9, hf9⟩ := gi_br h; clear h
        refine g_icmp_ne (tgt := 160) K dX11_wrong_153 (by decide) (fun qh => ?_) (fun qh => ?_)
        · have h := hf9 qh; clear ht9 hf9
          refine g_iload K dX11_wrong_160 4 rfl ?_
          obtain rfl := Option.some.inj h
          exact hret _ _ _ _ dX11_wrong_162 rfl ⟨rfl, rfl⟩
        · have h := ht9 qh; clear ht9 hf9
          refine g_iload_n K dX11_wrong_156 rfl 3 rfl ?_
          refine g_goto (tgt := 162) K dX11_wrong_157 (by decide) ?_
          obtain rfl := Option.some.inj h
          exact hret _ _ _ _ dX11_wrong_162 rfl ⟨rfl, rfl⟩
      · have h := ht9 qh; clear ht9 hf9
        refine g_iload_n K dX11_wrong_147 rfl 2 rfl ?_
        refine g_goto (tgt := 162) K dX11_wrong_148 (by decide) ?_
        obtain rfl := Option.some.inj h
        exact hret _ _ _ _ dX11_wrong_162 rfl ⟨rfl, rfl⟩
    · have h := hf9 qh; clear ht9 hf9
      refine g_iload K dX11_wrong_73 5 rfl ?_
      refine g_bipush (v := 10) K dX11_wrong_75 (by decide) ?_
      obtain ⟨ht9, hf9⟩ := gi_br h; clear h
      refine g_icmp_ge (tgt := 143) K dX11_wrong_77 (by decide) (fun qh => ?_) (fun qh => ?_)
      · have h := ht9 qh; clear ht9 hf9
        refine g_iload_n K dX11_wrong_143 rfl 1 rfl ?_
        obtain ⟨ht9, hf9⟩ := gi_br h; clear h
        refine g_if_ne (tgt := 151) K dX11_wrong_144 (by decide) (fun qh => ?_) (fun qh => ?_)
        · have h := hf9 qh; clear ht9 hf9
          refine g_iload_n K dX11_wrong_151 rfl 1 rfl ?_
          refine g_iconst (v := 1) K dX11_wrong_152 (by decide) ?_
          obtain ⟨ht9, hf9⟩ := gi_br h; clear h
          refine g_icmp_ne (tgt := 160) K dX11_wrong_153 (by decide) (fun qh => ?_) (fun qh => ?_)
          · have h := hf9 qh; clear ht9 hf9
            refine g_iload K dX11_wrong_160 4 rfl ?_
            obtain rfl := Option.some.inj h
            exact hret _ _ _ _ dX11_wrong_162 rfl ⟨rfl, rfl⟩
          · have h := ht9 qh; clear ht9 hf9
            refine g_iload_n K dX11_wrong_156 rfl 3 rfl ?_
            refine g_goto (tgt := 162) K dX11_wrong_157 (by decide) ?_
            obtain rfl := Option.some.inj h
            exact hret _ _ _ _ dX11_wrong_162 rfl ⟨rfl, rfl⟩
        · have h := ht9 qh; clear ht9 hf9
          refine g_iload_n K dX11_wrong_147 rfl 2 rfl ?_
          refine g_goto (tgt := 162) K dX11_wrong_148 (by decide) ?_
          obtain rfl := Option.some.inj h
          exact hret _ _ _ _ dX11_wrong_162 rfl ⟨rfl, rfl⟩
      · have h := hf9 qh; clear ht9 hf9
        refine g_aload_n K dX11_wrong_80 rfl 0 rfl ?_
        refine g_get (v := .ref (q 3)) (T := TX11) (ref := "ChiefGrades") K hin_X11 0 rfl rfl 3 (by decide) u_327 (Or.inl rfl) rfl dX11_wrong_81 ?_
        refine g_get (v := .ref (r 3 0)) (T := TX1) (ref := "ChiefGrades$Grader") K hin_X1 4 rfl rfl 0 (by decide) u_287 (Or.inl rfl) rfl dX11_wrong_84 ?_
        refine g_iload K dX11_wrong_87 5 rfl ?_
        obtain ⟨b_1, h⟩ := gi_none h
        refine g_iald (f := ga0) K 36 rfl (ginb_in b_1) dX11_wrong_89 ?_
        obtain ⟨v_2, ev_2, h⟩ := gi_nm h
        refine g_topi ev_2 ?_
        refine g_istore (L' := [(6, .int v_2), (0, .ref (q 5)), (1, .int x1), (2, .int x2), (3, .int x3), (4, .int x4), (5, .int x5)]) K dX11_wrong_90 (hlt _ (by decide)) rfl ?_
        refine g_iload K dX11_wrong_92 0 rfl ?_
        refine g_aload_n K dX11_wrong_94 rfl 1 rfl ?_
        refine g_get (v := .ref (r 5 5)) (T := TX11) (ref := "ChiefGrades") K hin_X11 0 rfl rfl 5 (by decide) u_329 (Or.inl rfl) rfl dX11_wrong_95 ?_
        refine g_iload K dX11_wrong_98 6 rfl ?_
        obtain ⟨b_3, h⟩ := gi_none h
        refine g_iald (f := bf) K 42 rfl (ginb_in b_3) dX11_wrong_100 ?_
        obtain ⟨ht9, hf9⟩ := gi_br h; clear h
        refine g_icmp_eq (tgt := 111) K dX11_wrong_101 (by decide) (fun qh => ?_) (fun qh => ?_)
        · have h := ht9 qh; clear ht9 hf9
          refine g_sub (L' := [(0, .ref (q 5)), (1, .int x1), (2, .int x2), (3, .int x3), (4, .int x4), (5, .int x5), (6, .int v_2)]) [1, 2, 3, 4, 5, 6, 0] rfl ?_
          exact wX11_wrong_111 (C0 := C0) (h0 := h0) (C1 := C1) (h1 := h1) (C2 := C2) (h2 := h2) (gs0 := gs0) (tb0 := tb0) (tA0 := tA0) (bf0 := bf0) (hi0 := hi0) hF K hlt hRm hret ih gs ga0 ga1 ga2 ga3 ga5 bf x1 x2 x3 x4 x5 v_2 h
        · have h := hf9 qh; clear ht9 hf9
          refine g_iload_n K dX11_wrong_104 rfl 3 rfl ?_
          refine g_iconst (v := 1) K dX11_wrong_105 (by decide) ?_
          refine g_iload K dX11_wrong_106 6 rfl ?_
          refine g_ishl K dX11_wrong_108 ?_
          refine g_ior K dX11_wrong_109 ?_
          obtain ⟨v_4, ev_4, h⟩ := gi_nm h
          refine g_topi ev_4 ?_
          refine g_istore_n (L' := [(2, .int v_4), (6, .int v_2), (0, .ref (q 5)), (1, .int x1), (3, .int x3), (4, .int x4), (5, .int x5)]) K dX11_wrong_110 rfl (hlt _ (by decide)) rfl ?_
          refine g_sub (L' := [(0, .ref (q 5)), (1, .int x1), (2, .int v_4), (3, .int x3), (4, .int x4), (5, .int x5), (6, .int v_2)]) [2, 3, 0, 4, 5, 6, 1] rfl ?_
          exact wX11_wrong_111 (C0 := C0) (h0 := h0) (C1 := C1) (h1 := h1) (C2 := C2) (h2 := h2) (gs0 := gs0) (tb0 := tb0) (tA0 := tA0) (bf0 := bf0) (hi0 := hi0) hF K hlt hRm hret ih gs ga0 ga1 ga2 ga3 ga5 bf x1 v_4 x3 x4 x5 v_2 h

set_option maxHeartbeats 4000000 in
set_option maxRecDepth 100000 in
theorem wX11_wrong {Γ : gT} {q : Nat → Nat} {r : Nat → Nat → Nat} {F : gF} (hF : gFz (g_E Γ) F) {o0 : Nat → Int32} {A0 : Nat → Nat → Int32} {C0 : Nat → Option Nat} {h0 : Nat} {o1 : Nat → Int32} {A1 : Nat → Nat → Int32} {C1 : Nat → Option Nat} {h1 : Nat} {o2 : Nat → Int32} {A2 : Nat → Nat → Int32} {C2 : Nat → Option Nat} {h2 : Nat} {gs0 : Int32} {gA : Nat → Nat → Int32} {tb0 : Int32} {tA0 bf0 : Nat → Int32} {hi0 : Int32} (K : gOK Γ cX11_wrong gU RX11) (hlt : ∀ i, i < 7 → i < g_n Γ) (hRm : g_R Γ = ({ frames := 10, cells := 0, slots := 0, locals := 283 } : Room)) {res : Int32 × Int32 × ((Nat → Int32)) × ((Nat → Int32)) × ((Nat → Int32)) × ((Nat → Int32)) × ((Nat → Int32)) × ((Nat → Int32))} (hret : ∀ (pc : Nat) (L : List (Nat × Value)) (v : Int32) (w : va_W), decode cX11_wrong pc = .ok (.ireturn, 1) → narrow .int (.int v) = .int v → (v = res.1 ∧ w = cw (g_E Γ) q r (gpl F) o0 A0 C0 h0 o1 A1 C1 h1 o2 A2 C2 h2 res.2.1 (gu (gu (gu (gu (gu gA 0 res.2.2.1) 1 res.2.2.2.1) 2 res.2.2.2.2.1) 3 res.2.2.2.2.2.1) 5 res.2.2.2.2.2.2.1) tb0 tA0 res.2.2.2.2.2.2.2 hi0) → gGO Γ 0 0 pc L [.int v] w) (gs : Int32) (ga0 : (Nat → Int32)) (ga1 : (Nat → Int32)) (ga2 : (Nat → Int32)) (ga3 : (Nat → Int32)) (ga5 : (Nat → Int32)) (bf : (Nat → Int32)) (x1 : Int32) (h : pX11_wrong F (o0 0) (o0 1) (o0 5) (A0 8) (A0 9) (A0 10) (A0 11) h0 C0 gs ga0 ga1 ga2 ga3 ga5 bf x1 = some res) : gGO Γ 0 0 0 [(0, .ref (q 5)), (1, .int x1)] [] (cw (g_E Γ) q r (gpl F) o0 A0 C0 h0 o1 A1 C1 h1 o2 A2 C2 h2 gs (gu (gu (gu (gu (gu gA 0 ga0) 1 ga1) 2 ga2) 3 ga3) 5 ga5) tb0 tA0 bf hi0) := by
    unfold pX11_wrong at h
    refine g_iload_n K dX11_wrong_0 rfl 1 rfl ?_
    obtain ⟨ht9, hf9⟩ := gi_br h; clear h
    refine g_if_lt (tgt := 9) K dX11_wrong_1 (by decide) (fun qh => ?_) (fun qh => ?_)
    · have h := ht9 qh; clear ht9 hf9
      refine g_iconst (v := (-1)) K dX11_wrong_9 (by decide) ?_
      obtain rfl := Option.some.inj h
      exact hret _ _ _ _ dX11_wrong_10 rfl ⟨rfl, rfl⟩
    · have h := hf9 qh; clear ht9 hf9
      refine g_iload_n K dX11_wrong_4 rfl 1 rfl ?_
      refine g_iconst (v := 2) K dX11_wrong_5 (by decide) ?_
      obtain ⟨ht9, hf9⟩ := gi_br h; clear h
      refine g_icmp_le (tgt := 11) K dX11_wrong_6 (by decide) (fun qh => ?_) (fun qh => ?_)
      · have h := ht9 qh; clear ht9 hf9
        refine g_aload_n K dX11_wrong_11 rfl 0 rfl ?_
        refine g_get (v := .ref (q 3)) (T := TX11) (ref := "ChiefGrades") K hin_X11 0 rfl rfl 3 (by decide) u_327 (Or.inl rfl) rfl dX11_wrong_12 ?_
        refine g_aload_n K dX11_wrong_15 rfl 0 rfl ?_
        refine g_get (v := .ref (q 0)) (T := TX11) (ref := "ChiefGrades") K hin_X11 0 rfl rfl 0 (by decide) u_324 (Or.inl rfl) rfl dX11_wrong_16 ?_
        obtain ⟨z_1, hz_1, h⟩ := gi_bd h
        refine g_callVv (As := [.ref (q 0)]) (bytes := cX1_gradeDue) (maxL := 3) (ret := none) K (ctX1_gradeDue_w0 hF o0 A0 C0 h0 o1 A1 C1 h1 o2 A2 C2 h2 gs (gu (gu (gu (gu (gu gA 0 ga0) 1 ga1) 2 ga2) 3 ga3) 5 ga5) tb0 tA0 bf hi0 (res := z_1) hz_1) gc_V_RX11_134_X1_gradeDue rfl qv_X1_gradeDue 4 rfl rfl rfl hRm rfl rfl rfl (by decide) (Nat.le_of_ble_eq_true rfl) (by decide) dX11_wrong_19 (fun w hw => ?_)
        subst hw
        refine g_ws (ws' := cw (g_E Γ) q r (gpl F) o0 A0 C0 h0 o1 A1 C1 h1 o2 A2 C2 h2 z_1.1 (gu (gu (gu (gu (gu gA 0 z_1.2.1) 1 z_1.2.2.1) 2 z_1.2.2.2.1) 3 z_1.2.2.2.2) 5 ga5) tb0 tA0 bf hi0) rfl ?_
        refine g_aload_n K dX11_wrong_22 rfl 0 rfl ?_
        refine g_get (v := .ref (q 3)) (T := TX11) (ref := "ChiefGrades") K hin_X11 0 rfl rfl 3 (by decide) u_327 (Or.inl rfl) rfl dX11_wrong_23 ?_
        refine g_get (v := .ref (r 3 0)) (T := TX1) (ref := "ChiefGrades$Grader") K hin_X1 4 rfl rfl 0 (by decide) u_287 (Or.inl rfl) rfl dX11_wrong_26 ?_
        refine g_iconst (v := 0) K dX11_wrong_29 (by decide) ?_
        refine g_aload_n K dX11_wrong_30 rfl 0 rfl ?_
        refine g_get (v := .ref (r 5 5)) (T := TX11) (ref := "ChiefGrades") K hin_X11 0 rfl rfl 5 (by decide) u_329 (Or.inl rfl) rfl dX11_wrong_31 ?_
        refine g_iconst (v := 0) K dX11_wrong_34 (by decide) ?_
        refine g_bipush (v := 10) K dX11_wrong_35 (by decide) ?_
        obtain ⟨f_2, ef_2, h⟩ := gi_nm h
        refine g_copy (f := z_1.2.1) (g := bf) (n := 10) (ws' := cw (g_E Γ) q r (gpl F) o0 A0 C0 h0 o1 A1 C1 h1 o2 A2 C2 h2 z_1.1 (gu (gu (gu (gu (gu gA 0 z_1.2.1) 1 z_1.2.2.1) 2 z_1.2.2.2.1) 3 z_1.2.2.2.2) 5 ga5) tb0 tA0 f_2 hi0) K 36 42 rfl rfl 0 rfl rfl (by decide) (by decide) (by decide) (by decide) (fun _ _ => rfl) u_746 u_748 u_747 u_88 hRm ⟨by decide, Nat.le_of_ble_eq_true rfl⟩ dX11_wrong_37 (by rw [ef_2]; rfl) ?_
        refine g_aload_n K dX11_wrong_40 rfl 0 rfl ?_
        refine g_get (v := .ref (q 3)) (T := TX11) (ref := "ChiefGrades") K hin_X11 0 rfl rfl 3 (by decide) u_327 (Or.inl rfl) rfl dX11_wrong_41 ?_
        refine g_aload_n K dX11_wrong_44 rfl 0 rfl ?_
        refine g_get (v := .ref (q 0)) (T := TX11) (ref := "ChiefGrades") K hin_X11 0 rfl rfl 0 (by decide) u_324 (Or.inl rfl) rfl dX11_wrong_45 ?_
        obtain ⟨z_3, hz_3, h⟩ := gi_bd h
        refine g_callVv (As := [.ref (q 0)]) (bytes := cX1_gradeAll) (maxL := 4) (ret := none) K (ctX1_gradeAll_w0 hF o0 A0 C0 h0 o1 A1 C1 h1 o2 A2 C2 h2 z_1.1 (gu (gu (gu (gu (gu gA 0 z_1.2.1) 1 z_1.2.2.1) 2 z_1.2.2.2.1) 3 z_1.2.2.2.2) 5 ga5) tb0 tA0 f_2 hi0 (res := z_3) hz_3) gc_V_RX11_171_X1_gradeAll rfl qv_X1_gradeAll 4 rfl rfl rfl hRm rfl rfl rfl (by decide) (Nat.le_of_ble_eq_true rfl) (by decide) dX11_wrong_48 (fun w hw => ?_)
        subst hw
        refine g_ws (ws' := cw (g_E Γ) q r (gpl F) o0 A0 C0 h0 o1 A1 C1 h1 o2 A2 C2 h2 z_3.1 (gu (gu (gu (gu (gu gA 0 z_3.2.1) 1 z_3.2.2.1) 2 z_3.2.2.2.1) 3 z_3.2.2.2.2.1) 5 z_3.2.2.2.2.2) tb0 tA0 f_2 hi0) rfl ?_
        refine g_iconst (v := 0) K dX11_wrong_51 (by decide) ?_
        refine g_istore_n (L' := [(2, .int 0), (0, .ref (q 5)), (1, .int x1)]) K dX11_wrong_52 rfl (hlt _ (by decide)) rfl ?_
        refine g_iconst (v := 0) K dX11_wrong_53 (by decide) ?_
        refine g_istore_n (L' := [(3, .int 0), (2, .int 0), (0, .ref (q 5)), (1, .int x1)]) K dX11_wrong_54 rfl (hlt _ (by decide)) rfl ?_
        refine g_iconst (v := 0) K dX11_wrong_55 (by decide) ?_
        refine g_istore (L' := [(4, .int 0), (3, .int 0), (2, .int 0), (0, .ref (q 5)), (1, .int x1)]) K dX11_wrong_56 (hlt _ (by decide)) rfl ?_
        refine g_iconst (v := 0) K dX11_wrong_58 (by decide) ?_
        refine g_istore (L' := [(5, .int 0), (4, .int 0), (3, .int 0), (2, .int 0), (0, .ref (q 5)), (1, .int x1)]) K dX11_wrong_59 (hlt _ (by decide)) rfl ?_
        refine g_sub (L' := [(0, .ref (q 5)), (1, .int x1), (2, .int 0), (3, .int 0), (4, .int 0), (5, .int 0)]) [4, 5, 3, 2, 1, 0] rfl ?_
        exact wX11_wrong_61 (C0 := C0) (h0 := h0) (C1 := C1) (h1 := h1) (C2 := C2) (h2 := h2) (gs0 := gs0) (tb0 := tb0) (tA0 := tA0) (bf0 := bf0) (hi0 := hi0) hF K hlt hRm hret 1000 z_3.1 z_3.2.1 z_3.2.2.1 z_3.2.2.2.1 z_3.2.2.2.2.1 z_3.2.2.2.2.2 f_2 x1 0 0 0 0 h
      · have h := hf9 qh; clear ht9 hf9
        refine g_iconst (v := (-1)) K dX11_wrong_9 (by decide) ?_
        obtain rfl := Option.some.inj h
        exact hret _ _ _ _ dX11_wrong_10 rfl ⟨rfl, rfl⟩

set_option maxRecDepth 100000 in
theorem ctX11_wrong {E : gE} {q : Nat → Nat} {r : Nat → Nat → Nat} {F : gF} (hF : gFz E F) (o0 : Nat → Int32) (A0 : Nat → Nat → Int32) (C0 : Nat → Option Nat) (h0 : Nat) (o1 : Nat → Int32) (A1 : Nat → Nat → Int32) (C1 : Nat → Option Nat) (h1 : Nat) (o2 : Nat → Int32) (A2 : Nat → Nat → Int32) (C2 : Nat → Option Nat) (h2 : Nat) (gs0 : Int32) (gA : Nat → Nat → Int32) (tb0 : Int32) (tA0 bf0 : Nat → Int32) (hi0 : Int32) (x1 : Int32) {res : Int32 × Int32 × ((Nat → Int32)) × ((Nat → Int32)) × ((Nat → Int32)) × ((Nat → Int32)) × ((Nat → Int32)) × ((Nat → Int32))} (h : pX11_wrong F (o0 0) (o0 1) (o0 5) (A0 8) (A0 9) (A0 10) (A0 11) h0 C0 gs0 (gA 0) (gA 1) (gA 2) (gA 3) (gA 5) bf0 x1 = some res) : gMi yX11_wrong (.code yX11_wrong cX11_wrong 7 (some .int) :: gU) ({ frames := 10, cells := 0, slots := 0, locals := 283 } : Room) 0 0 E [.ref (q 5), .int x1] (cw E q r (gpl F) o0 A0 C0 h0 o1 A1 C1 h1 o2 A2 C2 h2 gs0 gA tb0 tA0 bf0 hi0) (fun v w => v = res.1 ∧ w = cw E q r (gpl F) o0 A0 C0 h0 o1 A1 C1 h1 o2 A2 C2 h2 res.2.1 (gu (gu (gu (gu (gu gA 0 res.2.2.1) 1 res.2.2.2.1) 2 res.2.2.2.2.1) 3 res.2.2.2.2.2.1) 5 res.2.2.2.2.2.2.1) tb0 tA0 res.2.2.2.2.2.2.2 hi0) := by
  refine g_met_i (by decide +kernel) (Nat.le_of_ble_eq_true rfl) (fun Γ K hn hE hRm _ hret => ?_)
  subst hE
  have hlt : ∀ i, i < 7 → i < g_n Γ := fun i q => by rw [hn]; exact q
  refine g_ws (ws' := cw (g_E Γ) q r (gpl F) o0 A0 C0 h0 o1 A1 C1 h1 o2 A2 C2 h2 gs0 (gu (gu (gu (gu (gu gA 0 (gA 0)) 1 (gA 1)) 2 (gA 2)) 3 (gA 3)) 5 (gA 5)) tb0 tA0 bf0 hi0) rfl ?_
  refine g_sub (L' := [(0, .ref (q 5)), (1, .int x1)]) [0, 1] rfl ?_
  exact wX11_wrong (C0 := C0) (h0 := h0) (C1 := C1) (h1 := h1) (C2 := C2) (h2 := h2) (gs0 := gs0) (tb0 := tb0) (tA0 := tA0) (bf0 := bf0) (hi0 := hi0) hF K hlt hRm hret gs0 (gA 0) (gA 1) (gA 2) (gA 3) (gA 5) bf0 x1 h

