set_option maxHeartbeats 4000000 in
set_option maxRecDepth 100000 in
theorem wX1_share_w0_181 {Γ : gT} {q : Nat → Nat} {r : Nat → Nat → Nat} {F : gF} (hF : gFz (g_E Γ) F) {o0 : Nat → Int32} {A0 : Nat → Nat → Int32} {C0 : Nat → Option Nat} {h0 : Nat} {o1 : Nat → Int32} {A1 : Nat → Nat → Int32} {C1 : Nat → Option Nat} {h1 : Nat} {o2 : Nat → Int32} {A2 : Nat → Nat → Int32} {C2 : Nat → Option Nat} {h2 : Nat} {gs0 : Int32} {gA : Nat → Nat → Int32} {tb0 : Int32} {tA0 bf0 : Nat → Int32} {hi0 : Int32} (K : gOK Γ cX1_share gU RX1) (hlt : ∀ i, i < 8 → i < g_n Γ) (hRm : g_R Γ = ({ frames := 6, cells := 0, slots := 0, locals := 203 } : Room)) {res : Int32 × ((Nat → Int32)) × ((Nat → Int32))} (hret : ∀ (pc : Nat) (L : List (Nat × Value)) (v : Int32) (w : va_W), decode cX1_share pc = .ok (.ireturn, 1) → narrow .int (.int v) = .int v → (v = res.1 ∧ w = cw (g_E Γ) q r (gpl F) o0 A0 C0 h0 o1 A1 C1 h1 o2 A2 C2 h2 gs0 (gu (gu gA 0 res.2.1) 3 res.2.2) tb0 tA0 bf0 hi0) → gGO Γ 0 0 pc L [.int v] w) : ∀ (n : Nat) (ga0 : (Nat → Int32)) (ga3 : (Nat → Int32)) (x5 : Int32) (x6 : Int32), pX1_share_w0_181 F (o0 5) h0 gs0 (gA 1) (gA 2) n ga0 ga3 x5 x6 = some res → gGO Γ 0 0 181 [(0, .ref (q 3)), (5, .int x5), (6, .int x6)] [] (cw (g_E Γ) q r (gpl F) o0 A0 C0 h0 o1 A1 C1 h1 o2 A2 C2 h2 gs0 (gu (gu gA 0 ga0) 3 ga3) tb0 tA0 bf0 hi0) := by
  intro n
  induction n with
  | zero => intro _ _ _ _ h; cases h
  | succ n ih =>
    intro ga0 ga3 x5 x6 h
    simp only [pX1_share_w0_181] at h
    refine g_iload K dX1_share_181 2 rfl ?_
    refine g_aload_n K dX1_share_183 rfl 0 rfl ?_
    refine g_get (v := .int gs0) (T := TX1) (ref := "ChiefGrades$Grader") K hin_X1 4 rfl rfl 4 (by decide) u_291 (Or.inl rfl) rfl dX1_share_184 ?_
    obtain ⟨ht9, hf9⟩ := gi_br h; clear h
    refine g_icmp_ge (tgt := 213) K dX1_share_187 (by decide) (fun qh => ?_) (fun qh => ?_)
    · have h := ht9 qh; clear ht9 hf9
      refine g_iload K dX1_share_213 1 rfl ?_
      obtain rfl := Option.some.inj h
      exact hret _ _ _ _ dX1_share_215 rfl ⟨rfl, rfl⟩
    · have h := hf9 qh; clear ht9 hf9
      refine g_iload K dX1_share_190 1 rfl ?_
      refine g_aload_n K dX1_share_192 rfl 0 rfl ?_
      refine g_get (v := .ref (r 3 0)) (T := TX1) (ref := "ChiefGrades$Grader") K hin_X1 4 rfl rfl 0 (by decide) u_286 (Or.inl rfl) rfl dX1_share_193 ?_
      refine g_aload_n K dX1_share_196 rfl 0 rfl ?_
      refine g_get (v := .ref (r 3 2)) (T := TX1) (ref := "ChiefGrades$Grader") K hin_X1 4 rfl rfl 2 (by decide) u_289 (Or.inl rfl) rfl dX1_share_197 ?_
      refine g_iload K dX1_share_200 2 rfl ?_
      obtain ⟨b_1, h⟩ := gi_none h
      refine g_iald (f := (gA 2)) K 38 rfl (ginb_in b_1) dX1_share_202 ?_
      obtain ⟨b_2, h⟩ := gi_none h
      refine g_iald (f := ga0) K 36 rfl (ginb_in b_2) dX1_share_203 ?_
      refine g_iadd K dX1_share_204 ?_
      obtain ⟨v_3, ev_3, h⟩ := gi_nm h
      refine g_topi ev_3 ?_
      refine g_istore (L' := [(5, .int v_3), (0, .ref (q 3)), (6, .int x6)]) K dX1_share_205 (hlt _ (by decide)) rfl ?_
      refine g_iinc (v := (x6 + 1)) (L' := [(6, .int (x6 + 1)), (5, .int v_3), (0, .ref (q 3))]) K dX1_share_207 2 rfl rfl (hlt _ (by decide)) rfl ?_
      refine g_goto (tgt := 181) K dX1_share_210 (by decide) ?_
      refine g_sub (L' := [(0, .ref (q 3)), (5, .int v_3), (6, .int (x6 + 1))]) [2, 1, 0] rfl ?_
      exact ih ga0 ga3 v_3 (x6 + 1) h

set_option maxHeartbeats 4000000 in
set_option maxRecDepth 100000 in
theorem wX1_share_w0_149 {Γ : gT} {q : Nat → Nat} {r : Nat → Nat → Nat} {F : gF} (hF : gFz (g_E Γ) F) {o0 : Nat → Int32} {A0 : Nat → Nat → Int32} {C0 : Nat → Option Nat} {h0 : Nat} {o1 : Nat → Int32} {A1 : Nat → Nat → Int32} {C1 : Nat → Option Nat} {h1 : Nat} {o2 : Nat → Int32} {A2 : Nat → Nat → Int32} {C2 : Nat → Option Nat} {h2 : Nat} {gs0 : Int32} {gA : Nat → Nat → Int32} {tb0 : Int32} {tA0 bf0 : Nat → Int32} {hi0 : Int32} (K : gOK Γ cX1_share gU RX1) (hlt : ∀ i, i < 8 → i < g_n Γ) (hRm : g_R Γ = ({ frames := 6, cells := 0, slots := 0, locals := 203 } : Room)) {res : Int32 × ((Nat → Int32)) × ((Nat → Int32))} (hret : ∀ (pc : Nat) (L : List (Nat × Value)) (v : Int32) (w : va_W), decode cX1_share pc = .ok (.ireturn, 1) → narrow .int (.int v) = .int v → (v = res.1 ∧ w = cw (g_E Γ) q r (gpl F) o0 A0 C0 h0 o1 A1 C1 h1 o2 A2 C2 h2 gs0 (gu (gu gA 0 res.2.1) 3 res.2.2) tb0 tA0 bf0 hi0) → gGO Γ 0 0 pc L [.int v] w) : ∀ (n : Nat) (ga0 : (Nat → Int32)) (ga3 : (Nat → Int32)) (x4 : Int32) (x5 : Int32), pX1_share_w0_149 F (o0 5) h0 gs0 (gA 1) (gA 2) n ga0 ga3 x4 x5 = some res → gGO Γ 0 0 149 [(0, .ref (q 3)), (4, .int x4), (5, .int x5)] [] (cw (g_E Γ) q r (gpl F) o0 A0 C0 h0 o1 A1 C1 h1 o2 A2 C2 h2 gs0 (gu (gu gA 0 ga0) 3 ga3) tb0 tA0 bf0 hi0) := by
  intro n
  induction n with
  | zero => intro _ _ _ _ h; cases h
  | succ n ih =>
    intro ga0 ga3 x4 x5 h
    simp only [pX1_share_w0_149] at h
    refine g_iload K dX1_share_149 2 rfl ?_
    refine g_iload K dX1_share_151 1 rfl ?_
    obtain ⟨ht9, hf9⟩ := gi_br h; clear h
    refine g_icmp_ge (tgt := 175) K dX1_share_153 (by decide) (fun qh => ?_) (fun qh => ?_)
    · have h := ht9 qh; clear ht9 hf9
      refine g_iconst (v := 0) K dX1_share_175 (by decide) ?_
      refine g_istore (L' := [(5, .int 0), (0, .ref (q 3)), (4, .int x4)]) K dX1_share_176 (hlt _ (by decide)) rfl ?_
      refine g_iconst (v := 0) K dX1_share_178 (by decide) ?_
      refine g_istore (L' := [(6, .int 0), (5, .int 0), (0, .ref (q 3)), (4, .int x4)]) K dX1_share_179 (hlt _ (by decide)) rfl ?_
      refine g_sub (L' := [(0, .ref (q 3)), (5, .int 0), (6, .int 0)]) [2, 1, 0] rfl ?_
      exact wX1_share_w0_181 (C0 := C0) (h0 := h0) (C1 := C1) (h1 := h1) (C2 := C2) (h2 := h2) (gs0 := gs0) (tb0 := tb0) (tA0 := tA0) (bf0 := bf0) (hi0 := hi0) hF K hlt hRm hret 1000 ga0 ga3 0 0 h
    · have h := hf9 qh; clear ht9 hf9
      refine g_aload_n K dX1_share_156 rfl 0 rfl ?_
      refine g_get (v := .ref (r 3 0)) (T := TX1) (ref := "ChiefGrades$Grader") K hin_X1 4 rfl rfl 0 (by decide) u_286 (Or.inl rfl) rfl dX1_share_157 ?_
      refine g_aload_n K dX1_share_160 rfl 0 rfl ?_
      refine g_get (v := .ref (r 3 3)) (T := TX1) (ref := "ChiefGrades$Grader") K hin_X1 4 rfl rfl 3 (by decide) u_290 (Or.inl rfl) rfl dX1_share_161 ?_
      refine g_iload K dX1_share_164 2 rfl ?_
      obtain ⟨b_1, h⟩ := gi_none h
      refine g_iald (f := ga3) K 39 rfl (ginb_in b_1) dX1_share_166 ?_
      refine g_iconst (v := 1) K dX1_share_167 (by decide) ?_
      obtain ⟨b_2, h⟩ := gi_none h
      obtain ⟨f_3, ef_3, h⟩ := gi_nm h
      refine g_iast (f := ga0) (ws' := cw (g_E Γ) q r (gpl F) o0 A0 C0 h0 o1 A1 C1 h1 o2 A2 C2 h2 gs0 (gu (gu gA 0 f_3) 3 ga3) tb0 tA0 bf0 hi0) K 36 rfl (ginb_in b_2) dX1_share_168 (by rw [ef_3]; rfl) ?_
      refine g_iinc (v := (x5 + 1)) (L' := [(5, .int (x5 + 1)), (0, .ref (q 3)), (4, .int x4)]) K dX1_share_169 2 rfl rfl (hlt _ (by decide)) rfl ?_
      refine g_goto (tgt := 149) K dX1_share_172 (by decide) ?_
      refine g_sub (L' := [(0, .ref (q 3)), (4, .int x4), (5, .int (x5 + 1))]) [1, 2, 0] rfl ?_
      exact ih f_3 ga3 x4 (x5 + 1) h

set_option maxHeartbeats 4000000 in
set_option maxRecDepth 100000 in
theorem wX1_share_w0_126 {Γ : gT} {q : Nat → Nat} {r : Nat → Nat → Nat} {F : gF} (hF : gFz (g_E Γ) F) {o0 : Nat → Int32} {A0 : Nat → Nat → Int32} {C0 : Nat → Option Nat} {h0 : Nat} {o1 : Nat → Int32} {A1 : Nat → Nat → Int32} {C1 : Nat → Option Nat} {h1 : Nat} {o2 : Nat → Int32} {A2 : Nat → Nat → Int32} {C2 : Nat → Option Nat} {h2 : Nat} {gs0 : Int32} {gA : Nat → Nat → Int32} {tb0 : Int32} {tA0 bf0 : Nat → Int32} {hi0 : Int32} (K : gOK Γ cX1_share gU RX1) (hlt : ∀ i, i < 8 → i < g_n Γ) (hRm : g_R Γ = ({ frames := 6, cells := 0, slots := 0, locals := 203 } : Room)) {res : Int32 × ((Nat → Int32)) × ((Nat → Int32))} (hret : ∀ (pc : Nat) (L : List (Nat × Value)) (v : Int32) (w : va_W), decode cX1_share pc = .ok (.ireturn, 1) → narrow .int (.int v) = .int v → (v = res.1 ∧ w = cw (g_E Γ) q r (gpl F) o0 A0 C0 h0 o1 A1 C1 h1 o2 A2 C2 h2 gs0 (gu (gu gA 0 res.2.1) 3 res.2.2) tb0 tA0 bf0 hi0) → gGO Γ 0 0 pc L [.int v] w) (ga0 : (Nat → Int32)) (ga3 : (Nat → Int32)) (x2 : Nat) (x4 : Int32) (h : pX1_share_w0_126 F (o0 5) h0 gs0 (gA 1) (gA 2) ga0 ga3 x2 x4 = some res) : gGO Γ 0 0 126 [(0, .ref (q 3)), (1, .ref (q 0)), (2, .ref x2), (4, .int x4)] [] (cw (g_E Γ) q r (gpl F) o0 A0 C0 h0 o1 A1 C1 h1 o2 A2 C2 h2 gs0 (gu (gu gA 0 ga0) 3 ga3) tb0 tA0 bf0 hi0) := by
    unfold pX1_share_w0_126 at h
    refine g_aload_n K dX1_share_126 rfl 2 rfl ?_
    refine g_aload_n K dX1_share_127 rfl 0 rfl ?_
    refine g_get (v := .ref (r 3 2)) (T := TX1) (ref := "ChiefGrades$Grader") K hin_X1 4 rfl rfl 2 (by decide) u_289 (Or.inl rfl) rfl dX1_share_128 ?_
    refine g_aload_n K dX1_share_131 rfl 0 rfl ?_
    refine g_get (v := .int gs0) (T := TX1) (ref := "ChiefGrades$Grader") K hin_X1 4 rfl rfl 4 (by decide) u_291 (Or.inl rfl) rfl dX1_share_132 ?_
    refine g_aload_n K dX1_share_135 rfl 1 rfl ?_
    refine g_get (v := .int (o0 5)) (T := TX10) (ref := "ChiefGrades$World") K hin_X10 1 rfl rfl 5 (by decide) u_171 (Or.inl rfl) rfl dX1_share_136 ?_
    refine g_aload_n K dX1_share_139 rfl 0 rfl ?_
    refine g_get (v := .ref (r 3 3)) (T := TX1) (ref := "ChiefGrades$Grader") K hin_X1 4 rfl rfl 3 (by decide) u_290 (Or.inl rfl) rfl dX1_share_140 ?_
    obtain ⟨b_1, h⟩ := gi_none h
    obtain ⟨ht9, hf9⟩ := gi_br h; clear h
    by_cases kd_2 : ck F x2 = 0
    · have h := ht9 kd_2; clear ht9 hf9
      obtain ⟨z_9, hz_9, h⟩ := gi_bd h
      refine g_callVvF (As := [.ref (r 3 2), .int gs0, .int (o0 5), .ref (r 3 3)]) (bytes := cX0_lineUp) (maxL := 5) (ret := none) K (ctX0_lineUp_k0 hF (b0 := x2) b_1 kd_2 o0 A0 C0 h0 o1 A1 C1 h1 o2 A2 C2 h2 gs0 (gu (gu gA 0 ga0) 3 ga3) tb0 tA0 bf0 hi0 gs0 (o0 5) (res := z_9) hz_9) gc_V_RX1_143_X0_lineUp rfl qv_X0_lineUp (gF_at (j := 0) hF b_1 kd_2 (by decide)) rfl rfl hRm rfl rfl rfl (by decide) (Nat.le_of_ble_eq_true rfl) (by decide) dX1_share_143 (fun w hw => ?_)
      subst hw
      refine g_iconst (v := 0) K dX1_share_146 (by decide) ?_
      refine g_istore (L' := [(5, .int 0), (0, .ref (q 3)), (1, .ref (q 0)), (2, .ref x2), (4, .int x4)]) K dX1_share_147 (hlt _ (by decide)) rfl ?_
      refine g_sub (L' := [(0, .ref (q 3)), (4, .int x4), (5, .int 0)]) [1, 4, 0] rfl ?_
      exact wX1_share_w0_149 (C0 := C0) (h0 := h0) (C1 := C1) (h1 := h1) (C2 := C2) (h2 := h2) (gs0 := gs0) (tb0 := tb0) (tA0 := tA0) (bf0 := bf0) (hi0 := hi0) hF K hlt hRm hret 1000 ga0 ga3 x4 0 h
    have h := hf9 kd_2; clear ht9 hf9
    obtain ⟨ht9, hf9⟩ := gi_br h; clear h
    by_cases kd_3 : ck F x2 = 1
    · have h := ht9 kd_3; clear ht9 hf9
      obtain ⟨z_10, hz_10, h⟩ := gi_bd h
      refine g_callUvF (n := 4) (owner := "ChiefGrades$Chief") (x := ⟨"ChiefGrades$Chief", "lineUp", "([III[I)V"⟩) (As := [.ref (r 3 2), .int gs0, .int (o0 5), .ref (r 3 3)]) (bytes := cX0_lineUp) (maxL := 5) (ret := none) K (ctX0_lineUp_k1 hF (b0 := x2) b_1 kd_3 o0 A0 C0 h0 o1 A1 C1 h1 o2 A2 C2 h2 gs0 (gu (gu gA 0 ga0) 3 ga3) tb0 tA0 bf0 hi0 gs0 (o0 5) (res := z_10) hz_10) gc_UX5_RX1_143_X0_lineUp rfl rfl (by decide +kernel) (gF_at (j := 1) hF b_1 kd_3 (by decide)) rfl rfl hRm rfl rfl rfl (by decide) (Nat.le_of_ble_eq_true rfl) (by decide) dX1_share_143 (fun w hw => ?_)
      subst hw
      refine g_iconst (v := 0) K dX1_share_146 (by decide) ?_
      refine g_istore (L' := [(5, .int 0), (0, .ref (q 3)), (1, .ref (q 0)), (2, .ref x2), (4, .int x4)]) K dX1_share_147 (hlt _ (by decide)) rfl ?_
      refine g_sub (L' := [(0, .ref (q 3)), (4, .int x4), (5, .int 0)]) [1, 4, 0] rfl ?_
      exact wX1_share_w0_149 (C0 := C0) (h0 := h0) (C1 := C1) (h1 := h1) (C2 := C2) (h2 := h2) (gs0 := gs0) (tb0 := tb0) (tA0 := tA0) (bf0 := bf0) (hi0 := hi0) hF K hlt hRm hret 1000 ga0 ga3 x4 0 h
    have h := hf9 kd_3; clear ht9 hf9
    obtain ⟨ht9, hf9⟩ := gi_br h; clear h
    by_cases kd_4 : ck F x2 = 2
    · have h := ht9 kd_4; clear ht9 hf9
      obtain ⟨z_11, hz_11, h⟩ := gi_bd h
      refine g_callOvF (n := 4) (owner := "ChiefGrades$Chief") (x := ⟨"ChiefGrades$Chief", "lineUp", "([III[I)V"⟩) (As := [.ref (r 3 2), .int gs0, .int (o0 5), .ref (r 3 3)]) (bytes := cX9_lineUp) (maxL := 6) (ret := none) K (ctX9_lineUp_k2 hF (b0 := x2) b_1 kd_4 o0 A0 C0 h0 o1 A1 C1 h1 o2 A2 C2 h2 gs0 (gu (gu gA 0 ga0) 3 ga3) tb0 tA0 bf0 hi0 gs0 (o0 5) (res := z_11) hz_11) gc_OX9_RX1_143_X9_lineUp rfl u_710 (by decide +kernel) (gF_at (j := 2) hF b_1 kd_4 (by decide)) rfl rfl hRm rfl rfl rfl (by decide) (Nat.le_of_ble_eq_true rfl) (by decide) dX1_share_143 (fun w hw => ?_)
      subst hw
      refine g_ws (ws' := cw (g_E Γ) q r (gpl F) o0 A0 C0 h0 o1 A1 C1 h1 o2 A2 C2 h2 gs0 (gu (gu gA 0 ga0) 3 z_11) tb0 tA0 bf0 hi0) rfl ?_
      refine g_iconst (v := 0) K dX1_share_146 (by decide) ?_
      refine g_istore (L' := [(5, .int 0), (0, .ref (q 3)), (1, .ref (q 0)), (2, .ref x2), (4, .int x4)]) K dX1_share_147 (hlt _ (by decide)) rfl ?_
      refine g_sub (L' := [(0, .ref (q 3)), (4, .int x4), (5, .int 0)]) [1, 4, 0] rfl ?_
      exact wX1_share_w0_149 (C0 := C0) (h0 := h0) (C1 := C1) (h1 := h1) (C2 := C2) (h2 := h2) (gs0 := gs0) (tb0 := tb0) (tA0 := tA0) (bf0 := bf0) (hi0 := hi0) hF K hlt hRm hret 1000 ga0 z_11 x4 0 h
    have h := hf9 kd_4; clear ht9 hf9
    obtain ⟨ht9, hf9⟩ := gi_br h; clear h
    by_cases kd_5 : ck F x2 = 3
    · have h := ht9 kd_5; clear ht9 hf9
      obtain ⟨z_12, hz_12, h⟩ := gi_bd h
      refine g_callUvF (n := 4) (owner := "ChiefGrades$Chief") (x := ⟨"ChiefGrades$Chief", "lineUp", "([III[I)V"⟩) (As := [.ref (r 3 2), .int gs0, .int (o0 5), .ref (r 3 3)]) (bytes := cX0_lineUp) (maxL := 5) (ret := none) K (ctX0_lineUp_k3 hF (b0 := x2) b_1 kd_5 o0 A0 C0 h0 o1 A1 C1 h1 o2 A2 C2 h2 gs0 (gu (gu gA 0 ga0) 3 ga3) tb0 tA0 bf0 hi0 gs0 (o0 5) (res := z_12) hz_12) gc_UX4_RX1_143_X0_lineUp rfl rfl (by decide +kernel) (gF_at (j := 3) hF b_1 kd_5 (by decide)) rfl rfl hRm rfl rfl rfl (by decide) (Nat.le_of_ble_eq_true rfl) (by decide) dX1_share_143 (fun w hw => ?_)
      subst hw
      refine g_iconst (v := 0) K dX1_share_146 (by decide) ?_
      refine g_istore (L' := [(5, .int 0), (0, .ref (q 3)), (1, .ref (q 0)), (2, .ref x2), (4, .int x4)]) K dX1_share_147 (hlt _ (by decide)) rfl ?_
      refine g_sub (L' := [(0, .ref (q 3)), (4, .int x4), (5, .int 0)]) [1, 4, 0] rfl ?_
      exact wX1_share_w0_149 (C0 := C0) (h0 := h0) (C1 := C1) (h1 := h1) (C2 := C2) (h2 := h2) (gs0 := gs0) (tb0 := tb0) (tA0 := tA0) (bf0 := bf0) (hi0 := hi0) hF K hlt hRm hret 1000 ga0 ga3 x4 0 h
    have h := hf9 kd_5; clear ht9 hf9
    obtain ⟨ht9, hf9⟩ := gi_br h; clear h
    by_cases kd_6 : ck F x2 = 4
    · have h := ht9 kd_6; clear ht9 hf9
      obtain ⟨z_13, hz_13, h⟩ := gi_bd h
      refine g_callUvF (n := 4) (owner := "ChiefGrades$Chief") (x := ⟨"ChiefGrades$Chief", "lineUp", "([III[I)V"⟩) (As := [.ref (r 3 2), .int gs0, .int (o0 5), .ref (r 3 3)]) (bytes := cX0_lineUp) (maxL := 5) (ret := none) K (ctX0_lineUp_k4 hF (b0 := x2) b_1 kd_6 o0 A0 C0 h0 o1 A1 C1 h1 o2 A2 C2 h2 gs0 (gu (gu gA 0 ga0) 3 ga3) tb0 tA0 bf0 hi0 gs0 (o0 5) (res := z_13) hz_13) gc_UX6_RX1_143_X0_lineUp rfl rfl (by decide +kernel) (gF_at (j := 4) hF b_1 kd_6 (by decide)) rfl rfl hRm rfl rfl rfl (by decide) (Nat.le_of_ble_eq_true rfl) (by decide) dX1_share_143 (fun w hw => ?_)
      subst hw
      refine g_iconst (v := 0) K dX1_share_146 (by decide) ?_
      refine g_istore (L' := [(5, .int 0), (0, .ref (q 3)), (1, .ref (q 0)), (2, .ref x2), (4, .int x4)]) K dX1_share_147 (hlt _ (by decide)) rfl ?_
      refine g_sub (L' := [(0, .ref (q 3)), (4, .int x4), (5, .int 0)]) [1, 4, 0] rfl ?_
      exact wX1_share_w0_149 (C0 := C0) (h0 := h0) (C1 := C1) (h1 := h1) (C2 := C2) (h2 := h2) (gs0 := gs0) (tb0 := tb0) (tA0 := tA0) (bf0 := bf0) (hi0 := hi0) hF K hlt hRm hret 1000 ga0 ga3 x4 0 h
    have h := hf9 kd_6; clear ht9 hf9
    obtain ⟨ht9, hf9⟩ := gi_br h; clear h
    by_cases kd_7 : ck F x2 = 5
    · have h := ht9 kd_7; clear ht9 hf9
      obtain ⟨z_14, hz_14, h⟩ := gi_bd h
      refine g_callOvF (n := 4) (owner := "ChiefGrades$Chief") (x := ⟨"ChiefGrades$Chief", "lineUp", "([III[I)V"⟩) (As := [.ref (r 3 2), .int gs0, .int (o0 5), .ref (r 3 3)]) (bytes := cX3_lineUp) (maxL := 9) (ret := none) K (ctX3_lineUp_k5 hF (b0 := x2) b_1 kd_7 o0 A0 C0 h0 o1 A1 C1 h1 o2 A2 C2 h2 gs0 (gu (gu gA 0 ga0) 3 ga3) tb0 tA0 bf0 hi0 gs0 (o0 5) (res := z_14) hz_14) gc_OX3_RX1_143_X3_lineUp rfl u_710 (by decide +kernel) (gF_at (j := 5) hF b_1 kd_7 (by decide)) rfl rfl hRm rfl rfl rfl (by decide) (Nat.le_of_ble_eq_true rfl) (by decide) dX1_share_143 (fun w hw => ?_)
      subst hw
      refine g_ws (ws' := cw (g_E Γ) q r (gpl F) o0 A0 C0 h0 o1 A1 C1 h1 o2 A2 C2 h2 gs0 (gu (gu gA 0 ga0) 3 z_14) tb0 tA0 bf0 hi0) rfl ?_
      refine g_iconst (v := 0) K dX1_share_146 (by decide) ?_
      refine g_istore (L' := [(5, .int 0), (0, .ref (q 3)), (1, .ref (q 0)), (2, .ref x2), (4, .int x4)]) K dX1_share_147 (hlt _ (by decide)) rfl ?_
      refine g_sub (L' := [(0, .ref (q 3)), (4, .int x4), (5, .int 0)]) [1, 4, 0] rfl ?_
      exact wX1_share_w0_149 (C0 := C0) (h0 := h0) (C1 := C1) (h1 := h1) (C2 := C2) (h2 := h2) (gs0 := gs0) (tb0 := tb0) (tA0 := tA0) (bf0 := bf0) (hi0 := hi0) hF K hlt hRm hret 1000 ga0 z_14 x4 0 h
    have h := hf9 kd_7; clear ht9 hf9
    have kd_8 := gF_last hF b_1 kd_2 kd_3 kd_4 kd_5 kd_6 kd_7
    obtain ⟨z_15, hz_15, h⟩ := gi_bd h
    refine g_callUvF (n := 4) (owner := "ChiefGrades$Chief") (x := ⟨"ChiefGrades$Chief", "lineUp", "([III[I)V"⟩) (As := [.ref (r 3 2), .int gs0, .int (o0 5), .ref (r 3 3)]) (bytes := cX0_lineUp) (maxL := 5) (ret := none) K (ctX0_lineUp_k6 hF (b0 := x2) b_1 kd_8 o0 A0 C0 h0 o1 A1 C1 h1 o2 A2 C2 h2 gs0 (gu (gu gA 0 ga0) 3 ga3) tb0 tA0 bf0 hi0 gs0 (o0 5) (res := z_15) hz_15) gc_UX7_RX1_143_X0_lineUp rfl rfl (by decide +kernel) (gF_at (j := 6) hF b_1 kd_8 (by decide)) rfl rfl hRm rfl rfl rfl (by decide) (Nat.le_of_ble_eq_true rfl) (by decide) dX1_share_143 (fun w hw => ?_)
    subst hw
    refine g_iconst (v := 0) K dX1_share_146 (by decide) ?_
    refine g_istore (L' := [(5, .int 0), (0, .ref (q 3)), (1, .ref (q 0)), (2, .ref x2), (4, .int x4)]) K dX1_share_147 (hlt _ (by decide)) rfl ?_
    refine g_sub (L' := [(0, .ref (q 3)), (4, .int x4), (5, .int 0)]) [1, 4, 0] rfl ?_
    exact wX1_share_w0_149 (C0 := C0) (h0 := h0) (C1 := C1) (h1 := h1) (C2 := C2) (h2 := h2) (gs0 := gs0) (tb0 := tb0) (tA0 := tA0) (bf0 := bf0) (hi0 := hi0) hF K hlt hRm hret 1000 ga0 ga3 x4 0 h

set_option maxHeartbeats 4000000 in
set_option maxRecDepth 100000 in
theorem wX1_share_w0_89 {Γ : gT} {q : Nat → Nat} {r : Nat → Nat → Nat} {F : gF} (hF : gFz (g_E Γ) F) {o0 : Nat → Int32} {A0 : Nat → Nat → Int32} {C0 : Nat → Option Nat} {h0 : Nat} {o1 : Nat → Int32} {A1 : Nat → Nat → Int32} {C1 : Nat → Option Nat} {h1 : Nat} {o2 : Nat → Int32} {A2 : Nat → Nat → Int32} {C2 : Nat → Option Nat} {h2 : Nat} {gs0 : Int32} {gA : Nat → Nat → Int32} {tb0 : Int32} {tA0 bf0 : Nat → Int32} {hi0 : Int32} (K : gOK Γ cX1_share gU RX1) (hlt : ∀ i, i < 8 → i < g_n Γ) (hRm : g_R Γ = ({ frames := 6, cells := 0, slots := 0, locals := 203 } : Room)) {res : Int32 × ((Nat → Int32)) × ((Nat → Int32))} (hret : ∀ (pc : Nat) (L : List (Nat × Value)) (v : Int32) (w : va_W), decode cX1_share pc = .ok (.ireturn, 1) → narrow .int (.int v) = .int v → (v = res.1 ∧ w = cw (g_E Γ) q r (gpl F) o0 A0 C0 h0 o1 A1 C1 h1 o2 A2 C2 h2 gs0 (gu (gu gA 0 res.2.1) 3 res.2.2) tb0 tA0 bf0 hi0) → gGO Γ 0 0 pc L [.int v] w) {k47 : (Nat → Int32) → (Nat → Int32) → Nat → Int32 → Int32 → Int32 → Option (Int32 × ((Nat → Int32)) × ((Nat → Int32)))} (hk47 : ∀ (ga0 : (Nat → Int32)) (ga3 : (Nat → Int32)) (x2 : Nat) (x3 : Int32) (x4 : Int32) (x5 : Int32), k47 ga0 ga3 x2 x3 x4 x5 = some res → gGO Γ 0 0 47 [(0, .ref (q 3)), (1, .ref (q 0)), (2, .ref x2), (3, .int x3), (4, .int x4), (5, .int x5)] [] (cw (g_E Γ) q r (gpl F) o0 A0 C0 h0 o1 A1 C1 h1 o2 A2 C2 h2 gs0 (gu (gu gA 0 ga0) 3 ga3) tb0 tA0 bf0 hi0)) (ga0 : (Nat → Int32)) (ga3 : (Nat → Int32)) (x2 : Nat) (x3 : Int32) (x4 : Int32) (x5 : Int32) (x6 : Int32) (y0 : Int32) (h : pX1_share_w0_89 F k47 (o0 5) h0 gs0 (gA 1) (gA 2) ga0 ga3 x2 x3 x4 x5 x6 y0 = some res) : gGO Γ 0 0 89 [(0, .ref (q 3)), (1, .ref (q 0)), (2, .ref x2), (3, .int x3), (4, .int x4), (5, .int x5), (6, .int x6)] [.int y0] (cw (g_E Γ) q r (gpl F) o0 A0 C0 h0 o1 A1 C1 h1 o2 A2 C2 h2 gs0 (gu (gu gA 0 ga0) 3 ga3) tb0 tA0 bf0 hi0) := by
    unfold pX1_share_w0_89 at h
    refine g_istore (L' := [(7, .int y0), (0, .ref (q 3)), (1, .ref (q 0)), (2, .ref x2), (3, .int x3), (4, .int x4), (5, .int x5), (6, .int x6)]) K dX1_share_89 (hlt _ (by decide)) rfl ?_
    refine g_aload_n K dX1_share_91 rfl 1 rfl ?_
    refine g_get (v := .ref (r 3 0)) (T := TX1) (ref := "ChiefGrades$Grader") K hin_X1 4 rfl rfl 0 (by decide) u_286 (Or.inl rfl) rfl dX1_share_92 ?_
    refine g_aload_n K dX1_share_95 rfl 1 rfl ?_
    refine g_get (v := .ref (r 3 3)) (T := TX1) (ref := "ChiefGrades$Grader") K hin_X1 4 rfl rfl 3 (by decide) u_290 (Or.inl rfl) rfl dX1_share_96 ?_
    refine g_iload K dX1_share_99 6 rfl ?_
    obtain ⟨b_1, h⟩ := gi_none h
    refine g_iald (f := ga3) K 39 rfl (ginb_in b_1) dX1_share_101 ?_
    refine g_iload K dX1_share_102 7 rfl ?_
    refine g_iconst (v := 5) K dX1_share_104 (by decide) ?_
    obtain ⟨ht9, hf9⟩ := gi_br h; clear h
    refine g_icmp_ne (tgt := 117) K dX1_share_105 (by decide) (fun qh => ?_) (fun qh => ?_)
    · have h := hf9 qh; clear ht9 hf9
      refine g_iload K dX1_share_117 7 rfl ?_
      obtain ⟨b_2, h⟩ := gi_none h
      obtain ⟨f_3, ef_3, h⟩ := gi_nm h
      refine g_iast (f := ga0) (ws' := cw (g_E Γ) q r (gpl F) o0 A0 C0 h0 o1 A1 C1 h1 o2 A2 C2 h2 gs0 (gu (gu gA 0 f_3) 3 ga3) tb0 tA0 bf0 hi0) K 36 rfl (ginb_in b_2) dX1_share_119 (by rw [ef_3]; rfl) ?_
      refine g_iinc (v := (x5 + 1)) (L' := [(5, .int (x5 + 1)), (7, .int y0), (0, .ref (q 3)), (1, .ref (q 0)), (2, .ref x2), (3, .int x3), (4, .int x4), (6, .int x6)]) K dX1_share_120 6 rfl rfl (hlt _ (by decide)) rfl ?_
      refine g_goto (tgt := 47) K dX1_share_123 (by decide) ?_
      refine g_sub (L' := [(0, .ref (q 3)), (1, .ref (q 0)), (2, .ref x2), (3, .int x3), (4, .int x4), (5, .int (x5 + 1))]) [2, 3, 4, 5, 6, 0] rfl ?_
      exact hk47 f_3 ga3 x2 x3 x4 (x5 + 1) h
    · have h := ht9 qh; clear ht9 hf9
      refine g_iload K dX1_share_108 0 rfl ?_
      obtain ⟨ht9, hf9⟩ := gi_br h; clear h
      refine g_if_ne (tgt := 117) K dX1_share_110 (by decide) (fun qh => ?_) (fun qh => ?_)
      · have h := hf9 qh; clear ht9 hf9
        refine g_iload K dX1_share_117 7 rfl ?_
        obtain ⟨b_4, h⟩ := gi_none h
        obtain ⟨f_5, ef_5, h⟩ := gi_nm h
        refine g_iast (f := ga0) (ws' := cw (g_E Γ) q r (gpl F) o0 A0 C0 h0 o1 A1 C1 h1 o2 A2 C2 h2 gs0 (gu (gu gA 0 f_5) 3 ga3) tb0 tA0 bf0 hi0) K 36 rfl (ginb_in b_4) dX1_share_119 (by rw [ef_5]; rfl) ?_
        refine g_iinc (v := (x5 + 1)) (L' := [(5, .int (x5 + 1)), (7, .int y0), (0, .ref (q 3)), (1, .ref (q 0)), (2, .ref x2), (3, .int x3), (4, .int x4), (6, .int x6)]) K dX1_share_120 6 rfl rfl (hlt _ (by decide)) rfl ?_
        refine g_goto (tgt := 47) K dX1_share_123 (by decide) ?_
        refine g_sub (L' := [(0, .ref (q 3)), (1, .ref (q 0)), (2, .ref x2), (3, .int x3), (4, .int x4), (5, .int (x5 + 1))]) [2, 3, 4, 5, 6, 0] rfl ?_
        exact hk47 f_5 ga3 x2 x3 x4 (x5 + 1) h
      · have h := ht9 qh; clear ht9 hf9
        refine g_iconst (v := 4) K dX1_share_113 (by decide) ?_
        refine g_goto (tgt := 119) K dX1_share_114 (by decide) ?_
        obtain ⟨b_6, h⟩ := gi_none h
        obtain ⟨f_7, ef_7, h⟩ := gi_nm h
        refine g_iast (f := ga0) (ws' := cw (g_E Γ) q r (gpl F) o0 A0 C0 h0 o1 A1 C1 h1 o2 A2 C2 h2 gs0 (gu (gu gA 0 f_7) 3 ga3) tb0 tA0 bf0 hi0) K 36 rfl (ginb_in b_6) dX1_share_119 (by rw [ef_7]; rfl) ?_
        refine g_iinc (v := (x5 + 1)) (L' := [(5, .int (x5 + 1)), (7, .int y0), (0, .ref (q 3)), (1, .ref (q 0)), (2, .ref x2), (3, .int x3), (4, .int x4), (6, .int x6)]) K dX1_share_120 6 rfl rfl (hlt _ (by decide)) rfl ?_
        refine g_goto (tgt := 47) K dX1_share_123 (by decide) ?_
        refine g_sub (L' := [(0, .ref (q 3)), (1, .ref (q 0)), (2, .ref x2), (3, .int x3), (4, .int x4), (5, .int (x5 + 1))]) [2, 3, 4, 5, 6, 0] rfl ?_
        exact hk47 f_7 ga3 x2 x3 x4 (x5 + 1) h

set_option maxHeartbeats 4000000 in
set_option maxRecDepth 100000 in
theorem wX1_share_w0_47 {Γ : gT} {q : Nat → Nat} {r : Nat → Nat → Nat} {F : gF} (hF : gFz (g_E Γ) F) {o0 : Nat → Int32} {A0 : Nat → Nat → Int32} {C0 : Nat → Option Nat} {h0 : Nat} {o1 : Nat → Int32} {A1 : Nat → Nat → Int32} {C1 : Nat → Option Nat} {h1 : Nat} {o2 : Nat → Int32} {A2 : Nat → Nat → Int32} {C2 : Nat → Option Nat} {h2 : Nat} {gs0 : Int32} {gA : Nat → Nat → Int32} {tb0 : Int32} {tA0 bf0 : Nat → Int32} {hi0 : Int32} (K : gOK Γ cX1_share gU RX1) (hlt : ∀ i, i < 8 → i < g_n Γ) (hRm : g_R Γ = ({ frames := 6, cells := 0, slots := 0, locals := 203 } : Room)) {res : Int32 × ((Nat → Int32)) × ((Nat → Int32))} (hret : ∀ (pc : Nat) (L : List (Nat × Value)) (v : Int32) (w : va_W), decode cX1_share pc = .ok (.ireturn, 1) → narrow .int (.int v) = .int v → (v = res.1 ∧ w = cw (g_E Γ) q r (gpl F) o0 A0 C0 h0 o1 A1 C1 h1 o2 A2 C2 h2 gs0 (gu (gu gA 0 res.2.1) 3 res.2.2) tb0 tA0 bf0 hi0) → gGO Γ 0 0 pc L [.int v] w) : ∀ (n : Nat) (ga0 : (Nat → Int32)) (ga3 : (Nat → Int32)) (x2 : Nat) (x3 : Int32) (x4 : Int32) (x5 : Int32), pX1_share_w0_47 F (o0 5) h0 gs0 (gA 1) (gA 2) n ga0 ga3 x2 x3 x4 x5 = some res → gGO Γ 0 0 47 [(0, .ref (q 3)), (1, .ref (q 0)), (2, .ref x2), (3, .int x3), (4, .int x4), (5, .int x5)] [] (cw (g_E Γ) q r (gpl F) o0 A0 C0 h0 o1 A1 C1 h1 o2 A2 C2 h2 gs0 (gu (gu gA 0 ga0) 3 ga3) tb0 tA0 bf0 hi0) := by
  intro n
  induction n with
  | zero => intro _ _ _ _ _ _ h; cases h
  | succ n ih =>
    intro ga0 ga3 x2 x3 x4 x5 h
    simp only [pX1_share_w0_47] at h
    refine g_iload K dX1_share_47 5 rfl ?_
    refine g_aload_n K dX1_share_49 rfl 0 rfl ?_
    refine g_get (v := .int gs0) (T := TX1) (ref := "ChiefGrades$Grader") K hin_X1 4 rfl rfl 4 (by decide) u_291 (Or.inl rfl) rfl dX1_share_50 ?_
    obtain ⟨ht9, hf9⟩ := gi_br h; clear h
    refine g_icmp_ge (tgt := 126) K dX1_share_53 (by decide) (fun qh => ?_) (fun qh => ?_)
    · have h := ht9 qh; clear ht9 hf9
      refine g_sub (L' := [(0, .ref (q 3)), (1, .ref (q 0)), (2, .ref x2), (4, .int x4)]) [0, 1, 2, 4] rfl ?_
      exact wX1_share_w0_126 (C0 := C0) (h0 := h0) (C1 := C1) (h1 := h1) (C2 := C2) (h2 := h2) (gs0 := gs0) (tb0 := tb0) (tA0 := tA0) (bf0 := bf0) (hi0 := hi0) hF K hlt hRm hret ga0 ga3 x2 x4 h
    · have h := hf9 qh; clear ht9 hf9
      refine g_aload_n K dX1_share_56 rfl 0 rfl ?_
      refine g_get (v := .ref (r 3 1)) (T := TX1) (ref := "ChiefGrades$Grader") K hin_X1 4 rfl rfl 1 (by decide) u_288 (Or.inl rfl) rfl dX1_share_57 ?_
      refine g_aload_n K dX1_share_60 rfl 0 rfl ?_
      refine g_get (v := .ref (r 3 3)) (T := TX1) (ref := "ChiefGrades$Grader") K hin_X1 4 rfl rfl 3 (by decide) u_290 (Or.inl rfl) rfl dX1_share_61 ?_
      refine g_iload K dX1_share_64 5 rfl ?_
      obtain ⟨b_1, h⟩ := gi_none h
      refine g_iald (f := ga3) K 39 rfl (ginb_in b_1) dX1_share_66 ?_
      obtain ⟨b_2, h⟩ := gi_none h
      refine g_iald (f := (gA 1)) K 37 rfl (ginb_in b_2) dX1_share_67 ?_
      obtain ⟨z_3, hz_3, h⟩ := gi_bd h
      refine g_callSi (As := [.int ((gA 1) (Int32.toNatClampNeg (ga3 (Int32.toNatClampNeg x5))))]) (bytes := cX1_byMark) (maxL := 1) (ret := (some .int)) K (ctX1_byMark (ws := cw (g_E Γ) q r (gpl F) o0 A0 C0 h0 o1 A1 C1 h1 o2 A2 C2 h2 gs0 (gu (gu gA 0 ga0) 3 ga3) tb0 tA0 bf0 hi0) ((gA 1) (Int32.toNatClampNeg (ga3 (Int32.toNatClampNeg x5)))) (res := z_3) hz_3) gc_S_RX1_140_X1_byMark rfl qs_X1_byMark hRm rfl rfl rfl (by decide) (Nat.le_of_ble_eq_true rfl) (by decide) dX1_share_68 (fun v w hw => ?_)
      obtain ⟨hv9, rfl⟩ := hw; have hv9 := hv9.symm; subst hv9
      refine g_istore (L' := [(6, .int z_3), (0, .ref (q 3)), (1, .ref (q 0)), (2, .ref x2), (3, .int x3), (4, .int x4), (5, .int x5)]) K dX1_share_71 (hlt _ (by decide)) rfl ?_
      refine g_iload K dX1_share_73 6 rfl ?_
      refine g_aload_n K dX1_share_75 rfl 1 rfl ?_
      refine g_get (v := .int gs0) (T := TX1) (ref := "ChiefGrades$Grader") K hin_X1 4 rfl rfl 4 (by decide) u_291 (Or.inl rfl) rfl dX1_share_76 ?_
      refine g_iload_n K dX1_share_79 rfl 4 rfl ?_
      refine g_isub K dX1_share_80 ?_
      obtain ⟨ht9, hf9⟩ := gi_br h; clear h
      refine g_icmp_lt (tgt := 88) K dX1_share_81 (by decide) (fun qh => ?_) (fun qh => ?_)
      · have h := ht9 qh; clear ht9 hf9
        refine g_iconst (v := 0) K dX1_share_88 (by decide) ?_
        refine g_sub (L' := [(0, .ref (q 3)), (1, .ref (q 0)), (2, .ref x2), (3, .int x3), (4, .int x4), (5, .int x5), (6, .int z_3)]) [1, 2, 3, 4, 5, 6, 0] rfl ?_
        exact wX1_share_w0_89 (C0 := C0) (h0 := h0) (C1 := C1) (h1 := h1) (C2 := C2) (h2 := h2) (gs0 := gs0) (tb0 := tb0) (tA0 := tA0) (bf0 := bf0) (hi0 := hi0) hF K hlt hRm hret ih ga0 ga3 x2 x3 x4 x5 z_3 0 h
      · have h := hf9 qh; clear ht9 hf9
        refine g_iconst (v := 1) K dX1_share_84 (by decide) ?_
        refine g_goto (tgt := 89) K dX1_share_85 (by decide) ?_
        refine g_sub (L' := [(0, .ref (q 3)), (1, .ref (q 0)), (2, .ref x2), (3, .int x3), (4, .int x4), (5, .int x5), (6, .int z_3)]) [1, 2, 3, 4, 5, 6, 0] rfl ?_
        exact wX1_share_w0_89 (C0 := C0) (h0 := h0) (C1 := C1) (h1 := h1) (C2 := C2) (h2 := h2) (gs0 := gs0) (tb0 := tb0) (tA0 := tA0) (bf0 := bf0) (hi0 := hi0) hF K hlt hRm hret ih ga0 ga3 x2 x3 x4 x5 z_3 1 h

set_option maxHeartbeats 4000000 in
set_option maxRecDepth 100000 in
theorem wX1_share_w0 {Γ : gT} {q : Nat → Nat} {r : Nat → Nat → Nat} {F : gF} (hF : gFz (g_E Γ) F) {o0 : Nat → Int32} {A0 : Nat → Nat → Int32} {C0 : Nat → Option Nat} {h0 : Nat} {o1 : Nat → Int32} {A1 : Nat → Nat → Int32} {C1 : Nat → Option Nat} {h1 : Nat} {o2 : Nat → Int32} {A2 : Nat → Nat → Int32} {C2 : Nat → Option Nat} {h2 : Nat} {gs0 : Int32} {gA : Nat → Nat → Int32} {tb0 : Int32} {tA0 bf0 : Nat → Int32} {hi0 : Int32} (K : gOK Γ cX1_share gU RX1) (hlt : ∀ i, i < 8 → i < g_n Γ) (hRm : g_R Γ = ({ frames := 6, cells := 0, slots := 0, locals := 203 } : Room)) {res : Int32 × ((Nat → Int32)) × ((Nat → Int32))} (hret : ∀ (pc : Nat) (L : List (Nat × Value)) (v : Int32) (w : va_W), decode cX1_share pc = .ok (.ireturn, 1) → narrow .int (.int v) = .int v → (v = res.1 ∧ w = cw (g_E Γ) q r (gpl F) o0 A0 C0 h0 o1 A1 C1 h1 o2 A2 C2 h2 gs0 (gu (gu gA 0 res.2.1) 3 res.2.2) tb0 tA0 bf0 hi0) → gGO Γ 0 0 pc L [.int v] w) (ga0 : (Nat → Int32)) (ga3 : (Nat → Int32)) (x2 : Nat) (h : pX1_share_w0 F (o0 5) h0 gs0 (gA 1) (gA 2) ga0 ga3 x2 = some res) : gGO Γ 0 0 0 [(0, .ref (q 3)), (1, .ref (q 0)), (2, .ref x2)] [] (cw (g_E Γ) q r (gpl F) o0 A0 C0 h0 o1 A1 C1 h1 o2 A2 C2 h2 gs0 (gu (gu gA 0 ga0) 3 ga3) tb0 tA0 bf0 hi0) := by
    unfold pX1_share_w0 at h
    refine g_aload_n K dX1_share_0 rfl 1 rfl ?_
    refine g_get (v := .ref h0) (T := TX10) (ref := "ChiefGrades$World") K hin_X10 1 rfl rfl 18 (by decide) u_202 (Or.inl rfl) rfl dX1_share_1 ?_
    obtain ⟨b_1, h⟩ := gi_none h
    refine hsg_0 K hF b_1 hin_X2 u_119 dX1_share_4 ?_
    refine g_aload_n K dX1_share_7 rfl 0 rfl ?_
    refine g_get (v := .int gs0) (T := TX1) (ref := "ChiefGrades$Grader") K hin_X1 4 rfl rfl 4 (by decide) u_291 (Or.inl rfl) rfl dX1_share_8 ?_
    refine g_imul K dX1_share_11 ?_
    refine g_bipush (v := 10) K dX1_share_12 (by decide) ?_
    refine g_idiv K dX1_share_14 (by decide) ?_
    obtain ⟨v_3, ev_3, h⟩ := gi_nm h
    refine g_topi ev_3 ?_
    refine g_istore_n (L' := [(3, .int v_3), (0, .ref (q 3)), (1, .ref (q 0)), (2, .ref x2)]) K dX1_share_15 rfl (hlt _ (by decide)) rfl ?_
    refine g_aload_n K dX1_share_16 rfl 1 rfl ?_
    refine g_get (v := .int gs0) (T := TX1) (ref := "ChiefGrades$Grader") K hin_X1 4 rfl rfl 4 (by decide) u_291 (Or.inl rfl) rfl dX1_share_17 ?_
    refine g_aload_n K dX1_share_20 rfl 2 rfl ?_
    refine g_get (v := .ref h0) (T := TX10) (ref := "ChiefGrades$World") K hin_X10 1 rfl rfl 18 (by decide) u_202 (Or.inl rfl) rfl dX1_share_21 ?_
    refine hsg_1 K hF b_1 hin_X2 u_122 dX1_share_24 ?_
    refine g_aload_n K dX1_share_27 rfl 1 rfl ?_
    refine g_get (v := .int gs0) (T := TX1) (ref := "ChiefGrades$Grader") K hin_X1 4 rfl rfl 4 (by decide) u_291 (Or.inl rfl) rfl dX1_share_28 ?_
    refine g_imul K dX1_share_31 ?_
    refine g_bipush (v := 10) K dX1_share_32 (by decide) ?_
    refine g_idiv K dX1_share_34 (by decide) ?_
    refine g_mmin K u_687 u_112 u_71 u_113 hRm ⟨by decide, Nat.le_of_ble_eq_true rfl, by decide, by decide⟩ dX1_share_35 ?_
    obtain ⟨v_5, ev_5, h⟩ := gi_nm h
    refine g_topi ev_5 ?_
    refine g_istore (L' := [(4, .int v_5), (3, .int v_3), (0, .ref (q 3)), (1, .ref (q 0)), (2, .ref x2)]) K dX1_share_38 (hlt _ (by decide)) rfl ?_
    refine g_aload_n K dX1_share_40 rfl 2 rfl ?_
    obtain ⟨z_6, hz_6, h⟩ := gi_bd h
    refine g_callVv (As := []) (bytes := cX1_rank) (maxL := 6) (ret := none) K (ctX1_rank hF o0 A0 C0 h0 o1 A1 C1 h1 o2 A2 C2 h2 gs0 (gu (gu gA 0 ga0) 3 ga3) tb0 tA0 bf0 hi0 (res := z_6) hz_6) gc_V_RX1_137_X1_rank rfl qv_X1_rank 4 rfl rfl rfl hRm rfl rfl rfl (by decide) (Nat.le_of_ble_eq_true rfl) (by decide) dX1_share_41 (fun w hw => ?_)
    subst hw
    refine g_ws (ws' := cw (g_E Γ) q r (gpl F) o0 A0 C0 h0 o1 A1 C1 h1 o2 A2 C2 h2 gs0 (gu (gu gA 0 ga0) 3 z_6) tb0 tA0 bf0 hi0) rfl ?_
    refine g_iconst (v := 0) K dX1_share_44 (by decide) ?_
    refine g_istore (L' := [(5, .int 0), (4, .int v_5), (3, .int v_3), (0, .ref (q 3)), (1, .ref (q 0)), (2, .ref x2)]) K dX1_share_45 (hlt _ (by decide)) rfl ?_
    refine g_sub (L' := [(0, .ref (q 3)), (1, .ref (q 0)), (2, .ref x2), (3, .int v_3), (4, .int v_5), (5, .int 0)]) [3, 4, 5, 2, 1, 0] rfl ?_
    exact wX1_share_w0_47 (C0 := C0) (h0 := h0) (C1 := C1) (h1 := h1) (C2 := C2) (h2 := h2) (gs0 := gs0) (tb0 := tb0) (tA0 := tA0) (bf0 := bf0) (hi0 := hi0) hF K hlt hRm hret 1000 ga0 z_6 x2 v_3 v_5 0 h

set_option maxRecDepth 100000 in
theorem ctX1_share_w0 {E : gE} {q : Nat → Nat} {r : Nat → Nat → Nat} {F : gF} (hF : gFz E F) (o0 : Nat → Int32) (A0 : Nat → Nat → Int32) (C0 : Nat → Option Nat) (h0 : Nat) (o1 : Nat → Int32) (A1 : Nat → Nat → Int32) (C1 : Nat → Option Nat) (h1 : Nat) (o2 : Nat → Int32) (A2 : Nat → Nat → Int32) (C2 : Nat → Option Nat) (h2 : Nat) (gs0 : Int32) (gA : Nat → Nat → Int32) (tb0 : Int32) (tA0 bf0 : Nat → Int32) (hi0 : Int32) (x2 : Nat) {res : Int32 × ((Nat → Int32)) × ((Nat → Int32))} (h : pX1_share_w0 F (o0 5) h0 gs0 (gA 1) (gA 2) (gA 0) (gA 3) x2 = some res) : gMi yX1_share (.code yX1_share cX1_share 8 (some .int) :: gU) ({ frames := 6, cells := 0, slots := 0, locals := 203 } : Room) 0 0 E [.ref (q 3), .ref (q 0), .ref x2] (cw E q r (gpl F) o0 A0 C0 h0 o1 A1 C1 h1 o2 A2 C2 h2 gs0 gA tb0 tA0 bf0 hi0) (fun v w => v = res.1 ∧ w = cw E q r (gpl F) o0 A0 C0 h0 o1 A1 C1 h1 o2 A2 C2 h2 gs0 (gu (gu gA 0 res.2.1) 3 res.2.2) tb0 tA0 bf0 hi0) := by
  refine g_met_i (by decide +kernel) (Nat.le_of_ble_eq_true rfl) (fun Γ K hn hE hRm _ hret => ?_)
  subst hE
  have hlt : ∀ i, i < 8 → i < g_n Γ := fun i q => by rw [hn]; exact q
  refine g_ws (ws' := cw (g_E Γ) q r (gpl F) o0 A0 C0 h0 o1 A1 C1 h1 o2 A2 C2 h2 gs0 (gu (gu gA 0 (gA 0)) 3 (gA 3)) tb0 tA0 bf0 hi0) rfl ?_
  refine g_sub (L' := [(0, .ref (q 3)), (1, .ref (q 0)), (2, .ref x2)]) [0, 1, 2] rfl ?_
  exact wX1_share_w0 (C0 := C0) (h0 := h0) (C1 := C1) (h1 := h1) (C2 := C2) (h2 := h2) (gs0 := gs0) (tb0 := tb0) (tA0 := tA0) (bf0 := bf0) (hi0 := hi0) hF K hlt hRm hret (gA 0) (gA 3) x2 h

set_option maxHeartbeats 4000000 in
set_option maxRecDepth 100000 in
theorem wJ6_bitCount_0f7a4 {Γ : gT} {ws : va_W} (K : gOK Γ cJ6_bitCount_0f7a4 gU RJ6) (hlt : ∀ i, i < 1 → i < g_n Γ) (hRm : g_R Γ = ({ frames := 4, cells := 0, slots := 0, locals := 150 } : Room)) {res : Int32} (hret : ∀ (pc : Nat) (L : List (Nat × Value)) (v : Int32) (w : va_W), decode cJ6_bitCount_0f7a4 pc = .ok (.ireturn, 1) → narrow .int (.int v) = .int v → (v = res ∧ w = ws) → gGO Γ 0 0 pc L [.int v] w) (x0 : Int32) (h : pJ6_bitCount_0f7a4 x0 = some res) : gGO Γ 0 0 0 [(0, .int x0)] [] (ws) := by
    unfold pJ6_bitCount_0f7a4 at h
    refine g_iload_n K dJ6_bitCount_0f7a4_0 rfl 0 rfl ?_
    refine g_iload_n K dJ6_bitCount_0f7a4_1 rfl 0 rfl ?_
    refine g_iconst (v := 1) K dJ6_bitCount_0f7a4_2 (by decide) ?_
    refine g_iushr K dJ6_bitCount_0f7a4_3 ?_
    refine g_ldcw (v := 1431655765) K u_624 dJ6_bitCount_0f7a4_4 ?_
    refine g_iand K dJ6_bitCount_0f7a4_7 ?_
    refine g_isub K dJ6_bitCount_0f7a4_8 ?_
    obtain ⟨v_1, ev_1, h⟩ := gi_nm h
    refine g_topi ev_1 ?_
    refine g_istore_n (L' := [(0, .int v_1)]) K dJ6_bitCount_0f7a4_9 rfl (hlt _ (by decide)) rfl ?_
    refine g_iload_n K dJ6_bitCount_0f7a4_10 rfl 0 rfl ?_
    refine g_ldcw (v := 858993459) K u_625 dJ6_bitCount_0f7a4_11 ?_
    refine g_iand K dJ6_bitCount_0f7a4_14 ?_
    refine g_iload_n K dJ6_bitCount_0f7a4_15 rfl 0 rfl ?_
    refine g_iconst (v := 2) K dJ6_bitCount_0f7a4_16 (by decide) ?_
    refine g_iushr K dJ6_bitCount_0f7a4_17 ?_
    refine g_ldcw (v := 858993459) K u_625 dJ6_bitCount_0f7a4_18 ?_
    refine g_iand K dJ6_bitCount_0f7a4_21 ?_
    refine g_iadd K dJ6_bitCount_0f7a4_22 ?_
    obtain ⟨v_2, ev_2, h⟩ := gi_nm h
    refine g_topi ev_2 ?_
    refine g_istore_n (L' := [(0, .int v_2)]) K dJ6_bitCount_0f7a4_23 rfl (hlt _ (by decide)) rfl ?_
    refine g_iload_n K dJ6_bitCount_0f7a4_24 rfl 0 rfl ?_
    refine g_iload_n K dJ6_bitCount_0f7a4_25 rfl 0 rfl ?_
    refine g_iconst (v := 4) K dJ6_bitCount_0f7a4_26 (by decide) ?_
    refine g_iushr K dJ6_bitCount_0f7a4_27 ?_
    refine g_iadd K dJ6_bitCount_0f7a4_28 ?_
    refine g_ldcw (v := 252645135) K u_626 dJ6_bitCount_0f7a4_29 ?_
    refine g_iand K dJ6_bitCount_0f7a4_32 ?_
    obtain ⟨v_3, ev_3, h⟩ := gi_nm h
    refine g_topi ev_3 ?_
    refine g_istore_n (L' := [(0, .int v_3)]) K dJ6_bitCount_0f7a4_33 rfl (hlt _ (by decide)) rfl ?_
    refine g_iload_n K dJ6_bitCount_0f7a4_34 rfl 0 rfl ?_
    refine g_iload_n K dJ6_bitCount_0f7a4_35 rfl 0 rfl ?_
    refine g_bipush (v := 8) K dJ6_bitCount_0f7a4_36 (by decide) ?_
    refine g_iushr K dJ6_bitCount_0f7a4_38 ?_
    refine g_iadd K dJ6_bitCount_0f7a4_39 ?_
    obtain ⟨v_4, ev_4, h⟩ := gi_nm h
    refine g_topi ev_4 ?_
    refine g_istore_n (L' := [(0, .int v_4)]) K dJ6_bitCount_0f7a4_40 rfl (hlt _ (by decide)) rfl ?_
    refine g_iload_n K dJ6_bitCount_0f7a4_41 rfl 0 rfl ?_
    refine g_iload_n K dJ6_bitCount_0f7a4_42 rfl 0 rfl ?_
    refine g_bipush (v := 16) K dJ6_bitCount_0f7a4_43 (by decide) ?_
    refine g_iushr K dJ6_bitCount_0f7a4_45 ?_
    refine g_iadd K dJ6_bitCount_0f7a4_46 ?_
    obtain ⟨v_5, ev_5, h⟩ := gi_nm h
    refine g_topi ev_5 ?_
    refine g_istore_n (L' := [(0, .int v_5)]) K dJ6_bitCount_0f7a4_47 rfl (hlt _ (by decide)) rfl ?_
    refine g_iload_n K dJ6_bitCount_0f7a4_48 rfl 0 rfl ?_
    refine g_bipush (v := 63) K dJ6_bitCount_0f7a4_49 (by decide) ?_
    refine g_iand K dJ6_bitCount_0f7a4_51 ?_
    obtain rfl := Option.some.inj h
    exact hret _ _ _ _ dJ6_bitCount_0f7a4_52 rfl ⟨rfl, rfl⟩

set_option maxRecDepth 100000 in
theorem ctJ6_bitCount_0f7a4 {E : gE} {ws : va_W} (x0 : Int32) {res : Int32} (h : pJ6_bitCount_0f7a4 x0 = some res) : gMi yJ6_bitCount_0f7a4 (.code yJ6_bitCount_0f7a4 cJ6_bitCount_0f7a4 1 (some .int) :: gU) ({ frames := 4, cells := 0, slots := 0, locals := 150 } : Room) 0 0 E [.int x0] ws (fun v w => v = res ∧ w = ws) := by
  refine g_met_i (by decide +kernel) (Nat.le_of_ble_eq_true rfl) (fun Γ K hn hE hRm _ hret => ?_)
  subst hE
  have hlt : ∀ i, i < 1 → i < g_n Γ := fun i q => by rw [hn]; exact q
  refine g_sub (L' := [(0, .int x0)]) [0] rfl ?_
  exact wJ6_bitCount_0f7a4 K hlt hRm hret x0 h

set_option maxHeartbeats 4000000 in
set_option maxRecDepth 100000 in
theorem wX0_seen_k0 {Γ : gT} {q : Nat → Nat} {r : Nat → Nat → Nat} {F : gF} (hF : gFz (g_E Γ) F) {o0 : Nat → Int32} {A0 : Nat → Nat → Int32} {C0 : Nat → Option Nat} {h0 : Nat} {o1 : Nat → Int32} {A1 : Nat → Nat → Int32} {C1 : Nat → Option Nat} {h1 : Nat} {o2 : Nat → Int32} {A2 : Nat → Nat → Int32} {C2 : Nat → Option Nat} {h2 : Nat} {gs0 : Int32} {gA : Nat → Nat → Int32} {tb0 : Int32} {tA0 bf0 : Nat → Int32} {hi0 : Int32} {b0 : Nat} (hb : chv F b0 = true) (hk0 : ck F b0 = 0) (K : gOK Γ cX0_seen gU RX0) (hlt : ∀ i, i < 3 → i < g_n Γ) (hRm : g_R Γ = ({ frames := 4, cells := 0, slots := 0, locals := 150 } : Room)) {res : Int32} (hret : ∀ (pc : Nat) (L : List (Nat × Value)) (v : Int32) (w : va_W), decode cX0_seen pc = .ok (.ireturn, 1) → narrow .int (.int v) = .int v → (v = res ∧ w = cw (g_E Γ) q r (gpl F) o0 A0 C0 h0 o1 A1 C1 h1 o2 A2 C2 h2 gs0 gA tb0 tA0 bf0 hi0) → gGO Γ 0 0 pc L [.int v] w) (x1 : Int32) (x2 : Int32) (h : pX0_seen_k0 x1 x2 = some res) : gGO Γ 0 0 0 [(0, .ref b0), (1, .int x1), (2, .int x2)] [] (cw (g_E Γ) q r (gpl F) o0 A0 C0 h0 o1 A1 C1 h1 o2 A2 C2 h2 gs0 gA tb0 tA0 bf0 hi0) := by
    unfold pX0_seen_k0 at h
    refine g_iload_n K dX0_seen_0 rfl 1 rfl ?_
    obtain rfl := Option.some.inj h
    exact hret _ _ _ _ dX0_seen_1 rfl ⟨rfl, rfl⟩

set_option maxRecDepth 100000 in
theorem ctX0_seen_k0 {E : gE} {q : Nat → Nat} {r : Nat → Nat → Nat} {F : gF} (hF : gFz E F) {b0 : Nat} (hb : chv F b0 = true) (hk0 : ck F b0 = 0) (o0 : Nat → Int32) (A0 : Nat → Nat → Int32) (C0 : Nat → Option Nat) (h0 : Nat) (o1 : Nat → Int32) (A1 : Nat → Nat → Int32) (C1 : Nat → Option Nat) (h1 : Nat) (o2 : Nat → Int32) (A2 : Nat → Nat → Int32) (C2 : Nat → Option Nat) (h2 : Nat) (gs0 : Int32) (gA : Nat → Nat → Int32) (tb0 : Int32) (tA0 bf0 : Nat → Int32) (hi0 : Int32) (x1 : Int32) (x2 : Int32) {res : Int32} (h : pX0_seen_k0 x1 x2 = some res) : gMi yX0_seen (.code yX0_seen cX0_seen 3 (some .int) :: gU) ({ frames := 4, cells := 0, slots := 0, locals := 150 } : Room) 0 0 E [.ref b0, .int x1, .int x2] (cw E q r (gpl F) o0 A0 C0 h0 o1 A1 C1 h1 o2 A2 C2 h2 gs0 gA tb0 tA0 bf0 hi0) (fun v w => v = res ∧ w = cw E q r (gpl F) o0 A0 C0 h0 o1 A1 C1 h1 o2 A2 C2 h2 gs0 gA tb0 tA0 bf0 hi0) := by
  refine g_met_i (by decide +kernel) (Nat.le_of_ble_eq_true rfl) (fun Γ K hn hE hRm _ hret => ?_)
  subst hE
  have hlt : ∀ i, i < 3 → i < g_n Γ := fun i q => by rw [hn]; exact q
  refine g_sub (L' := [(0, .ref b0), (1, .int x1), (2, .int x2)]) [0, 1, 2] rfl ?_
  exact wX0_seen_k0 (C0 := C0) (h0 := h0) (C1 := C1) (h1 := h1) (C2 := C2) (h2 := h2) (gs0 := gs0) (tb0 := tb0) (tA0 := tA0) (bf0 := bf0) (hi0 := hi0) hF hb hk0 K hlt hRm hret x1 x2 h

set_option maxHeartbeats 4000000 in
set_option maxRecDepth 100000 in
theorem wX0_seen_k1 {Γ : gT} {q : Nat → Nat} {r : Nat → Nat → Nat} {F : gF} (hF : gFz (g_E Γ) F) {o0 : Nat → Int32} {A0 : Nat → Nat → Int32} {C0 : Nat → Option Nat} {h0 : Nat} {o1 : Nat → Int32} {A1 : Nat → Nat → Int32} {C1 : Nat → Option Nat} {h1 : Nat} {o2 : Nat → Int32} {A2 : Nat → Nat → Int32} {C2 : Nat → Option Nat} {h2 : Nat} {gs0 : Int32} {gA : Nat → Nat → Int32} {tb0 : Int32} {tA0 bf0 : Nat → Int32} {hi0 : Int32} {b0 : Nat} (hb : chv F b0 = true) (hk0 : ck F b0 = 1) (K : gOK Γ cX0_seen gU RX0) (hlt : ∀ i, i < 3 → i < g_n Γ) (hRm : g_R Γ = ({ frames := 4, cells := 0, slots := 0, locals := 150 } : Room)) {res : Int32} (hret : ∀ (pc : Nat) (L : List (Nat × Value)) (v : Int32) (w : va_W), decode cX0_seen pc = .ok (.ireturn, 1) → narrow .int (.int v) = .int v → (v = res ∧ w = cw (g_E Γ) q r (gpl F) o0 A0 C0 h0 o1 A1 C1 h1 o2 A2 C2 h2 gs0 gA tb0 tA0 bf0 hi0) → gGO Γ 0 0 pc L [.int v] w) (x1 : Int32) (x2 : Int32) (h : pX0_seen_k1 x1 x2 = some res) : gGO Γ 0 0 0 [(0, .ref b0), (1, .int x1), (2, .int x2)] [] (cw (g_E Γ) q r (gpl F) o0 A0 C0 h0 o1 A1 C1 h1 o2 A2 C2 h2 gs0 gA tb0 tA0 bf0 hi0) := by
    unfold pX0_seen_k1 at h
    refine g_iload_n K dX0_seen_0 rfl 1 rfl ?_
    obtain rfl := Option.some.inj h
    exact hret _ _ _ _ dX0_seen_1 rfl ⟨rfl, rfl⟩

set_option maxRecDepth 100000 in
theorem ctX0_seen_k1 {E : gE} {q : Nat → Nat} {r : Nat → Nat → Nat} {F : gF} (hF : gFz E F) {b0 : Nat} (hb : chv F b0 = true) (hk0 : ck F b0 = 1) (o0 : Nat → Int32) (A0 : Nat → Nat → Int32) (C0 : Nat → Option Nat) (h0 : Nat) (o1 : Nat → Int32) (A1 : Nat → Nat → Int32) (C1 : Nat → Option Nat) (h1 : Nat) (o2 : Nat → Int32) (A2 : Nat → Nat → Int32) (C2 : Nat → Option Nat) (h2 : Nat) (gs0 : Int32) (gA : Nat → Nat → Int32) (tb0 : Int32) (tA0 bf0 : Nat → Int32) (hi0 : Int32) (x1 : Int32) (x2 : Int32) {res : Int32} (h : pX0_seen_k1 x1 x2 = some res) : gMi yX0_seen (.code yX0_seen cX0_seen 3 (some .int) :: gU) ({ frames := 4, cells := 0, slots := 0, locals := 150 } : Room) 0 0 E [.ref b0, .int x1, .int x2] (cw E q r (gpl F) o0 A0 C0 h0 o1 A1 C1 h1 o2 A2 C2 h2 gs0 gA tb0 tA0 bf0 hi0) (fun v w => v = res ∧ w = cw E q r (gpl F) o0 A0 C0 h0 o1 A1 C1 h1 o2 A2 C2 h2 gs0 gA tb0 tA0 bf0 hi0) := by
  refine g_met_i (by decide +kernel) (Nat.le_of_ble_eq_true rfl) (fun Γ K hn hE hRm _ hret => ?_)
  subst hE
  have hlt : ∀ i, i < 3 → i < g_n Γ := fun i q => by rw [hn]; exact q
  refine g_sub (L' := [(0, .ref b0), (1, .int x1), (2, .int x2)]) [0, 1, 2] rfl ?_
  exact wX0_seen_k1 (C0 := C0) (h0 := h0) (C1 := C1) (h1 := h1) (C2 := C2) (h2 := h2) (gs0 := gs0) (tb0 := tb0) (tA0 := tA0) (bf0 := bf0) (hi0 := hi0) hF hb hk0 K hlt hRm hret x1 x2 h

set_option maxHeartbeats 4000000 in
set_option maxRecDepth 100000 in
theorem wX0_seen_k2 {Γ : gT} {q : Nat → Nat} {r : Nat → Nat → Nat} {F : gF} (hF : gFz (g_E Γ) F) {o0 : Nat → Int32} {A0 : Nat → Nat → Int32} {C0 : Nat → Option Nat} {h0 : Nat} {o1 : Nat → Int32} {A1 : Nat → Nat → Int32} {C1 : Nat → Option Nat} {h1 : Nat} {o2 : Nat → Int32} {A2 : Nat → Nat → Int32} {C2 : Nat → Option Nat} {h2 : Nat} {gs0 : Int32} {gA : Nat → Nat → Int32} {tb0 : Int32} {tA0 bf0 : Nat → Int32} {hi0 : Int32} {b0 : Nat} (hb : chv F b0 = true) (hk0 : ck F b0 = 2) (K : gOK Γ cX0_seen gU RX0) (hlt : ∀ i, i < 3 → i < g_n Γ) (hRm : g_R Γ = ({ frames := 4, cells := 0, slots := 0, locals := 150 } : Room)) {res : Int32} (hret : ∀ (pc : Nat) (L : List (Nat × Value)) (v : Int32) (w : va_W), decode cX0_seen pc = .ok (.ireturn, 1) → narrow .int (.int v) = .int v → (v = res ∧ w = cw (g_E Γ) q r (gpl F) o0 A0 C0 h0 o1 A1 C1 h1 o2 A2 C2 h2 gs0 gA tb0 tA0 bf0 hi0) → gGO Γ 0 0 pc L [.int v] w) (x1 : Int32) (x2 : Int32) (h : pX0_seen_k2 x1 x2 = some res) : gGO Γ 0 0 0 [(0, .ref b0), (1, .int x1), (2, .int x2)] [] (cw (g_E Γ) q r (gpl F) o0 A0 C0 h0 o1 A1 C1 h1 o2 A2 C2 h2 gs0 gA tb0 tA0 bf0 hi0) := by
    unfold pX0_seen_k2 at h
    refine g_iload_n K dX0_seen_0 rfl 1 rfl ?_
    obtain rfl := Option.some.inj h
    exact hret _ _ _ _ dX0_seen_1 rfl ⟨rfl, rfl⟩

set_option maxRecDepth 100000 in
theorem ctX0_seen_k2 {E : gE} {q : Nat → Nat} {r : Nat → Nat → Nat} {F : gF} (hF : gFz E F) {b0 : Nat} (hb : chv F b0 = true) (hk0 : ck F b0 = 2) (o0 : Nat → Int32) (A0 : Nat → Nat → Int32) (C0 : Nat → Option Nat) (h0 : Nat) (o1 : Nat → Int32) (A1 : Nat → Nat → Int32) (C1 : Nat → Option Nat) (h1 : Nat) (o2 : Nat → Int32) (A2 : Nat → Nat → Int32) (C2 : Nat → Option Nat) (h2 : Nat) (gs0 : Int32) (gA : Nat → Nat → Int32) (tb0 : Int32) (tA0 bf0 : Nat → Int32) (hi0 : Int32) (x1 : Int32) (x2 : Int32) {res : Int32} (h : pX0_seen_k2 x1 x2 = some res) : gMi yX0_seen (.code yX0_seen cX0_seen 3 (some .int) :: gU) ({ frames := 4, cells := 0, slots := 0, locals := 150 } : Room) 0 0 E [.ref b0, .int x1, .int x2] (cw E q r (gpl F) o0 A0 C0 h0 o1 A1 C1 h1 o2 A2 C2 h2 gs0 gA tb0 tA0 bf0 hi0) (fun v w => v = res ∧ w = cw E q r (gpl F) o0 A0 C0 h0 o1 A1 C1 h1 o2 A2 C2 h2 gs0 gA tb0 tA0 bf0 hi0) := by
  refine g_met_i (by decide +kernel) (Nat.le_of_ble_eq_true rfl) (fun Γ K hn hE hRm _ hret => ?_)
  subst hE
  have hlt : ∀ i, i < 3 → i < g_n Γ := fun i q => by rw [hn]; exact q
  refine g_sub (L' := [(0, .ref b0), (1, .int x1), (2, .int x2)]) [0, 1, 2] rfl ?_
  exact wX0_seen_k2 (C0 := C0) (h0 := h0) (C1 := C1) (h1 := h1) (C2 := C2) (h2 := h2) (gs0 := gs0) (tb0 := tb0) (tA0 := tA0) (bf0 := bf0) (hi0 := hi0) hF hb hk0 K hlt hRm hret x1 x2 h

set_option maxHeartbeats 4000000 in
set_option maxRecDepth 100000 in
theorem wX4_seen_k3 {Γ : gT} {q : Nat → Nat} {r : Nat → Nat → Nat} {F : gF} (hF : gFz (g_E Γ) F) {o0 : Nat → Int32} {A0 : Nat → Nat → Int32} {C0 : Nat → Option Nat} {h0 : Nat} {o1 : Nat → Int32} {A1 : Nat → Nat → Int32} {C1 : Nat → Option Nat} {h1 : Nat} {o2 : Nat → Int32} {A2 : Nat → Nat → Int32} {C2 : Nat → Option Nat} {h2 : Nat} {gs0 : Int32} {gA : Nat → Nat → Int32} {tb0 : Int32} {tA0 bf0 : Nat → Int32} {hi0 : Int32} {b0 : Nat} (hb : chv F b0 = true) (hk0 : ck F b0 = 3) (K : gOK Γ cX4_seen gU RX4) (hlt : ∀ i, i < 3 → i < g_n Γ) (hRm : g_R Γ = ({ frames := 4, cells := 0, slots := 0, locals := 150 } : Room)) {res : Int32} (hret : ∀ (pc : Nat) (L : List (Nat × Value)) (v : Int32) (w : va_W), decode cX4_seen pc = .ok (.ireturn, 1) → narrow .int (.int v) = .int v → (v = res ∧ w = cw (g_E Γ) q r (gpl F) o0 A0 C0 h0 o1 A1 C1 h1 o2 A2 C2 h2 gs0 gA tb0 tA0 bf0 hi0) → gGO Γ 0 0 pc L [.int v] w) (x1 : Int32) (x2 : Int32) (h : pX4_seen_k3 F b0 x1 x2 = some res) : gGO Γ 0 0 0 [(0, .ref b0), (1, .int x1), (2, .int x2)] [] (cw (g_E Γ) q r (gpl F) o0 A0 C0 h0 o1 A1 C1 h1 o2 A2 C2 h2 gs0 gA tb0 tA0 bf0 hi0) := by
    unfold pX4_seen_k3 at h
    refine g_iload_n K dX4_seen_0 rfl 1 rfl ?_
    refine g_bipush (v := 10) K dX4_seen_1 (by decide) ?_
    refine g_aload_n K dX4_seen_3 rfl 0 rfl ?_
    refine g_getF (v := .int (cv F b0)) (T := TX4) (ref := "ChiefGrades$Lately") K hin_X4 (gF_at (j := 3) hF hb hk0 (by decide)) rfl 2 (by decide) u_268 (Or.inr u_269) rfl dX4_seen_4 ?_
    refine g_isub K dX4_seen_7 ?_
    refine g_imul K dX4_seen_8 ?_
    refine g_iload_n K dX4_seen_9 rfl 2 rfl ?_
    refine g_aload_n K dX4_seen_10 rfl 0 rfl ?_
    refine g_getF (v := .int (cv F b0)) (T := TX4) (ref := "ChiefGrades$Lately") K hin_X4 (gF_at (j := 3) hF hb hk0 (by decide)) rfl 2 (by decide) u_268 (Or.inr u_269) rfl dX4_seen_11 ?_
    refine g_imul K dX4_seen_14 ?_
    refine g_iadd K dX4_seen_15 ?_
    refine g_bipush (v := 10) K dX4_seen_16 (by decide) ?_
    refine g_idiv K dX4_seen_18 (by decide) ?_
    obtain rfl := Option.some.inj h
    exact hret _ _ _ _ dX4_seen_19 rfl ⟨rfl, rfl⟩

set_option maxRecDepth 100000 in
theorem ctX4_seen_k3 {E : gE} {q : Nat → Nat} {r : Nat → Nat → Nat} {F : gF} (hF : gFz E F) {b0 : Nat} (hb : chv F b0 = true) (hk0 : ck F b0 = 3) (o0 : Nat → Int32) (A0 : Nat → Nat → Int32) (C0 : Nat → Option Nat) (h0 : Nat) (o1 : Nat → Int32) (A1 : Nat → Nat → Int32) (C1 : Nat → Option Nat) (h1 : Nat) (o2 : Nat → Int32) (A2 : Nat → Nat → Int32) (C2 : Nat → Option Nat) (h2 : Nat) (gs0 : Int32) (gA : Nat → Nat → Int32) (tb0 : Int32) (tA0 bf0 : Nat → Int32) (hi0 : Int32) (x1 : Int32) (x2 : Int32) {res : Int32} (h : pX4_seen_k3 F b0 x1 x2 = some res) : gMi yX4_seen (.code yX4_seen cX4_seen 3 (some .int) :: gU) ({ frames := 4, cells := 0, slots := 0, locals := 150 } : Room) 0 0 E [.ref b0, .int x1, .int x2] (cw E q r (gpl F) o0 A0 C0 h0 o1 A1 C1 h1 o2 A2 C2 h2 gs0 gA tb0 tA0 bf0 hi0) (fun v w => v = res ∧ w = cw E q r (gpl F) o0 A0 C0 h0 o1 A1 C1 h1 o2 A2 C2 h2 gs0 gA tb0 tA0 bf0 hi0) := by
  refine g_met_i (by decide +kernel) (Nat.le_of_ble_eq_true rfl) (fun Γ K hn hE hRm _ hret => ?_)
  subst hE
  have hlt : ∀ i, i < 3 → i < g_n Γ := fun i q => by rw [hn]; exact q
  refine g_sub (L' := [(0, .ref b0), (1, .int x1), (2, .int x2)]) [0, 1, 2] rfl ?_
  exact wX4_seen_k3 (C0 := C0) (h0 := h0) (C1 := C1) (h1 := h1) (C2 := C2) (h2 := h2) (gs0 := gs0) (tb0 := tb0) (tA0 := tA0) (bf0 := bf0) (hi0 := hi0) hF hb hk0 K hlt hRm hret x1 x2 h

set_option maxHeartbeats 4000000 in
set_option maxRecDepth 100000 in
theorem wX0_seen_k4 {Γ : gT} {q : Nat → Nat} {r : Nat → Nat → Nat} {F : gF} (hF : gFz (g_E Γ) F) {o0 : Nat → Int32} {A0 : Nat → Nat → Int32} {C0 : Nat → Option Nat} {h0 : Nat} {o1 : Nat → Int32} {A1 : Nat → Nat → Int32} {C1 : Nat → Option Nat} {h1 : Nat} {o2 : Nat → Int32} {A2 : Nat → Nat → Int32} {C2 : Nat → Option Nat} {h2 : Nat} {gs0 : Int32} {gA : Nat → Nat → Int32} {tb0 : Int32} {tA0 bf0 : Nat → Int32} {hi0 : Int32} {b0 : Nat} (hb : chv F b0 = true) (hk0 : ck F b0 = 4) (K : gOK Γ cX0_seen gU RX0) (hlt : ∀ i, i < 3 → i < g_n Γ) (hRm : g_R Γ = ({ frames := 4, cells := 0, slots := 0, locals := 150 } : Room)) {res : Int32} (hret : ∀ (pc : Nat) (L : List (Nat × Value)) (v : Int32) (w : va_W), decode cX0_seen pc = .ok (.ireturn, 1) → narrow .int (.int v) = .int v → (v = res ∧ w = cw (g_E Γ) q r (gpl F) o0 A0 C0 h0 o1 A1 C1 h1 o2 A2 C2 h2 gs0 gA tb0 tA0 bf0 hi0) → gGO Γ 0 0 pc L [.int v] w) (x1 : Int32) (x2 : Int32) (h : pX0_seen_k4 x1 x2 = some res) : gGO Γ 0 0 0 [(0, .ref b0), (1, .int x1), (2, .int x2)] [] (cw (g_E Γ) q r (gpl F) o0 A0 C0 h0 o1 A1 C1 h1 o2 A2 C2 h2 gs0 gA tb0 tA0 bf0 hi0) := by
    unfold pX0_seen_k4 at h
    refine g_iload_n K dX0_seen_0 rfl 1 rfl ?_
    obtain rfl := Option.some.inj h
    exact hret _ _ _ _ dX0_seen_1 rfl ⟨rfl, rfl⟩

set_option maxRecDepth 100000 in
theorem ctX0_seen_k4 {E : gE} {q : Nat → Nat} {r : Nat → Nat → Nat} {F : gF} (hF : gFz E F) {b0 : Nat} (hb : chv F b0 = true) (hk0 : ck F b0 = 4) (o0 : Nat → Int32) (A0 : Nat → Nat → Int32) (C0 : Nat → Option Nat) (h0 : Nat) (o1 : Nat → Int32) (A1 : Nat → Nat → Int32) (C1 : Nat → Option Nat) (h1 : Nat) (o2 : Nat → Int32) (A2 : Nat → Nat → Int32) (C2 : Nat → Option Nat) (h2 : Nat) (gs0 : Int32) (gA : Nat → Nat → Int32) (tb0 : Int32) (tA0 bf0 : Nat → Int32) (hi0 : Int32) (x1 : Int32) (x2 : Int32) {res : Int32} (h : pX0_seen_k4 x1 x2 = some res) : gMi yX0_seen (.code yX0_seen cX0_seen 3 (some .int) :: gU) ({ frames := 4, cells := 0, slots := 0, locals := 150 } : Room) 0 0 E [.ref b0, .int x1, .int x2] (cw E q r (gpl F) o0 A0 C0 h0 o1 A1 C1 h1 o2 A2 C2 h2 gs0 gA tb0 tA0 bf0 hi0) (fun v w => v = res ∧ w = cw E q r (gpl F) o0 A0 C0 h0 o1 A1 C1 h1 o2 A2 C2 h2 gs0 gA tb0 tA0 bf0 hi0) := by
  refine g_met_i (by decide +kernel) (Nat.le_of_ble_eq_true rfl) (fun Γ K hn hE hRm _ hret => ?_)
  subst hE
  have hlt : ∀ i, i < 3 → i < g_n Γ := fun i q => by rw [hn]; exact q
  refine g_sub (L' := [(0, .ref b0), (1, .int x1), (2, .int x2)]) [0, 1, 2] rfl ?_
  exact wX0_seen_k4 (C0 := C0) (h0 := h0) (C1 := C1) (h1 := h1) (C2 := C2) (h2 := h2) (gs0 := gs0) (tb0 := tb0) (tA0 := tA0) (bf0 := bf0) (hi0 := hi0) hF hb hk0 K hlt hRm hret x1 x2 h

set_option maxHeartbeats 4000000 in
set_option maxRecDepth 100000 in
theorem wX0_seen_k5 {Γ : gT} {q : Nat → Nat} {r : Nat → Nat → Nat} {F : gF} (hF : gFz (g_E Γ) F) {o0 : Nat → Int32} {A0 : Nat → Nat → Int32} {C0 : Nat → Option Nat} {h0 : Nat} {o1 : Nat → Int32} {A1 : Nat → Nat → Int32} {C1 : Nat → Option Nat} {h1 : Nat} {o2 : Nat → Int32} {A2 : Nat → Nat → Int32} {C2 : Nat → Option Nat} {h2 : Nat} {gs0 : Int32} {gA : Nat → Nat → Int32} {tb0 : Int32} {tA0 bf0 : Nat → Int32} {hi0 : Int32} {b0 : Nat} (hb : chv F b0 = true) (hk0 : ck F b0 = 5) (K : gOK Γ cX0_seen gU RX0) (hlt : ∀ i, i < 3 → i < g_n Γ) (hRm : g_R Γ = ({ frames := 4, cells := 0, slots := 0, locals := 150 } : Room)) {res : Int32} (hret : ∀ (pc : Nat) (L : List (Nat × Value)) (v : Int32) (w : va_W), decode cX0_seen pc = .ok (.ireturn, 1) → narrow .int (.int v) = .int v → (v = res ∧ w = cw (g_E Γ) q r (gpl F) o0 A0 C0 h0 o1 A1 C1 h1 o2 A2 C2 h2 gs0 gA tb0 tA0 bf0 hi0) → gGO Γ 0 0 pc L [.int v] w) (x1 : Int32) (x2 : Int32) (h : pX0_seen_k5 x1 x2 = some res) : gGO Γ 0 0 0 [(0, .ref b0), (1, .int x1), (2, .int x2)] [] (cw (g_E Γ) q r (gpl F) o0 A0 C0 h0 o1 A1 C1 h1 o2 A2 C2 h2 gs0 gA tb0 tA0 bf0 hi0) := by
    unfold pX0_seen_k5 at h
    refine g_iload_n K dX0_seen_0 rfl 1 rfl ?_
    obtain rfl := Option.some.inj h
    exact hret _ _ _ _ dX0_seen_1 rfl ⟨rfl, rfl⟩

set_option maxRecDepth 100000 in
theorem ctX0_seen_k5 {E : gE} {q : Nat → Nat} {r : Nat → Nat → Nat} {F : gF} (hF : gFz E F) {b0 : Nat} (hb : chv F b0 = true) (hk0 : ck F b0 = 5) (o0 : Nat → Int32) (A0 : Nat → Nat → Int32) (C0 : Nat → Option Nat) (h0 : Nat) (o1 : Nat → Int32) (A1 : Nat → Nat → Int32) (C1 : Nat → Option Nat) (h1 : Nat) (o2 : Nat → Int32) (A2 : Nat → Nat → Int32) (C2 : Nat → Option Nat) (h2 : Nat) (gs0 : Int32) (gA : Nat → Nat → Int32) (tb0 : Int32) (tA0 bf0 : Nat → Int32) (hi0 : Int32) (x1 : Int32) (x2 : Int32) {res : Int32} (h : pX0_seen_k5 x1 x2 = some res) : gMi yX0_seen (.code yX0_seen cX0_seen 3 (some .int) :: gU) ({ frames := 4, cells := 0, slots := 0, locals := 150 } : Room) 0 0 E [.ref b0, .int x1, .int x2] (cw E q r (gpl F) o0 A0 C0 h0 o1 A1 C1 h1 o2 A2 C2 h2 gs0 gA tb0 tA0 bf0 hi0) (fun v w => v = res ∧ w = cw E q r (gpl F) o0 A0 C0 h0 o1 A1 C1 h1 o2 A2 C2 h2 gs0 gA tb0 tA0 bf0 hi0) := by
  refine g_met_i (by decide +kernel) (Nat.le_of_ble_eq_true rfl) (fun Γ K hn hE hRm _ hret => ?_)
  subst hE
  have hlt : ∀ i, i < 3 → i < g_n Γ := fun i q => by rw [hn]; exact q
  refine g_sub (L' := [(0, .ref b0), (1, .int x1), (2, .int x2)]) [0, 1, 2] rfl ?_
  exact wX0_seen_k5 (C0 := C0) (h0 := h0) (C1 := C1) (h1 := h1) (C2 := C2) (h2 := h2) (gs0 := gs0) (tb0 := tb0) (tA0 := tA0) (bf0 := bf0) (hi0 := hi0) hF hb hk0 K hlt hRm hret x1 x2 h

set_option maxHeartbeats 4000000 in
set_option maxRecDepth 100000 in
theorem wX4_seen_k6 {Γ : gT} {q : Nat → Nat} {r : Nat → Nat → Nat} {F : gF} (hF : gFz (g_E Γ) F) {o0 : Nat → Int32} {A0 : Nat → Nat → Int32} {C0 : Nat → Option Nat} {h0 : Nat} {o1 : Nat → Int32} {A1 : Nat → Nat → Int32} {C1 : Nat → Option Nat} {h1 : Nat} {o2 : Nat → Int32} {A2 : Nat → Nat → Int32} {C2 : Nat → Option Nat} {h2 : Nat} {gs0 : Int32} {gA : Nat → Nat → Int32} {tb0 : Int32} {tA0 bf0 : Nat → Int32} {hi0 : Int32} {b0 : Nat} (hb : chv F b0 = true) (hk0 : ck F b0 = 6) (K : gOK Γ cX4_seen gU RX4) (hlt : ∀ i, i < 3 → i < g_n Γ) (hRm : g_R Γ = ({ frames := 4, cells := 0, slots := 0, locals := 150 } : Room)) {res : Int32} (hret : ∀ (pc : Nat) (L : List (Nat × Value)) (v : Int32) (w : va_W), decode cX4_seen pc = .ok (.ireturn, 1) → narrow .int (.int v) = .int v → (v = res ∧ w = cw (g_E Γ) q r (gpl F) o0 A0 C0 h0 o1 A1 C1 h1 o2 A2 C2 h2 gs0 gA tb0 tA0 bf0 hi0) → gGO Γ 0 0 pc L [.int v] w) (x1 : Int32) (x2 : Int32) (h : pX4_seen_k6 F b0 x1 x2 = some res) : gGO Γ 0 0 0 [(0, .ref b0), (1, .int x1), (2, .int x2)] [] (cw (g_E Γ) q r (gpl F) o0 A0 C0 h0 o1 A1 C1 h1 o2 A2 C2 h2 gs0 gA tb0 tA0 bf0 hi0) := by
    unfold pX4_seen_k6 at h
    refine g_iload_n K dX4_seen_0 rfl 1 rfl ?_
    refine g_bipush (v := 10) K dX4_seen_1 (by decide) ?_
    refine g_aload_n K dX4_seen_3 rfl 0 rfl ?_
    refine g_getF (v := .int (cv F b0)) (T := TX7) (ref := "ChiefGrades$Lately") K hin_X7 (gF_at (j := 6) hF hb hk0 (by decide)) rfl 2 (by decide) u_268 (Or.inr u_269) rfl dX4_seen_4 ?_
    refine g_isub K dX4_seen_7 ?_
    refine g_imul K dX4_seen_8 ?_
    refine g_iload_n K dX4_seen_9 rfl 2 rfl ?_
    refine g_aload_n K dX4_seen_10 rfl 0 rfl ?_
    refine g_getF (v := .int (cv F b0)) (T := TX7) (ref := "ChiefGrades$Lately") K hin_X7 (gF_at (j := 6) hF hb hk0 (by decide)) rfl 2 (by decide) u_268 (Or.inr u_269) rfl dX4_seen_11 ?_
    refine g_imul K dX4_seen_14 ?_
    refine g_iadd K dX4_seen_15 ?_
    refine g_bipush (v := 10) K dX4_seen_16 (by decide) ?_
    refine g_idiv K dX4_seen_18 (by decide) ?_
    obtain rfl := Option.some.inj h
    exact hret _ _ _ _ dX4_seen_19 rfl ⟨rfl, rfl⟩

set_option maxRecDepth 100000 in
theorem ctX4_seen_k6 {E : gE} {q : Nat → Nat} {r : Nat → Nat → Nat} {F : gF} (hF : gFz E F) {b0 : Nat} (hb : chv F b0 = true) (hk0 : ck F b0 = 6) (o0 : Nat → Int32) (A0 : Nat → Nat → Int32) (C0 : Nat → Option Nat) (h0 : Nat) (o1 : Nat → Int32) (A1 : Nat → Nat → Int32) (C1 : Nat → Option Nat) (h1 : Nat) (o2 : Nat → Int32) (A2 : Nat → Nat → Int32) (C2 : Nat → Option Nat) (h2 : Nat) (gs0 : Int32) (gA : Nat → Nat → Int32) (tb0 : Int32) (tA0 bf0 : Nat → Int32) (hi0 : Int32) (x1 : Int32) (x2 : Int32) {res : Int32} (h : pX4_seen_k6 F b0 x1 x2 = some res) : gMi yX4_seen (.code yX4_seen cX4_seen 3 (some .int) :: gU) ({ frames := 4, cells := 0, slots := 0, locals := 150 } : Room) 0 0 E [.ref b0, .int x1, .int x2] (cw E q r (gpl F) o0 A0 C0 h0 o1 A1 C1 h1 o2 A2 C2 h2 gs0 gA tb0 tA0 bf0 hi0) (fun v w => v = res ∧ w = cw E q r (gpl F) o0 A0 C0 h0 o1 A1 C1 h1 o2 A2 C2 h2 gs0 gA tb0 tA0 bf0 hi0) := by
  refine g_met_i (by decide +kernel) (Nat.le_of_ble_eq_true rfl) (fun Γ K hn hE hRm _ hret => ?_)
  subst hE
  have hlt : ∀ i, i < 3 → i < g_n Γ := fun i q => by rw [hn]; exact q
  refine g_sub (L' := [(0, .ref b0), (1, .int x1), (2, .int x2)]) [0, 1, 2] rfl ?_
  exact wX4_seen_k6 (C0 := C0) (h0 := h0) (C1 := C1) (h1 := h1) (C2 := C2) (h2 := h2) (gs0 := gs0) (tb0 := tb0) (tA0 := tA0) (bf0 := bf0) (hi0 := hi0) hF hb hk0 K hlt hRm hret x1 x2 h

set_option maxHeartbeats 4000000 in
set_option maxRecDepth 100000 in
theorem wX0_favour_k0 {Γ : gT} {q : Nat → Nat} {r : Nat → Nat → Nat} {F : gF} (hF : gFz (g_E Γ) F) {o0 : Nat → Int32} {A0 : Nat → Nat → Int32} {C0 : Nat → Option Nat} {h0 : Nat} {o1 : Nat → Int32} {A1 : Nat → Nat → Int32} {C1 : Nat → Option Nat} {h1 : Nat} {o2 : Nat → Int32} {A2 : Nat → Nat → Int32} {C2 : Nat → Option Nat} {h2 : Nat} {gs0 : Int32} {gA : Nat → Nat → Int32} {tb0 : Int32} {tA0 bf0 : Nat → Int32} {hi0 : Int32} {b0 : Nat} (hb : chv F b0 = true) (hk0 : ck F b0 = 0) (K : gOK Γ cX0_favour gU RX0) (hlt : ∀ i, i < 2 → i < g_n Γ) (hRm : g_R Γ = ({ frames := 4, cells := 0, slots := 0, locals := 150 } : Room)) {res : Int32} (hret : ∀ (pc : Nat) (L : List (Nat × Value)) (v : Int32) (w : va_W), decode cX0_favour pc = .ok (.ireturn, 1) → narrow .int (.int v) = .int v → (v = res ∧ w = cw (g_E Γ) q r (gpl F) o0 A0 C0 h0 o1 A1 C1 h1 o2 A2 C2 h2 gs0 gA tb0 tA0 bf0 hi0) → gGO Γ 0 0 pc L [.int v] w) (x1 : Int32) (h : pX0_favour_k0 x1 = some res) : gGO Γ 0 0 0 [(0, .ref b0), (1, .int x1)] [] (cw (g_E Γ) q r (gpl F) o0 A0 C0 h0 o1 A1 C1 h1 o2 A2 C2 h2 gs0 gA tb0 tA0 bf0 hi0) := by
    unfold pX0_favour_k0 at h
    refine g_iconst (v := 0) K dX0_favour_0 (by decide) ?_
    obtain rfl := Option.some.inj h
    exact hret _ _ _ _ dX0_favour_1 rfl ⟨rfl, rfl⟩

set_option maxRecDepth 100000 in
theorem ctX0_favour_k0 {E : gE} {q : Nat → Nat} {r : Nat → Nat → Nat} {F : gF} (hF : gFz E F) {b0 : Nat} (hb : chv F b0 = true) (hk0 : ck F b0 = 0) (o0 : Nat → Int32) (A0 : Nat → Nat → Int32) (C0 : Nat → Option Nat) (h0 : Nat) (o1 : Nat → Int32) (A1 : Nat → Nat → Int32) (C1 : Nat → Option Nat) (h1 : Nat) (o2 : Nat → Int32) (A2 : Nat → Nat → Int32) (C2 : Nat → Option Nat) (h2 : Nat) (gs0 : Int32) (gA : Nat → Nat → Int32) (tb0 : Int32) (tA0 bf0 : Nat → Int32) (hi0 : Int32) (x1 : Int32) {res : Int32} (h : pX0_favour_k0 x1 = some res) : gMi yX0_favour (.code yX0_favour cX0_favour 2 (some .int) :: gU) ({ frames := 4, cells := 0, slots := 0, locals := 150 } : Room) 0 0 E [.ref b0, .int x1] (cw E q r (gpl F) o0 A0 C0 h0 o1 A1 C1 h1 o2 A2 C2 h2 gs0 gA tb0 tA0 bf0 hi0) (fun v w => v = res ∧ w = cw E q r (gpl F) o0 A0 C0 h0 o1 A1 C1 h1 o2 A2 C2 h2 gs0 gA tb0 tA0 bf0 hi0) := by
  refine g_met_i (by decide +kernel) (Nat.le_of_ble_eq_true rfl) (fun Γ K hn hE hRm _ hret => ?_)
  subst hE
  have hlt : ∀ i, i < 2 → i < g_n Γ := fun i q => by rw [hn]; exact q
  refine g_sub (L' := [(0, .ref b0), (1, .int x1)]) [0, 1] rfl ?_
  exact wX0_favour_k0 (C0 := C0) (h0 := h0) (C1 := C1) (h1 := h1) (C2 := C2) (h2 := h2) (gs0 := gs0) (tb0 := tb0) (tA0 := tA0) (bf0 := bf0) (hi0 := hi0) hF hb hk0 K hlt hRm hret x1 h

set_option maxHeartbeats 4000000 in
set_option maxRecDepth 100000 in
theorem wX5_favour_k1 {Γ : gT} {q : Nat → Nat} {r : Nat → Nat → Nat} {F : gF} (hF : gFz (g_E Γ) F) {o0 : Nat → Int32} {A0 : Nat → Nat → Int32} {C0 : Nat → Option Nat} {h0 : Nat} {o1 : Nat → Int32} {A1 : Nat → Nat → Int32} {C1 : Nat → Option Nat} {h1 : Nat} {o2 : Nat → Int32} {A2 : Nat → Nat → Int32} {C2 : Nat → Option Nat} {h2 : Nat} {gs0 : Int32} {gA : Nat → Nat → Int32} {tb0 : Int32} {tA0 bf0 : Nat → Int32} {hi0 : Int32} {b0 : Nat} (hb : chv F b0 = true) (hk0 : ck F b0 = 1) (K : gOK Γ cX5_favour gU RX5) (hlt : ∀ i, i < 2 → i < g_n Γ) (hRm : g_R Γ = ({ frames := 4, cells := 0, slots := 0, locals := 150 } : Room)) {res : Int32} (hret : ∀ (pc : Nat) (L : List (Nat × Value)) (v : Int32) (w : va_W), decode cX5_favour pc = .ok (.ireturn, 1) → narrow .int (.int v) = .int v → (v = res ∧ w = cw (g_E Γ) q r (gpl F) o0 A0 C0 h0 o1 A1 C1 h1 o2 A2 C2 h2 gs0 gA tb0 tA0 bf0 hi0) → gGO Γ 0 0 pc L [.int v] w) (x1 : Int32) (h : pX5_favour_k1 F b0 x1 = some res) : gGO Γ 0 0 0 [(0, .ref b0), (1, .int x1)] [] (cw (g_E Γ) q r (gpl F) o0 A0 C0 h0 o1 A1 C1 h1 o2 A2 C2 h2 gs0 gA tb0 tA0 bf0 hi0) := by
    unfold pX5_favour_k1 at h
    refine g_aload_n K dX5_favour_0 rfl 0 rfl ?_
    refine g_getF (v := .int (cv F b0)) (T := TX5) (ref := "ChiefGrades$Lenient") K hin_X5 (gF_at (j := 1) hF hb hk0 (by decide)) rfl 2 (by decide) u_264 (Or.inr u_265) rfl dX5_favour_1 ?_
    obtain rfl := Option.some.inj h
    exact hret _ _ _ _ dX5_favour_4 rfl ⟨rfl, rfl⟩

set_option maxRecDepth 100000 in
theorem ctX5_favour_k1 {E : gE} {q : Nat → Nat} {r : Nat → Nat → Nat} {F : gF} (hF : gFz E F) {b0 : Nat} (hb : chv F b0 = true) (hk0 : ck F b0 = 1) (o0 : Nat → Int32) (A0 : Nat → Nat → Int32) (C0 : Nat → Option Nat) (h0 : Nat) (o1 : Nat → Int32) (A1 : Nat → Nat → Int32) (C1 : Nat → Option Nat) (h1 : Nat) (o2 : Nat → Int32) (A2 : Nat → Nat → Int32) (C2 : Nat → Option Nat) (h2 : Nat) (gs0 : Int32) (gA : Nat → Nat → Int32) (tb0 : Int32) (tA0 bf0 : Nat → Int32) (hi0 : Int32) (x1 : Int32) {res : Int32} (h : pX5_favour_k1 F b0 x1 = some res) : gMi yX5_favour (.code yX5_favour cX5_favour 2 (some .int) :: gU) ({ frames := 4, cells := 0, slots := 0, locals := 150 } : Room) 0 0 E [.ref b0, .int x1] (cw E q r (gpl F) o0 A0 C0 h0 o1 A1 C1 h1 o2 A2 C2 h2 gs0 gA tb0 tA0 bf0 hi0) (fun v w => v = res ∧ w = cw E q r (gpl F) o0 A0 C0 h0 o1 A1 C1 h1 o2 A2 C2 h2 gs0 gA tb0 tA0 bf0 hi0) := by
  refine g_met_i (by decide +kernel) (Nat.le_of_ble_eq_true rfl) (fun Γ K hn hE hRm _ hret => ?_)
  subst hE
  have hlt : ∀ i, i < 2 → i < g_n Γ := fun i q => by rw [hn]; exact q
  refine g_sub (L' := [(0, .ref b0), (1, .int x1)]) [0, 1] rfl ?_
  exact wX5_favour_k1 (C0 := C0) (h0 := h0) (C1 := C1) (h1 := h1) (C2 := C2) (h2 := h2) (gs0 := gs0) (tb0 := tb0) (tA0 := tA0) (bf0 := bf0) (hi0 := hi0) hF hb hk0 K hlt hRm hret x1 h

set_option maxHeartbeats 4000000 in
set_option maxRecDepth 100000 in
theorem wX0_favour_k2 {Γ : gT} {q : Nat → Nat} {r : Nat → Nat → Nat} {F : gF} (hF : gFz (g_E Γ) F) {o0 : Nat → Int32} {A0 : Nat → Nat → Int32} {C0 : Nat → Option Nat} {h0 : Nat} {o1 : Nat → Int32} {A1 : Nat → Nat → Int32} {C1 : Nat → Option Nat} {h1 : Nat} {o2 : Nat → Int32} {A2 : Nat → Nat → Int32} {C2 : Nat → Option Nat} {h2 : Nat} {gs0 : Int32} {gA : Nat → Nat → Int32} {tb0 : Int32} {tA0 bf0 : Nat → Int32} {hi0 : Int32} {b0 : Nat} (hb : chv F b0 = true) (hk0 : ck F b0 = 2) (K : gOK Γ cX0_favour gU RX0) (hlt : ∀ i, i < 2 → i < g_n Γ) (hRm : g_R Γ = ({ frames := 4, cells := 0, slots := 0, locals := 150 } : Room)) {res : Int32} (hret : ∀ (pc : Nat) (L : List (Nat × Value)) (v : Int32) (w : va_W), decode cX0_favour pc = .ok (.ireturn, 1) → narrow .int (.int v) = .int v → (v = res ∧ w = cw (g_E Γ) q r (gpl F) o0 A0 C0 h0 o1 A1 C1 h1 o2 A2 C2 h2 gs0 gA tb0 tA0 bf0 hi0) → gGO Γ 0 0 pc L [.int v] w) (x1 : Int32) (h : pX0_favour_k2 x1 = some res) : gGO Γ 0 0 0 [(0, .ref b0), (1, .int x1)] [] (cw (g_E Γ) q r (gpl F) o0 A0 C0 h0 o1 A1 C1 h1 o2 A2 C2 h2 gs0 gA tb0 tA0 bf0 hi0) := by
    unfold pX0_favour_k2 at h
    refine g_iconst (v := 0) K dX0_favour_0 (by decide) ?_
    obtain rfl := Option.some.inj h
    exact hret _ _ _ _ dX0_favour_1 rfl ⟨rfl, rfl⟩

set_option maxRecDepth 100000 in
theorem ctX0_favour_k2 {E : gE} {q : Nat → Nat} {r : Nat → Nat → Nat} {F : gF} (hF : gFz E F) {b0 : Nat} (hb : chv F b0 = true) (hk0 : ck F b0 = 2) (o0 : Nat → Int32) (A0 : Nat → Nat → Int32) (C0 : Nat → Option Nat) (h0 : Nat) (o1 : Nat → Int32) (A1 : Nat → Nat → Int32) (C1 : Nat → Option Nat) (h1 : Nat) (o2 : Nat → Int32) (A2 : Nat → Nat → Int32) (C2 : Nat → Option Nat) (h2 : Nat) (gs0 : Int32) (gA : Nat → Nat → Int32) (tb0 : Int32) (tA0 bf0 : Nat → Int32) (hi0 : Int32) (x1 : Int32) {res : Int32} (h : pX0_favour_k2 x1 = some res) : gMi yX0_favour (.code yX0_favour cX0_favour 2 (some .int) :: gU) ({ frames := 4, cells := 0, slots := 0, locals := 150 } : Room) 0 0 E [.ref b0, .int x1] (cw E q r (gpl F) o0 A0 C0 h0 o1 A1 C1 h1 o2 A2 C2 h2 gs0 gA tb0 tA0 bf0 hi0) (fun v w => v = res ∧ w = cw E q r (gpl F) o0 A0 C0 h0 o1 A1 C1 h1 o2 A2 C2 h2 gs0 gA tb0 tA0 bf0 hi0) := by
  refine g_met_i (by decide +kernel) (Nat.le_of_ble_eq_true rfl) (fun Γ K hn hE hRm _ hret => ?_)
  subst hE
  have hlt : ∀ i, i < 2 → i < g_n Γ := fun i q => by rw [hn]; exact q
  refine g_sub (L' := [(0, .ref b0), (1, .int x1)]) [0, 1] rfl ?_
  exact wX0_favour_k2 (C0 := C0) (h0 := h0) (C1 := C1) (h1 := h1) (C2 := C2) (h2 := h2) (gs0 := gs0) (tb0 := tb0) (tA0 := tA0) (bf0 := bf0) (hi0 := hi0) hF hb hk0 K hlt hRm hret x1 h

set_option maxHeartbeats 4000000 in
set_option maxRecDepth 100000 in
theorem wX0_favour_k3 {Γ : gT} {q : Nat → Nat} {r : Nat → Nat → Nat} {F : gF} (hF : gFz (g_E Γ) F) {o0 : Nat → Int32} {A0 : Nat → Nat → Int32} {C0 : Nat → Option Nat} {h0 : Nat} {o1 : Nat → Int32} {A1 : Nat → Nat → Int32} {C1 : Nat → Option Nat} {h1 : Nat} {o2 : Nat → Int32} {A2 : Nat → Nat → Int32} {C2 : Nat → Option Nat} {h2 : Nat} {gs0 : Int32} {gA : Nat → Nat → Int32} {tb0 : Int32} {tA0 bf0 : Nat → Int32} {hi0 : Int32} {b0 : Nat} (hb : chv F b0 = true) (hk0 : ck F b0 = 3) (K : gOK Γ cX0_favour gU RX0) (hlt : ∀ i, i < 2 → i < g_n Γ) (hRm : g_R Γ = ({ frames := 4, cells := 0, slots := 0, locals := 150 } : Room)) {res : Int32} (hret : ∀ (pc : Nat) (L : List (Nat × Value)) (v : Int32) (w : va_W), decode cX0_favour pc = .ok (.ireturn, 1) → narrow .int (.int v) = .int v → (v = res ∧ w = cw (g_E Γ) q r (gpl F) o0 A0 C0 h0 o1 A1 C1 h1 o2 A2 C2 h2 gs0 gA tb0 tA0 bf0 hi0) → gGO Γ 0 0 pc L [.int v] w) (x1 : Int32) (h : pX0_favour_k3 x1 = some res) : gGO Γ 0 0 0 [(0, .ref b0), (1, .int x1)] [] (cw (g_E Γ) q r (gpl F) o0 A0 C0 h0 o1 A1 C1 h1 o2 A2 C2 h2 gs0 gA tb0 tA0 bf0 hi0) := by
    unfold pX0_favour_k3 at h
    refine g_iconst (v := 0) K dX0_favour_0 (by decide) ?_
    obtain rfl := Option.some.inj h
    exact hret _ _ _ _ dX0_favour_1 rfl ⟨rfl, rfl⟩

set_option maxRecDepth 100000 in
theorem ctX0_favour_k3 {E : gE} {q : Nat → Nat} {r : Nat → Nat → Nat} {F : gF} (hF : gFz E F) {b0 : Nat} (hb : chv F b0 = true) (hk0 : ck F b0 = 3) (o0 : Nat → Int32) (A0 : Nat → Nat → Int32) (C0 : Nat → Option Nat) (h0 : Nat) (o1 : Nat → Int32) (A1 : Nat → Nat → Int32) (C1 : Nat → Option Nat) (h1 : Nat) (o2 : Nat → Int32) (A2 : Nat → Nat → Int32) (C2 : Nat → Option Nat) (h2 : Nat) (gs0 : Int32) (gA : Nat → Nat → Int32) (tb0 : Int32) (tA0 bf0 : Nat → Int32) (hi0 : Int32) (x1 : Int32) {res : Int32} (h : pX0_favour_k3 x1 = some res) : gMi yX0_favour (.code yX0_favour cX0_favour 2 (some .int) :: gU) ({ frames := 4, cells := 0, slots := 0, locals := 150 } : Room) 0 0 E [.ref b0, .int x1] (cw E q r (gpl F) o0 A0 C0 h0 o1 A1 C1 h1 o2 A2 C2 h2 gs0 gA tb0 tA0 bf0 hi0) (fun v w => v = res ∧ w = cw E q r (gpl F) o0 A0 C0 h0 o1 A1 C1 h1 o2 A2 C2 h2 gs0 gA tb0 tA0 bf0 hi0) := by
  refine g_met_i (by decide +kernel) (Nat.le_of_ble_eq_true rfl) (fun Γ K hn hE hRm _ hret => ?_)
  subst hE
  have hlt : ∀ i, i < 2 → i < g_n Γ := fun i q => by rw [hn]; exact q
  refine g_sub (L' := [(0, .ref b0), (1, .int x1)]) [0, 1] rfl ?_
  exact wX0_favour_k3 (C0 := C0) (h0 := h0) (C1 := C1) (h1 := h1) (C2 := C2) (h2 := h2) (gs0 := gs0) (tb0 := tb0) (tA0 := tA0) (bf0 := bf0) (hi0 := hi0) hF hb hk0 K hlt hRm hret x1 h

set_option maxHeartbeats 4000000 in
set_option maxRecDepth 100000 in
theorem wX5_favour_k4 {Γ : gT} {q : Nat → Nat} {r : Nat → Nat → Nat} {F : gF} (hF : gFz (g_E Γ) F) {o0 : Nat → Int32} {A0 : Nat → Nat → Int32} {C0 : Nat → Option Nat} {h0 : Nat} {o1 : Nat → Int32} {A1 : Nat → Nat → Int32} {C1 : Nat → Option Nat} {h1 : Nat} {o2 : Nat → Int32} {A2 : Nat → Nat → Int32} {C2 : Nat → Option Nat} {h2 : Nat} {gs0 : Int32} {gA : Nat → Nat → Int32} {tb0 : Int32} {tA0 bf0 : Nat → Int32} {hi0 : Int32} {b0 : Nat} (hb : chv F b0 = true) (hk0 : ck F b0 = 4) (K : gOK Γ cX5_favour gU RX5) (hlt : ∀ i, i < 2 → i < g_n Γ) (hRm : g_R Γ = ({ frames := 4, cells := 0, slots := 0, locals := 150 } : Room)) {res : Int32} (hret : ∀ (pc : Nat) (L : List (Nat × Value)) (v : Int32) (w : va_W), decode cX5_favour pc = .ok (.ireturn, 1) → narrow .int (.int v) = .int v → (v = res ∧ w = cw (g_E Γ) q r (gpl F) o0 A0 C0 h0 o1 A1 C1 h1 o2 A2 C2 h2 gs0 gA tb0 tA0 bf0 hi0) → gGO Γ 0 0 pc L [.int v] w) (x1 : Int32) (h : pX5_favour_k4 F b0 x1 = some res) : gGO Γ 0 0 0 [(0, .ref b0), (1, .int x1)] [] (cw (g_E Γ) q r (gpl F) o0 A0 C0 h0 o1 A1 C1 h1 o2 A2 C2 h2 gs0 gA tb0 tA0 bf0 hi0) := by
    unfold pX5_favour_k4 at h
    refine g_aload_n K dX5_favour_0 rfl 0 rfl ?_
    refine g_getF (v := .int (cv F b0)) (T := TX6) (ref := "ChiefGrades$Lenient") K hin_X6 (gF_at (j := 4) hF hb hk0 (by decide)) rfl 2 (by decide) u_264 (Or.inr u_265) rfl dX5_favour_1 ?_
    obtain rfl := Option.some.inj h
    exact hret _ _ _ _ dX5_favour_4 rfl ⟨rfl, rfl⟩

set_option maxRecDepth 100000 in
theorem ctX5_favour_k4 {E : gE} {q : Nat → Nat} {r : Nat → Nat → Nat} {F : gF} (hF : gFz E F) {b0 : Nat} (hb : chv F b0 = true) (hk0 : ck F b0 = 4) (o0 : Nat → Int32) (A0 : Nat → Nat → Int32) (C0 : Nat → Option Nat) (h0 : Nat) (o1 : Nat → Int32) (A1 : Nat → Nat → Int32) (C1 : Nat → Option Nat) (h1 : Nat) (o2 : Nat → Int32) (A2 : Nat → Nat → Int32) (C2 : Nat → Option Nat) (h2 : Nat) (gs0 : Int32) (gA : Nat → Nat → Int32) (tb0 : Int32) (tA0 bf0 : Nat → Int32) (hi0 : Int32) (x1 : Int32) {res : Int32} (h : pX5_favour_k4 F b0 x1 = some res) : gMi yX5_favour (.code yX5_favour cX5_favour 2 (some .int) :: gU) ({ frames := 4, cells := 0, slots := 0, locals := 150 } : Room) 0 0 E [.ref b0, .int x1] (cw E q r (gpl F) o0 A0 C0 h0 o1 A1 C1 h1 o2 A2 C2 h2 gs0 gA tb0 tA0 bf0 hi0) (fun v w => v = res ∧ w = cw E q r (gpl F) o0 A0 C0 h0 o1 A1 C1 h1 o2 A2 C2 h2 gs0 gA tb0 tA0 bf0 hi0) := by
  refine g_met_i (by decide +kernel) (Nat.le_of_ble_eq_true rfl) (fun Γ K hn hE hRm _ hret => ?_)
  subst hE
  have hlt : ∀ i, i < 2 → i < g_n Γ := fun i q => by rw [hn]; exact q
  refine g_sub (L' := [(0, .ref b0), (1, .int x1)]) [0, 1] rfl ?_
  exact wX5_favour_k4 (C0 := C0) (h0 := h0) (C1 := C1) (h1 := h1) (C2 := C2) (h2 := h2) (gs0 := gs0) (tb0 := tb0) (tA0 := tA0) (bf0 := bf0) (hi0 := hi0) hF hb hk0 K hlt hRm hret x1 h

set_option maxHeartbeats 4000000 in
set_option maxRecDepth 100000 in
theorem wX6_favour_k4 {Γ : gT} {q : Nat → Nat} {r : Nat → Nat → Nat} {F : gF} (hF : gFz (g_E Γ) F) {o0 : Nat → Int32} {A0 : Nat → Nat → Int32} {C0 : Nat → Option Nat} {h0 : Nat} {o1 : Nat → Int32} {A1 : Nat → Nat → Int32} {C1 : Nat → Option Nat} {h1 : Nat} {o2 : Nat → Int32} {A2 : Nat → Nat → Int32} {C2 : Nat → Option Nat} {h2 : Nat} {gs0 : Int32} {gA : Nat → Nat → Int32} {tb0 : Int32} {tA0 bf0 : Nat → Int32} {hi0 : Int32} {b0 : Nat} (hb : chv F b0 = true) (hk0 : ck F b0 = 4) (K : gOK Γ cX6_favour gU RX6) (hlt : ∀ i, i < 2 → i < g_n Γ) (hRm : g_R Γ = ({ frames := 5, cells := 0, slots := 0, locals := 171 } : Room)) {res : Int32} (hret : ∀ (pc : Nat) (L : List (Nat × Value)) (v : Int32) (w : va_W), decode cX6_favour pc = .ok (.ireturn, 1) → narrow .int (.int v) = .int v → (v = res ∧ w = cw (g_E Γ) q r (gpl F) o0 A0 C0 h0 o1 A1 C1 h1 o2 A2 C2 h2 gs0 gA tb0 tA0 bf0 hi0) → gGO Γ 0 0 pc L [.int v] w) (x1 : Int32) (h : pX6_favour_k4 F b0 x1 = some res) : gGO Γ 0 0 0 [(0, .ref b0), (1, .int x1)] [] (cw (g_E Γ) q r (gpl F) o0 A0 C0 h0 o1 A1 C1 h1 o2 A2 C2 h2 gs0 gA tb0 tA0 bf0 hi0) := by
    unfold pX6_favour_k4 at h
    refine g_aload_n K dX6_favour_0 rfl 0 rfl ?_
    refine g_iload_n K dX6_favour_1 rfl 1 rfl ?_
    obtain ⟨z_1, hz_1, h⟩ := gi_bd h
    refine g_callSUiF (As := [.int x1]) (bytes := cX5_favour) (maxL := 2) (ret := (some .int)) K (ctX5_favour_k4 hF (b0 := b0) hb hk0 o0 A0 C0 h0 o1 A1 C1 h1 o2 A2 C2 h2 gs0 gA tb0 tA0 bf0 hi0 x1 (res := z_1) hz_1) gc_SU_RX6_7_X5_favour rfl qsu_X5_favour (gF_at (j := 4) hF hb hk0 (by decide)) rfl rfl hRm rfl rfl rfl (by decide) (Nat.le_of_ble_eq_true rfl) (by decide) dX6_favour_2 (fun v w hw => ?_)
    obtain ⟨hv9, rfl⟩ := hw; have hv9 := hv9.symm; subst hv9
    refine g_bipush (v := 9) K dX6_favour_5 (by decide) ?_
    refine g_iadd K dX6_favour_7 ?_
    refine g_aload_n K dX6_favour_8 rfl 0 rfl ?_
    refine g_getF (v := .int (cd F b0)) (T := TX6) (ref := "ChiefGrades$Near") K hin_X6 (gF_at (j := 4) hF hb hk0 (by decide)) rfl 3 (by decide) u_274 (Or.inr u_275) rfl dX6_favour_9 ?_
    refine g_iload_n K dX6_favour_12 rfl 1 rfl ?_
    refine g_isub K dX6_favour_13 ?_
    refine g_mabs K u_653 u_654 u_71 u_655 hRm ⟨by decide, Nat.le_of_ble_eq_true rfl, by decide, by decide⟩ dX6_favour_14 ?_
    obtain ⟨v_2, ev_2, h⟩ := gi_nm h
    refine g_topi ev_2 ?_
    refine g_isub K dX6_favour_17 ?_
    obtain rfl := Option.some.inj h
    exact hret _ _ _ _ dX6_favour_18 rfl ⟨rfl, rfl⟩

set_option maxRecDepth 100000 in
theorem ctX6_favour_k4 {E : gE} {q : Nat → Nat} {r : Nat → Nat → Nat} {F : gF} (hF : gFz E F) {b0 : Nat} (hb : chv F b0 = true) (hk0 : ck F b0 = 4) (o0 : Nat → Int32) (A0 : Nat → Nat → Int32) (C0 : Nat → Option Nat) (h0 : Nat) (o1 : Nat → Int32) (A1 : Nat → Nat → Int32) (C1 : Nat → Option Nat) (h1 : Nat) (o2 : Nat → Int32) (A2 : Nat → Nat → Int32) (C2 : Nat → Option Nat) (h2 : Nat) (gs0 : Int32) (gA : Nat → Nat → Int32) (tb0 : Int32) (tA0 bf0 : Nat → Int32) (hi0 : Int32) (x1 : Int32) {res : Int32} (h : pX6_favour_k4 F b0 x1 = some res) : gMi yX6_favour (.code yX6_favour cX6_favour 2 (some .int) :: gU) ({ frames := 5, cells := 0, slots := 0, locals := 171 } : Room) 0 0 E [.ref b0, .int x1] (cw E q r (gpl F) o0 A0 C0 h0 o1 A1 C1 h1 o2 A2 C2 h2 gs0 gA tb0 tA0 bf0 hi0) (fun v w => v = res ∧ w = cw E q r (gpl F) o0 A0 C0 h0 o1 A1 C1 h1 o2 A2 C2 h2 gs0 gA tb0 tA0 bf0 hi0) := by
  refine g_met_i (by decide +kernel) (Nat.le_of_ble_eq_true rfl) (fun Γ K hn hE hRm _ hret => ?_)
  subst hE
  have hlt : ∀ i, i < 2 → i < g_n Γ := fun i q => by rw [hn]; exact q
  refine g_sub (L' := [(0, .ref b0), (1, .int x1)]) [0, 1] rfl ?_
  exact wX6_favour_k4 (C0 := C0) (h0 := h0) (C1 := C1) (h1 := h1) (C2 := C2) (h2 := h2) (gs0 := gs0) (tb0 := tb0) (tA0 := tA0) (bf0 := bf0) (hi0 := hi0) hF hb hk0 K hlt hRm hret x1 h

set_option maxHeartbeats 4000000 in
set_option maxRecDepth 100000 in
theorem wX0_favour_k5 {Γ : gT} {q : Nat → Nat} {r : Nat → Nat → Nat} {F : gF} (hF : gFz (g_E Γ) F) {o0 : Nat → Int32} {A0 : Nat → Nat → Int32} {C0 : Nat → Option Nat} {h0 : Nat} {o1 : Nat → Int32} {A1 : Nat → Nat → Int32} {C1 : Nat → Option Nat} {h1 : Nat} {o2 : Nat → Int32} {A2 : Nat → Nat → Int32} {C2 : Nat → Option Nat} {h2 : Nat} {gs0 : Int32} {gA : Nat → Nat → Int32} {tb0 : Int32} {tA0 bf0 : Nat → Int32} {hi0 : Int32} {b0 : Nat} (hb : chv F b0 = true) (hk0 : ck F b0 = 5) (K : gOK Γ cX0_favour gU RX0) (hlt : ∀ i, i < 2 → i < g_n Γ) (hRm : g_R Γ = ({ frames := 4, cells := 0, slots := 0, locals := 150 } : Room)) {res : Int32} (hret : ∀ (pc : Nat) (L : List (Nat × Value)) (v : Int32) (w : va_W), decode cX0_favour pc = .ok (.ireturn, 1) → narrow .int (.int v) = .int v → (v = res ∧ w = cw (g_E Γ) q r (gpl F) o0 A0 C0 h0 o1 A1 C1 h1 o2 A2 C2 h2 gs0 gA tb0 tA0 bf0 hi0) → gGO Γ 0 0 pc L [.int v] w) (x1 : Int32) (h : pX0_favour_k5 x1 = some res) : gGO Γ 0 0 0 [(0, .ref b0), (1, .int x1)] [] (cw (g_E Γ) q r (gpl F) o0 A0 C0 h0 o1 A1 C1 h1 o2 A2 C2 h2 gs0 gA tb0 tA0 bf0 hi0) := by
    unfold pX0_favour_k5 at h
    refine g_iconst (v := 0) K dX0_favour_0 (by decide) ?_
    obtain rfl := Option.some.inj h
    exact hret _ _ _ _ dX0_favour_1 rfl ⟨rfl, rfl⟩

set_option maxRecDepth 100000 in
theorem ctX0_favour_k5 {E : gE} {q : Nat → Nat} {r : Nat → Nat → Nat} {F : gF} (hF : gFz E F) {b0 : Nat} (hb : chv F b0 = true) (hk0 : ck F b0 = 5) (o0 : Nat → Int32) (A0 : Nat → Nat → Int32) (C0 : Nat → Option Nat) (h0 : Nat) (o1 : Nat → Int32) (A1 : Nat → Nat → Int32) (C1 : Nat → Option Nat) (h1 : Nat) (o2 : Nat → Int32) (A2 : Nat → Nat → Int32) (C2 : Nat → Option Nat) (h2 : Nat) (gs0 : Int32) (gA : Nat → Nat → Int32) (tb0 : Int32) (tA0 bf0 : Nat → Int32) (hi0 : Int32) (x1 : Int32) {res : Int32} (h : pX0_favour_k5 x1 = some res) : gMi yX0_favour (.code yX0_favour cX0_favour 2 (some .int) :: gU) ({ frames := 4, cells := 0, slots := 0, locals := 150 } : Room) 0 0 E [.ref b0, .int x1] (cw E q r (gpl F) o0 A0 C0 h0 o1 A1 C1 h1 o2 A2 C2 h2 gs0 gA tb0 tA0 bf0 hi0) (fun v w => v = res ∧ w = cw E q r (gpl F) o0 A0 C0 h0 o1 A1 C1 h1 o2 A2 C2 h2 gs0 gA tb0 tA0 bf0 hi0) := by
  refine g_met_i (by decide +kernel) (Nat.le_of_ble_eq_true rfl) (fun Γ K hn hE hRm _ hret => ?_)
  subst hE
  have hlt : ∀ i, i < 2 → i < g_n Γ := fun i q => by rw [hn]; exact q
  refine g_sub (L' := [(0, .ref b0), (1, .int x1)]) [0, 1] rfl ?_
  exact wX0_favour_k5 (C0 := C0) (h0 := h0) (C1 := C1) (h1 := h1) (C2 := C2) (h2 := h2) (gs0 := gs0) (tb0 := tb0) (tA0 := tA0) (bf0 := bf0) (hi0 := hi0) hF hb hk0 K hlt hRm hret x1 h

set_option maxHeartbeats 4000000 in
set_option maxRecDepth 100000 in
theorem wX7_favour_k6 {Γ : gT} {q : Nat → Nat} {r : Nat → Nat → Nat} {F : gF} (hF : gFz (g_E Γ) F) {o0 : Nat → Int32} {A0 : Nat → Nat → Int32} {C0 : Nat → Option Nat} {h0 : Nat} {o1 : Nat → Int32} {A1 : Nat → Nat → Int32} {C1 : Nat → Option Nat} {h1 : Nat} {o2 : Nat → Int32} {A2 : Nat → Nat → Int32} {C2 : Nat → Option Nat} {h2 : Nat} {gs0 : Int32} {gA : Nat → Nat → Int32} {tb0 : Int32} {tA0 bf0 : Nat → Int32} {hi0 : Int32} {b0 : Nat} (hb : chv F b0 = true) (hk0 : ck F b0 = 6) (K : gOK Γ cX7_favour gU RX7) (hlt : ∀ i, i < 2 → i < g_n Γ) (hRm : g_R Γ = ({ frames := 4, cells := 0, slots := 0, locals := 150 } : Room)) {res : Int32} (hret : ∀ (pc : Nat) (L : List (Nat × Value)) (v : Int32) (w : va_W), decode cX7_favour pc = .ok (.ireturn, 1) → narrow .int (.int v) = .int v → (v = res ∧ w = cw (g_E Γ) q r (gpl F) o0 A0 C0 h0 o1 A1 C1 h1 o2 A2 C2 h2 gs0 gA tb0 tA0 bf0 hi0) → gGO Γ 0 0 pc L [.int v] w) (x1 : Int32) (h : pX7_favour_k6 F b0 x1 = some res) : gGO Γ 0 0 0 [(0, .ref b0), (1, .int x1)] [] (cw (g_E Γ) q r (gpl F) o0 A0 C0 h0 o1 A1 C1 h1 o2 A2 C2 h2 gs0 gA tb0 tA0 bf0 hi0) := by
    unfold pX7_favour_k6 at h
    refine g_iconst (v := 2) K dX7_favour_0 (by decide) ?_
    refine g_aload_n K dX7_favour_1 rfl 0 rfl ?_
    refine g_getF (v := .int (cv F b0)) (T := TX7) (ref := "ChiefGrades$Talking") K hin_X7 (gF_at (j := 6) hF hb hk0 (by decide)) rfl 2 (by decide) u_266 (Or.inr u_267) rfl dX7_favour_2 ?_
    refine g_imul K dX7_favour_5 ?_
    obtain rfl := Option.some.inj h
    exact hret _ _ _ _ dX7_favour_6 rfl ⟨rfl, rfl⟩

set_option maxRecDepth 100000 in
theorem ctX7_favour_k6 {E : gE} {q : Nat → Nat} {r : Nat → Nat → Nat} {F : gF} (hF : gFz E F) {b0 : Nat} (hb : chv F b0 = true) (hk0 : ck F b0 = 6) (o0 : Nat → Int32) (A0 : Nat → Nat → Int32) (C0 : Nat → Option Nat) (h0 : Nat) (o1 : Nat → Int32) (A1 : Nat → Nat → Int32) (C1 : Nat → Option Nat) (h1 : Nat) (o2 : Nat → Int32) (A2 : Nat → Nat → Int32) (C2 : Nat → Option Nat) (h2 : Nat) (gs0 : Int32) (gA : Nat → Nat → Int32) (tb0 : Int32) (tA0 bf0 : Nat → Int32) (hi0 : Int32) (x1 : Int32) {res : Int32} (h : pX7_favour_k6 F b0 x1 = some res) : gMi yX7_favour (.code yX7_favour cX7_favour 2 (some .int) :: gU) ({ frames := 4, cells := 0, slots := 0, locals := 150 } : Room) 0 0 E [.ref b0, .int x1] (cw E q r (gpl F) o0 A0 C0 h0 o1 A1 C1 h1 o2 A2 C2 h2 gs0 gA tb0 tA0 bf0 hi0) (fun v w => v = res ∧ w = cw E q r (gpl F) o0 A0 C0 h0 o1 A1 C1 h1 o2 A2 C2 h2 gs0 gA tb0 tA0 bf0 hi0) := by
  refine g_met_i (by decide +kernel) (Nat.le_of_ble_eq_true rfl) (fun Γ K hn hE hRm _ hret => ?_)
  subst hE
  have hlt : ∀ i, i < 2 → i < g_n Γ := fun i q => by rw [hn]; exact q
  refine g_sub (L' := [(0, .ref b0), (1, .int x1)]) [0, 1] rfl ?_
  exact wX7_favour_k6 (C0 := C0) (h0 := h0) (C1 := C1) (h1 := h1) (C2 := C2) (h2 := h2) (gs0 := gs0) (tb0 := tb0) (tA0 := tA0) (bf0 := bf0) (hi0 := hi0) hF hb hk0 K hlt hRm hret x1 h

set_option maxHeartbeats 4000000 in
set_option maxRecDepth 100000 in
theorem wX2_raise_164 {Γ : gT} {q : Nat → Nat} {r : Nat → Nat → Nat} {F : gF} (hF : gFz (g_E Γ) F) {o0 : Nat → Int32} {A0 : Nat → Nat → Int32} {C0 : Nat → Option Nat} {h0 : Nat} {o1 : Nat → Int32} {A1 : Nat → Nat → Int32} {C1 : Nat → Option Nat} {h1 : Nat} {o2 : Nat → Int32} {A2 : Nat → Nat → Int32} {C2 : Nat → Option Nat} {h2 : Nat} {gs0 : Int32} {gA : Nat → Nat → Int32} {tb0 : Int32} {tA0 bf0 : Nat → Int32} {hi0 : Int32} {b0 : Nat} (hb : hsv F b0 = true) (K : gOK Γ cX2_raise gU RX2) (hlt : ∀ i, i < 9 → i < g_n Γ) (hRm : g_R Γ = ({ frames := 4, cells := 0, slots := 0, locals := 150 } : Room)) {res : Int32} (hret : ∀ (pc : Nat) (L : List (Nat × Value)) (v : Int32) (w : va_W), decode cX2_raise pc = .ok (.ireturn, 1) → narrow .int (.int v) = .int v → (v = res ∧ w = cw (g_E Γ) q r (gpl F) o0 A0 C0 h0 o1 A1 C1 h1 o2 A2 C2 h2 gs0 gA tb0 tA0 bf0 hi0) → gGO Γ 0 0 pc L [.int v] w) {k7 : Int32 → Int32 → Int32 → Option (Int32)} (hk7 : ∀ (x2 : Int32) (x3 : Int32) (x4 : Int32), k7 x2 x3 x4 = some res → gGO Γ 0 0 7 [(0, .ref b0), (1, .ref (r 3 5)), (2, .int x2), (3, .int x3), (4, .int x4)] [] (cw (g_E Γ) q r (gpl F) o0 A0 C0 h0 o1 A1 C1 h1 o2 A2 C2 h2 gs0 gA tb0 tA0 bf0 hi0)) (x2 : Int32) (x3 : Int32) (x4 : Int32) (y0 : Int32) (h : pX2_raise_164 F b0 k7 (gA 5) x2 x3 x4 y0 = some res) : gGO Γ 0 0 164 [(0, .ref b0), (1, .ref (r 3 5)), (2, .int x2), (3, .int x3), (4, .int x4)] [.int y0] (cw (g_E Γ) q r (gpl F) o0 A0 C0 h0 o1 A1 C1 h1 o2 A2 C2 h2 gs0 gA tb0 tA0 bf0 hi0) := by
    unfold pX2_raise_164 at h
    refine g_istore (L' := [(8, .int y0), (0, .ref b0), (1, .ref (r 3 5)), (2, .int x2), (3, .int x3), (4, .int x4)]) K dX2_raise_164 (hlt _ (by decide)) rfl ?_
    refine g_iload_n K dX2_raise_166 rfl 3 rfl ?_
    refine g_iconst (v := 1) K dX2_raise_167 (by decide) ?_
    refine g_ishl K dX2_raise_168 ?_
    refine g_iload K dX2_raise_169 0 rfl ?_
    obtain ⟨ht9, hf9⟩ := gi_br h; clear h
    refine g_if_eq (tgt := 178) K dX2_raise_171 (by decide) (fun qh => ?_) (fun qh => ?_)
    · have h := ht9 qh; clear ht9 hf9
      refine g_iconst (v := 0) K dX2_raise_178 (by decide) ?_
      refine g_ior K dX2_raise_179 ?_
      obtain ⟨v_1, ev_1, h⟩ := gi_nm h
      refine g_topi ev_1 ?_
      refine g_istore_n (L' := [(2, .int v_1), (8, .int y0), (0, .ref b0), (1, .ref (r 3 5)), (3, .int x3), (4, .int x4)]) K dX2_raise_180 rfl (hlt _ (by decide)) rfl ?_
      refine g_iinc (v := (x4 + 1)) (L' := [(4, .int (x4 + 1)), (2, .int v_1), (8, .int y0), (0, .ref b0), (1, .ref (r 3 5)), (3, .int x3)]) K dX2_raise_181 5 rfl rfl (hlt _ (by decide)) rfl ?_
      refine g_goto (tgt := 7) K dX2_raise_184 (by decide) ?_
      refine g_sub (L' := [(0, .ref b0), (1, .ref (r 3 5)), (2, .int v_1), (3, .int x3), (4, .int (x4 + 1))]) [3, 4, 1, 5, 0] rfl ?_
      exact hk7 v_1 x3 (x4 + 1) h
    · have h := hf9 qh; clear ht9 hf9
      refine g_iconst (v := 1) K dX2_raise_174 (by decide) ?_
      refine g_goto (tgt := 179) K dX2_raise_175 (by decide) ?_
      refine g_ior K dX2_raise_179 ?_
      obtain ⟨v_2, ev_2, h⟩ := gi_nm h
      refine g_topi ev_2 ?_
      refine g_istore_n (L' := [(2, .int v_2), (8, .int y0), (0, .ref b0), (1, .ref (r 3 5)), (3, .int x3), (4, .int x4)]) K dX2_raise_180 rfl (hlt _ (by decide)) rfl ?_
      refine g_iinc (v := (x4 + 1)) (L' := [(4, .int (x4 + 1)), (2, .int v_2), (8, .int y0), (0, .ref b0), (1, .ref (r 3 5)), (3, .int x3)]) K dX2_raise_181 5 rfl rfl (hlt _ (by decide)) rfl ?_
      refine g_goto (tgt := 7) K dX2_raise_184 (by decide) ?_
      refine g_sub (L' := [(0, .ref b0), (1, .ref (r 3 5)), (2, .int v_2), (3, .int x3), (4, .int (x4 + 1))]) [3, 4, 1, 5, 0] rfl ?_
      exact hk7 v_2 x3 (x4 + 1) h

set_option maxHeartbeats 4000000 in
set_option maxRecDepth 100000 in
theorem wX2_raise_7 {Γ : gT} {q : Nat → Nat} {r : Nat → Nat → Nat} {F : gF} (hF : gFz (g_E Γ) F) {o0 : Nat → Int32} {A0 : Nat → Nat → Int32} {C0 : Nat → Option Nat} {h0 : Nat} {o1 : Nat → Int32} {A1 : Nat → Nat → Int32} {C1 : Nat → Option Nat} {h1 : Nat} {o2 : Nat → Int32} {A2 : Nat → Nat → Int32} {C2 : Nat → Option Nat} {h2 : Nat} {gs0 : Int32} {gA : Nat → Nat → Int32} {tb0 : Int32} {tA0 bf0 : Nat → Int32} {hi0 : Int32} {b0 : Nat} (hb : hsv F b0 = true) (K : gOK Γ cX2_raise gU RX2) (hlt : ∀ i, i < 9 → i < g_n Γ) (hRm : g_R Γ = ({ frames := 4, cells := 0, slots := 0, locals := 150 } : Room)) {res : Int32} (hret : ∀ (pc : Nat) (L : List (Nat × Value)) (v : Int32) (w : va_W), decode cX2_raise pc = .ok (.ireturn, 1) → narrow .int (.int v) = .int v → (v = res ∧ w = cw (g_E Γ) q r (gpl F) o0 A0 C0 h0 o1 A1 C1 h1 o2 A2 C2 h2 gs0 gA tb0 tA0 bf0 hi0) → gGO Γ 0 0 pc L [.int v] w) : ∀ (n : Nat) (x2 : Int32) (x3 : Int32) (x4 : Int32), pX2_raise_7 F b0 (gA 5) n x2 x3 x4 = some res → gGO Γ 0 0 7 [(0, .ref b0), (1, .ref (r 3 5)), (2, .int x2), (3, .int x3), (4, .int x4)] [] (cw (g_E Γ) q r (gpl F) o0 A0 C0 h0 o1 A1 C1 h1 o2 A2 C2 h2 gs0 gA tb0 tA0 bf0 hi0) := by
  intro n
  induction n with
  | zero => intro _ _ _ h; cases h
  | succ n ih =>
    intro x2 x3 x4 h
    simp only [pX2_raise_7] at h
    refine g_iload K dX2_raise_7 4 rfl ?_
    refine g_aload_n K dX2_raise_9 rfl 0 rfl ?_
    refine hsg_10 K hF hb hin_X2 u_132 dX2_raise_10 ?_
    obtain ⟨ht9, hf9⟩ := gi_br h; clear h
    refine g_icmp_ge (tgt := 187) K dX2_raise_13 (by decide) (fun qh => ?_) (fun qh => ?_)
    · have h := ht9 qh; clear ht9 hf9
      refine g_iload_n K dX2_raise_187 rfl 3 rfl ?_
      obtain rfl := Option.some.inj h
      exact hret _ _ _ _ dX2_raise_188 rfl ⟨rfl, rfl⟩
    · have h := hf9 qh; clear ht9 hf9
      refine g_aload_n K dX2_raise_16 rfl 0 rfl ?_
      refine hsg_7 K hF hb hin_X2 u_129 dX2_raise_17 ?_
      refine g_iload K dX2_raise_20 4 rfl ?_
      obtain ⟨b_1, h⟩ := gi_none h
      refine hsa_7 K hF hb (ginb_in b_1) dX2_raise_22 ?_
      obtain ⟨v_2, ev_2, h⟩ := gi_nm h
      refine g_topi ev_2 ?_
      refine g_istore (L' := [(5, .int v_2), (0, .ref b0), (1, .ref (r 3 5)), (2, .int x2), (3, .int x3), (4, .int x4)]) K dX2_raise_23 (hlt _ (by decide)) rfl ?_
      refine g_iload_n K dX2_raise_25 rfl 3 rfl ?_
      refine g_iconst (v := 1) K dX2_raise_26 (by decide) ?_
      refine g_iand K dX2_raise_27 ?_
      obtain ⟨v_3, ev_3, h⟩ := gi_nm h
      refine g_topi ev_3 ?_
      refine g_istore (L' := [(6, .int v_3), (5, .int v_2), (0, .ref b0), (1, .ref (r 3 5)), (2, .int x2), (3, .int x3), (4, .int x4)]) K dX2_raise_28 (hlt _ (by decide)) rfl ?_
      refine g_iload_n K dX2_raise_30 rfl 4 rfl ?_
      refine g_iconst (v := 1) K dX2_raise_31 (by decide) ?_
      refine g_ishr K dX2_raise_32 ?_
      refine g_iconst (v := 1) K dX2_raise_33 (by decide) ?_
      refine g_iand K dX2_raise_34 ?_
      obtain ⟨v_4, ev_4, h⟩ := gi_nm h
      refine g_topi ev_4 ?_
      refine g_istore (L' := [(7, .int v_4), (6, .int v_3), (5, .int v_2), (0, .ref b0), (1, .ref (r 3 5)), (2, .int x2), (3, .int x3), (4, .int x4)]) K dX2_raise_35 (hlt _ (by decide)) rfl ?_
      refine g_iload K dX2_raise_37 2 rfl ?_
      refine g_bipush (v := (-4)) K dX2_raise_39 (by decide) ?_
      obtain ⟨ht9, hf9⟩ := gi_br h; clear h
      refine g_icmp_ne (tgt := 62) K dX2_raise_41 (by decide) (fun qh => ?_) (fun qh => ?_)
      · have h := hf9 qh; clear ht9 hf9
        refine g_iload K dX2_raise_62 2 rfl ?_
        refine g_iconst (v := (-1)) K dX2_raise_64 (by decide) ?_
        obtain ⟨ht9, hf9⟩ := gi_br h; clear h
        refine g_icmp_ne (tgt := 75) K dX2_raise_65 (by decide) (fun qh => ?_) (fun qh => ?_)
        · have h := hf9 qh; clear ht9 hf9
          refine g_iload K dX2_raise_75 2 rfl ?_
          refine g_bipush (v := (-2)) K dX2_raise_77 (by decide) ?_
          obtain ⟨ht9, hf9⟩ := gi_br h; clear h
          refine g_icmp_ne (tgt := 97) K dX2_raise_79 (by decide) (fun qh => ?_) (fun qh => ?_)
          · have h := hf9 qh; clear ht9 hf9
            refine g_iload K dX2_raise_97 2 rfl ?_
            refine g_bipush (v := (-3)) K dX2_raise_99 (by decide) ?_
            obtain ⟨ht9, hf9⟩ := gi_br h; clear h
            refine g_icmp_ne (tgt := 119) K dX2_raise_101 (by decide) (fun qh => ?_) (fun qh => ?_)
            · have h := hf9 qh; clear ht9 hf9
              refine g_iload K dX2_raise_119 2 rfl ?_
              obtain ⟨ht9, hf9⟩ := gi_br h; clear h
              refine g_if_lt (tgt := 181) K dX2_raise_121 (by decide) (fun qh => ?_) (fun qh => ?_)
              · have h := ht9 qh; clear ht9 hf9
                refine g_iinc (v := (x4 + 1)) (L' := [(4, .int (x4 + 1)), (7, .int v_4), (6, .int v_3), (5, .int v_2), (0, .ref b0), (1, .ref (r 3 5)), (2, .int x2), (3, .int x3)]) K dX2_raise_181 7 rfl rfl (hlt _ (by decide)) rfl ?_
                refine g_goto (tgt := 7) K dX2_raise_184 (by decide) ?_
                refine g_sub (L' := [(0, .ref b0), (1, .ref (r 3 5)), (2, .int x2), (3, .int x3), (4, .int (x4 + 1))]) [4, 5, 6, 7, 0] rfl ?_
                exact ih x2 x3 (x4 + 1) h
              · have h := hf9 qh; clear ht9 hf9
                refine g_iload K dX2_raise_124 2 rfl ?_
                refine g_aload_n K dX2_raise_126 rfl 4 rfl ?_
                refine g_alen (v := 6) K 40 0 rfl rfl rfl dX2_raise_127 ?_
                obtain ⟨ht9, hf9⟩ := gi_br h; clear h
                refine g_icmp_ge (tgt := 181) K dX2_raise_128 (by decide) (fun qh => ?_) (fun qh => ?_)
                · have h := ht9 qh; clear ht9 hf9
                  refine g_iinc (v := (x4 + 1)) (L' := [(4, .int (x4 + 1)), (7, .int v_4), (6, .int v_3), (5, .int v_2), (0, .ref b0), (1, .ref (r 3 5)), (2, .int x2), (3, .int x3)]) K dX2_raise_181 7 rfl rfl (hlt _ (by decide)) rfl ?_
                  refine g_goto (tgt := 7) K dX2_raise_184 (by decide) ?_
                  refine g_sub (L' := [(0, .ref b0), (1, .ref (r 3 5)), (2, .int x2), (3, .int x3), (4, .int (x4 + 1))]) [4, 5, 6, 7, 0] rfl ?_
                  exact ih x2 x3 (x4 + 1) h
                · have h := hf9 qh; clear ht9 hf9
                  refine g_aload_n K dX2_raise_131 rfl 4 rfl ?_
                  refine g_iload K dX2_raise_132 2 rfl ?_
                  obtain ⟨b_5, h⟩ := gi_none h
                  refine g_iald (f := (gA 5)) K 40 rfl (ginb_in b_5) dX2_raise_134 ?_
                  refine g_aload_n K dX2_raise_135 rfl 3 rfl ?_
                  refine hsg_8 K hF hb hin_X2 u_130 dX2_raise_136 ?_
                  refine g_iload K dX2_raise_139 7 rfl ?_
                  obtain ⟨b_6, h⟩ := gi_none h
                  refine hsa_8 K hF hb (ginb_in b_6) dX2_raise_141 ?_
                  obtain ⟨ht9, hf9⟩ := gi_br h; clear h
                  refine g_icmp_lt (tgt := 163) K dX2_raise_142 (by decide) (fun qh => ?_) (fun qh => ?_)
                  · have h := ht9 qh; clear ht9 hf9
                    refine g_iconst (v := 0) K dX2_raise_163 (by decide) ?_
                    refine g_sub (L' := [(0, .ref b0), (1, .ref (r 3 5)), (2, .int x2), (3, .int x3), (4, .int x4)]) [3, 4, 5, 6, 7] rfl ?_
                    exact wX2_raise_164 (C0 := C0) (h0 := h0) (C1 := C1) (h1 := h1) (C2 := C2) (h2 := h2) (gs0 := gs0) (tb0 := tb0) (tA0 := tA0) (bf0 := bf0) (hi0 := hi0) hF hb K hlt hRm hret ih x2 x3 x4 0 h
                  · have h := hf9 qh; clear ht9 hf9
                    refine g_aload_n K dX2_raise_145 rfl 4 rfl ?_
                    refine g_iload K dX2_raise_146 2 rfl ?_
                    obtain ⟨b_7, h⟩ := gi_none h
                    refine g_iald (f := (gA 5)) K 40 rfl (ginb_in b_7) dX2_raise_148 ?_
                    refine g_aload_n K dX2_raise_149 rfl 3 rfl ?_
                    refine hsg_9 K hF hb hin_X2 u_131 dX2_raise_150 ?_
                    refine g_iload K dX2_raise_153 7 rfl ?_
                    obtain ⟨b_8, h⟩ := gi_none h
                    refine hsa_9 K hF hb (ginb_in b_8) dX2_raise_155 ?_
                    obtain ⟨ht9, hf9⟩ := gi_br h; clear h
                    refine g_icmp_gt (tgt := 163) K dX2_raise_156 (by decide) (fun qh => ?_) (fun qh => ?_)
                    · have h := ht9 qh; clear ht9 hf9
                      refine g_iconst (v := 0) K dX2_raise_163 (by decide) ?_
                      refine g_sub (L' := [(0, .ref b0), (1, .ref (r 3 5)), (2, .int x2), (3, .int x3), (4, .int x4)]) [3, 4, 5, 6, 7] rfl ?_
                      exact wX2_raise_164 (C0 := C0) (h0 := h0) (C1 := C1) (h1 := h1) (C2 := C2) (h2 := h2) (gs0 := gs0) (tb0 := tb0) (tA0 := tA0) (bf0 := bf0) (hi0 := hi0) hF hb K hlt hRm hret ih x2 x3 x4 0 h
                    · have h := hf9 qh; clear ht9 hf9
                      refine g_iconst (v := 1) K dX2_raise_159 (by decide) ?_
                      refine g_goto (tgt := 164) K dX2_raise_160 (by decide) ?_
                      refine g_sub (L' := [(0, .ref b0), (1, .ref (r 3 5)), (2, .int x2), (3, .int x3), (4, .int x4)]) [3, 4, 5, 6, 7] rfl ?_
                      exact wX2_raise_164 (C0 := C0) (h0 := h0) (C1 := C1) (h1 := h1) (C2 := C2) (h2 := h2) (gs0 := gs0) (tb0 := tb0) (tA0 := tA0) (bf0 := bf0) (hi0 := hi0) hF hb K hlt hRm hret ih x2 x3 x4 1 h
            · have h := ht9 qh; clear ht9 hf9
              refine g_iload_n K dX2_raise_104 rfl 5 rfl ?_
              refine g_iconst (v := 2) K dX2_raise_105 (by decide) ?_
              refine g_ishr K dX2_raise_106 ?_
              refine g_iconst (v := 1) K dX2_raise_107 (by decide) ?_
              refine g_ishl K dX2_raise_108 ?_
              refine g_iload K dX2_raise_109 1 rfl ?_
              refine g_ior K dX2_raise_111 ?_
              refine g_iload K dX2_raise_112 0 rfl ?_
              refine g_ior K dX2_raise_114 ?_
              obtain ⟨v_9, ev_9, h⟩ := gi_nm h
              refine g_topi ev_9 ?_
              refine g_istore_n (L' := [(2, .int v_9), (7, .int v_4), (6, .int v_3), (5, .int v_2), (0, .ref b0), (1, .ref (r 3 5)), (3, .int x3), (4, .int x4)]) K dX2_raise_115 rfl (hlt _ (by decide)) rfl ?_
              refine g_goto (tgt := 181) K dX2_raise_116 (by decide) ?_
              refine g_iinc (v := (x4 + 1)) (L' := [(4, .int (x4 + 1)), (2, .int v_9), (7, .int v_4), (6, .int v_3), (5, .int v_2), (0, .ref b0), (1, .ref (r 3 5)), (3, .int x3)]) K dX2_raise_181 7 rfl rfl (hlt _ (by decide)) rfl ?_
              refine g_goto (tgt := 7) K dX2_raise_184 (by decide) ?_
              refine g_sub (L' := [(0, .ref b0), (1, .ref (r 3 5)), (2, .int v_9), (3, .int x3), (4, .int (x4 + 1))]) [5, 6, 1, 7, 0] rfl ?_
              exact ih v_9 x3 (x4 + 1) h
          · have h := ht9 qh; clear ht9 hf9
            refine g_iload_n K dX2_raise_82 rfl 5 rfl ?_
            refine g_iconst (v := 2) K dX2_raise_83 (by decide) ?_
            refine g_ishr K dX2_raise_84 ?_
            refine g_iconst (v := 1) K dX2_raise_85 (by decide) ?_
            refine g_ishl K dX2_raise_86 ?_
            refine g_iload K dX2_raise_87 1 rfl ?_
            refine g_iload K dX2_raise_89 0 rfl ?_
            refine g_iand K dX2_raise_91 ?_
            refine g_ior K dX2_raise_92 ?_
            obtain ⟨v_10, ev_10, h⟩ := gi_nm h
            refine g_topi ev_10 ?_
            refine g_istore_n (L' := [(2, .int v_10), (7, .int v_4), (6, .int v_3), (5, .int v_2), (0, .ref b0), (1, .ref (r 3 5)), (3, .int x3), (4, .int x4)]) K dX2_raise_93 rfl (hlt _ (by decide)) rfl ?_
            refine g_goto (tgt := 181) K dX2_raise_94 (by decide) ?_
            refine g_iinc (v := (x4 + 1)) (L' := [(4, .int (x4 + 1)), (2, .int v_10), (7, .int v_4), (6, .int v_3), (5, .int v_2), (0, .ref b0), (1, .ref (r 3 5)), (3, .int x3)]) K dX2_raise_181 7 rfl rfl (hlt _ (by decide)) rfl ?_
            refine g_goto (tgt := 7) K dX2_raise_184 (by decide) ?_
            refine g_sub (L' := [(0, .ref b0), (1, .ref (r 3 5)), (2, .int v_10), (3, .int x3), (4, .int (x4 + 1))]) [5, 6, 1, 7, 0] rfl ?_
            exact ih v_10 x3 (x4 + 1) h
        · have h := ht9 qh; clear ht9 hf9
          refine g_iload_n K dX2_raise_68 rfl 5 rfl ?_
          refine g_iconst (v := 1) K dX2_raise_69 (by decide) ?_
          refine g_ixor K dX2_raise_70 ?_
          obtain ⟨v_11, ev_11, h⟩ := gi_nm h
          refine g_topi ev_11 ?_
          refine g_istore_n (L' := [(2, .int v_11), (7, .int v_4), (6, .int v_3), (5, .int v_2), (0, .ref b0), (1, .ref (r 3 5)), (3, .int x3), (4, .int x4)]) K dX2_raise_71 rfl (hlt _ (by decide)) rfl ?_
          refine g_goto (tgt := 181) K dX2_raise_72 (by decide) ?_
          refine g_iinc (v := (x4 + 1)) (L' := [(4, .int (x4 + 1)), (2, .int v_11), (7, .int v_4), (6, .int v_3), (5, .int v_2), (0, .ref b0), (1, .ref (r 3 5)), (3, .int x3)]) K dX2_raise_181 7 rfl rfl (hlt _ (by decide)) rfl ?_
          refine g_goto (tgt := 7) K dX2_raise_184 (by decide) ?_
          refine g_sub (L' := [(0, .ref b0), (1, .ref (r 3 5)), (2, .int v_11), (3, .int x3), (4, .int (x4 + 1))]) [5, 6, 1, 7, 0] rfl ?_
          exact ih v_11 x3 (x4 + 1) h
      · have h := ht9 qh; clear ht9 hf9
        refine g_iload_n K dX2_raise_44 rfl 6 rfl ?_
        refine g_iload K dX2_raise_45 1 rfl ?_
        refine g_aload_n K dX2_raise_47 rfl 3 rfl ?_
        refine hsg_8 K hF hb hin_X2 u_130 dX2_raise_48 ?_
        refine g_iload K dX2_raise_51 7 rfl ?_
        obtain ⟨b_12, h⟩ := gi_none h
        refine hsa_8 K hF hb (ginb_in b_12) dX2_raise_53 ?_
        refine g_imul K dX2_raise_54 ?_
        refine g_iadd K dX2_raise_55 ?_
        obtain ⟨v_13, ev_13, h⟩ := gi_nm h
        refine g_topi ev_13 ?_
        refine g_istore_n (L' := [(3, .int v_13), (7, .int v_4), (6, .int v_3), (5, .int v_2), (0, .ref b0), (1, .ref (r 3 5)), (2, .int x2), (4, .int x4)]) K dX2_raise_56 rfl (hlt _ (by decide)) rfl ?_
        refine g_iconst (v := 0) K dX2_raise_57 (by decide) ?_
        refine g_istore_n (L' := [(2, .int 0), (3, .int v_13), (7, .int v_4), (6, .int v_3), (5, .int v_2), (0, .ref b0), (1, .ref (r 3 5)), (4, .int x4)]) K dX2_raise_58 rfl (hlt _ (by decide)) rfl ?_
        refine g_goto (tgt := 181) K dX2_raise_59 (by decide) ?_
        refine g_iinc (v := (x4 + 1)) (L' := [(4, .int (x4 + 1)), (2, .int 0), (3, .int v_13), (7, .int v_4), (6, .int v_3), (5, .int v_2), (0, .ref b0), (1, .ref (r 3 5))]) K dX2_raise_181 7 rfl rfl (hlt _ (by decide)) rfl ?_
        refine g_goto (tgt := 7) K dX2_raise_184 (by decide) ?_
        refine g_sub (L' := [(0, .ref b0), (1, .ref (r 3 5)), (2, .int 0), (3, .int v_13), (4, .int (x4 + 1))]) [6, 7, 1, 2, 0] rfl ?_
        exact ih 0 v_13 (x4 + 1) h

set_option maxHeartbeats 4000000 in
set_option maxRecDepth 100000 in
theorem wX2_raise {Γ : gT} {q : Nat → Nat} {r : Nat → Nat → Nat} {F : gF} (hF : gFz (g_E Γ) F) {o0 : Nat → Int32} {A0 : Nat → Nat → Int32} {C0 : Nat → Option Nat} {h0 : Nat} {o1 : Nat → Int32} {A1 : Nat → Nat → Int32} {C1 : Nat → Option Nat} {h1 : Nat} {o2 : Nat → Int32} {A2 : Nat → Nat → Int32} {C2 : Nat → Option Nat} {h2 : Nat} {gs0 : Int32} {gA : Nat → Nat → Int32} {tb0 : Int32} {tA0 bf0 : Nat → Int32} {hi0 : Int32} {b0 : Nat} (hb : hsv F b0 = true) (K : gOK Γ cX2_raise gU RX2) (hlt : ∀ i, i < 9 → i < g_n Γ) (hRm : g_R Γ = ({ frames := 4, cells := 0, slots := 0, locals := 150 } : Room)) {res : Int32} (hret : ∀ (pc : Nat) (L : List (Nat × Value)) (v : Int32) (w : va_W), decode cX2_raise pc = .ok (.ireturn, 1) → narrow .int (.int v) = .int v → (v = res ∧ w = cw (g_E Γ) q r (gpl F) o0 A0 C0 h0 o1 A1 C1 h1 o2 A2 C2 h2 gs0 gA tb0 tA0 bf0 hi0) → gGO Γ 0 0 pc L [.int v] w) (h : pX2_raise F b0 (gA 5) = some res) : gGO Γ 0 0 0 [(0, .ref b0), (1, .ref (r 3 5))] [] (cw (g_E Γ) q r (gpl F) o0 A0 C0 h0 o1 A1 C1 h1 o2 A2 C2 h2 gs0 gA tb0 tA0 bf0 hi0) := by
    unfold pX2_raise at h
    refine g_iconst (v := 0) K dX2_raise_0 (by decide) ?_
    refine g_istore_n (L' := [(2, .int 0), (0, .ref b0), (1, .ref (r 3 5))]) K dX2_raise_1 rfl (hlt _ (by decide)) rfl ?_
    refine g_iconst (v := 0) K dX2_raise_2 (by decide) ?_
    refine g_istore_n (L' := [(3, .int 0), (2, .int 0), (0, .ref b0), (1, .ref (r 3 5))]) K dX2_raise_3 rfl (hlt _ (by decide)) rfl ?_
    refine g_iconst (v := 0) K dX2_raise_4 (by decide) ?_
    refine g_istore (L' := [(4, .int 0), (3, .int 0), (2, .int 0), (0, .ref b0), (1, .ref (r 3 5))]) K dX2_raise_5 (hlt _ (by decide)) rfl ?_
    refine g_sub (L' := [(0, .ref b0), (1, .ref (r 3 5)), (2, .int 0), (3, .int 0), (4, .int 0)]) [3, 4, 2, 1, 0] rfl ?_
    exact wX2_raise_7 (C0 := C0) (h0 := h0) (C1 := C1) (h1 := h1) (C2 := C2) (h2 := h2) (gs0 := gs0) (tb0 := tb0) (tA0 := tA0) (bf0 := bf0) (hi0 := hi0) hF hb K hlt hRm hret 1000 0 0 0 h

set_option maxRecDepth 100000 in
theorem ctX2_raise {E : gE} {q : Nat → Nat} {r : Nat → Nat → Nat} {F : gF} (hF : gFz E F) {b0 : Nat} (hb : hsv F b0 = true) (o0 : Nat → Int32) (A0 : Nat → Nat → Int32) (C0 : Nat → Option Nat) (h0 : Nat) (o1 : Nat → Int32) (A1 : Nat → Nat → Int32) (C1 : Nat → Option Nat) (h1 : Nat) (o2 : Nat → Int32) (A2 : Nat → Nat → Int32) (C2 : Nat → Option Nat) (h2 : Nat) (gs0 : Int32) (gA : Nat → Nat → Int32) (tb0 : Int32) (tA0 bf0 : Nat → Int32) (hi0 : Int32) {res : Int32} (h : pX2_raise F b0 (gA 5) = some res) : gMi yX2_raise (.code yX2_raise cX2_raise 9 (some .int) :: gU) ({ frames := 4, cells := 0, slots := 0, locals := 150 } : Room) 0 0 E [.ref b0, .ref (r 3 5)] (cw E q r (gpl F) o0 A0 C0 h0 o1 A1 C1 h1 o2 A2 C2 h2 gs0 gA tb0 tA0 bf0 hi0) (fun v w => v = res ∧ w = cw E q r (gpl F) o0 A0 C0 h0 o1 A1 C1 h1 o2 A2 C2 h2 gs0 gA tb0 tA0 bf0 hi0) := by
  refine g_met_i (by decide +kernel) (Nat.le_of_ble_eq_true rfl) (fun Γ K hn hE hRm _ hret => ?_)
  subst hE
  have hlt : ∀ i, i < 9 → i < g_n Γ := fun i q => by rw [hn]; exact q
  refine g_sub (L' := [(0, .ref b0), (1, .ref (r 3 5))]) [0, 1] rfl ?_
  exact wX2_raise (C0 := C0) (h0 := h0) (C1 := C1) (h1 := h1) (C2 := C2) (h2 := h2) (gs0 := gs0) (tb0 := tb0) (tA0 := tA0) (bf0 := bf0) (hi0 := hi0) hF hb K hlt hRm hret h

set_option maxHeartbeats 4000000 in
set_option maxRecDepth 100000 in
theorem wX1_markBy_w0 {Γ : gT} {q : Nat → Nat} {r : Nat → Nat → Nat} {F : gF} (hF : gFz (g_E Γ) F) {o0 : Nat → Int32} {A0 : Nat → Nat → Int32} {C0 : Nat → Option Nat} {h0 : Nat} {o1 : Nat → Int32} {A1 : Nat → Nat → Int32} {C1 : Nat → Option Nat} {h1 : Nat} {o2 : Nat → Int32} {A2 : Nat → Nat → Int32} {C2 : Nat → Option Nat} {h2 : Nat} {gs0 : Int32} {gA : Nat → Nat → Int32} {tb0 : Int32} {tA0 bf0 : Nat → Int32} {hi0 : Int32} (K : gOK Γ cX1_markBy gU RX1) (hlt : ∀ i, i < 4 → i < g_n Γ) (hRm : g_R Γ = ({ frames := 6, cells := 0, slots := 0, locals := 192 } : Room)) {res : Int32 × ((Nat → Int32))} (hret : ∀ (pc : Nat) (L : List (Nat × Value)) (v : Int32) (w : va_W), decode cX1_markBy pc = .ok (.ireturn, 1) → narrow .int (.int v) = .int v → (v = res.1 ∧ w = cw (g_E Γ) q r (gpl F) o0 A0 C0 h0 o1 A1 C1 h1 o2 A2 C2 h2 gs0 (gu gA 5 res.2) tb0 tA0 bf0 hi0) → gGO Γ 0 0 pc L [.int v] w) (ga5 : (Nat → Int32)) (x2 : Int32) (x3 : Nat) (h : pX1_markBy_w0 F (o0 0) (o0 5) (A0 8) (A0 9) (A0 10) (A0 11) h0 ga5 x2 x3 = some res) : gGO Γ 0 0 0 [(0, .ref (q 3)), (1, .ref (q 0)), (2, .int x2), (3, .ref x3)] [] (cw (g_E Γ) q r (gpl F) o0 A0 C0 h0 o1 A1 C1 h1 o2 A2 C2 h2 gs0 (gu gA 5 ga5) tb0 tA0 bf0 hi0) := by
    unfold pX1_markBy_w0 at h
    refine g_aload_n K dX1_markBy_0 rfl 1 rfl ?_
    refine g_iload_n K dX1_markBy_1 rfl 2 rfl ?_
    obtain ⟨z_1, hz_1, h⟩ := gi_bd h
    refine g_callVi (As := [.int x2]) (bytes := cX10_hasWorker) (maxL := 2) (ret := (some .boolean)) K (ctX10_hasWorker_w0 hF o0 A0 C0 h0 o1 A1 C1 h1 o2 A2 C2 h2 gs0 (gu gA 5 ga5) tb0 tA0 bf0 hi0 x2 (res := z_1) hz_1) gc_V_RX1_36_X10_hasWorker rfl qv_X10_hasWorker 1 rfl rfl rfl hRm rfl rfl rfl (by decide) (Nat.le_of_ble_eq_true rfl) (by decide) dX1_markBy_2 (fun v w hw => ?_)
    obtain ⟨hv9, rfl⟩ := hw; have hv9 := hv9.symm; subst hv9
    obtain ⟨ht9, hf9⟩ := gi_br h; clear h
    refine g_if_ne (tgt := 10) K dX1_markBy_5 (by decide) (fun qh => ?_) (fun qh => ?_)
    · have h := hf9 qh; clear ht9 hf9
      refine g_aload_n K dX1_markBy_10 rfl 0 rfl ?_
      refine g_get (v := .ref (r 3 5)) (T := TX1) (ref := "ChiefGrades$Grader") K hin_X1 4 rfl rfl 5 (by decide) u_292 (Or.inl rfl) rfl dX1_markBy_11 ?_
      refine g_iconst (v := 0) K dX1_markBy_14 (by decide) ?_
      refine g_iload_n K dX1_markBy_15 rfl 2 rfl ?_
      obtain ⟨b_2, h⟩ := gi_none h
      obtain ⟨f_3, ef_3, h⟩ := gi_nm h
      refine g_iast (f := ga5) (ws' := cw (g_E Γ) q r (gpl F) o0 A0 C0 h0 o1 A1 C1 h1 o2 A2 C2 h2 gs0 (gu gA 5 f_3) tb0 tA0 bf0 hi0) K 40 rfl (ginb_in b_2) dX1_markBy_16 (by rw [ef_3]; rfl) ?_
      refine g_aload_n K dX1_markBy_17 rfl 0 rfl ?_
      refine g_get (v := .ref (r 3 5)) (T := TX1) (ref := "ChiefGrades$Grader") K hin_X1 4 rfl rfl 5 (by decide) u_292 (Or.inl rfl) rfl dX1_markBy_18 ?_
      refine g_iconst (v := 1) K dX1_markBy_21 (by decide) ?_
      refine g_aload_n K dX1_markBy_22 rfl 3 rfl ?_
      obtain ⟨b_4, h⟩ := gi_none h
      refine chg_1 K hF b_4 hch u_259 dX1_markBy_23 ?_
      obtain ⟨b_5, h⟩ := gi_none h
      obtain ⟨f_6, ef_6, h⟩ := gi_nm h
      refine g_iast (f := f_3) (ws' := cw (g_E Γ) q r (gpl F) o0 A0 C0 h0 o1 A1 C1 h1 o2 A2 C2 h2 gs0 (gu gA 5 f_6) tb0 tA0 bf0 hi0) K 40 rfl (ginb_in b_5) dX1_markBy_26 (by rw [ef_6]; rfl) ?_
      refine g_aload_n K dX1_markBy_27 rfl 0 rfl ?_
      refine g_get (v := .ref (r 3 5)) (T := TX1) (ref := "ChiefGrades$Grader") K hin_X1 4 rfl rfl 5 (by decide) u_292 (Or.inl rfl) rfl dX1_markBy_28 ?_
      refine g_iconst (v := 2) K dX1_markBy_31 (by decide) ?_
      refine g_aload_n K dX1_markBy_32 rfl 3 rfl ?_
      refine chg_0 K hF b_4 hch u_256 dX1_markBy_33 ?_
      obtain ⟨b_7, h⟩ := gi_none h
      obtain ⟨f_8, ef_8, h⟩ := gi_nm h
      refine g_iast (f := f_6) (ws' := cw (g_E Γ) q r (gpl F) o0 A0 C0 h0 o1 A1 C1 h1 o2 A2 C2 h2 gs0 (gu gA 5 f_8) tb0 tA0 bf0 hi0) K 40 rfl (ginb_in b_7) dX1_markBy_36 (by rw [ef_8]; rfl) ?_
      refine g_aload_n K dX1_markBy_37 rfl 0 rfl ?_
      refine g_get (v := .ref (r 3 5)) (T := TX1) (ref := "ChiefGrades$Grader") K hin_X1 4 rfl rfl 5 (by decide) u_292 (Or.inl rfl) rfl dX1_markBy_38 ?_
      refine g_iconst (v := 3) K dX1_markBy_41 (by decide) ?_
      refine g_aload_n K dX1_markBy_42 rfl 1 rfl ?_
      refine g_get (v := .ref (r 0 8)) (T := TX10) (ref := "ChiefGrades$World") K hin_X10 1 rfl rfl 8 (by decide) u_178 (Or.inl rfl) rfl dX1_markBy_43 ?_
      refine g_iload_n K dX1_markBy_46 rfl 2 rfl ?_
      obtain ⟨b_9, h⟩ := gi_none h
      refine g_iald (f := (A0 8)) K 6 rfl (ginb_in b_9) dX1_markBy_47 ?_
      refine g_bipush (v := 10) K dX1_markBy_48 (by decide) ?_
      refine g_idiv K dX1_markBy_50 (by decide) ?_
      obtain ⟨b_11, h⟩ := gi_none h
      obtain ⟨f_12, ef_12, h⟩ := gi_nm h
      refine g_iast (f := f_8) (ws' := cw (g_E Γ) q r (gpl F) o0 A0 C0 h0 o1 A1 C1 h1 o2 A2 C2 h2 gs0 (gu gA 5 f_12) tb0 tA0 bf0 hi0) K 40 rfl (ginb_in b_11) dX1_markBy_51 (by rw [ef_12]; rfl) ?_
      refine g_aload_n K dX1_markBy_52 rfl 0 rfl ?_
      refine g_get (v := .ref (r 3 5)) (T := TX1) (ref := "ChiefGrades$Grader") K hin_X1 4 rfl rfl 5 (by decide) u_292 (Or.inl rfl) rfl dX1_markBy_53 ?_
      refine g_iconst (v := 4) K dX1_markBy_56 (by decide) ?_
      refine g_aload_n K dX1_markBy_57 rfl 1 rfl ?_
      refine g_get (v := .int (o0 5)) (T := TX10) (ref := "ChiefGrades$World") K hin_X10 1 rfl rfl 5 (by decide) u_171 (Or.inl rfl) rfl dX1_markBy_58 ?_
      refine g_bipush (v := 10) K dX1_markBy_61 (by decide) ?_
      refine g_irem K dX1_markBy_63 (by decide) ?_
      obtain ⟨b_14, h⟩ := gi_none h
      obtain ⟨f_15, ef_15, h⟩ := gi_nm h
      refine g_iast (f := f_12) (ws' := cw (g_E Γ) q r (gpl F) o0 A0 C0 h0 o1 A1 C1 h1 o2 A2 C2 h2 gs0 (gu gA 5 f_15) tb0 tA0 bf0 hi0) K 40 rfl (ginb_in b_14) dX1_markBy_64 (by rw [ef_15]; rfl) ?_
      refine g_aload_n K dX1_markBy_65 rfl 0 rfl ?_
      refine g_get (v := .ref (r 3 5)) (T := TX1) (ref := "ChiefGrades$Grader") K hin_X1 4 rfl rfl 5 (by decide) u_292 (Or.inl rfl) rfl dX1_markBy_66 ?_
      refine g_iconst (v := 5) K dX1_markBy_69 (by decide) ?_
      refine g_aload_n K dX1_markBy_70 rfl 1 rfl ?_
      refine g_aload_n K dX1_markBy_71 rfl 3 rfl ?_
      refine chg_1 K hF b_4 hch u_259 dX1_markBy_72 ?_
      obtain ⟨z_16, hz_16, h⟩ := gi_bd h
      refine g_callVi (As := [.int (cn F x3)]) (bytes := cX10_teamBits) (maxL := 4) (ret := (some .int)) K (ctX10_teamBits_w0 hF o0 A0 C0 h0 o1 A1 C1 h1 o2 A2 C2 h2 gs0 (gu gA 5 f_15) tb0 tA0 bf0 hi0 (cn F x3) (res := z_16) hz_16) gc_V_RX1_55_X10_teamBits rfl qv_X10_teamBits 1 rfl rfl rfl hRm rfl rfl rfl (by decide) (Nat.le_of_ble_eq_true rfl) (by decide) dX1_markBy_75 (fun v w hw => ?_)
      obtain ⟨hv9, rfl⟩ := hw; have hv9 := hv9.symm; subst hv9
      obtain ⟨z_17, hz_17, h⟩ := gi_bd h
      refine g_callSi (As := [.int z_16]) (bytes := cJ6_bitCount_0f7a4) (maxL := 1) (ret := (some .int)) K (ctJ6_bitCount_0f7a4 (ws := cw (g_E Γ) q r (gpl F) o0 A0 C0 h0 o1 A1 C1 h1 o2 A2 C2 h2 gs0 (gu gA 5 f_15) tb0 tA0 bf0 hi0) z_16 (res := z_17) hz_17) gc_S_RX1_59_J6_bitCount_0f7a4 rfl qs_J6_bitCount_0f7a4 hRm rfl rfl rfl (by decide) (Nat.le_of_ble_eq_true rfl) (by decide) dX1_markBy_78 (fun v w hw => ?_)
      obtain ⟨hv9, rfl⟩ := hw; have hv9 := hv9.symm; subst hv9
      obtain ⟨b_18, h⟩ := gi_none h
      obtain ⟨f_19, ef_19, h⟩ := gi_nm h
      refine g_iast (f := f_15) (ws' := cw (g_E Γ) q r (gpl F) o0 A0 C0 h0 o1 A1 C1 h1 o2 A2 C2 h2 gs0 (gu gA 5 f_19) tb0 tA0 bf0 hi0) K 40 rfl (ginb_in b_18) dX1_markBy_81 (by rw [ef_19]; rfl) ?_
      refine g_aload_n K dX1_markBy_82 rfl 3 rfl ?_
      refine g_aload_n K dX1_markBy_83 rfl 1 rfl ?_
      refine g_get (v := .ref (r 0 8)) (T := TX10) (ref := "ChiefGrades$World") K hin_X10 1 rfl rfl 8 (by decide) u_178 (Or.inl rfl) rfl dX1_markBy_84 ?_
      refine g_iload_n K dX1_markBy_87 rfl 2 rfl ?_
      obtain ⟨b_20, h⟩ := gi_none h
      refine g_iald (f := (A0 8)) K 6 rfl (ginb_in b_20) dX1_markBy_88 ?_
      refine g_aload_n K dX1_markBy_89 rfl 1 rfl ?_
      refine g_get (v := .ref (r 0 9)) (T := TX10) (ref := "ChiefGrades$World") K hin_X10 1 rfl rfl 9 (by decide) u_181 (Or.inl rfl) rfl dX1_markBy_90 ?_
      refine g_iload_n K dX1_markBy_93 rfl 2 rfl ?_
      obtain ⟨b_21, h⟩ := gi_none h
      refine g_iald (f := (A0 9)) K 7 rfl (ginb_in b_21) dX1_markBy_94 ?_
      obtain ⟨ht9, hf9⟩ := gi_br h; clear h
      by_cases kd_22 : ck F x3 = 0
      · have h := ht9 kd_22; clear ht9 hf9
        obtain ⟨z_29, hz_29, h⟩ := gi_bd h
        refine g_callViF (As := [.int ((A0 8) (Int32.toNatClampNeg x2)), .int ((A0 9) (Int32.toNatClampNeg x2))]) (bytes := cX0_seen) (maxL := 3) (ret := (some .int)) K (ctX0_seen_k0 hF (b0 := x3) b_4 kd_22 o0 A0 C0 h0 o1 A1 C1 h1 o2 A2 C2 h2 gs0 (gu gA 5 f_19) tb0 tA0 bf0 hi0 ((A0 8) (Int32.toNatClampNeg x2)) ((A0 9) (Int32.toNatClampNeg x2)) (res := z_29) hz_29) gc_V_RX1_67_X0_seen rfl qv_X0_seen (gF_at (j := 0) hF b_4 kd_22 (by decide)) rfl rfl hRm rfl rfl rfl (by decide) (Nat.le_of_ble_eq_true rfl) (by decide) dX1_markBy_95 (fun v w hw => ?_)
        obtain ⟨hv9, rfl⟩ := hw; have hv9 := hv9.symm; subst hv9
        refine g_aload_n K dX1_markBy_98 rfl 3 rfl ?_
        refine g_aload_n K dX1_markBy_99 rfl 1 rfl ?_
        refine g_get (v := .ref (r 0 11)) (T := TX10) (ref := "ChiefGrades$World") K hin_X10 1 rfl rfl 11 (by decide) u_187 (Or.inl rfl) rfl dX1_markBy_100 ?_
        refine g_iload_n K dX1_markBy_103 rfl 2 rfl ?_
        obtain ⟨b_30, h⟩ := gi_none h
        refine g_iald (f := (A0 11)) K 9 rfl (ginb_in b_30) dX1_markBy_104 ?_
        obtain ⟨z_31, hz_31, h⟩ := gi_bd h
        refine g_callViF (As := [.int ((A0 11) (Int32.toNatClampNeg x2))]) (bytes := cX0_favour) (maxL := 2) (ret := (some .int)) K (ctX0_favour_k0 hF (b0 := x3) b_4 kd_22 o0 A0 C0 h0 o1 A1 C1 h1 o2 A2 C2 h2 gs0 (gu gA 5 f_19) tb0 tA0 bf0 hi0 ((A0 11) (Int32.toNatClampNeg x2)) (res := z_31) hz_31) gc_V_RX1_74_X0_favour rfl qv_X0_favour (gF_at (j := 0) hF b_4 kd_22 (by decide)) rfl rfl hRm rfl rfl rfl (by decide) (Nat.le_of_ble_eq_true rfl) (by decide) dX1_markBy_105 (fun v w hw => ?_)
        obtain ⟨hv9, rfl⟩ := hw; have hv9 := hv9.symm; subst hv9
        refine g_iadd K dX1_markBy_108 ?_
        refine g_aload_n K dX1_markBy_109 rfl 1 rfl ?_
        refine g_get (v := .ref h0) (T := TX10) (ref := "ChiefGrades$World") K hin_X10 1 rfl rfl 18 (by decide) u_202 (Or.inl rfl) rfl dX1_markBy_110 ?_
        refine g_aload_n K dX1_markBy_113 rfl 0 rfl ?_
        refine g_get (v := .ref (r 3 5)) (T := TX1) (ref := "ChiefGrades$Grader") K hin_X1 4 rfl rfl 5 (by decide) u_292 (Or.inl rfl) rfl dX1_markBy_114 ?_
        obtain ⟨b_32, h⟩ := gi_none h
        obtain ⟨tx9, sz9, at9, fl9, hrv⟩ := (hF.2 _ b_32).1
        obtain ⟨z_33, hz_33, h⟩ := gi_bd h
        refine g_callViF (As := [.ref (r 3 5)]) (bytes := cX2_raise) (maxL := 9) (ret := (some .int)) K (ctX2_raise hF (b0 := h0) b_32 o0 A0 C0 h0 o1 A1 C1 h1 o2 A2 C2 h2 gs0 (gu gA 5 f_19) tb0 tA0 bf0 hi0 (res := z_33) hz_33) gc_V_RX1_81_X2_raise rfl qv_X2_raise hrv rfl rfl hRm rfl rfl rfl (by decide) (Nat.le_of_ble_eq_true rfl) (by decide) dX1_markBy_117 (fun v w hw => ?_)
        obtain ⟨hv9, rfl⟩ := hw; have hv9 := hv9.symm; subst hv9
        refine g_iadd K dX1_markBy_120 ?_
        obtain rfl := Option.some.inj h
        exact hret _ _ _ _ dX1_markBy_121 rfl ⟨rfl, rfl⟩
      have h := hf9 kd_22; clear ht9 hf9
      obtain ⟨ht9, hf9⟩ := gi_br h; clear h
      by_cases kd_23 : ck F x3 = 1
      · have h := ht9 kd_23; clear ht9 hf9
        obtain ⟨z_34, hz_34, h⟩ := gi_bd h
        refine g_callUiF (n := 2) (owner := "ChiefGrades$Chief") (x := ⟨"ChiefGrades$Chief", "seen", "(II)I"⟩) (As := [.int ((A0 8) (Int32.toNatClampNeg x2)), .int ((A0 9) (Int32.toNatClampNeg x2))]) (bytes := cX0_seen) (maxL := 3) (ret := (some .int)) K (ctX0_seen_k1 hF (b0 := x3) b_4 kd_23 o0 A0 C0 h0 o1 A1 C1 h1 o2 A2 C2 h2 gs0 (gu gA 5 f_19) tb0 tA0 bf0 hi0 ((A0 8) (Int32.toNatClampNeg x2)) ((A0 9) (Int32.toNatClampNeg x2)) (res := z_34) hz_34) gc_UX5_RX1_67_X0_seen rfl rfl (by decide +kernel) (gF_at (j := 1) hF b_4 kd_23 (by decide)) rfl rfl hRm rfl rfl rfl (by decide) (Nat.le_of_ble_eq_true rfl) (by decide) dX1_markBy_95 (fun v w hw => ?_)
        obtain ⟨hv9, rfl⟩ := hw; have hv9 := hv9.symm; subst hv9
        refine g_aload_n K dX1_markBy_98 rfl 3 rfl ?_
        refine g_aload_n K dX1_markBy_99 rfl 1 rfl ?_
        refine g_get (v := .ref (r 0 11)) (T := TX10) (ref := "ChiefGrades$World") K hin_X10 1 rfl rfl 11 (by decide) u_187 (Or.inl rfl) rfl dX1_markBy_100 ?_
        refine g_iload_n K dX1_markBy_103 rfl 2 rfl ?_
        obtain ⟨b_35, h⟩ := gi_none h
        refine g_iald (f := (A0 11)) K 9 rfl (ginb_in b_35) dX1_markBy_104 ?_
        obtain ⟨z_36, hz_36, h⟩ := gi_bd h
        refine g_callOiF (n := 1) (owner := "ChiefGrades$Chief") (x := ⟨"ChiefGrades$Chief", "favour", "(I)I"⟩) (As := [.int ((A0 11) (Int32.toNatClampNeg x2))]) (bytes := cX5_favour) (maxL := 2) (ret := (some .int)) K (ctX5_favour_k1 hF (b0 := x3) b_4 kd_23 o0 A0 C0 h0 o1 A1 C1 h1 o2 A2 C2 h2 gs0 (gu gA 5 f_19) tb0 tA0 bf0 hi0 ((A0 11) (Int32.toNatClampNeg x2)) (res := z_36) hz_36) gc_OX5_RX1_74_X5_favour rfl u_660 (by decide +kernel) (gF_at (j := 1) hF b_4 kd_23 (by decide)) rfl rfl hRm rfl rfl rfl (by decide) (Nat.le_of_ble_eq_true rfl) (by decide) dX1_markBy_105 (fun v w hw => ?_)
        obtain ⟨hv9, rfl⟩ := hw; have hv9 := hv9.symm; subst hv9
        refine g_iadd K dX1_markBy_108 ?_
        refine g_aload_n K dX1_markBy_109 rfl 1 rfl ?_
        refine g_get (v := .ref h0) (T := TX10) (ref := "ChiefGrades$World") K hin_X10 1 rfl rfl 18 (by decide) u_202 (Or.inl rfl) rfl dX1_markBy_110 ?_
        refine g_aload_n K dX1_markBy_113 rfl 0 rfl ?_
        refine g_get (v := .ref (r 3 5)) (T := TX1) (ref := "ChiefGrades$Grader") K hin_X1 4 rfl rfl 5 (by decide) u_292 (Or.inl rfl) rfl dX1_markBy_114 ?_
        obtain ⟨b_37, h⟩ := gi_none h
        obtain ⟨tx9, sz9, at9, fl9, hrv⟩ := (hF.2 _ b_37).1
        obtain ⟨z_38, hz_38, h⟩ := gi_bd h
        refine g_callViF (As := [.ref (r 3 5)]) (bytes := cX2_raise) (maxL := 9) (ret := (some .int)) K (ctX2_raise hF (b0 := h0) b_37 o0 A0 C0 h0 o1 A1 C1 h1 o2 A2 C2 h2 gs0 (gu gA 5 f_19) tb0 tA0 bf0 hi0 (res := z_38) hz_38) gc_V_RX1_81_X2_raise rfl qv_X2_raise hrv rfl rfl hRm rfl rfl rfl (by decide) (Nat.le_of_ble_eq_true rfl) (by decide) dX1_markBy_117 (fun v w hw => ?_)
        obtain ⟨hv9, rfl⟩ := hw; have hv9 := hv9.symm; subst hv9
        refine g_iadd K dX1_markBy_120 ?_
        obtain rfl := Option.some.inj h
        exact hret _ _ _ _ dX1_markBy_121 rfl ⟨rfl, rfl⟩
      have h := hf9 kd_23; clear ht9 hf9
      obtain ⟨ht9, hf9⟩ := gi_br h; clear h
      by_cases kd_24 : ck F x3 = 2
      · have h := ht9 kd_24; clear ht9 hf9
        obtain ⟨z_39, hz_39, h⟩ := gi_bd h
        refine g_callUiF (n := 2) (owner := "ChiefGrades$Chief") (x := ⟨"ChiefGrades$Chief", "seen", "(II)I"⟩) (As := [.int ((A0 8) (Int32.toNatClampNeg x2)), .int ((A0 9) (Int32.toNatClampNeg x2))]) (bytes := cX0_seen) (maxL := 3) (ret := (some .int)) K (ctX0_seen_k2 hF (b0 := x3) b_4 kd_24 o0 A0 C0 h0 o1 A1 C1 h1 o2 A2 C2 h2 gs0 (gu gA 5 f_19) tb0 tA0 bf0 hi0 ((A0 8) (Int32.toNatClampNeg x2)) ((A0 9) (Int32.toNatClampNeg x2)) (res := z_39) hz_39) gc_UX9_RX1_67_X0_seen rfl rfl (by decide +kernel) (gF_at (j := 2) hF b_4 kd_24 (by decide)) rfl rfl hRm rfl rfl rfl (by decide) (Nat.le_of_ble_eq_true rfl) (by decide) dX1_markBy_95 (fun v w hw => ?_)
        obtain ⟨hv9, rfl⟩ := hw; have hv9 := hv9.symm; subst hv9
        refine g_aload_n K dX1_markBy_98 rfl 3 rfl ?_
        refine g_aload_n K dX1_markBy_99 rfl 1 rfl ?_
        refine g_get (v := .ref (r 0 11)) (T := TX10) (ref := "ChiefGrades$World") K hin_X10 1 rfl rfl 11 (by decide) u_187 (Or.inl rfl) rfl dX1_markBy_100 ?_
        refine g_iload_n K dX1_markBy_103 rfl 2 rfl ?_
        obtain ⟨b_40, h⟩ := gi_none h
        refine g_iald (f := (A0 11)) K 9 rfl (ginb_in b_40) dX1_markBy_104 ?_
        obtain ⟨z_41, hz_41, h⟩ := gi_bd h
        refine g_callUiF (n := 1) (owner := "ChiefGrades$Chief") (x := ⟨"ChiefGrades$Chief", "favour", "(I)I"⟩) (As := [.int ((A0 11) (Int32.toNatClampNeg x2))]) (bytes := cX0_favour) (maxL := 2) (ret := (some .int)) K (ctX0_favour_k2 hF (b0 := x3) b_4 kd_24 o0 A0 C0 h0 o1 A1 C1 h1 o2 A2 C2 h2 gs0 (gu gA 5 f_19) tb0 tA0 bf0 hi0 ((A0 11) (Int32.toNatClampNeg x2)) (res := z_41) hz_41) gc_UX9_RX1_74_X0_favour rfl rfl (by decide +kernel) (gF_at (j := 2) hF b_4 kd_24 (by decide)) rfl rfl hRm rfl rfl rfl (by decide) (Nat.le_of_ble_eq_true rfl) (by decide) dX1_markBy_105 (fun v w hw => ?_)
        obtain ⟨hv9, rfl⟩ := hw; have hv9 := hv9.symm; subst hv9
        refine g_iadd K dX1_markBy_108 ?_
        refine g_aload_n K dX1_markBy_109 rfl 1 rfl ?_
        refine g_get (v := .ref h0) (T := TX10) (ref := "ChiefGrades$World") K hin_X10 1 rfl rfl 18 (by decide) u_202 (Or.inl rfl) rfl dX1_markBy_110 ?_
        refine g_aload_n K dX1_markBy_113 rfl 0 rfl ?_
        refine g_get (v := .ref (r 3 5)) (T := TX1) (ref := "ChiefGrades$Grader") K hin_X1 4 rfl rfl 5 (by decide) u_292 (Or.inl rfl) rfl dX1_markBy_114 ?_
        obtain ⟨b_42, h⟩ := gi_none h
        obtain ⟨tx9, sz9, at9, fl9, hrv⟩ := (hF.2 _ b_42).1
        obtain ⟨z_43, hz_43, h⟩ := gi_bd h
        refine g_callViF (As := [.ref (r 3 5)]) (bytes := cX2_raise) (maxL := 9) (ret := (some .int)) K (ctX2_raise hF (b0 := h0) b_42 o0 A0 C0 h0 o1 A1 C1 h1 o2 A2 C2 h2 gs0 (gu gA 5 f_19) tb0 tA0 bf0 hi0 (res := z_43) hz_43) gc_V_RX1_81_X2_raise rfl qv_X2_raise hrv rfl rfl hRm rfl rfl rfl (by decide) (Nat.le_of_ble_eq_true rfl) (by decide) dX1_markBy_117 (fun v w hw => ?_)
        obtain ⟨hv9, rfl⟩ := hw; have hv9 := hv9.symm; subst hv9
        refine g_iadd K dX1_markBy_120 ?_
        obtain rfl := Option.some.inj h
        exact hret _ _ _ _ dX1_markBy_121 rfl ⟨rfl, rfl⟩
      have h := hf9 kd_24; clear ht9 hf9
      obtain ⟨ht9, hf9⟩ := gi_br h; clear h
      by_cases kd_25 : ck F x3 = 3
      · have h := ht9 kd_25; clear ht9 hf9
        obtain ⟨z_44, hz_44, h⟩ := gi_bd h
        refine g_callOiF (n := 2) (owner := "ChiefGrades$Chief") (x := ⟨"ChiefGrades$Chief", "seen", "(II)I"⟩) (As := [.int ((A0 8) (Int32.toNatClampNeg x2)), .int ((A0 9) (Int32.toNatClampNeg x2))]) (bytes := cX4_seen) (maxL := 3) (ret := (some .int)) K (ctX4_seen_k3 hF (b0 := x3) b_4 kd_25 o0 A0 C0 h0 o1 A1 C1 h1 o2 A2 C2 h2 gs0 (gu gA 5 f_19) tb0 tA0 bf0 hi0 ((A0 8) (Int32.toNatClampNeg x2)) ((A0 9) (Int32.toNatClampNeg x2)) (res := z_44) hz_44) gc_OX4_RX1_67_X4_seen rfl u_639 (by decide +kernel) (gF_at (j := 3) hF b_4 kd_25 (by decide)) rfl rfl hRm rfl rfl rfl (by decide) (Nat.le_of_ble_eq_true rfl) (by decide) dX1_markBy_95 (fun v w hw => ?_)
        obtain ⟨hv9, rfl⟩ := hw; have hv9 := hv9.symm; subst hv9
        refine g_aload_n K dX1_markBy_98 rfl 3 rfl ?_
        refine g_aload_n K dX1_markBy_99 rfl 1 rfl ?_
        refine g_get (v := .ref (r 0 11)) (T := TX10) (ref := "ChiefGrades$World") K hin_X10 1 rfl rfl 11 (by decide) u_187 (Or.inl rfl) rfl dX1_markBy_100 ?_
        refine g_iload_n K dX1_markBy_103 rfl 2 rfl ?_
        obtain ⟨b_45, h⟩ := gi_none h
        refine g_iald (f := (A0 11)) K 9 rfl (ginb_in b_45) dX1_markBy_104 ?_
        obtain ⟨z_46, hz_46, h⟩ := gi_bd h
        refine g_callUiF (n := 1) (owner := "ChiefGrades$Chief") (x := ⟨"ChiefGrades$Chief", "favour", "(I)I"⟩) (As := [.int ((A0 11) (Int32.toNatClampNeg x2))]) (bytes := cX0_favour) (maxL := 2) (ret := (some .int)) K (ctX0_favour_k3 hF (b0 := x3) b_4 kd_25 o0 A0 C0 h0 o1 A1 C1 h1 o2 A2 C2 h2 gs0 (gu gA 5 f_19) tb0 tA0 bf0 hi0 ((A0 11) (Int32.toNatClampNeg x2)) (res := z_46) hz_46) gc_UX4_RX1_74_X0_favour rfl rfl (by decide +kernel) (gF_at (j := 3) hF b_4 kd_25 (by decide)) rfl rfl hRm rfl rfl rfl (by decide) (Nat.le_of_ble_eq_true rfl) (by decide) dX1_markBy_105 (fun v w hw => ?_)
        obtain ⟨hv9, rfl⟩ := hw; have hv9 := hv9.symm; subst hv9
        refine g_iadd K dX1_markBy_108 ?_
        refine g_aload_n K dX1_markBy_109 rfl 1 rfl ?_
        refine g_get (v := .ref h0) (T := TX10) (ref := "ChiefGrades$World") K hin_X10 1 rfl rfl 18 (by decide) u_202 (Or.inl rfl) rfl dX1_markBy_110 ?_
        refine g_aload_n K dX1_markBy_113 rfl 0 rfl ?_
        refine g_get (v := .ref (r 3 5)) (T := TX1) (ref := "ChiefGrades$Grader") K hin_X1 4 rfl rfl 5 (by decide) u_292 (Or.inl rfl) rfl dX1_markBy_114 ?_
        obtain ⟨b_47, h⟩ := gi_none h
        obtain ⟨tx9, sz9, at9, fl9, hrv⟩ := (hF.2 _ b_47).1
        obtain ⟨z_48, hz_48, h⟩ := gi_bd h
        refine g_callViF (As := [.ref (r 3 5)]) (bytes := cX2_raise) (maxL := 9) (ret := (some .int)) K (ctX2_raise hF (b0 := h0) b_47 o0 A0 C0 h0 o1 A1 C1 h1 o2 A2 C2 h2 gs0 (gu gA 5 f_19) tb0 tA0 bf0 hi0 (res := z_48) hz_48) gc_V_RX1_81_X2_raise rfl qv_X2_raise hrv rfl rfl hRm rfl rfl rfl (by decide) (Nat.le_of_ble_eq_true rfl) (by decide) dX1_markBy_117 (fun v w hw => ?_)
        obtain ⟨hv9, rfl⟩ := hw; have hv9 := hv9.symm; subst hv9
        refine g_iadd K dX1_markBy_120 ?_
        obtain rfl := Option.some.inj h
        exact hret _ _ _ _ dX1_markBy_121 rfl ⟨rfl, rfl⟩
      have h := hf9 kd_25; clear ht9 hf9
      obtain ⟨ht9, hf9⟩ := gi_br h; clear h
      by_cases kd_26 : ck F x3 = 4
      · have h := ht9 kd_26; clear ht9 hf9
        obtain ⟨z_49, hz_49, h⟩ := gi_bd h
        refine g_callUiF (n := 2) (owner := "ChiefGrades$Chief") (x := ⟨"ChiefGrades$Chief", "seen", "(II)I"⟩) (As := [.int ((A0 8) (Int32.toNatClampNeg x2)), .int ((A0 9) (Int32.toNatClampNeg x2))]) (bytes := cX0_seen) (maxL := 3) (ret := (some .int)) K (ctX0_seen_k4 hF (b0 := x3) b_4 kd_26 o0 A0 C0 h0 o1 A1 C1 h1 o2 A2 C2 h2 gs0 (gu gA 5 f_19) tb0 tA0 bf0 hi0 ((A0 8) (Int32.toNatClampNeg x2)) ((A0 9) (Int32.toNatClampNeg x2)) (res := z_49) hz_49) gc_UX6_RX1_67_X0_seen rfl rfl (by decide +kernel) (gF_at (j := 4) hF b_4 kd_26 (by decide)) rfl rfl hRm rfl rfl rfl (by decide) (Nat.le_of_ble_eq_true rfl) (by decide) dX1_markBy_95 (fun v w hw => ?_)
        obtain ⟨hv9, rfl⟩ := hw; have hv9 := hv9.symm; subst hv9
        refine g_aload_n K dX1_markBy_98 rfl 3 rfl ?_
        refine g_aload_n K dX1_markBy_99 rfl 1 rfl ?_
        refine g_get (v := .ref (r 0 11)) (T := TX10) (ref := "ChiefGrades$World") K hin_X10 1 rfl rfl 11 (by decide) u_187 (Or.inl rfl) rfl dX1_markBy_100 ?_
        refine g_iload_n K dX1_markBy_103 rfl 2 rfl ?_
        obtain ⟨b_50, h⟩ := gi_none h
        refine g_iald (f := (A0 11)) K 9 rfl (ginb_in b_50) dX1_markBy_104 ?_
        obtain ⟨z_51, hz_51, h⟩ := gi_bd h
        refine g_callOiF (n := 1) (owner := "ChiefGrades$Chief") (x := ⟨"ChiefGrades$Chief", "favour", "(I)I"⟩) (As := [.int ((A0 11) (Int32.toNatClampNeg x2))]) (bytes := cX6_favour) (maxL := 2) (ret := (some .int)) K (ctX6_favour_k4 hF (b0 := x3) b_4 kd_26 o0 A0 C0 h0 o1 A1 C1 h1 o2 A2 C2 h2 gs0 (gu gA 5 f_19) tb0 tA0 bf0 hi0 ((A0 11) (Int32.toNatClampNeg x2)) (res := z_51) hz_51) gc_OX6_RX1_74_X6_favour rfl u_660 (by decide +kernel) (gF_at (j := 4) hF b_4 kd_26 (by decide)) rfl rfl hRm rfl rfl rfl (by decide) (Nat.le_of_ble_eq_true rfl) (by decide) dX1_markBy_105 (fun v w hw => ?_)
        obtain ⟨hv9, rfl⟩ := hw; have hv9 := hv9.symm; subst hv9
        refine g_iadd K dX1_markBy_108 ?_
        refine g_aload_n K dX1_markBy_109 rfl 1 rfl ?_
        refine g_get (v := .ref h0) (T := TX10) (ref := "ChiefGrades$World") K hin_X10 1 rfl rfl 18 (by decide) u_202 (Or.inl rfl) rfl dX1_markBy_110 ?_
        refine g_aload_n K dX1_markBy_113 rfl 0 rfl ?_
        refine g_get (v := .ref (r 3 5)) (T := TX1) (ref := "ChiefGrades$Grader") K hin_X1 4 rfl rfl 5 (by decide) u_292 (Or.inl rfl) rfl dX1_markBy_114 ?_
        obtain ⟨b_52, h⟩ := gi_none h
        obtain ⟨tx9, sz9, at9, fl9, hrv⟩ := (hF.2 _ b_52).1
        obtain ⟨z_53, hz_53, h⟩ := gi_bd h
        refine g_callViF (As := [.ref (r 3 5)]) (bytes := cX2_raise) (maxL := 9) (ret := (some .int)) K (ctX2_raise hF (b0 := h0) b_52 o0 A0 C0 h0 o1 A1 C1 h1 o2 A2 C2 h2 gs0 (gu gA 5 f_19) tb0 tA0 bf0 hi0 (res := z_53) hz_53) gc_V_RX1_81_X2_raise rfl qv_X2_raise hrv rfl rfl hRm rfl rfl rfl (by decide) (Nat.le_of_ble_eq_true rfl) (by decide) dX1_markBy_117 (fun v w hw => ?_)
        obtain ⟨hv9, rfl⟩ := hw; have hv9 := hv9.symm; subst hv9
        refine g_iadd K dX1_markBy_120 ?_
        obtain rfl := Option.some.inj h
        exact hret _ _ _ _ dX1_markBy_121 rfl ⟨rfl, rfl⟩
      have h := hf9 kd_26; clear ht9 hf9
      obtain ⟨ht9, hf9⟩ := gi_br h; clear h
      by_cases kd_27 : ck F x3 = 5
      · have h := ht9 kd_27; clear ht9 hf9
        obtain ⟨z_54, hz_54, h⟩ := gi_bd h
        refine g_callUiF (n := 2) (owner := "ChiefGrades$Chief") (x := ⟨"ChiefGrades$Chief", "seen", "(II)I"⟩) (As := [.int ((A0 8) (Int32.toNatClampNeg x2)), .int ((A0 9) (Int32.toNatClampNeg x2))]) (bytes := cX0_seen) (maxL := 3) (ret := (some .int)) K (ctX0_seen_k5 hF (b0 := x3) b_4 kd_27 o0 A0 C0 h0 o1 A1 C1 h1 o2 A2 C2 h2 gs0 (gu gA 5 f_19) tb0 tA0 bf0 hi0 ((A0 8) (Int32.toNatClampNeg x2)) ((A0 9) (Int32.toNatClampNeg x2)) (res := z_54) hz_54) gc_UX3_RX1_67_X0_seen rfl rfl (by decide +kernel) (gF_at (j := 5) hF b_4 kd_27 (by decide)) rfl rfl hRm rfl rfl rfl (by decide) (Nat.le_of_ble_eq_true rfl) (by decide) dX1_markBy_95 (fun v w hw => ?_)
        obtain ⟨hv9, rfl⟩ := hw; have hv9 := hv9.symm; subst hv9
        refine g_aload_n K dX1_markBy_98 rfl 3 rfl ?_
        refine g_aload_n K dX1_markBy_99 rfl 1 rfl ?_
        refine g_get (v := .ref (r 0 11)) (T := TX10) (ref := "ChiefGrades$World") K hin_X10 1 rfl rfl 11 (by decide) u_187 (Or.inl rfl) rfl dX1_markBy_100 ?_
        refine g_iload_n K dX1_markBy_103 rfl 2 rfl ?_
        obtain ⟨b_55, h⟩ := gi_none h
        refine g_iald (f := (A0 11)) K 9 rfl (ginb_in b_55) dX1_markBy_104 ?_
        obtain ⟨z_56, hz_56, h⟩ := gi_bd h
        refine g_callUiF (n := 1) (owner := "ChiefGrades$Chief") (x := ⟨"ChiefGrades$Chief", "favour", "(I)I"⟩) (As := [.int ((A0 11) (Int32.toNatClampNeg x2))]) (bytes := cX0_favour) (maxL := 2) (ret := (some .int)) K (ctX0_favour_k5 hF (b0 := x3) b_4 kd_27 o0 A0 C0 h0 o1 A1 C1 h1 o2 A2 C2 h2 gs0 (gu gA 5 f_19) tb0 tA0 bf0 hi0 ((A0 11) (Int32.toNatClampNeg x2)) (res := z_56) hz_56) gc_UX3_RX1_74_X0_favour rfl rfl (by decide +kernel) (gF_at (j := 5) hF b_4 kd_27 (by decide)) rfl rfl hRm rfl rfl rfl (by decide) (Nat.le_of_ble_eq_true rfl) (by decide) dX1_markBy_105 (fun v w hw => ?_)
        obtain ⟨hv9, rfl⟩ := hw; have hv9 := hv9.symm; subst hv9
        refine g_iadd K dX1_markBy_108 ?_
        refine g_aload_n K dX1_markBy_109 rfl 1 rfl ?_
        refine g_get (v := .ref h0) (T := TX10) (ref := "ChiefGrades$World") K hin_X10 1 rfl rfl 18 (by decide) u_202 (Or.inl rfl) rfl dX1_markBy_110 ?_
        refine g_aload_n K dX1_markBy_113 rfl 0 rfl ?_
        refine g_get (v := .ref (r 3 5)) (T := TX1) (ref := "ChiefGrades$Grader") K hin_X1 4 rfl rfl 5 (by decide) u_292 (Or.inl rfl) rfl dX1_markBy_114 ?_
        obtain ⟨b_57, h⟩ := gi_none h
        obtain ⟨tx9, sz9, at9, fl9, hrv⟩ := (hF.2 _ b_57).1
        obtain ⟨z_58, hz_58, h⟩ := gi_bd h
        refine g_callViF (As := [.ref (r 3 5)]) (bytes := cX2_raise) (maxL := 9) (ret := (some .int)) K (ctX2_raise hF (b0 := h0) b_57 o0 A0 C0 h0 o1 A1 C1 h1 o2 A2 C2 h2 gs0 (gu gA 5 f_19) tb0 tA0 bf0 hi0 (res := z_58) hz_58) gc_V_RX1_81_X2_raise rfl qv_X2_raise hrv rfl rfl hRm rfl rfl rfl (by decide) (Nat.le_of_ble_eq_true rfl) (by decide) dX1_markBy_117 (fun v w hw => ?_)
        obtain ⟨hv9, rfl⟩ := hw; have hv9 := hv9.symm; subst hv9
        refine g_iadd K dX1_markBy_120 ?_
        obtain rfl := Option.some.inj h
        exact hret _ _ _ _ dX1_markBy_121 rfl ⟨rfl, rfl⟩
      have h := hf9 kd_27; clear ht9 hf9
      have kd_28 := gF_last hF b_4 kd_22 kd_23 kd_24 kd_25 kd_26 kd_27
      obtain ⟨z_59, hz_59, h⟩ := gi_bd h
      refine g_callOiF (n := 2) (owner := "ChiefGrades$Chief") (x := ⟨"ChiefGrades$Chief", "seen", "(II)I"⟩) (As := [.int ((A0 8) (Int32.toNatClampNeg x2)), .int ((A0 9) (Int32.toNatClampNeg x2))]) (bytes := cX4_seen) (maxL := 3) (ret := (some .int)) K (ctX4_seen_k6 hF (b0 := x3) b_4 kd_28 o0 A0 C0 h0 o1 A1 C1 h1 o2 A2 C2 h2 gs0 (gu gA 5 f_19) tb0 tA0 bf0 hi0 ((A0 8) (Int32.toNatClampNeg x2)) ((A0 9) (Int32.toNatClampNeg x2)) (res := z_59) hz_59) gc_OX7_RX1_67_X4_seen rfl u_639 (by decide +kernel) (gF_at (j := 6) hF b_4 kd_28 (by decide)) rfl rfl hRm rfl rfl rfl (by decide) (Nat.le_of_ble_eq_true rfl) (by decide) dX1_markBy_95 (fun v w hw => ?_)
      obtain ⟨hv9, rfl⟩ := hw; have hv9 := hv9.symm; subst hv9
      refine g_aload_n K dX1_markBy_98 rfl 3 rfl ?_
      refine g_aload_n K dX1_markBy_99 rfl 1 rfl ?_
      refine g_get (v := .ref (r 0 11)) (T := TX10) (ref := "ChiefGrades$World") K hin_X10 1 rfl rfl 11 (by decide) u_187 (Or.inl rfl) rfl dX1_markBy_100 ?_
      refine g_iload_n K dX1_markBy_103 rfl 2 rfl ?_
      obtain ⟨b_60, h⟩ := gi_none h
      refine g_iald (f := (A0 11)) K 9 rfl (ginb_in b_60) dX1_markBy_104 ?_
      obtain ⟨z_61, hz_61, h⟩ := gi_bd h
      refine g_callOiF (n := 1) (owner := "ChiefGrades$Chief") (x := ⟨"ChiefGrades$Chief", "favour", "(I)I"⟩) (As := [.int ((A0 11) (Int32.toNatClampNeg x2))]) (bytes := cX7_favour) (maxL := 2) (ret := (some .int)) K (ctX7_favour_k6 hF (b0 := x3) b_4 kd_28 o0 A0 C0 h0 o1 A1 C1 h1 o2 A2 C2 h2 gs0 (gu gA 5 f_19) tb0 tA0 bf0 hi0 ((A0 11) (Int32.toNatClampNeg x2)) (res := z_61) hz_61) gc_OX7_RX1_74_X7_favour rfl u_660 (by decide +kernel) (gF_at (j := 6) hF b_4 kd_28 (by decide)) rfl rfl hRm rfl rfl rfl (by decide) (Nat.le_of_ble_eq_true rfl) (by decide) dX1_markBy_105 (fun v w hw => ?_)
      obtain ⟨hv9, rfl⟩ := hw; have hv9 := hv9.symm; subst hv9
      refine g_iadd K dX1_markBy_108 ?_
      refine g_aload_n K dX1_markBy_109 rfl 1 rfl ?_
      refine g_get (v := .ref h0) (T := TX10) (ref := "ChiefGrades$World") K hin_X10 1 rfl rfl 18 (by decide) u_202 (Or.inl rfl) rfl dX1_markBy_110 ?_
      refine g_aload_n K dX1_markBy_113 rfl 0 rfl ?_
      refine g_get (v := .ref (r 3 5)) (T := TX1) (ref := "ChiefGrades$Grader") K hin_X1 4 rfl rfl 5 (by decide) u_292 (Or.inl rfl) rfl dX1_markBy_114 ?_
      obtain ⟨b_62, h⟩ := gi_none h
      obtain ⟨tx9, sz9, at9, fl9, hrv⟩ := (hF.2 _ b_62).1
      obtain ⟨z_63, hz_63, h⟩ := gi_bd h
      refine g_callViF (As := [.ref (r 3 5)]) (bytes := cX2_raise) (maxL := 9) (ret := (some .int)) K (ctX2_raise hF (b0 := h0) b_62 o0 A0 C0 h0 o1 A1 C1 h1 o2 A2 C2 h2 gs0 (gu gA 5 f_19) tb0 tA0 bf0 hi0 (res := z_63) hz_63) gc_V_RX1_81_X2_raise rfl qv_X2_raise hrv rfl rfl hRm rfl rfl rfl (by decide) (Nat.le_of_ble_eq_true rfl) (by decide) dX1_markBy_117 (fun v w hw => ?_)
      obtain ⟨hv9, rfl⟩ := hw; have hv9 := hv9.symm; subst hv9
      refine g_iadd K dX1_markBy_120 ?_
      obtain rfl := Option.some.inj h
      exact hret _ _ _ _ dX1_markBy_121 rfl ⟨rfl, rfl⟩
    · have h := ht9 qh; clear ht9 hf9
      refine g_iconst (v := 0) K dX1_markBy_8 (by decide) ?_
      obtain rfl := Option.some.inj h
      exact hret _ _ _ _ dX1_markBy_9 rfl ⟨rfl, rfl⟩

set_option maxRecDepth 100000 in
theorem ctX1_markBy_w0 {E : gE} {q : Nat → Nat} {r : Nat → Nat → Nat} {F : gF} (hF : gFz E F) (o0 : Nat → Int32) (A0 : Nat → Nat → Int32) (C0 : Nat → Option Nat) (h0 : Nat) (o1 : Nat → Int32) (A1 : Nat → Nat → Int32) (C1 : Nat → Option Nat) (h1 : Nat) (o2 : Nat → Int32) (A2 : Nat → Nat → Int32) (C2 : Nat → Option Nat) (h2 : Nat) (gs0 : Int32) (gA : Nat → Nat → Int32) (tb0 : Int32) (tA0 bf0 : Nat → Int32) (hi0 : Int32) (x2 : Int32) (x3 : Nat) {res : Int32 × ((Nat → Int32))} (h : pX1_markBy_w0 F (o0 0) (o0 5) (A0 8) (A0 9) (A0 10) (A0 11) h0 (gA 5) x2 x3 = some res) : gMi yX1_markBy (.code yX1_markBy cX1_markBy 4 (some .int) :: gU) ({ frames := 6, cells := 0, slots := 0, locals := 192 } : Room) 0 0 E [.ref (q 3), .ref (q 0), .int x2, .ref x3] (cw E q r (gpl F) o0 A0 C0 h0 o1 A1 C1 h1 o2 A2 C2 h2 gs0 gA tb0 tA0 bf0 hi0) (fun v w => v = res.1 ∧ w = cw E q r (gpl F) o0 A0 C0 h0 o1 A1 C1 h1 o2 A2 C2 h2 gs0 (gu gA 5 res.2) tb0 tA0 bf0 hi0) := by
  refine g_met_i (by decide +kernel) (Nat.le_of_ble_eq_true rfl) (fun Γ K hn hE hRm _ hret => ?_)
  subst hE
  have hlt : ∀ i, i < 4 → i < g_n Γ := fun i q => by rw [hn]; exact q
  refine g_ws (ws' := cw (g_E Γ) q r (gpl F) o0 A0 C0 h0 o1 A1 C1 h1 o2 A2 C2 h2 gs0 (gu gA 5 (gA 5)) tb0 tA0 bf0 hi0) rfl ?_
  refine g_sub (L' := [(0, .ref (q 3)), (1, .ref (q 0)), (2, .int x2), (3, .ref x3)]) [0, 1, 2, 3] rfl ?_
  exact wX1_markBy_w0 (C0 := C0) (h0 := h0) (C1 := C1) (h1 := h1) (C2 := C2) (h2 := h2) (gs0 := gs0) (tb0 := tb0) (tA0 := tA0) (bf0 := bf0) (hi0 := hi0) hF K hlt hRm hret (gA 5) x2 x3 h

set_option maxHeartbeats 4000000 in
set_option maxRecDepth 100000 in
theorem wX1_markTeam_w0_2 {Γ : gT} {q : Nat → Nat} {r : Nat → Nat → Nat} {F : gF} (hF : gFz (g_E Γ) F) {o0 : Nat → Int32} {A0 : Nat → Nat → Int32} {C0 : Nat → Option Nat} {h0 : Nat} {o1 : Nat → Int32} {A1 : Nat → Nat → Int32} {C1 : Nat → Option Nat} {h1 : Nat} {o2 : Nat → Int32} {A2 : Nat → Nat → Int32} {C2 : Nat → Option Nat} {h2 : Nat} {gs0 : Int32} {gA : Nat → Nat → Int32} {tb0 : Int32} {tA0 bf0 : Nat → Int32} {hi0 : Int32} (K : gOK Γ cX1_markTeam gU RX1) (hlt : ∀ i, i < 4 → i < g_n Γ) (hRm : g_R Γ = ({ frames := 7, cells := 0, slots := 0, locals := 215 } : Room)) {res : ((Nat → Int32)) × ((Nat → Int32))} (hret : ∀ (pc : Nat) (L : List (Nat × Value)) (w : va_W), decode cX1_markTeam pc = .ok (.return_, 1) → (w = cw (g_E Γ) q r (gpl F) o0 A0 C0 h0 o1 A1 C1 h1 o2 A2 C2 h2 gs0 (gu (gu gA 1 res.1) 5 res.2) tb0 tA0 bf0 hi0) → gGO Γ 0 0 pc L [] w) : ∀ (n : Nat) (ga1 : (Nat → Int32)) (ga5 : (Nat → Int32)) (x2 : Nat) (x3 : Int32), pX1_markTeam_w0_2 F (o0 0) (o0 5) (A0 8) (A0 9) (A0 10) (A0 11) h0 gs0 (gA 2) n ga1 ga5 x2 x3 = some res → gGO Γ 0 0 2 [(0, .ref (q 3)), (1, .ref (q 0)), (2, .ref x2), (3, .int x3)] [] (cw (g_E Γ) q r (gpl F) o0 A0 C0 h0 o1 A1 C1 h1 o2 A2 C2 h2 gs0 (gu (gu gA 1 ga1) 5 ga5) tb0 tA0 bf0 hi0) := by
  intro n
  induction n with
  | zero => intro _ _ _ _ h; cases h
  | succ n ih =>
    intro ga1 ga5 x2 x3 h
    simp only [pX1_markTeam_w0_2] at h
    refine g_iload_n K dX1_markTeam_2 rfl 3 rfl ?_
    refine g_aload_n K dX1_markTeam_3 rfl 0 rfl ?_
    refine g_get (v := .int gs0) (T := TX1) (ref := "ChiefGrades$Grader") K hin_X1 4 rfl rfl 4 (by decide) u_291 (Or.inl rfl) rfl dX1_markTeam_4 ?_
    obtain ⟨ht9, hf9⟩ := gi_br h; clear h
    refine g_icmp_ge (tgt := 39) K dX1_markTeam_7 (by decide) (fun qh => ?_) (fun qh => ?_)
    · have h := ht9 qh; clear ht9 hf9
      obtain rfl := Option.some.inj h
      exact hret _ _ _ dX1_markTeam_39 rfl
    · have h := hf9 qh; clear ht9 hf9
      refine g_aload_n K dX1_markTeam_10 rfl 0 rfl ?_
      refine g_get (v := .ref (r 3 1)) (T := TX1) (ref := "ChiefGrades$Grader") K hin_X1 4 rfl rfl 1 (by decide) u_288 (Or.inl rfl) rfl dX1_markTeam_11 ?_
      refine g_aload_n K dX1_markTeam_14 rfl 0 rfl ?_
      refine g_get (v := .ref (r 3 2)) (T := TX1) (ref := "ChiefGrades$Grader") K hin_X1 4 rfl rfl 2 (by decide) u_289 (Or.inl rfl) rfl dX1_markTeam_15 ?_
      refine g_iload_n K dX1_markTeam_18 rfl 3 rfl ?_
      obtain ⟨b_1, h⟩ := gi_none h
      refine g_iald (f := (gA 2)) K 38 rfl (ginb_in b_1) dX1_markTeam_19 ?_
      refine g_aload_n K dX1_markTeam_20 rfl 0 rfl ?_
      refine g_aload_n K dX1_markTeam_21 rfl 1 rfl ?_
      refine g_aload_n K dX1_markTeam_22 rfl 0 rfl ?_
      refine g_get (v := .ref (r 3 2)) (T := TX1) (ref := "ChiefGrades$Grader") K hin_X1 4 rfl rfl 2 (by decide) u_289 (Or.inl rfl) rfl dX1_markTeam_23 ?_
      refine g_iload_n K dX1_markTeam_26 rfl 3 rfl ?_
      obtain ⟨b_2, h⟩ := gi_none h
      refine g_iald (f := (gA 2)) K 38 rfl (ginb_in b_2) dX1_markTeam_27 ?_
      refine g_aload_n K dX1_markTeam_28 rfl 2 rfl ?_
      obtain ⟨z_3, hz_3, h⟩ := gi_bd h
      refine g_callVi (As := [.ref (q 0), .int ((gA 2) (Int32.toNatClampNeg x3)), .ref x2]) (bytes := cX1_markBy) (maxL := 4) (ret := (some .int)) K (ctX1_markBy_w0 hF o0 A0 C0 h0 o1 A1 C1 h1 o2 A2 C2 h2 gs0 (gu (gu gA 1 ga1) 5 ga5) tb0 tA0 bf0 hi0 ((gA 2) (Int32.toNatClampNeg x3)) x2 (res := z_3) hz_3) gc_V_RX1_122_X1_markBy rfl qv_X1_markBy 4 rfl rfl rfl hRm rfl rfl rfl (by decide) (Nat.le_of_ble_eq_true rfl) (by decide) dX1_markTeam_29 (fun v w hw => ?_)
      obtain ⟨hv9, rfl⟩ := hw; have hv9 := hv9.symm; subst hv9
      refine g_ws (ws' := cw (g_E Γ) q r (gpl F) o0 A0 C0 h0 o1 A1 C1 h1 o2 A2 C2 h2 gs0 (gu (gu gA 1 ga1) 5 z_3.2) tb0 tA0 bf0 hi0) rfl ?_
      obtain ⟨b_4, h⟩ := gi_none h
      obtain ⟨f_5, ef_5, h⟩ := gi_nm h
      refine g_iast (f := ga1) (ws' := cw (g_E Γ) q r (gpl F) o0 A0 C0 h0 o1 A1 C1 h1 o2 A2 C2 h2 gs0 (gu (gu gA 1 f_5) 5 z_3.2) tb0 tA0 bf0 hi0) K 37 rfl (ginb_in b_4) dX1_markTeam_32 (by rw [ef_5]; rfl) ?_
      refine g_iinc (v := (x3 + 1)) (L' := [(3, .int (x3 + 1)), (0, .ref (q 3)), (1, .ref (q 0)), (2, .ref x2)]) K dX1_markTeam_33 3 rfl rfl (hlt _ (by decide)) rfl ?_
      refine g_goto (tgt := 2) K dX1_markTeam_36 (by decide) ?_
      refine g_sub (L' := [(0, .ref (q 3)), (1, .ref (q 0)), (2, .ref x2), (3, .int (x3 + 1))]) [1, 2, 3, 0] rfl ?_
      exact ih f_5 z_3.2 x2 (x3 + 1) h

set_option maxHeartbeats 4000000 in
set_option maxRecDepth 100000 in
theorem wX1_markTeam_w0 {Γ : gT} {q : Nat → Nat} {r : Nat → Nat → Nat} {F : gF} (hF : gFz (g_E Γ) F) {o0 : Nat → Int32} {A0 : Nat → Nat → Int32} {C0 : Nat → Option Nat} {h0 : Nat} {o1 : Nat → Int32} {A1 : Nat → Nat → Int32} {C1 : Nat → Option Nat} {h1 : Nat} {o2 : Nat → Int32} {A2 : Nat → Nat → Int32} {C2 : Nat → Option Nat} {h2 : Nat} {gs0 : Int32} {gA : Nat → Nat → Int32} {tb0 : Int32} {tA0 bf0 : Nat → Int32} {hi0 : Int32} (K : gOK Γ cX1_markTeam gU RX1) (hlt : ∀ i, i < 4 → i < g_n Γ) (hRm : g_R Γ = ({ frames := 7, cells := 0, slots := 0, locals := 215 } : Room)) {res : ((Nat → Int32)) × ((Nat → Int32))} (hret : ∀ (pc : Nat) (L : List (Nat × Value)) (w : va_W), decode cX1_markTeam pc = .ok (.return_, 1) → (w = cw (g_E Γ) q r (gpl F) o0 A0 C0 h0 o1 A1 C1 h1 o2 A2 C2 h2 gs0 (gu (gu gA 1 res.1) 5 res.2) tb0 tA0 bf0 hi0) → gGO Γ 0 0 pc L [] w) (ga1 : (Nat → Int32)) (ga5 : (Nat → Int32)) (x2 : Nat) (h : pX1_markTeam_w0 F (o0 0) (o0 5) (A0 8) (A0 9) (A0 10) (A0 11) h0 gs0 (gA 2) ga1 ga5 x2 = some res) : gGO Γ 0 0 0 [(0, .ref (q 3)), (1, .ref (q 0)), (2, .ref x2)] [] (cw (g_E Γ) q r (gpl F) o0 A0 C0 h0 o1 A1 C1 h1 o2 A2 C2 h2 gs0 (gu (gu gA 1 ga1) 5 ga5) tb0 tA0 bf0 hi0) := by
    unfold pX1_markTeam_w0 at h
    refine g_iconst (v := 0) K dX1_markTeam_0 (by decide) ?_
    refine g_istore_n (L' := [(3, .int 0), (0, .ref (q 3)), (1, .ref (q 0)), (2, .ref x2)]) K dX1_markTeam_1 rfl (hlt _ (by decide)) rfl ?_
    refine g_sub (L' := [(0, .ref (q 3)), (1, .ref (q 0)), (2, .ref x2), (3, .int 0)]) [1, 2, 3, 0] rfl ?_
    exact wX1_markTeam_w0_2 (C0 := C0) (h0 := h0) (C1 := C1) (h1 := h1) (C2 := C2) (h2 := h2) (gs0 := gs0) (tb0 := tb0) (tA0 := tA0) (bf0 := bf0) (hi0 := hi0) hF K hlt hRm hret 1000 ga1 ga5 x2 0 h

set_option maxRecDepth 100000 in
theorem ctX1_markTeam_w0 {E : gE} {q : Nat → Nat} {r : Nat → Nat → Nat} {F : gF} (hF : gFz E F) (o0 : Nat → Int32) (A0 : Nat → Nat → Int32) (C0 : Nat → Option Nat) (h0 : Nat) (o1 : Nat → Int32) (A1 : Nat → Nat → Int32) (C1 : Nat → Option Nat) (h1 : Nat) (o2 : Nat → Int32) (A2 : Nat → Nat → Int32) (C2 : Nat → Option Nat) (h2 : Nat) (gs0 : Int32) (gA : Nat → Nat → Int32) (tb0 : Int32) (tA0 bf0 : Nat → Int32) (hi0 : Int32) (x2 : Nat) {res : ((Nat → Int32)) × ((Nat → Int32))} (h : pX1_markTeam_w0 F (o0 0) (o0 5) (A0 8) (A0 9) (A0 10) (A0 11) h0 gs0 (gA 2) (gA 1) (gA 5) x2 = some res) : gMv yX1_markTeam (.code yX1_markTeam cX1_markTeam 4 none :: gU) ({ frames := 7, cells := 0, slots := 0, locals := 215 } : Room) 0 0 E [.ref (q 3), .ref (q 0), .ref x2] (cw E q r (gpl F) o0 A0 C0 h0 o1 A1 C1 h1 o2 A2 C2 h2 gs0 gA tb0 tA0 bf0 hi0) (fun w => w = cw E q r (gpl F) o0 A0 C0 h0 o1 A1 C1 h1 o2 A2 C2 h2 gs0 (gu (gu gA 1 res.1) 5 res.2) tb0 tA0 bf0 hi0) := by
  refine g_met_v (by decide +kernel) (Nat.le_of_ble_eq_true rfl) (fun Γ K hn hE hRm _ hret => ?_)
  subst hE
  have hlt : ∀ i, i < 4 → i < g_n Γ := fun i q => by rw [hn]; exact q
  refine g_ws (ws' := cw (g_E Γ) q r (gpl F) o0 A0 C0 h0 o1 A1 C1 h1 o2 A2 C2 h2 gs0 (gu (gu gA 1 (gA 1)) 5 (gA 5)) tb0 tA0 bf0 hi0) rfl ?_
  refine g_sub (L' := [(0, .ref (q 3)), (1, .ref (q 0)), (2, .ref x2)]) [0, 1, 2] rfl ?_
  exact wX1_markTeam_w0 (C0 := C0) (h0 := h0) (C1 := C1) (h1 := h1) (C2 := C2) (h2 := h2) (gs0 := gs0) (tb0 := tb0) (tA0 := tA0) (bf0 := bf0) (hi0 := hi0) hF K hlt hRm hret (gA 1) (gA 5) x2 h

